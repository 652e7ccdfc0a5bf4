/-! ===== rows for runs that are written by hand: ints as whole numbers, cells by what stands there ===== -/
theorem am_oi {z : Int} (h1 : -2147483648 ≤ z) (h2 : z ≤ 2147483647) : (Int32.ofInt z).toInt = z := by
  rw [Int32.toInt_ofInt]
  exact ab_bm h1 h2
theorem am_oio (x : Int32) : Int32.ofInt x.toInt = x := Int32.ofInt_toInt x
theorem am_oa (a b : Int) : Int32.ofInt a + Int32.ofInt b = Int32.ofInt (a + b) := (Int32.ofInt_add a b).symm
theorem am_om (a b : Int) : Int32.ofInt a * Int32.ofInt b = Int32.ofInt (a * b) := (Int32.ofInt_mul a b).symm
theorem am_os (a b : Int) : Int32.ofInt a - Int32.ofInt b = Int32.ofInt (a - b) := (Int32.ofInt_sub a b).symm
theorem am_onat {z : Int} (h1 : 0 ≤ z) (h2 : z ≤ 2147483647) : (Int32.ofInt z).toNatClampNeg = z.toNat := by
  show (Int32.ofInt z).toInt.toNat = _
  rw [am_oi (by omega) h2]
theorem am_oin {z : Int} {n : Nat} (h1 : 0 ≤ z) (h2 : z < (n : Int)) (hn : n < 2147483648) : am_in (Int32.ofInt z) n = true := by
  have e := am_oi (z := z) (by omega) (by omega)
  exact (ab_inx (n := n) (by rw [e]; exact h1) (by rw [e]; omega)).1
def am_ci (c : Jvm.ClassFile.Cond) (a b : Int) : Prop := match c with
  | .eq => a = b
  | .ne => ¬ a = b
  | .lt => a < b
  | .ge => b ≤ a
  | .gt => b < a
  | .le => a ≤ b
theorem am_ci_ok {c : Jvm.ClassFile.Cond} {a b : Int} (ha : -2147483648 ≤ a ∧ a ≤ 2147483647) (hb : -2147483648 ≤ b ∧ b ≤ 2147483647) : am_cmp c (Int32.ofInt a) (Int32.ofInt b) = true ↔ am_ci c a b := by
  have e1 := am_oi ha.1 ha.2
  have e2 := am_oi hb.1 hb.2
  have hq : Int32.ofInt a = Int32.ofInt b ↔ a = b := ⟨fun h => by rw [← e1, ← e2, h], fun h => by rw [h]⟩
  cases c
  · simp only [am_cmp, am_ci, decide_eq_true_eq, hq]
  · simp only [am_cmp, am_ci, Bool.not_eq_true', decide_eq_false_iff_not, hq]
  · simp only [am_cmp, am_ci, decide_eq_true_eq, Int32.lt_iff_toInt_lt, e1, e2]
  · simp only [am_cmp, am_ci, decide_eq_true_eq, Int32.le_iff_toInt_le, e1, e2]
  · simp only [am_cmp, am_ci, decide_eq_true_eq, Int32.lt_iff_toInt_lt, e1, e2]
  · simp only [am_cmp, am_ci, decide_eq_true_eq, Int32.le_iff_toInt_le, e1, e2]
/-- a run from here comes to where Φ holds -/
def am_Wp (al : Bool) (d : Nat) (S : am_S) (r : am_M) (Φ : am_C → Prop) (x : am_C) : Prop := ∃ y, am_Go al d S r x y ∧ Φ y
section AMW
variable {al : Bool} {d : Nat} {S : am_S} {r : am_M} {Φ : am_C → Prop} {pc : Nat} {lv : List (Option Value)} {st : List Value} {h : am_H} {nc ns : Nat} {D : List ab_D}
theorem am_Wp.go {x y : am_C} (h1 : am_Go al d S r x y) (h2 : am_Wp al d S r Φ y) : am_Wp al d S r Φ x := by
  obtain ⟨z, g1, g2⟩ := h2
  exact ⟨z, h1.tr g1, g2⟩
theorem am_Wp.bl {x y : am_C} (n : Nat) (h1 : ∀ call : am_CALL, am_nst call (d + 1) S al r n x = some y) (h2 : am_Wp al d S r Φ y) : am_Wp al d S r Φ x := am_Wp.go (am_Go.bl n h1 am_Go.rf) h2
theorem am_Wp.en {x : am_C} (h : Φ x) : am_Wp al d S r Φ x := ⟨x, am_Go.rf, h⟩
theorem am_Wp.one {i : am_I} {x y : am_C} (hi : am_at r x.1 = some i) (hs : ∀ call : am_CALL, am_step call (d + 1) S al r i x = some y) (k : am_Wp al d S r Φ y) : am_Wp al d S r Φ x := by
  refine am_Wp.bl 1 (fun call => ?_) k
  unfold am_nst
  simp only [hi, hs call]
  rfl
/-- a reference field -/
theorem am_Wp.gr {idx c k a b : Nat} {ws : List ab_W} (hi : am_at r pc = some (.getfield idx)) (hf : am_fld (am_o r) idx = some (c, k)) (hh : ab_hok D h) (hd : D[a]? = some (.inr (c, ws))) (hw : ws[k]? = some (.inr (.inr [b]))) (ha : Nat.blt a 1000000 = true) (kk : am_Wp al d S r Φ (pc + 3, lv, .ref b :: st, h, nc, ns)) : am_Wp al d S r Φ (pc, lv, .ref a :: st, h, nc, ns) := by
  obtain ⟨fs, f1, f2, f3, f4⟩ := ab_hok_obj hh hd ha
  have hk : k < fs.length := by rw [f3]; exact (List.getElem?_eq_some_iff.mp hw).1
  have hv := List.getElem?_eq_getElem hk
  have hq := f4 k _ _ hw hv
  have hb : fs[k] = .ref b := by
    generalize fs[k] = v at hq
    cases v with
    | ref q => exact congrArg Value.ref (List.mem_singleton.mp hq)
    | _ => exact hq.elim
  refine am_Wp.one hi (fun call => ?_) kk
  have e3 : am_s3 S (am_o r) (.getfield idx) h pc (.ref a :: st) = some (pc + 3, .ref b :: st) := by
    simp only [am_s3, hf, f2, hv, hb]
  show (match am_s3 S (am_o r) (.getfield idx) h pc (.ref a :: st) with
    | some x => some (x.1, lv, x.2, h, nc, ns)
    | none => _) = _
  rw [e3]
/-- an int field -/
theorem am_Wp.gi {idx c k a : Nat} {ws : List ab_W} {x : Int32} (hi : am_at r pc = some (.getfield idx)) (hf : am_fld (am_o r) idx = some (c, k)) (hh : ab_hok D h) (hd : D[a]? = some (.inr (c, ws))) (ha : Nat.blt a 1000000 = true) (hc : ab_cell h a (k : Int) = some (.int x)) (kk : am_Wp al d S r Φ (pc + 3, lv, .int x :: st, h, nc, ns)) : am_Wp al d S r Φ (pc, lv, .ref a :: st, h, nc, ns) := by
  obtain ⟨fs, f1, f2, f3, f4⟩ := ab_hok_obj hh hd ha
  rw [ab_cell_obj f1] at hc
  refine am_Wp.one hi (fun call => ?_) kk
  have e3 : am_s3 S (am_o r) (.getfield idx) h pc (.ref a :: st) = some (pc + 3, .int x :: st) := by
    simp only [am_s3, hf, f2, hc]
  show (match am_s3 S (am_o r) (.getfield idx) h pc (.ref a :: st) with
    | some x => some (x.1, lv, x.2, h, nc, ns)
    | none => _) = _
  rw [e3]
theorem am_ari_of {a t n : Nat} {f : Nat → Int32} (ha : h[a]? = some (.inl (t, n, .inl f))) (hb : Nat.blt a 1000000 = true) : am_ari h a t = some (n, f) := by
  unfold am_ari
  rw [hb, ha]
  simp only [cond_true, Nat.beq_refl]
theorem am_ari_no {a t t2 n : Nat} {f : Nat → Int32} (ha : h[a]? = some (.inl (t, n, .inl f))) (hb : Nat.blt a 1000000 = true) (ht : Nat.beq t t2 = false) : am_ari h a t2 = none := by
  unfold am_ari
  rw [hb, ha]
  simp only [cond_true, ht, cond_false]
/-- an int array's element -/
theorem am_Wp.ia {a n : Nat} {f : Nat → Int32} {z w : Int} (ha : h[a]? = some (.inl (1, n, .inl f))) (h0 : 0 ≤ z) (h1 : z < (n : Int)) (hv : f z.toNat = Int32.ofInt w) (hi : am_at r pc = some .iaload) (hb : Nat.blt a 1000000 = true) (hn : n < 2147483648) (kk : am_Wp al d S r Φ (pc + 1, lv, .int (Int32.ofInt w) :: st, h, nc, ns)) : am_Wp al d S r Φ (pc, lv, .int (Int32.ofInt z) :: .ref a :: st, h, nc, ns) := by
  refine am_Wp.one hi (fun call => ?_) kk
  have e3 : am_s3 S (am_o r) .iaload h pc (.int (Int32.ofInt z) :: .ref a :: st) = some (pc + 1, .int (Int32.ofInt w) :: st) := by
    have e2 : am_ald h pc (.int (Int32.ofInt z) :: .ref a :: st) 1 = some (pc + 1, .int (Int32.ofInt w) :: st) := by
      unfold am_ald
      simp only [am_ari_of ha hb, am_oin h0 h1 hn, cond_true, am_onat h0 (show z ≤ 2147483647 by omega), hv]
    show am_or (am_ald h pc (.int (Int32.ofInt z) :: .ref a :: st) 1) _ = _
    rw [e2]
    rfl
  show (match am_s3 S (am_o r) .iaload h pc (.int (Int32.ofInt z) :: .ref a :: st) with
    | some x => some (x.1, lv, x.2, h, nc, ns)
    | none => _) = _
  rw [e3]
/-- a boolean array's element -/
theorem am_Wp.ba {a n : Nat} {f : Nat → Int32} {z w : Int} (ha : h[a]? = some (.inl (4, n, .inl f))) (h0 : 0 ≤ z) (h1 : z < (n : Int)) (hv : f z.toNat = Int32.ofInt w) (hi : am_at r pc = some .baload) (hb : Nat.blt a 1000000 = true) (hn : n < 2147483648) (kk : am_Wp al d S r Φ (pc + 1, lv, .int (Int32.ofInt w) :: st, h, nc, ns)) : am_Wp al d S r Φ (pc, lv, .int (Int32.ofInt z) :: .ref a :: st, h, nc, ns) := by
  refine am_Wp.one hi (fun call => ?_) kk
  have e3 : am_s3 S (am_o r) .baload h pc (.int (Int32.ofInt z) :: .ref a :: st) = some (pc + 1, .int (Int32.ofInt w) :: st) := by
    have e1 : am_ald h pc (.int (Int32.ofInt z) :: .ref a :: st) 0 = none := by
      unfold am_ald
      simp only [am_ari_no (t2 := 0) ha hb rfl]
    have e2 : am_ald h pc (.int (Int32.ofInt z) :: .ref a :: st) 4 = some (pc + 1, .int (Int32.ofInt w) :: st) := by
      unfold am_ald
      simp only [am_ari_of ha hb, am_oin h0 h1 hn, cond_true, am_onat h0 (show z ≤ 2147483647 by omega), hv]
    show am_or (am_ald h pc (.int (Int32.ofInt z) :: .ref a :: st) 0) (am_ald h pc (.int (Int32.ofInt z) :: .ref a :: st) 4) = _
    rw [e1, e2]
    rfl
  show (match am_s3 S (am_o r) .baload h pc (.int (Int32.ofInt z) :: .ref a :: st) with
    | some x => some (x.1, lv, x.2, h, nc, ns)
    | none => _) = _
  rw [e3]
/-- an int array's element is set -/
theorem am_Wp.is {a n : Nat} {f : Nat → Int32} {z : Int} {w : Int32} (ha : h[a]? = some (.inl (1, n, .inl f))) (h0 : 0 ≤ z) (h1 : z < (n : Int)) (hi : am_at r pc = some .iastore) (hb : Nat.blt a 1000000 = true) (hn : n < 2147483648) (kk : am_Wp al d S r Φ (pc + 1, lv, st, h.set a (.inl (1, n, .inl (upd f z.toNat w))), nc, ns)) : am_Wp al d S r Φ (pc, lv, .int w :: .int (Int32.ofInt z) :: .ref a :: st, h, nc, ns) := by
  refine am_Wp.one hi (fun call => ?_) kk
  have e4 : am_s4 (am_o r) (am_i r) .iastore h pc (.int w :: .int (Int32.ofInt z) :: .ref a :: st) = some (pc + 1, st, h.set a (.inl (1, n, .inl (upd f z.toNat w)))) := by
    show am_ast h pc (.int w :: .int (Int32.ofInt z) :: .ref a :: st) 1 (fun v => v) = _
    unfold am_ast
    simp only [am_ari_of ha hb, am_oin h0 h1 hn, cond_true, am_onat h0 (show z ≤ 2147483647 by omega)]
  show (match am_s4 (am_o r) (am_i r) .iastore h pc (.int w :: .int (Int32.ofInt z) :: .ref a :: st) with
    | some x => some (x.1, lv, x.2.1, x.2.2, nc, ns)
    | none => _) = _
  rw [e4]
/-- a boolean array's element is set -/
theorem am_Wp.bs {a n : Nat} {f : Nat → Int32} {z : Int} {w : Int32} (ha : h[a]? = some (.inl (4, n, .inl f))) (h0 : 0 ≤ z) (h1 : z < (n : Int)) (hw : 0 ≤ w.toInt ∧ w.toInt ≤ 1) (hi : am_at r pc = some .bastore) (hb : Nat.blt a 1000000 = true) (hn : n < 2147483648) (kk : am_Wp al d S r Φ (pc + 1, lv, st, h.set a (.inl (4, n, .inl (upd f z.toNat w))), nc, ns)) : am_Wp al d S r Φ (pc, lv, .int w :: .int (Int32.ofInt z) :: .ref a :: st, h, nc, ns) := by
  refine am_Wp.one hi (fun call => ?_) kk
  have e4 : am_s4 (am_o r) (am_i r) .bastore h pc (.int w :: .int (Int32.ofInt z) :: .ref a :: st) = some (pc + 1, st, h.set a (.inl (4, n, .inl (upd f z.toNat w)))) := by
    have e1 : am_ast h pc (.int w :: .int (Int32.ofInt z) :: .ref a :: st) 0 (vp_nar .byte) = none := by
      unfold am_ast
      simp only [am_ari_no (t2 := 0) ha hb rfl]
    have e2 : am_ast h pc (.int w :: .int (Int32.ofInt z) :: .ref a :: st) 4 (vp_nar .boolean) = some (pc + 1, st, h.set a (.inl (4, n, .inl (upd f z.toNat w)))) := by
      unfold am_ast
      simp only [am_ari_of ha hb, am_oin h0 h1 hn, cond_true, am_onat h0 (show z ≤ 2147483647 by omega), ab_nbo hw.1 hw.2]
    show am_or (am_ast h pc (.int w :: .int (Int32.ofInt z) :: .ref a :: st) 0 (vp_nar .byte)) (am_ast h pc (.int w :: .int (Int32.ofInt z) :: .ref a :: st) 4 (vp_nar .boolean)) = _
    rw [e1, e2]
    rfl
  show (match am_s4 (am_o r) (am_i r) .bastore h pc (.int w :: .int (Int32.ofInt z) :: .ref a :: st) with
    | some x => some (x.1, lv, x.2.1, x.2.2, nc, ns)
    | none => _) = _
  rw [e4]
theorem am_Wp.ic {c : Jvm.ClassFile.Cond} {off : Int} {t : Nat} {a b : Int} (ha : -2147483648 ≤ a ∧ a ≤ 2147483647) (hb : -2147483648 ≤ b ∧ b ≤ 2147483647) (hi : am_at r pc = some (.if_icmp c off)) (ht : am_tg pc off = some t) (hT : am_ci c a b → am_Wp al d S r Φ (t, lv, st, h, nc, ns)) (hF : ¬ am_ci c a b → am_Wp al d S r Φ (pc + 3, lv, st, h, nc, ns)) : am_Wp al d S r Φ (pc, lv, .int (Int32.ofInt b) :: .int (Int32.ofInt a) :: st, h, nc, ns) := by
  have e2 : am_s2 (.if_icmp c off) pc (.int (Int32.ofInt b) :: .int (Int32.ofInt a) :: st) = some (bif am_cmp c (Int32.ofInt a) (Int32.ofInt b) then t else pc + 3, st) := by
    simp only [am_s2, ht]
    rfl
  have hst : ∀ call : am_CALL, am_step call (d + 1) S al r (.if_icmp c off) (pc, lv, .int (Int32.ofInt b) :: .int (Int32.ofInt a) :: st, h, nc, ns) = some (bif am_cmp c (Int32.ofInt a) (Int32.ofInt b) then t else pc + 3, lv, st, h, nc, ns) := fun call => by
    show (match am_s2 (.if_icmp c off) pc (.int (Int32.ofInt b) :: .int (Int32.ofInt a) :: st) with
      | some x => some (x.1, lv, x.2, h, nc, ns)
      | none => _) = _
    rw [e2]
  refine am_Wp.one hi hst ?_
  cases hc : am_cmp c (Int32.ofInt a) (Int32.ofInt b) with
  | true => exact hT ((am_ci_ok ha hb).mp hc)
  | false => exact hF (fun q => by rw [(am_ci_ok ha hb).mpr q] at hc; cases hc)
theorem am_Wp.i0 {c : Jvm.ClassFile.Cond} {off : Int} {t : Nat} {a : Int} (ha : -2147483648 ≤ a ∧ a ≤ 2147483647) (hi : am_at r pc = some (.ifCond c off)) (ht : am_tg pc off = some t) (hT : am_ci c a 0 → am_Wp al d S r Φ (t, lv, st, h, nc, ns)) (hF : ¬ am_ci c a 0 → am_Wp al d S r Φ (pc + 3, lv, st, h, nc, ns)) : am_Wp al d S r Φ (pc, lv, .int (Int32.ofInt a) :: st, h, nc, ns) := by
  have e2 : am_s2 (.ifCond c off) pc (.int (Int32.ofInt a) :: st) = some (bif am_cmp c (Int32.ofInt a) (Int32.ofInt 0) then t else pc + 3, st) := by
    simp only [am_s2, ht]
    rfl
  have hst : ∀ call : am_CALL, am_step call (d + 1) S al r (.ifCond c off) (pc, lv, .int (Int32.ofInt a) :: st, h, nc, ns) = some (bif am_cmp c (Int32.ofInt a) (Int32.ofInt 0) then t else pc + 3, lv, st, h, nc, ns) := fun call => by
    show (match am_s2 (.ifCond c off) pc (.int (Int32.ofInt a) :: st) with
      | some x => some (x.1, lv, x.2, h, nc, ns)
      | none => _) = _
    rw [e2]
  refine am_Wp.one hi hst ?_
  cases hc : am_cmp c (Int32.ofInt a) (Int32.ofInt 0) with
  | true => exact hT ((am_ci_ok ha ⟨by decide, by decide⟩).mp hc)
  | false => exact hF (fun q => by rw [(am_ci_ok ha ⟨by decide, by decide⟩).mpr q] at hc; cases hc)
/-- an int field is set -/
theorem am_Wp.pi {idx c k a : Nat} {ws : List ab_W} {lo hi0 : Int} {x : Int32} (hi : am_at r pc = some (.putfield idx)) (hf : am_fld (am_o r) idx = some (c, k)) (hh : ab_hok D h) (hd : D[a]? = some (.inr (c, ws))) (hw : ws[k]? = some (.inl (lo, hi0))) (ha : Nat.blt a 1000000 = true) (hx : lo ≤ x.toInt ∧ x.toInt ≤ hi0) (hok : (Nat.blt k (am_NN c) && !(am_TT c k).2.2.2) = true) (hty : am_ty c k = .int ∨ (am_ty c k = .boolean ∧ 0 ≤ lo ∧ hi0 ≤ 1)) (kk : ∀ h2, ab_hok D h2 → ab_fr [(a, k + 1)] h h2 → ab_cell h2 a (k : Int) = some (.int x) → (∀ b, b ≠ a → h2[b]? = h[b]?) → am_Wp al d S r Φ (pc + 3, lv, st, h2, nc, ns)) : am_Wp al d S r Φ (pc, lv, .int x :: .ref a :: st, h, nc, ns) := by
  obtain ⟨fs, f1, f2, f3, f4⟩ := ab_hok_obj hh hd ha
  have hk : k < fs.length := by rw [f3]; exact (List.getElem?_eq_some_iff.mp hw).1
  have hla : a < h.length := (List.getElem?_eq_some_iff.mp f1).1
  rw [Bool.and_eq_true] at hok
  have hfit : am_fit (am_ty c k) (.int x) = true := by
    rcases hty with q | ⟨q, q1, q2⟩
    · rw [q]; rfl
    · rw [q]
      rcases ab_bool (x := x) (by omega) (by omega) with rfl | rfl
      · decide
      · decide
  have e4 : am_s4 (am_o r) (am_i r) (.putfield idx) h pc (.int x :: .ref a :: st) = some (pc + 3, st, h.set a (.inr (c, fs.set k (.int x)))) := by
    have hbl : Nat.blt k fs.length = true := by simpa [Nat.blt_eq] using hk
    have hnf : (!(am_TT c k).2.2.2) = true := hok.2
    simp only [am_s4, hf, f2, hbl, hok.1, hfit, hnf, Bool.true_or, Bool.and_self, cond_true]
  refine am_Wp.one hi (fun call => ?_) (kk (h.set a (.inr (c, fs.set k (.int x)))) ?_ ?_ ?_ ?_)
  · show (match am_s4 (am_o r) (am_i r) (.putfield idx) h pc (.int x :: .ref a :: st) with
      | some x => some (x.1, lv, x.2.1, x.2.2, nc, ns)
      | none => _) = _
    rw [e4]
  · refine ab_hok_set hh hd ⟨fs.set k (.int x), rfl, by simp [f3], fun j w v hj hv => ?_⟩
    by_cases hjk : k = j
    · subst hjk
      rw [hw] at hj
      cases hj
      rw [List.getElem?_set_self hk] at hv
      cases hv
      exact hx
    · rw [List.getElem?_set_ne hjk] at hv
      exact f4 j w v hj hv
  · exact ab_fr_obj (by simp [ab_md, Nat.beq_refl]) f1
  · rw [ab_cell_obj (c := c) (fs := fs.set k (.int x)) (List.getElem?_set_self hla), List.getElem?_set_self hk]
  · intro b hb
    exact List.getElem?_set_ne (fun e => hb e.symm)
end AMW
