/-! ===== what holds where a run of at most n instructions comes to a return, if it does ===== -/
def am_Pn (call : am_CALL) (d : Nat) (S : am_S) (al : Bool) (r : am_M) (Φ : am_C → Prop) (n : Nat) (x : am_C) : Prop := ∀ (f : Nat) (y : am_C), f ≤ n → am_go call d S al r f x = some y → Φ y
section PN
variable {call : am_CALL} {d : Nat} {S : am_S} {al : Bool} {r : am_M} {Φ : am_C → Prop} {pc : Nat} {lv : List (Option Value)} {st : List Value} {s : sg_S} {nc ns n : Nat}
theorem am_Pn.mono {m : Nat} {x : am_C} (h : am_Pn call d S al r Φ n x) (hm : m ≤ n) : am_Pn call d S al r Φ m x := fun f y hf hy => h f y (Nat.le_trans hf hm) hy
/-- one instruction -/
theorem am_Pn.dec {i : am_I} {x : am_C} (hi : am_at r x.1 = some i) (hr : am_isr i = false) (k : ∀ y, am_step call d S al r i x = some y → am_Pn call d S al r Φ n y) : am_Pn call d S al r Φ (n + 1) x := by
  intro f y hf h
  cases f with
  | zero => cases h
  | succ f =>
    unfold am_go at h
    simp only [hi, hr, cond_false] at h
    split at h
    · rename_i z hz
      exact k z hz f y (by omega) h
    · cases h
theorem am_Pn.one {i : am_I} {x : am_C} (hi : am_at r x.1 = some i) (hr : am_isr i = false) (k : ∀ y, am_step call d S al r i x = some y → am_Pn call d S al r Φ n y) : am_Pn call d S al r Φ n x := (am_Pn.dec hi hr k).mono (Nat.le_succ n)
theorem am_Pn.bl {x y : am_C} : ∀ (m : Nat), am_nst call d S al r m x = some y → am_Pn call d S al r Φ n y → am_Pn call d S al r Φ n x := by
  intro m
  induction m generalizing x with
  | zero => intro h k; cases h; exact k
  | succ m ih =>
    intro h k
    unfold am_nst at h
    split at h
    · cases h
    · rename_i i hi
      split at h
      · rename_i z hz
        have hr : am_isr i = false := by
          cases hq : am_isr i with
          | false => rfl
          | true => rw [am_isr_step hq] at hz; cases hz
        refine am_Pn.one hi hr (fun w hw => ?_)
        rw [hz] at hw
        cases hw
        exact ih h k
      · cases h
/-- some instructions, at least one: a loop may go on with less -/
theorem am_Pn.bl1 {x y : am_C} (m : Nat) (h : am_nst call d S al r (m + 1) x = some y) (k : am_Pn call d S al r Φ n y) : am_Pn call d S al r Φ (n + 1) x := by
  unfold am_nst at h
  split at h
  · cases h
  · rename_i i hi
    split at h
    · rename_i z hz
      have hr : am_isr i = false := by
        cases hq : am_isr i with
        | false => rfl
        | true => rw [am_isr_step hq] at hz; cases hz
      refine am_Pn.dec hi hr (fun w hw => ?_)
      rw [hz] at hw
      cases hw
      exact am_Pn.bl m h k
    · cases h
theorem am_Pn.en {i : am_I} {x : am_C} (h : Φ x) (hi : am_at r x.1 = some i) (hr : am_isr i = true) : am_Pn call d S al r Φ n x := by
  intro f y hf hy
  cases f with
  | zero => cases hy
  | succ f =>
    unfold am_go at hy
    simp only [hi, hr, cond_true] at hy
    cases hy
    exact h
theorem am_Pn.st1 {i : am_I} {x y : am_C} (hi : am_at r x.1 = some i) (he : am_step call d S al r i x = some y) (k : am_Pn call d S al r Φ n y) : am_Pn call d S al r Φ n x := by
  refine am_Pn.bl 1 ?_ k
  unfold am_nst
  simp only [hi, he]
  rfl
/-- a field is read -/
theorem am_Pn.gv {idx c k a : Nat} {ws : List ab_W} {w : ab_W} (hi : am_at r pc = some (.getfield idx)) (hf : am_fld (am_o r) idx = some (c, k)) (hd : ab_D0[a]? = some (.inr (c, ws))) (hw : ws[k]? = some w) (ha : Nat.blt a 1000000 = true) (kk : am_Pn call d S al r Φ n (pc + 3, lv, sg_w s a k w :: st, sg_h s, nc, ns)) : am_Pn call d S al r Φ n (pc, lv, .ref a :: st, sg_h s, nc, ns) := by
  have e3 : am_s3 S (am_o r) (.getfield idx) (sg_h s) pc (.ref a :: st) = some (pc + 3, sg_w s a k w :: st) := by
    have hg : (sg_ws s a 0 ws)[k]? = some (sg_w s a k w) := by rw [sg_ws_get, hw, Nat.zero_add]; rfl
    simp only [am_s3, hf, sg_obj hd ha, hg]
  refine am_Pn.st1 hi ?_ kk
  show (match am_s3 S (am_o r) (.getfield idx) (sg_h s) pc (.ref a :: st) with
    | some x => some (x.1, lv, x.2, sg_h s, nc, ns)
    | none => _) = _
  rw [e3]
theorem am_Pn.gi {idx c k a : Nat} {ws : List ab_W} {e : Int × Int} (hi : am_at r pc = some (.getfield idx)) (hf : am_fld (am_o r) idx = some (c, k)) (hd : ab_D0[a]? = some (.inr (c, ws))) (hw : ws[k]? = some (.inl e)) (ha : Nat.blt a 1000000 = true) (kk : am_Pn call d S al r Φ n (pc + 3, lv, .int (s.1 a k) :: st, sg_h s, nc, ns)) : am_Pn call d S al r Φ n (pc, lv, .ref a :: st, sg_h s, nc, ns) := am_Pn.gv hi hf hd hw ha kk
theorem am_Pn.gl {idx c k a : Nat} {ws : List ab_W} {e : Unit} (hi : am_at r pc = some (.getfield idx)) (hf : am_fld (am_o r) idx = some (c, k)) (hd : ab_D0[a]? = some (.inr (c, ws))) (hw : ws[k]? = some (.inr (.inl e))) (ha : Nat.blt a 1000000 = true) (kk : am_Pn call d S al r Φ n (pc + 3, lv, .long (s.2.1 a k) :: st, sg_h s, nc, ns)) : am_Pn call d S al r Φ n (pc, lv, .ref a :: st, sg_h s, nc, ns) := am_Pn.gv hi hf hd hw ha kk
theorem am_Pn.gr {idx c k a b : Nat} {ws : List ab_W} (hi : am_at r pc = some (.getfield idx)) (hf : am_fld (am_o r) idx = some (c, k)) (hd : ab_D0[a]? = some (.inr (c, ws))) (hw : ws[k]? = some (.inr (.inr [b]))) (ha : Nat.blt a 1000000 = true) (kk : am_Pn call d S al r Φ n (pc + 3, lv, .ref b :: st, sg_h s, nc, ns)) : am_Pn call d S al r Φ n (pc, lv, .ref a :: st, sg_h s, nc, ns) := am_Pn.gv hi hf hd hw ha kk
/-- an int field is set -/
theorem am_Pn.pi {idx c k a : Nat} {ws : List ab_W} {e : Int × Int} {v : Int32} (hi : am_at r pc = some (.putfield idx)) (hf : am_fld (am_o r) idx = some (c, k)) (hd : ab_D0[a]? = some (.inr (c, ws))) (hw : ws[k]? = some (.inl e)) (ha : Nat.blt a 1000000 = true) (kk : am_Pn call d S al r Φ n (pc + 3, lv, st, sg_h (sg_uI s a k v), nc, ns)) : am_Pn call d S al r Φ n (pc, lv, .int v :: .ref a :: st, sg_h s, nc, ns) := by
  refine am_Pn.one hi rfl (fun y hy => ?_)
  have hset : (sg_h s).set a (.inr (c, (sg_ws s a 0 ws).set k (.int v))) = sg_h (sg_uI s a k v) := by
    refine sg_set hd ?_ (fun b d hb _ => sg_c_ne (s := s) (s2 := sg_uI s a k v) (b := b) (fun j => ⟨if_neg (fun (q : b = a ∧ j = k) => hb q.1), rfl, rfl, rfl, rfl⟩) d)
    show Sum.inr (c, sg_ws (sg_uI s a k v) a 0 ws) = _
    have := sg_ws_set (s := s) (s2 := sg_uI s a k v) (a := a) ws 0 k (.int v) (fun j w hj hne => by
      rw [Nat.zero_add] at hne ⊢
      unfold sg_w
      split
      · show Value.int (if a = a ∧ j = k then v else s.1 a j) = _
        rw [if_neg (fun q => hne q.2)]
      · rfl
      · rfl
      · rfl) (fun w _ hw2 => by
      rw [Nat.sub_zero, hw] at hw2
      cases hw2
      show Value.int (if a = a ∧ k = k then v else s.1 a k) = _
      rw [if_pos ⟨rfl, rfl⟩]) (Nat.zero_le _)
    rw [Nat.sub_zero] at this
    rw [this]
  have e4 : ∀ x, am_s4 (am_o r) (am_i r) (.putfield idx) (sg_h s) pc (.int v :: .ref a :: st) = some x → x = (pc + 3, st, sg_h (sg_uI s a k v)) := by
    intro x hx
    simp only [am_s4, hf, sg_obj hd ha] at hx
    obtain ⟨-, q⟩ := am_cond_inv hx
    rw [← q, hset]
  have hy2 : (match am_s4 (am_o r) (am_i r) (.putfield idx) (sg_h s) pc (.int v :: .ref a :: st) with
    | some x => some (x.1, lv, x.2.1, x.2.2, nc, ns)
    | none => match am_s5 al (am_k r) (am_o r) (.putfield idx) pc (.int v :: .ref a :: st) (sg_h s) nc ns with
      | some x => some (x.1, lv, x.2)
      | none => am_s6 call d (am_k r) (am_o r) (.putfield idx) pc lv (.int v :: .ref a :: st) (sg_h s) nc ns) = some y := hy
  cases hq : am_s4 (am_o r) (am_i r) (.putfield idx) (sg_h s) pc (.int v :: .ref a :: st) with
  | none => rw [hq] at hy2; cases hy2
  | some x =>
    rw [hq] at hy2
    cases hy2
    have := e4 x hq
    subst this
    exact kk
/-- a long field is set -/
theorem am_Pn.pl {idx c k a : Nat} {ws : List ab_W} {e : Unit} {v : Int64} (hi : am_at r pc = some (.putfield idx)) (hf : am_fld (am_o r) idx = some (c, k)) (hd : ab_D0[a]? = some (.inr (c, ws))) (hw : ws[k]? = some (.inr (.inl e))) (ha : Nat.blt a 1000000 = true) (kk : am_Pn call d S al r Φ n (pc + 3, lv, st, sg_h (sg_uL s a k v), nc, ns)) : am_Pn call d S al r Φ n (pc, lv, .long v :: .ref a :: st, sg_h s, nc, ns) := by
  refine am_Pn.one hi rfl (fun y hy => ?_)
  have hset : (sg_h s).set a (.inr (c, (sg_ws s a 0 ws).set k (.long v))) = sg_h (sg_uL s a k v) := by
    refine sg_set hd ?_ (fun b d hb _ => sg_c_ne (s := s) (s2 := sg_uL s a k v) (b := b) (fun j => ⟨rfl, if_neg (fun (q : b = a ∧ j = k) => hb q.1), rfl, rfl, rfl⟩) d)
    show Sum.inr (c, sg_ws (sg_uL s a k v) a 0 ws) = _
    have := sg_ws_set (s := s) (s2 := sg_uL s a k v) (a := a) ws 0 k (.long v) (fun j w hj hne => by
      rw [Nat.zero_add] at hne ⊢
      unfold sg_w
      split
      · rfl
      · show Value.long (if a = a ∧ j = k then v else s.2.1 a j) = _
        rw [if_neg (fun q => hne q.2)]
      · rfl
      · rfl) (fun w _ hw2 => by
      rw [Nat.sub_zero, hw] at hw2
      cases hw2
      show Value.long (if a = a ∧ k = k then v else s.2.1 a k) = _
      rw [if_pos ⟨rfl, rfl⟩]) (Nat.zero_le _)
    rw [Nat.sub_zero] at this
    rw [this]
  have e4 : ∀ x, am_s4 (am_o r) (am_i r) (.putfield idx) (sg_h s) pc (.long v :: .ref a :: st) = some x → x = (pc + 3, st, sg_h (sg_uL s a k v)) := by
    intro x hx
    simp only [am_s4, hf, sg_obj hd ha] at hx
    obtain ⟨-, q⟩ := am_cond_inv hx
    rw [← q, hset]
  have hy2 : (match am_s4 (am_o r) (am_i r) (.putfield idx) (sg_h s) pc (.long v :: .ref a :: st) with
    | some x => some (x.1, lv, x.2.1, x.2.2, nc, ns)
    | none => match am_s5 al (am_k r) (am_o r) (.putfield idx) pc (.long v :: .ref a :: st) (sg_h s) nc ns with
      | some x => some (x.1, lv, x.2)
      | none => am_s6 call d (am_k r) (am_o r) (.putfield idx) pc lv (.long v :: .ref a :: st) (sg_h s) nc ns) = some y := hy
  cases hq : am_s4 (am_o r) (am_i r) (.putfield idx) (sg_h s) pc (.long v :: .ref a :: st) with
  | none => rw [hq] at hy2; cases hy2
  | some x =>
    rw [hq] at hy2
    cases hy2
    have := e4 x hq
    subst this
    exact kk
theorem sg_uA_arr (s : sg_S) (a k : Nat) (v : Int32) : (sg_uA s a k v).2.2.1 a = upd (s.2.2.1 a) k v := by
  funext j
  show (if a = a ∧ j = k then v else s.2.2.1 a j) = (if j = k then v else s.2.2.1 a j)
  by_cases h : j = k
  · rw [if_pos ⟨rfl, h⟩, if_pos h]
  · rw [if_neg (fun q => h q.2), if_neg h]
theorem sg_setA {s : sg_S} {a k t n0 : Nat} {lo hi m : Int} {v : Int32} (hd : ab_D0[a]? = some (.inl (t, n0, lo, hi, m))) (ht : Nat.beq t 2 = false) : (sg_h s).set a (.inl (t, n0, .inl (upd (s.2.2.1 a) k v))) = sg_h (sg_uA s a k v) := by
  refine sg_set hd ?_ (fun b d hb _ => sg_c_ne (s := s) (s2 := sg_uA s a k v) (b := b) (fun j => ⟨rfl, rfl, if_neg (fun (q : b = a ∧ j = k) => hb q.1), rfl, rfl⟩) d)
  simp only [sg_c, ht, cond_false, sg_uA_arr]
theorem sg_uM_arr (s : sg_S) (a k : Nat) (v : Int64) : (sg_uM s a k v).2.2.2.1 a = vp_updL (s.2.2.2.1 a) k v := by
  funext j
  show (if a = a ∧ j = k then v else s.2.2.2.1 a j) = (if j = k then v else s.2.2.2.1 a j)
  by_cases h : j = k
  · rw [if_pos ⟨rfl, h⟩, if_pos h]
  · rw [if_neg (fun q => h q.2), if_neg h]
theorem sg_setM {s : sg_S} {a k n0 : Nat} {lo hi m : Int} {v : Int64} (hd : ab_D0[a]? = some (.inl (2, n0, lo, hi, m))) : (sg_h s).set a (.inl (2, n0, .inr (.inl (vp_updL (s.2.2.2.1 a) k v)))) = sg_h (sg_uM s a k v) := by
  refine sg_set hd ?_ (fun b d hb _ => sg_c_ne (s := s) (s2 := sg_uM s a k v) (b := b) (fun j => ⟨rfl, rfl, rfl, if_neg (fun (q : b = a ∧ j = k) => hb q.1), rfl⟩) d)
  show Sum.inl (2, n0, Sum.inr (Sum.inl ((sg_uM s a k v).2.2.2.1 a))) = _
  rw [sg_uM_arr]
/-- an int array's element is read -/
theorem am_Pn.ia {a n0 : Nat} {lo hi m : Int} {i : Int32} (hi0 : am_at r pc = some .iaload) (hd : ab_D0[a]? = some (.inl (1, n0, lo, hi, m))) (ha : Nat.blt a 1000000 = true) (ho : Nat.beq (am_o r) 13 = false) (kk : am_in i n0 = true → am_Pn call d S al r Φ n (pc + 1, lv, .int (s.2.2.1 a i.toNatClampNeg) :: st, sg_h s, nc, ns)) : am_Pn call d S al r Φ n (pc, lv, .int i :: .ref a :: st, sg_h s, nc, ns) := by
  refine am_Pn.one hi0 rfl (fun y hy => ?_)
  have hy2 : (match am_or (am_ald (sg_h s) pc (.int i :: .ref a :: st) 1) (bif Nat.beq (am_o r) 13 then am_scl S pc (.int i :: .ref a :: st) else none) with
    | some x => some (x.1, lv, x.2, sg_h s, nc, ns)
    | none => none) = some y := hy
  have e1 : am_ald (sg_h s) pc (.int i :: .ref a :: st) 1 = bif am_in i n0 then some (pc + 1, .int (s.2.2.1 a i.toNatClampNeg) :: st) else none := by
    unfold am_ald
    simp only [am_ari_of (sg_arr hd rfl) ha]
  rw [e1, ho] at hy2
  cases hb : am_in i n0 with
  | false => rw [hb] at hy2; cases hy2
  | true =>
    rw [hb] at hy2
    cases hy2
    exact kk hb
/-- a byte or boolean array's element is read -/
theorem am_Pn.ba {a t n0 : Nat} {lo hi m : Int} {i : Int32} (hi0 : am_at r pc = some .baload) (hd : ab_D0[a]? = some (.inl (t, n0, lo, hi, m))) (ht : (Nat.beq t 0 || Nat.beq t 4) = true) (ha : Nat.blt a 1000000 = true) (kk : am_in i n0 = true → am_Pn call d S al r Φ n (pc + 1, lv, .int (s.2.2.1 a i.toNatClampNeg) :: st, sg_h s, nc, ns)) : am_Pn call d S al r Φ n (pc, lv, .int i :: .ref a :: st, sg_h s, nc, ns) := by
  refine am_Pn.one hi0 rfl (fun y hy => ?_)
  have hy2 : (match am_or (am_ald (sg_h s) pc (.int i :: .ref a :: st) 0) (am_ald (sg_h s) pc (.int i :: .ref a :: st) 4) with
    | some x => some (x.1, lv, x.2, sg_h s, nc, ns)
    | none => none) = some y := hy
  have ht2 : t = 0 ∨ t = 4 := by
    rcases Bool.or_eq_true_iff.mp ht with q | q
    · exact Or.inl (Nat.eq_of_beq_eq_true q)
    · exact Or.inr (Nat.eq_of_beq_eq_true q)
  have e2 : ∀ u : Nat, am_ald (sg_h s) pc (.int i :: .ref a :: st) u = bif Nat.beq t u then (bif am_in i n0 then some (pc + 1, .int (s.2.2.1 a i.toNatClampNeg) :: st) else none) else none := by
    intro u
    have hn2 : Nat.beq t 2 = false := by rcases ht2 with rfl | rfl <;> rfl
    cases hu : Nat.beq t u with
    | true =>
      have := Nat.eq_of_beq_eq_true hu
      subst this
      unfold am_ald
      simp only [am_ari_of (sg_arr hd hn2) ha, cond_true]
    | false =>
      unfold am_ald
      simp only [am_ari_no (sg_arr hd hn2) ha hu, cond_false]
  rw [e2, e2] at hy2
  rcases ht2 with rfl | rfl
  · cases hb : am_in i n0 with
    | false => rw [hb] at hy2; cases hy2
    | true =>
      rw [hb] at hy2
      cases hy2
      exact kk hb
  · cases hb : am_in i n0 with
    | false => rw [hb] at hy2; cases hy2
    | true =>
      rw [hb] at hy2
      cases hy2
      exact kk hb
/-- a long array's element is read -/
theorem am_Pn.la {a n0 : Nat} {lo hi m : Int} {i : Int32} (hi0 : am_at r pc = some .laload) (hd : ab_D0[a]? = some (.inl (2, n0, lo, hi, m))) (ha : Nat.blt a 1000000 = true) (kk : am_in i n0 = true → am_Pn call d S al r Φ n (pc + 1, lv, .long (s.2.2.2.1 a i.toNatClampNeg) :: st, sg_h s, nc, ns)) : am_Pn call d S al r Φ n (pc, lv, .int i :: .ref a :: st, sg_h s, nc, ns) := by
  refine am_Pn.one hi0 rfl (fun y hy => ?_)
  have hy2 : (match am_lld (sg_h s) pc (.int i :: .ref a :: st) 2 with
    | some x => some (x.1, lv, x.2, sg_h s, nc, ns)
    | none => none) = some y := hy
  have e1 : am_lld (sg_h s) pc (.int i :: .ref a :: st) 2 = bif am_in i n0 then some (pc + 1, .long (s.2.2.2.1 a i.toNatClampNeg) :: st) else none := by
    have h2 : am_arl (sg_h s) a 2 = some (n0, s.2.2.2.1 a) := by
      unfold am_arl
      rw [ha, sg_arl hd]
      rfl
    unfold am_lld
    simp only [h2]
  rw [e1] at hy2
  cases hb : am_in i n0 with
  | false => rw [hb] at hy2; cases hy2
  | true =>
    rw [hb] at hy2
    cases hy2
    exact kk hb
/-- an int array's element is set -/
theorem am_Pn.is {a n0 : Nat} {lo hi m : Int} {i v : Int32} (hi0 : am_at r pc = some .iastore) (hd : ab_D0[a]? = some (.inl (1, n0, lo, hi, m))) (ha : Nat.blt a 1000000 = true) (kk : am_in i n0 = true → am_Pn call d S al r Φ n (pc + 1, lv, st, sg_h (sg_uA s a i.toNatClampNeg v), nc, ns)) : am_Pn call d S al r Φ n (pc, lv, .int v :: .int i :: .ref a :: st, sg_h s, nc, ns) := by
  refine am_Pn.one hi0 rfl (fun y hy => ?_)
  have hy2 : (match am_ast (sg_h s) pc (.int v :: .int i :: .ref a :: st) 1 (fun v => v) with
    | some x => some (x.1, lv, x.2.1, x.2.2, nc, ns)
    | none => none) = some y := hy
  have e1 : am_ast (sg_h s) pc (.int v :: .int i :: .ref a :: st) 1 (fun v => v) = bif am_in i n0 then some (pc + 1, st, sg_h (sg_uA s a i.toNatClampNeg v)) else none := by
    unfold am_ast
    simp only [am_ari_of (sg_arr hd rfl) ha, sg_setA hd rfl]
  rw [e1] at hy2
  cases hb : am_in i n0 with
  | false => rw [hb] at hy2; cases hy2
  | true =>
    rw [hb] at hy2
    cases hy2
    exact kk hb
/-- a long array's element is set -/
theorem am_Pn.ls {a n0 : Nat} {lo hi m : Int} {i : Int32} {v : Int64} (hi0 : am_at r pc = some .lastore) (hd : ab_D0[a]? = some (.inl (2, n0, lo, hi, m))) (ha : Nat.blt a 1000000 = true) (kk : am_in i n0 = true → am_Pn call d S al r Φ n (pc + 1, lv, st, sg_h (sg_uM s a i.toNatClampNeg v), nc, ns)) : am_Pn call d S al r Φ n (pc, lv, .long v :: .int i :: .ref a :: st, sg_h s, nc, ns) := by
  refine am_Pn.one hi0 rfl (fun y hy => ?_)
  have hy2 : (match am_lst (sg_h s) pc (.long v :: .int i :: .ref a :: st) 2 with
    | some x => some (x.1, lv, x.2.1, x.2.2, nc, ns)
    | none => none) = some y := hy
  have e1 : am_lst (sg_h s) pc (.long v :: .int i :: .ref a :: st) 2 = bif am_in i n0 then some (pc + 1, st, sg_h (sg_uM s a i.toNatClampNeg v)) else none := by
    have h2 : am_arl (sg_h s) a 2 = some (n0, s.2.2.2.1 a) := by
      unfold am_arl
      rw [ha, sg_arl hd]
      rfl
    unfold am_lst
    simp only [h2, sg_setM hd]
  rw [e1] at hy2
  cases hb : am_in i n0 with
  | false => rw [hb] at hy2; cases hy2
  | true =>
    rw [hb] at hy2
    cases hy2
    exact kk hb
/-- branches -/
theorem am_Pn.ic {c : Jvm.ClassFile.Cond} {off : Int} {t : Nat} {x y : Int32} (hi : am_at r pc = some (.if_icmp c off)) (ht : am_tg pc off = some t) (hT : am_cmp c x y = true → am_Pn call d S al r Φ n (t, lv, st, sg_h s, nc, ns)) (hF : am_cmp c x y = false → am_Pn call d S al r Φ n (pc + 3, lv, st, sg_h s, nc, ns)) : am_Pn call d S al r Φ n (pc, lv, .int y :: .int x :: st, sg_h s, nc, ns) := by
  have e2 : am_s2 (.if_icmp c off) pc (.int y :: .int x :: st) = some (bif am_cmp c x y then t else pc + 3, st) := by
    simp only [am_s2, ht]
    rfl
  refine am_Pn.st1 (y := (bif am_cmp c x y then t else pc + 3, lv, st, sg_h s, nc, ns)) hi ?_ ?_
  · show (match am_s2 (.if_icmp c off) pc (.int y :: .int x :: st) with
      | some x => some (x.1, lv, x.2, sg_h s, nc, ns)
      | none => _) = _
    rw [e2]
  · cases hc : am_cmp c x y with
    | true => exact hT hc
    | false => exact hF hc
theorem am_Pn.i0 {c : Jvm.ClassFile.Cond} {off : Int} {t : Nat} {x : Int32} (hi : am_at r pc = some (.ifCond c off)) (ht : am_tg pc off = some t) (hT : am_cmp c x 0 = true → am_Pn call d S al r Φ n (t, lv, st, sg_h s, nc, ns)) (hF : am_cmp c x 0 = false → am_Pn call d S al r Φ n (pc + 3, lv, st, sg_h s, nc, ns)) : am_Pn call d S al r Φ n (pc, lv, .int x :: st, sg_h s, nc, ns) := by
  have e2 : am_s2 (.ifCond c off) pc (.int x :: st) = some (bif am_cmp c x 0 then t else pc + 3, st) := by
    simp only [am_s2, ht]
    rfl
  refine am_Pn.st1 (y := (bif am_cmp c x 0 then t else pc + 3, lv, st, sg_h s, nc, ns)) hi ?_ ?_
  · show (match am_s2 (.ifCond c off) pc (.int x :: st) with
      | some x => some (x.1, lv, x.2, sg_h s, nc, ns)
      | none => _) = _
    rw [e2]
  · cases hc : am_cmp c x 0 with
    | true => exact hT hc
    | false => exact hF hc
end PN
/-- a method, if its call ends -/
def am_Sp (mi : Nat) (as : List Value) (s : sg_S) (Ψ : Option Value → sg_S → Prop) : Prop := ∀ (al : Bool) (F d : Nat) (q : Option Value × am_H), am_call al F d mi as (sg_h s) = some q → ∃ s2, q.2 = sg_h s2 ∧ Ψ q.1 s2
def am_cok (call : am_CALL) (al : Bool) : Prop := ∀ mi as h q, call mi as h = some q → ∃ F d, am_call al F d mi as h = some q
theorem am_Sp.mk {mi : Nat} {as : List Value} {s : sg_S} {Ψ : Option Value → sg_S → Prop} {r : am_M} {lv : List (Option Value)} (hr : am_T[mi]? = some r) (hl : am_ent as (am_L r) = some lv) (h : ∀ (call : am_CALL) (d : Nat) (al : Bool) (n : Nat), am_cok call al → am_Pn call d (0, fun _ => 0) al r (fun y => ∀ q, am_ret r y = some q → ∃ s2, q.2 = sg_h s2 ∧ Ψ q.1 s2) n (0, lv, [], sg_h s, 0, 0)) : am_Sp mi as s Ψ := by
  have key : ∀ (call : am_CALL) (d : Nat) (al : Bool) (F : Nat) (q : Option Value × am_H), am_cok call al → am_run call d al F mi as (sg_h s) = some q → ∃ s2, q.2 = sg_h s2 ∧ Ψ q.1 s2 := by
    intro call d al F q hc he
    unfold am_run at he
    simp only [hr, hl] at he
    cases hg : am_go call d (0, fun _ => 0) al r F (0, lv, [], sg_h s, 0, 0) with
    | none => rw [hg] at he; cases he
    | some y =>
      rw [hg] at he
      exact h call d al F hc F y (Nat.le_refl _) hg q he
  intro al F d q he
  cases d with
  | zero => exact key _ 0 al F q (fun mi as h q e => by cases e) he
  | succ d => exact key _ (d + 1) al F q (fun mi as h q e => ⟨F, d, e⟩) he
theorem am_Pn.cv {call : am_CALL} {d : Nat} {S : am_S} {al : Bool} {r : am_M} {Φ : am_C → Prop} {pc : Nat} {lv : List (Option Value)} {st : List Value} {s : sg_S} {nc ns n : Nat} {idx mi na pl b : Nat} {as rest : List Value} {r2 : am_M} {Ψ : Option Value → sg_S → Prop} (hc : am_cok call al) (hsp : am_Sp mi (.ref b :: as) s Ψ) (hi : am_at r pc = some (.invokevirtual idx)) (hinf : am_inf (am_o r) idx = some (0, mi, na, pl)) (hpop : am_pop na st = some (as, .ref b :: rest)) (hr2 : am_T[mi]? = some r2) (hk : am_k r2 = (0, 0)) (kk : ∀ rv s2, Ψ rv s2 → am_Pn call d S al r Φ n (pc + 3, lv, rv.toList ++ rest, sg_h s2, nc, ns)) : am_Pn call d S al r Φ n (pc, lv, st, sg_h s, nc, ns) := by
  refine am_Pn.one hi rfl (fun y hy => ?_)
  have hy2 : am_s6 call d (am_k r) (am_o r) (.invokevirtual idx) pc lv st (sg_h s) nc ns = some y := hy
  unfold am_s6 at hy2
  simp only [hinf, hpop, hr2] at hy2
  have b0 : Nat.beq 0 0 = true := rfl
  simp only [b0, cond_true] at hy2
  split at hy2
  · obtain ⟨q, q1, -, -, -, -, rfl⟩ := am_fin_inv hy2
    obtain ⟨F, d2, q2⟩ := hc _ _ _ _ q1
    obtain ⟨s2, e1, e2⟩ := hsp al F d2 q q2
    rw [hk, e1]
    exact kk q.1 s2 e2
  · cases hy2
theorem am_Pn.cs {call : am_CALL} {d : Nat} {S : am_S} {al : Bool} {r : am_M} {Φ : am_C → Prop} {pc : Nat} {lv : List (Option Value)} {st : List Value} {s : sg_S} {nc ns n : Nat} {idx mi na pl : Nat} {as rest : List Value} {r2 : am_M} {Ψ : Option Value → sg_S → Prop} (hc : am_cok call al) (hsp : am_Sp mi as s Ψ) (hi : am_at r pc = some (.invokestatic idx)) (hinf : am_inf (am_o r) idx = some (1, mi, na, pl)) (hpop : am_pop na st = some (as, rest)) (hr2 : am_T[mi]? = some r2) (hk : am_k r2 = (0, 0)) (kk : ∀ rv s2, Ψ rv s2 → am_Pn call d S al r Φ n (pc + 3, lv, rv.toList ++ rest, sg_h s2, nc, ns)) : am_Pn call d S al r Φ n (pc, lv, st, sg_h s, nc, ns) := by
  refine am_Pn.one hi rfl (fun y hy => ?_)
  have hy2 : am_s6 call d (am_k r) (am_o r) (.invokestatic idx) pc lv st (sg_h s) nc ns = some y := hy
  unfold am_s6 at hy2
  have b1 : (Nat.beq 1 7 || Nat.beq 1 8) = false := rfl
  have b2 : Nat.beq 1 1 = true := rfl
  simp only [hinf, hpop, hr2, b1, b2, cond_true, cond_false] at hy2
  obtain ⟨q, q1, -, -, -, -, rfl⟩ := am_fin_inv hy2
  obtain ⟨F, d2, q2⟩ := hc _ _ _ _ q1
  obtain ⟨s2, e1, e2⟩ := hsp al F d2 q q2
  rw [hk, e1]
  exact kk q.1 s2 e2
theorem am_ret_i {r : am_M} {pc : Nat} {lv : List (Option Value)} {x : Int32} {h : am_H} {nc ns : Nat} {q : Option Value × am_H} (hi : am_at r pc = some .ireturn) (hq : am_ret r (pc, lv, [.int x], h, nc, ns) = some q) : q = (some (.int x), h) := by
  unfold am_ret at hq
  simp only [hi] at hq
  split at hq
  · rename_i ty x2 h1 h2
    cases h2
    obtain ⟨-, e⟩ := am_cond_inv hq
    exact e.symm
  · cases hq
theorem am_ret_l {r : am_M} {pc : Nat} {lv : List (Option Value)} {x : Int64} {h : am_H} {nc ns : Nat} {q : Option Value × am_H} (hi : am_at r pc = some .lreturn) (hq : am_ret r (pc, lv, [.long x], h, nc, ns) = some q) : q = (some (.long x), h) := by
  unfold am_ret at hq
  simp only [hi] at hq
  split at hq
  · rename_i x2 h1 h2
    cases h2
    cases hq
    rfl
  · cases hq
theorem am_ret_v {r : am_M} {pc : Nat} {lv : List (Option Value)} {h : am_H} {nc ns : Nat} {q : Option Value × am_H} (hi : am_at r pc = some .return_) (hq : am_ret r (pc, lv, [], h, nc, ns) = some q) : q = (none, h) := by
  unfold am_ret at hq
  simp only [hi] at hq
  split at hq
  · cases hq
    rfl
  · cases hq
/-- an array's length -/
theorem am_Pn.an {call : am_CALL} {d : Nat} {S : am_S} {al : Bool} {r : am_M} {Φ : am_C → Prop} {pc : Nat} {lv : List (Option Value)} {st : List Value} {s : sg_S} {nc ns n a t n0 : Nat} {lo hi m : Int} (hi0 : am_at r pc = some .arraylength) (hd : ab_D0[a]? = some (.inl (t, n0, lo, hi, m))) (ht : Nat.blt t 5 = true) (ha : Nat.blt a 1000000 = true) (ho : Nat.beq (am_o r) 13 = false) (kk : am_Pn call d S al r Φ n (pc + 1, lv, .int (Int32.ofNat n0) :: st, sg_h s, nc, ns)) : am_Pn call d S al r Φ n (pc, lv, .ref a :: st, sg_h s, nc, ns) := by
  have e3 : am_s3 S (am_o r) .arraylength (sg_h s) pc (.ref a :: st) = some (pc + 1, .int (Int32.ofNat n0) :: st) := by
    have hg : (sg_h s)[a]? = some (sg_c s a (.inl (t, n0, lo, hi, m))) := by rw [sg_get, hd]; rfl
    simp only [am_s3, ho, Bool.false_and, cond_false, ha, cond_true, hg, sg_c]
    cases h2 : Nat.beq t 2 with
    | true => simp only [cond_true]; rfl
    | false => simp only [cond_false, ht, cond_true]
  refine am_Pn.st1 hi0 ?_ kk
  show (match am_s3 S (am_o r) .arraylength (sg_h s) pc (.ref a :: st) with
    | some x => some (x.1, lv, x.2, sg_h s, nc, ns)
    | none => _) = _
  rw [e3]
section PT
variable {call : am_CALL} {d : Nat} {S : am_S} {al : Bool} {r : am_M} {Φ : am_C → Prop} {pc : Nat} {lv : List (Option Value)} {st : List Value} {s : sg_S} {nc ns n : Nat}
/-- a switch, one of its values -/
theorem am_Pn.tj {dd lo hi off : Int} {offs : Array Int} {t : Nat} {x : Int32} (j : Nat) (hx : x.toInt = lo + (j : Int)) (hi0 : am_at r pc = some (.tableswitch dd lo hi offs)) (hj : offs[j]? = some off) (hh : decide (lo + (j : Int) ≤ hi) = true) (ht : am_tg pc off = some t) (kk : am_Pn call d S al r Φ n (t, lv, st, sg_h s, nc, ns)) : am_Pn call d S al r Φ n (pc, lv, .int x :: st, sg_h s, nc, ns) := by
  have hh2 := of_decide_eq_true hh
  have e2 : am_s2 (.tableswitch dd lo hi offs) pc (.int x :: st) = some (t, st) := by
    have e1 : (decide (x.toInt < lo) || decide (hi < x.toInt)) = false := by
      simp only [Bool.or_eq_false_iff, decide_eq_false_iff_not]
      omega
    have e3 : (x.toInt - lo).toNat = j := by omega
    simp only [am_s2, e1, cond_false, e3, hj, ht]
    rfl
  refine am_Pn.st1 hi0 ?_ kk
  show (match am_s2 (.tableswitch dd lo hi offs) pc (.int x :: st) with
    | some x => some (x.1, lv, x.2, sg_h s, nc, ns)
    | none => _) = _
  rw [e2]
/-- none of its values -/
theorem am_Pn.td {dd lo hi : Int} {offs : Array Int} {t : Nat} {x : Int32} (hx : x.toInt < lo ∨ hi < x.toInt) (hi0 : am_at r pc = some (.tableswitch dd lo hi offs)) (ht : am_tg pc dd = some t) (kk : am_Pn call d S al r Φ n (t, lv, st, sg_h s, nc, ns)) : am_Pn call d S al r Φ n (pc, lv, .int x :: st, sg_h s, nc, ns) := by
  have e2 : am_s2 (.tableswitch dd lo hi offs) pc (.int x :: st) = some (t, st) := by
    have e1 : (decide (x.toInt < lo) || decide (hi < x.toInt)) = true := by simpa using hx
    simp only [am_s2, e1, cond_true, ht]
    rfl
  refine am_Pn.st1 hi0 ?_ kk
  show (match am_s2 (.tableswitch dd lo hi offs) pc (.int x :: st) with
    | some x => some (x.1, lv, x.2, sg_h s, nc, ns)
    | none => _) = _
  rw [e2]
end PT
