/-! ===== what must hold so that a method's word holds: rows for printed trees ===== -/
def am_SpI (mi : Nat) (as : List Value) (s : sg_S) (Ψ : Int32 → sg_S → Prop) : Prop := am_Sp mi as s (fun rv s2 => ∃ x, rv = some (.int x) ∧ Ψ x s2)
def am_SpL (mi : Nat) (as : List Value) (s : sg_S) (Ψ : Int64 → sg_S → Prop) : Prop := am_Sp mi as s (fun rv s2 => ∃ x, rv = some (.long x) ∧ Ψ x s2)
def am_SpV (mi : Nat) (as : List Value) (s : sg_S) (Ψ : sg_S → Prop) : Prop := am_Sp mi as s (fun rv s2 => rv = none ∧ Ψ s2)
theorem am_SpI.mono {mi : Nat} {as : List Value} {s : sg_S} {Ψ Ψ2 : Int32 → sg_S → Prop} (h : am_SpI mi as s Ψ) (k : ∀ x s2, Ψ x s2 → Ψ2 x s2) : am_SpI mi as s Ψ2 := fun al F d q e => by
  obtain ⟨s2, e1, x, e2, e3⟩ := h al F d q e
  exact ⟨s2, e1, x, e2, k x s2 e3⟩
theorem am_SpL.mono {mi : Nat} {as : List Value} {s : sg_S} {Ψ Ψ2 : Int64 → sg_S → Prop} (h : am_SpL mi as s Ψ) (k : ∀ x s2, Ψ x s2 → Ψ2 x s2) : am_SpL mi as s Ψ2 := fun al F d q e => by
  obtain ⟨s2, e1, x, e2, e3⟩ := h al F d q e
  exact ⟨s2, e1, x, e2, k x s2 e3⟩
theorem am_SpV.mono {mi : Nat} {as : List Value} {s : sg_S} {Ψ Ψ2 : sg_S → Prop} (h : am_SpV mi as s Ψ) (k : ∀ s2, Ψ s2 → Ψ2 s2) : am_SpV mi as s Ψ2 := fun al F d q e => by
  obtain ⟨s2, e1, e2, e3⟩ := h al F d q e
  exact ⟨s2, e1, e2, k s2 e3⟩
def am_PhI (r : am_M) (Ψ : Int32 → sg_S → Prop) : am_C → Prop := fun y => ∀ q, am_ret r y = some q → ∃ s2, q.2 = sg_h s2 ∧ ∃ x, q.1 = some (.int x) ∧ Ψ x s2
def am_PhL (r : am_M) (Ψ : Int64 → sg_S → Prop) : am_C → Prop := fun y => ∀ q, am_ret r y = some q → ∃ s2, q.2 = sg_h s2 ∧ ∃ x, q.1 = some (.long x) ∧ Ψ x s2
def am_PhV (r : am_M) (Ψ : sg_S → Prop) : am_C → Prop := fun y => ∀ q, am_ret r y = some q → ∃ s2, q.2 = sg_h s2 ∧ q.1 = none ∧ Ψ s2
theorem am_SpI.mk {mi : Nat} {as : List Value} {s : sg_S} {Ψ : Int32 → sg_S → Prop} {r : am_M} {lv : List (Option Value)} (hr : am_T[mi]? = some r) (hl : am_ent as (am_L r) = some lv) (h : ∀ (call : am_CALL) (d : Nat) (al : Bool) (n : Nat), am_cok call al → am_Pn call d (0, fun _ => 0) al r (am_PhI r Ψ) n (0, lv, [], sg_h s, 0, 0)) : am_SpI mi as s Ψ := am_Sp.mk hr hl h
theorem am_SpL.mk {mi : Nat} {as : List Value} {s : sg_S} {Ψ : Int64 → sg_S → Prop} {r : am_M} {lv : List (Option Value)} (hr : am_T[mi]? = some r) (hl : am_ent as (am_L r) = some lv) (h : ∀ (call : am_CALL) (d : Nat) (al : Bool) (n : Nat), am_cok call al → am_Pn call d (0, fun _ => 0) al r (am_PhL r Ψ) n (0, lv, [], sg_h s, 0, 0)) : am_SpL mi as s Ψ := am_Sp.mk hr hl h
theorem am_SpV.mk {mi : Nat} {as : List Value} {s : sg_S} {Ψ : sg_S → Prop} {r : am_M} {lv : List (Option Value)} (hr : am_T[mi]? = some r) (hl : am_ent as (am_L r) = some lv) (h : ∀ (call : am_CALL) (d : Nat) (al : Bool) (n : Nat), am_cok call al → am_Pn call d (0, fun _ => 0) al r (am_PhV r Ψ) n (0, lv, [], sg_h s, 0, 0)) : am_SpV mi as s Ψ := am_Sp.mk hr hl h
section WR
variable {call : am_CALL} {d : Nat} {S : am_S} {al : Bool} {r : am_M} {Φ : am_C → Prop} {pc : Nat} {lv : List (Option Value)} {st : List Value} {s : sg_S} {nc ns n : Nat}
theorem am_Pn.zero {x : am_C} : am_Pn call d S al r Φ 0 x := by
  intro f y hf hy
  cases f with
  | zero => cases hy
  | succ f => omega
theorem am_Pn.rI {Ψ : Int32 → sg_S → Prop} {x : Int32} (h : Ψ x s) (hi : am_at r pc = some .ireturn) : am_Pn call d S al r (am_PhI r Ψ) n (pc, lv, [.int x], sg_h s, nc, ns) := by
  refine am_Pn.en (fun q hq => ?_) hi rfl
  obtain rfl := am_ret_i hi hq
  exact ⟨s, rfl, x, rfl, h⟩
theorem am_Pn.rL {Ψ : Int64 → sg_S → Prop} {x : Int64} (h : Ψ x s) (hi : am_at r pc = some .lreturn) : am_Pn call d S al r (am_PhL r Ψ) n (pc, lv, [.long x], sg_h s, nc, ns) := by
  refine am_Pn.en (fun q hq => ?_) hi rfl
  obtain rfl := am_ret_l hi hq
  exact ⟨s, rfl, x, rfl, h⟩
theorem am_Pn.rV {Ψ : sg_S → Prop} (h : Ψ s) (hi : am_at r pc = some .return_) : am_Pn call d S al r (am_PhV r Ψ) n (pc, lv, [], sg_h s, nc, ns) := by
  refine am_Pn.en (fun q hq => ?_) hi rfl
  obtain rfl := am_ret_v hi hq
  exact ⟨s, rfl, rfl, h⟩
/-- calls -/
theorem am_Pn.cvI {idx mi na pl b : Nat} {as rest : List Value} {r2 : am_M} {T : Int32 → sg_S → Prop} (hc : am_cok call al) (h : am_SpI mi (.ref b :: as) s T) (hi : am_at r pc = some (.invokevirtual idx)) (hinf : am_inf (am_o r) idx = some (0, mi, na, pl)) (hpop : am_pop na st = some (as, .ref b :: rest)) (hr2 : am_T[mi]? = some r2) (hk : am_k r2 = (0, 0)) (kk : ∀ x s2, T x s2 → am_Pn call d S al r Φ n (pc + 3, lv, .int x :: rest, sg_h s2, nc, ns)) : am_Pn call d S al r Φ n (pc, lv, st, sg_h s, nc, ns) := by
  refine am_Pn.cv hc h hi hinf hpop hr2 hk (fun rv s2 hq => ?_)
  obtain ⟨x, rfl, h3⟩ := hq
  exact kk x s2 h3
theorem am_Pn.cvL {idx mi na pl b : Nat} {as rest : List Value} {r2 : am_M} {T : Int64 → sg_S → Prop} (hc : am_cok call al) (h : am_SpL mi (.ref b :: as) s T) (hi : am_at r pc = some (.invokevirtual idx)) (hinf : am_inf (am_o r) idx = some (0, mi, na, pl)) (hpop : am_pop na st = some (as, .ref b :: rest)) (hr2 : am_T[mi]? = some r2) (hk : am_k r2 = (0, 0)) (kk : ∀ x s2, T x s2 → am_Pn call d S al r Φ n (pc + 3, lv, .long x :: rest, sg_h s2, nc, ns)) : am_Pn call d S al r Φ n (pc, lv, st, sg_h s, nc, ns) := by
  refine am_Pn.cv hc h hi hinf hpop hr2 hk (fun rv s2 hq => ?_)
  obtain ⟨x, rfl, h3⟩ := hq
  exact kk x s2 h3
theorem am_Pn.cvV {idx mi na pl b : Nat} {as rest : List Value} {r2 : am_M} {T : sg_S → Prop} (hc : am_cok call al) (h : am_SpV mi (.ref b :: as) s T) (hi : am_at r pc = some (.invokevirtual idx)) (hinf : am_inf (am_o r) idx = some (0, mi, na, pl)) (hpop : am_pop na st = some (as, .ref b :: rest)) (hr2 : am_T[mi]? = some r2) (hk : am_k r2 = (0, 0)) (kk : ∀ s2, T s2 → am_Pn call d S al r Φ n (pc + 3, lv, rest, sg_h s2, nc, ns)) : am_Pn call d S al r Φ n (pc, lv, st, sg_h s, nc, ns) := by
  refine am_Pn.cv hc h hi hinf hpop hr2 hk (fun rv s2 hq => ?_)
  obtain ⟨rfl, h3⟩ := hq
  exact kk s2 h3
theorem am_Pn.csI {idx mi na pl : Nat} {as rest : List Value} {r2 : am_M} {T : Int32 → sg_S → Prop} (hc : am_cok call al) (h : am_SpI mi as s T) (hi : am_at r pc = some (.invokestatic idx)) (hinf : am_inf (am_o r) idx = some (1, mi, na, pl)) (hpop : am_pop na st = some (as, rest)) (hr2 : am_T[mi]? = some r2) (hk : am_k r2 = (0, 0)) (kk : ∀ x s2, T x s2 → am_Pn call d S al r Φ n (pc + 3, lv, .int x :: rest, sg_h s2, nc, ns)) : am_Pn call d S al r Φ n (pc, lv, st, sg_h s, nc, ns) := by
  refine am_Pn.cs hc h hi hinf hpop hr2 hk (fun rv s2 hq => ?_)
  obtain ⟨x, rfl, h3⟩ := hq
  exact kk x s2 h3
theorem am_Pn.csL {idx mi na pl : Nat} {as rest : List Value} {r2 : am_M} {T : Int64 → sg_S → Prop} (hc : am_cok call al) (h : am_SpL mi as s T) (hi : am_at r pc = some (.invokestatic idx)) (hinf : am_inf (am_o r) idx = some (1, mi, na, pl)) (hpop : am_pop na st = some (as, rest)) (hr2 : am_T[mi]? = some r2) (hk : am_k r2 = (0, 0)) (kk : ∀ x s2, T x s2 → am_Pn call d S al r Φ n (pc + 3, lv, .long x :: rest, sg_h s2, nc, ns)) : am_Pn call d S al r Φ n (pc, lv, st, sg_h s, nc, ns) := by
  refine am_Pn.cs hc h hi hinf hpop hr2 hk (fun rv s2 hq => ?_)
  obtain ⟨x, rfl, h3⟩ := hq
  exact kk x s2 h3
theorem am_Pn.csV {idx mi na pl : Nat} {as rest : List Value} {r2 : am_M} {T : sg_S → Prop} (hc : am_cok call al) (h : am_SpV mi as s T) (hi : am_at r pc = some (.invokestatic idx)) (hinf : am_inf (am_o r) idx = some (1, mi, na, pl)) (hpop : am_pop na st = some (as, rest)) (hr2 : am_T[mi]? = some r2) (hk : am_k r2 = (0, 0)) (kk : ∀ s2, T s2 → am_Pn call d S al r Φ n (pc + 3, lv, rest, sg_h s2, nc, ns)) : am_Pn call d S al r Φ n (pc, lv, st, sg_h s, nc, ns) := by
  refine am_Pn.cs hc h hi hinf hpop hr2 hk (fun rv s2 hq => ?_)
  obtain ⟨rfl, h3⟩ := hq
  exact kk s2 h3
/-- branches: P holds where the branch is taken -/
theorem am_Pn.bT {c : Jvm.ClassFile.Cond} {off : Int} {t : Nat} {x y : Int32} {P A B : Prop} (h : (P → A) ∧ (¬ P → B)) (hp : am_cmp c x y = true ↔ P) (hi : am_at r pc = some (.if_icmp c off)) (ht : am_tg pc off = some t) (hT : A → am_Pn call d S al r Φ n (t, lv, st, sg_h s, nc, ns)) (hF : B → am_Pn call d S al r Φ n (pc + 3, lv, st, sg_h s, nc, ns)) : am_Pn call d S al r Φ n (pc, lv, .int y :: .int x :: st, sg_h s, nc, ns) :=
  am_Pn.ic hi ht (fun hc => hT (h.1 (hp.mp hc))) (fun hc => hF (h.2 (fun q => by rw [hp.mpr q] at hc; cases hc)))
theorem am_Pn.bF {c : Jvm.ClassFile.Cond} {off : Int} {t : Nat} {x y : Int32} {P A B : Prop} (h : (P → B) ∧ (¬ P → A)) (hp : am_cmp c x y = false ↔ P) (hi : am_at r pc = some (.if_icmp c off)) (ht : am_tg pc off = some t) (hT : A → am_Pn call d S al r Φ n (t, lv, st, sg_h s, nc, ns)) (hF : B → am_Pn call d S al r Φ n (pc + 3, lv, st, sg_h s, nc, ns)) : am_Pn call d S al r Φ n (pc, lv, .int y :: .int x :: st, sg_h s, nc, ns) :=
  am_Pn.ic hi ht (fun hc => hT (h.2 (fun q => by rw [hp.mpr q] at hc; cases hc))) (fun hc => hF (h.1 (hp.mp hc)))
theorem am_Pn.zT {c : Jvm.ClassFile.Cond} {off : Int} {t : Nat} {x : Int32} {P A B : Prop} (h : (P → A) ∧ (¬ P → B)) (hp : am_cmp c x 0 = true ↔ P) (hi : am_at r pc = some (.ifCond c off)) (ht : am_tg pc off = some t) (hT : A → am_Pn call d S al r Φ n (t, lv, st, sg_h s, nc, ns)) (hF : B → am_Pn call d S al r Φ n (pc + 3, lv, st, sg_h s, nc, ns)) : am_Pn call d S al r Φ n (pc, lv, .int x :: st, sg_h s, nc, ns) :=
  am_Pn.i0 hi ht (fun hc => hT (h.1 (hp.mp hc))) (fun hc => hF (h.2 (fun q => by rw [hp.mpr q] at hc; cases hc)))
theorem am_Pn.zF {c : Jvm.ClassFile.Cond} {off : Int} {t : Nat} {x : Int32} {P A B : Prop} (h : (P → B) ∧ (¬ P → A)) (hp : am_cmp c x 0 = false ↔ P) (hi : am_at r pc = some (.ifCond c off)) (ht : am_tg pc off = some t) (hT : A → am_Pn call d S al r Φ n (t, lv, st, sg_h s, nc, ns)) (hF : B → am_Pn call d S al r Φ n (pc + 3, lv, st, sg_h s, nc, ns)) : am_Pn call d S al r Φ n (pc, lv, .int x :: st, sg_h s, nc, ns) :=
  am_Pn.i0 hi ht (fun hc => hT (h.2 (fun q => by rw [hp.mpr q] at hc; cases hc))) (fun hc => hF (h.1 (hp.mp hc)))
end WR
theorem am_beq {x y : Int32} {v w : Int} (hx : x.toInt = v) (hy : y.toInt = w) : am_cmp .eq x y = true ↔ v = w := by
  subst hx; subst hy
  show decide (x = y) = true ↔ _
  rw [decide_eq_true_eq, Int32.toInt_inj]
theorem am_bne {x y : Int32} {v w : Int} (hx : x.toInt = v) (hy : y.toInt = w) : am_cmp .ne x y = false ↔ v = w := by
  subst hx; subst hy
  show (!decide (x = y)) = false ↔ _
  rw [Bool.not_eq_false', decide_eq_true_eq, Int32.toInt_inj]
theorem am_blt {x y : Int32} {v w : Int} (hx : x.toInt = v) (hy : y.toInt = w) : am_cmp .lt x y = true ↔ v < w := by
  subst hx; subst hy
  show decide (x < y) = true ↔ _
  rw [decide_eq_true_eq, Int32.lt_iff_toInt_lt]
theorem am_bge {x y : Int32} {v w : Int} (hx : x.toInt = v) (hy : y.toInt = w) : am_cmp .ge x y = false ↔ v < w := by
  subst hx; subst hy
  show decide (y ≤ x) = false ↔ _
  rw [decide_eq_false_iff_not, Int32.le_iff_toInt_le, Int.not_le]
theorem am_bgt {x y : Int32} {v w : Int} (hx : x.toInt = v) (hy : y.toInt = w) : am_cmp .gt x y = true ↔ w < v := by
  subst hx; subst hy
  show decide (y < x) = true ↔ _
  rw [decide_eq_true_eq, Int32.lt_iff_toInt_lt]
theorem am_ble {x y : Int32} {v w : Int} (hx : x.toInt = v) (hy : y.toInt = w) : am_cmp .le x y = false ↔ w < v := by
  subst hx; subst hy
  show decide (x ≤ y) = false ↔ _
  rw [decide_eq_false_iff_not, Int32.le_iff_toInt_le, Int.not_le]
theorem am_lc1 {a b : Int64} (h : b < a) : lg_cmp a b = 1 := by
  unfold lg_cmp
  rw [if_pos h]
theorem am_lc0 {a : Int64} : lg_cmp a a = 0 := by
  unfold lg_cmp
  rw [if_neg (by rw [GT.gt, Int64.lt_iff_toInt_lt]; omega), if_pos rfl]
theorem am_lcm {a b : Int64} (h : a < b) : lg_cmp a b = -1 := by
  unfold lg_cmp
  have h1 := Int64.lt_iff_toInt_lt.mp h
  rw [if_neg (by rw [GT.gt, Int64.lt_iff_toInt_lt]; omega), if_neg (fun q => by rw [q] at h1; omega)]
theorem am_l3 (a b : Int64) : b < a ∨ a = b ∨ a < b := by
  rcases Int.lt_trichotomy a.toInt b.toInt with h | h | h
  · exact Or.inr (Or.inr (Int64.lt_iff_toInt_lt.mpr h))
  · exact Or.inr (Or.inl (Int64.toInt_inj.mp h))
  · exact Or.inl (Int64.lt_iff_toInt_lt.mpr h)
theorem am_leq {a b : Int64} : am_cmp .eq (lg_cmp a b) 0 = true ↔ a = b := by
  rcases am_l3 a b with h | rfl | h
  · rw [am_lc1 h]
    have h1 := Int64.lt_iff_toInt_lt.mp h
    exact ⟨fun q => absurd q (by decide), fun q => by rw [q] at h1; omega⟩
  · rw [am_lc0]
    exact ⟨fun _ => rfl, fun _ => by decide⟩
  · rw [am_lcm h]
    have h1 := Int64.lt_iff_toInt_lt.mp h
    exact ⟨fun q => absurd q (by decide), fun q => by rw [q] at h1; omega⟩
theorem am_lne {a b : Int64} : am_cmp .ne (lg_cmp a b) 0 = false ↔ a = b := by
  rw [← am_leq]
  show (!decide (lg_cmp a b = 0)) = false ↔ decide (lg_cmp a b = 0) = true
  rw [Bool.not_eq_false']
theorem am_llt {a b : Int64} : am_cmp .lt (lg_cmp a b) 0 = true ↔ a.toInt < b.toInt := by
  rcases am_l3 a b with h | rfl | h
  · rw [am_lc1 h]
    have h1 := Int64.lt_iff_toInt_lt.mp h
    exact ⟨fun q => absurd q (by decide), fun q => by omega⟩
  · rw [am_lc0]
    exact ⟨fun q => absurd q (by decide), fun q => by omega⟩
  · rw [am_lcm h]
    exact ⟨fun _ => Int64.lt_iff_toInt_lt.mp h, fun _ => by decide⟩
theorem am_lgt {a b : Int64} : am_cmp .gt (lg_cmp a b) 0 = true ↔ b.toInt < a.toInt := by
  rcases am_l3 a b with h | rfl | h
  · rw [am_lc1 h]
    exact ⟨fun _ => Int64.lt_iff_toInt_lt.mp h, fun _ => by decide⟩
  · rw [am_lc0]
    exact ⟨fun q => absurd q (by decide), fun q => by omega⟩
  · rw [am_lcm h]
    have h1 := Int64.lt_iff_toInt_lt.mp h
    exact ⟨fun q => absurd q (by decide), fun q => by omega⟩
theorem am_lge {a b : Int64} : am_cmp .ge (lg_cmp a b) 0 = false ↔ a.toInt < b.toInt := by
  rcases am_l3 a b with h | rfl | h
  · rw [am_lc1 h]
    have h1 := Int64.lt_iff_toInt_lt.mp h
    exact ⟨fun q => absurd q (by decide), fun q => by omega⟩
  · rw [am_lc0]
    exact ⟨fun q => absurd q (by decide), fun q => by omega⟩
  · rw [am_lcm h]
    exact ⟨fun _ => Int64.lt_iff_toInt_lt.mp h, fun _ => by decide⟩
theorem am_lle {a b : Int64} : am_cmp .le (lg_cmp a b) 0 = false ↔ b.toInt < a.toInt := by
  rcases am_l3 a b with h | rfl | h
  · rw [am_lc1 h]
    exact ⟨fun _ => Int64.lt_iff_toInt_lt.mp h, fun _ => by decide⟩
  · rw [am_lc0]
    exact ⟨fun q => absurd q (by decide), fun q => by omega⟩
  · rw [am_lcm h]
    have h1 := Int64.lt_iff_toInt_lt.mp h
    exact ⟨fun q => absurd q (by decide), fun q => by omega⟩
theorem am_in0 {i : Int32} {m : Nat} (h : am_in i m = true) : 0 ≤ i.toInt := by
  unfold am_in at h
  rw [Bool.and_eq_true, Bool.not_eq_true', decide_eq_false_iff_not, Int32.lt_iff_toInt_lt] at h
  have e : (0 : Int32).toInt = 0 := rfl
  omega
theorem am_in1 {i : Int32} {m : Nat} (h : am_in i m = true) : i.toInt < (m : Int) := by
  have h0 := am_in0 h
  unfold am_in at h
  rw [Bool.and_eq_true] at h
  have h2 : i.toNatClampNeg + 1 ≤ m := Nat.le_of_ble_eq_true h.2
  have e : i.toNatClampNeg = i.toInt.toNat := rfl
  omega
