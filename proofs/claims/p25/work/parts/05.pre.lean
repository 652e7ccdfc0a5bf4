/-! ===== rows of the tables ===== -/
def am_y (r : am_M) : MethodName := r.1
def am_b (r : am_M) : ByteArray := r.2.1
def am_L (r : am_M) : Nat := r.2.2.1
def am_rt (r : am_M) : Option FieldType := r.2.2.2.1
def am_o (r : am_M) : Nat := r.2.2.2.2.1
def am_i (r : am_M) : Bool := r.2.2.2.2.2.1
def am_k (r : am_M) : Nat × Nat := r.2.2.2.2.2.2.1
def am_sz (r : am_M) : Nat := r.2.2.2.2.2.2.2.1
def am_tr (r : am_M) : Nat → Option am_I := r.2.2.2.2.2.2.2.2.1
def am_ps (r : am_M) : Nat := r.2.2.2.2.2.2.2.2.2
def am_at (r : am_M) (pc : Nat) : Option am_I := bif Nat.blt pc (am_sz r) then am_tr r pc else none
def am_fld (o idx : Nat) : Option (Nat × Nat) := bif Nat.blt o 16 then ((am_fldO o).find? (fun e => Nat.beq e.1 idx)).map (fun e => (e.2.1, e.2.2.1)) else none
def am_new (o idx : Nat) : Option Nat := bif Nat.blt o 16 then ((am_newO o).find? (fun e => Nat.beq e.1 idx)).map (fun e => e.2.1) else none
def am_kst (o idx : Nat) : Option Value := bif Nat.blt o 16 then ((am_kO o).find? (fun e => Nat.beq e.1 idx)).map (fun e => e.2.1) else none
def am_inf (o idx : Nat) : Option (Nat × Nat × Nat × Nat) := bif Nat.blt o 16 then ((am_invO o).find? (fun e => Nat.beq e.1 idx)).map (fun e => (e.2.1, e.2.2.1, e.2.2.2.1, e.2.2.2.2.1)) else none
-- decoding
def am_len (i : am_I) : Nat := match i with
  | .tableswitch _ _ _ _ => 0
  | .bipush _ => 2
  | .newarray _ => 2
  | .iload _ => 2
  | .lload _ => 2
  | .aload _ => 2
  | .istore _ => 2
  | .lstore _ => 2
  | .astore _ => 2
  | .ldc _ => 2
  | .sipush _ => 3
  | .iinc _ _ => 3
  | .goto _ => 3
  | .ifCond _ _ => 3
  | .if_icmp _ _ => 3
  | .getfield _ => 3
  | .putfield _ => 3
  | .new _ => 3
  | .ldc_w _ => 3
  | .ldc2_w _ => 3
  | .invokevirtual _ => 3
  | .invokestatic _ => 3
  | .invokespecial _ => 3
  | _ => 1
def am_dec (cc : ByteArray) (pc : Nat) (i : am_I) : Bool := match decode cc pc with
  | .ok x => decide (x.1 = i) && (Nat.beq (am_len i) 0 || Nat.beq (am_len i) x.2)
  | _ => false
theorem am_dl {cc : ByteArray} {pc : Nat} {i : am_I} (h : am_dec cc pc i = true) {n : Nat} (hn : am_len i = n + 1) : decode cc pc = .ok (i, n + 1) := by
  unfold am_dec at h
  split at h
  · rename_i x hx
    simp only [Bool.and_eq_true, Bool.or_eq_true, decide_eq_true_eq] at h
    rw [hx]
    obtain ⟨x1, x2⟩ := x
    obtain ⟨h1, h2⟩ := h
    simp only at h1 h2
    subst h1
    rcases h2 with h2 | h2
    · have := Nat.eq_of_beq_eq_true h2; omega
    · have := Nat.eq_of_beq_eq_true h2; rw [hn] at this; subst this; rfl
  · cases h
theorem am_dt {cc : ByteArray} {pc : Nat} {i : am_I} (h : am_dec cc pc i = true) : ∃ n, decode cc pc = .ok (i, n) := by
  unfold am_dec at h
  split at h
  · rename_i x hx
    simp only [Bool.and_eq_true, Bool.or_eq_true, decide_eq_true_eq] at h
    obtain ⟨x1, x2⟩ := x
    obtain ⟨h1, -⟩ := h
    simp only at h1
    subst h1
    exact ⟨_, hx⟩
  · cases h
theorem am_cond_inv {α : Type} {b : Bool} {v : α} {x : α} (h : (bif b then some v else none) = some x) : b = true ∧ v = x := by
  cases b with
  | false => cases h
  | true => exact ⟨rfl, Option.some.inj h⟩
theorem am_map_inv {α β : Type} {o : Option α} {f : α → β} {x : β} (h : o.map f = some x) : ∃ a, o = some a ∧ x = f a := by
  cases o with
  | none => cases h
  | some a => exact ⟨a, rfl, (Option.some.inj h).symm⟩
