/-! ===== more rows for printed trees: small arrays, Math ===== -/
section WS
variable {call : am_CALL} {d : Nat} {S : am_S} {al : Bool} {r : am_M} {Φ : am_C → Prop} {pc : Nat} {lv : List (Option Value)} {st : List Value} {s : sg_S} {nc ns n : Nat}
theorem am_ast_sg {a t n0 : Nat} {lo hi m : Int} {i v : Int32} {g : Int32 → Int32} (hd : ab_D0[a]? = some (.inl (t, n0, lo, hi, m))) (ht : Nat.beq t 2 = false) (ha : Nat.blt a 1000000 = true) : am_ast (sg_h s) pc (.int v :: .int i :: .ref a :: st) t g = bif am_in i n0 then some (pc + 1, st, sg_h (sg_uA s a i.toNatClampNeg (g v))) else none := by
  unfold am_ast
  simp only [am_ari_of (sg_arr hd ht) ha, sg_setA hd ht]
/-- a boolean array's element is set -/
theorem am_Pn.bs {a n0 : Nat} {lo hi m : Int} {i v : Int32} (hi0 : am_at r pc = some .bastore) (hd : ab_D0[a]? = some (.inl (4, n0, lo, hi, m))) (ha : Nat.blt a 1000000 = true) (kk : am_in i n0 = true → am_Pn call d S al r Φ n (pc + 1, lv, st, sg_h (sg_uA s a i.toNatClampNeg (vp_nar .boolean v)), nc, ns)) : am_Pn call d S al r Φ n (pc, lv, .int v :: .int i :: .ref a :: st, sg_h s, nc, ns) := by
  refine am_Pn.one hi0 rfl (fun y hy => ?_)
  have hy2 : (match am_or (am_ast (sg_h s) pc (.int v :: .int i :: .ref a :: st) 0 (vp_nar .byte)) (am_ast (sg_h s) pc (.int v :: .int i :: .ref a :: st) 4 (vp_nar .boolean)) with
    | some x => some (x.1, lv, x.2.1, x.2.2, nc, ns)
    | none => none) = some y := hy
  have e0 : am_ast (sg_h s) pc (.int v :: .int i :: .ref a :: st) 0 (vp_nar .byte) = none := by
    unfold am_ast
    simp only [am_ari_no (sg_arr hd rfl) ha (show Nat.beq 4 0 = false from rfl)]
  rw [e0, am_ast_sg hd rfl ha] at hy2
  cases hb : am_in i n0 with
  | false => rw [hb] at hy2; cases hy2
  | true =>
    rw [hb] at hy2
    cases hy2
    exact kk hb
/-- a byte array's element is set -/
theorem am_Pn.ys {a n0 : Nat} {lo hi m : Int} {i v : Int32} (hi0 : am_at r pc = some .bastore) (hd : ab_D0[a]? = some (.inl (0, n0, lo, hi, m))) (ha : Nat.blt a 1000000 = true) (kk : am_in i n0 = true → am_Pn call d S al r Φ n (pc + 1, lv, st, sg_h (sg_uA s a i.toNatClampNeg (vp_nar .byte v)), nc, ns)) : am_Pn call d S al r Φ n (pc, lv, .int v :: .int i :: .ref a :: st, sg_h s, nc, ns) := by
  refine am_Pn.one hi0 rfl (fun y hy => ?_)
  have hy2 : (match am_or (am_ast (sg_h s) pc (.int v :: .int i :: .ref a :: st) 0 (vp_nar .byte)) (am_ast (sg_h s) pc (.int v :: .int i :: .ref a :: st) 4 (vp_nar .boolean)) with
    | some x => some (x.1, lv, x.2.1, x.2.2, nc, ns)
    | none => none) = some y := hy
  have e0 : am_ast (sg_h s) pc (.int v :: .int i :: .ref a :: st) 4 (vp_nar .boolean) = none := by
    unfold am_ast
    simp only [am_ari_no (sg_arr hd rfl) ha (show Nat.beq 0 4 = false from rfl)]
  rw [e0, am_ast_sg hd rfl ha] at hy2
  cases hb : am_in i n0 with
  | false => rw [hb] at hy2; cases hy2
  | true =>
    rw [hb] at hy2
    cases hy2
    exact kk hb
/-- a short array's element is set, read -/
theorem am_Pn.ss {a n0 : Nat} {lo hi m : Int} {i v : Int32} (hi0 : am_at r pc = some .sastore) (hd : ab_D0[a]? = some (.inl (3, n0, lo, hi, m))) (ha : Nat.blt a 1000000 = true) (kk : am_in i n0 = true → am_Pn call d S al r Φ n (pc + 1, lv, st, sg_h (sg_uA s a i.toNatClampNeg (vp_nar .short v)), nc, ns)) : am_Pn call d S al r Φ n (pc, lv, .int v :: .int i :: .ref a :: st, sg_h s, nc, ns) := by
  refine am_Pn.one hi0 rfl (fun y hy => ?_)
  have hy2 : (match am_ast (sg_h s) pc (.int v :: .int i :: .ref a :: st) 3 (vp_nar .short) with
    | some x => some (x.1, lv, x.2.1, x.2.2, nc, ns)
    | none => none) = some y := hy
  rw [am_ast_sg hd rfl ha] at hy2
  cases hb : am_in i n0 with
  | false => rw [hb] at hy2; cases hy2
  | true =>
    rw [hb] at hy2
    cases hy2
    exact kk hb
theorem am_Pn.sa {a n0 : Nat} {lo hi m : Int} {i : Int32} (hi0 : am_at r pc = some .saload) (hd : ab_D0[a]? = some (.inl (3, n0, lo, hi, m))) (ha : Nat.blt a 1000000 = true) (kk : am_in i n0 = true → am_Pn call d S al r Φ n (pc + 1, lv, .int (s.2.2.1 a i.toNatClampNeg) :: st, sg_h s, nc, ns)) : am_Pn call d S al r Φ n (pc, lv, .int i :: .ref a :: st, sg_h s, nc, ns) := by
  refine am_Pn.one hi0 rfl (fun y hy => ?_)
  have hy2 : (match am_ald (sg_h s) pc (.int i :: .ref a :: st) 3 with
    | some x => some (x.1, lv, x.2, sg_h s, nc, ns)
    | none => none) = some y := hy
  have e1 : am_ald (sg_h s) pc (.int i :: .ref a :: st) 3 = bif am_in i n0 then some (pc + 1, .int (s.2.2.1 a i.toNatClampNeg) :: st) else none := by
    unfold am_ald
    simp only [am_ari_of (sg_arr hd rfl) ha]
  rw [e1] at hy2
  cases hb : am_in i n0 with
  | false => rw [hb] at hy2; cases hy2
  | true =>
    rw [hb] at hy2
    cases hy2
    exact kk hb
/-- Math.max and Math.min -/
theorem am_Pn.mx {idx mi na pl : Nat} {x y : Int32} (hi0 : am_at r pc = some (.invokestatic idx)) (hinf : am_inf (am_o r) idx = some (7, mi, na, pl)) (kk : am_Pn call d S al r Φ n (pc + 3, lv, .int (if x < y then y else x) :: st, sg_h s, nc, ns)) : am_Pn call d S al r Φ n (pc, lv, .int y :: .int x :: st, sg_h s, nc, ns) := by
  refine am_Pn.one hi0 rfl (fun z hz => ?_)
  have hz2 : am_s6 call d (am_k r) (am_o r) (.invokestatic idx) pc lv (.int y :: .int x :: st) (sg_h s) nc ns = some z := hz
  unfold am_s6 at hz2
  simp only [hinf] at hz2
  have b1 : (Nat.beq 7 7 || Nat.beq 7 8) = true := rfl
  have b2 : Nat.beq 7 7 = true := rfl
  simp only [b1, b2, cond_true] at hz2
  cases hb : (am_rsm st && Nat.ble 1 d) with
  | false => rw [hb] at hz2; cases hz2
  | true =>
    rw [hb] at hz2
    cases hz2
    exact kk
theorem am_Pn.mn {idx mi na pl : Nat} {x y : Int32} (hi0 : am_at r pc = some (.invokestatic idx)) (hinf : am_inf (am_o r) idx = some (8, mi, na, pl)) (kk : am_Pn call d S al r Φ n (pc + 3, lv, .int (if y < x then y else x) :: st, sg_h s, nc, ns)) : am_Pn call d S al r Φ n (pc, lv, .int y :: .int x :: st, sg_h s, nc, ns) := by
  refine am_Pn.one hi0 rfl (fun z hz => ?_)
  have hz2 : am_s6 call d (am_k r) (am_o r) (.invokestatic idx) pc lv (.int y :: .int x :: st) (sg_h s) nc ns = some z := hz
  unfold am_s6 at hz2
  simp only [hinf] at hz2
  have b1 : (Nat.beq 8 7 || Nat.beq 8 8) = true := rfl
  have b2 : Nat.beq 8 7 = false := rfl
  simp only [b1, b2, cond_true, cond_false] at hz2
  cases hb : (am_rsm st && Nat.ble 1 d) with
  | false => rw [hb] at hz2; cases hz2
  | true =>
    rw [hb] at hz2
    cases hz2
    exact kk
end WS
