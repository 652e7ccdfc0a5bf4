/-! ===== rows for references that change ===== -/
section RF
variable {call : am_CALL} {d : Nat} {S : am_S} {al : Bool} {r : am_M} {Φ : am_C → Prop} {pc : Nat} {lv : List (Option Value)} {st : List Value} {s : sg_S} {nc ns n : Nat}
theorem am_Pn.gR {idx c k a b1 b2 : Nat} {l : List Nat} {ws : List ab_W} (hi : am_at r pc = some (.getfield idx)) (hf : am_fld (am_o r) idx = some (c, k)) (hd : ab_D0[a]? = some (.inr (c, ws))) (hw : ws[k]? = some (.inr (.inr (b1 :: b2 :: l)))) (ha : Nat.blt a 1000000 = true) (kk : am_Pn call d S al r Φ n (pc + 3, lv, .ref (s.2.2.2.2 a k) :: st, sg_h s, nc, ns)) : am_Pn call d S al r Φ n (pc, lv, .ref a :: st, sg_h s, nc, ns) := am_Pn.gv hi hf hd hw ha kk
theorem am_Pn.gif {idx k F : Nat} {e : Int × Int} (hi : am_at r pc = some (.getfield idx)) (hf : am_fld (am_o r) idx = some (8, k)) (hF : F = 39 ∨ F = 43) (h1 : ([.inr (.inr [40]), .inr (.inr [41]), .inl (Int.ofNat 0, Int.ofNat 400), .inr (.inr [42]), .inl (Int.negSucc 2147483647, Int.ofNat 2147483647)] : List ab_W)[k]? = some (.inl e)) (h2 : ([.inr (.inr [44]), .inr (.inr [45]), .inl (Int.ofNat 0, Int.ofNat 400), .inr (.inr [46]), .inl (Int.negSucc 2147483647, Int.ofNat 2147483647)] : List ab_W)[k]? = some (.inl e)) (kk : am_Pn call d S al r Φ n (pc + 3, lv, .int (s.1 F k) :: st, sg_h s, nc, ns)) : am_Pn call d S al r Φ n (pc, lv, .ref F :: st, sg_h s, nc, ns) := by
  rcases hF with rfl | rfl
  · exact am_Pn.gi hi hf am_o39 h1 rfl kk
  · exact am_Pn.gi hi hf am_o43 h2 rfl kk
/-- a reference field is set -/
theorem am_Pn.pR {idx c k a b1 b2 v : Nat} {l : List Nat} {ws : List ab_W} (hi : am_at r pc = some (.putfield idx)) (hf : am_fld (am_o r) idx = some (c, k)) (hd : ab_D0[a]? = some (.inr (c, ws))) (hw : ws[k]? = some (.inr (.inr (b1 :: b2 :: l)))) (ha : Nat.blt a 1000000 = true) (kk : am_Pn call d S al r Φ n (pc + 3, lv, st, sg_h (sg_uR s a k v), nc, ns)) : am_Pn call d S al r Φ n (pc, lv, .ref v :: .ref a :: st, sg_h s, nc, ns) := by
  refine am_Pn.one hi rfl (fun y hy => ?_)
  have hset : (sg_h s).set a (.inr (c, (sg_ws s a 0 ws).set k (.ref v))) = sg_h (sg_uR s a k v) := by
    refine sg_set hd ?_ (fun b d hb _ => sg_c_ne (s := s) (s2 := sg_uR s a k v) (b := b) (fun j => ⟨rfl, rfl, rfl, rfl, if_neg (fun (q : b = a ∧ j = k) => hb q.1)⟩) d)
    show Sum.inr (c, sg_ws (sg_uR s a k v) a 0 ws) = _
    have := sg_ws_set (s := s) (s2 := sg_uR s a k v) (a := a) ws 0 k (.ref v) (fun j w hj hne => by
      rw [Nat.zero_add] at hne ⊢
      unfold sg_w
      split
      · rfl
      · rfl
      · rfl
      · show Value.ref (if a = a ∧ j = k then v else s.2.2.2.2 a j) = _
        rw [if_neg (fun q => hne q.2)]) (fun w _ hw2 => by
      rw [Nat.sub_zero, hw] at hw2
      cases hw2
      show Value.ref (if a = a ∧ k = k then v else s.2.2.2.2 a k) = _
      rw [if_pos ⟨rfl, rfl⟩]) (Nat.zero_le _)
    rw [Nat.sub_zero] at this
    rw [this]
  have e4 : ∀ x, am_s4 (am_o r) (am_i r) (.putfield idx) (sg_h s) pc (.ref v :: .ref a :: st) = some x → x = (pc + 3, st, sg_h (sg_uR s a k v)) := by
    intro x hx
    simp only [am_s4, hf, sg_obj hd ha] at hx
    obtain ⟨-, q⟩ := am_cond_inv hx
    rw [← q, hset]
  have hy2 : (match am_s4 (am_o r) (am_i r) (.putfield idx) (sg_h s) pc (.ref v :: .ref a :: st) with
    | some x => some (x.1, lv, x.2.1, x.2.2, nc, ns)
    | none => match am_s5 al (am_k r) (am_o r) (.putfield idx) pc (.ref v :: .ref a :: st) (sg_h s) nc ns with
      | some x => some (x.1, lv, x.2)
      | none => am_s6 call d (am_k r) (am_o r) (.putfield idx) pc lv (.ref v :: .ref a :: st) (sg_h s) nc ns) = some y := hy
  cases hq : am_s4 (am_o r) (am_i r) (.putfield idx) (sg_h s) pc (.ref v :: .ref a :: st) with
  | none => rw [hq] at hy2; cases hy2
  | some x =>
    rw [hq] at hy2
    cases hy2
    have := e4 x hq
    subst this
    exact kk
end RF
