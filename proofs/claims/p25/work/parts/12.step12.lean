/-! ===== each instruction of the small machine is one of the machine: constants, locals, stack, sums, branches ===== -/
theorem am_psh_inv {pc : Nat} {lv : List (Option Value)} {st : List Value} {n : Nat} {v : Value} {x : am_3} (h : am_psh pc lv st n v = some x) : x = (pc + n, lv, v :: st) := (Option.some.inj h).symm
theorem am_ii_inv {pc : Nat} {lv : List (Option Value)} {st : List Value} {f : Int32 → Int32 → Int32} {x : am_3} (h : am_ii pc lv st f = some x) : ∃ a b t, st = .int b :: .int a :: t ∧ x = (pc + 1, lv, .int (f a b) :: t) := by
  unfold am_ii at h
  split at h
  · exact ⟨_, _, _, rfl, (Option.some.inj h).symm⟩
  · cases h
theorem am_ll_inv {pc : Nat} {lv : List (Option Value)} {st : List Value} {f : Int64 → Int64 → Value} {x : am_3} (h : am_ll pc lv st f = some x) : ∃ a b t, st = .long b :: .long a :: t ∧ x = (pc + 1, lv, f a b :: t) := by
  unfold am_ll at h
  split at h
  · exact ⟨_, _, _, rfl, (Option.some.inj h).symm⟩
  · cases h
theorem am_li_inv {pc : Nat} {lv : List (Option Value)} {st : List Value} {f : Int64 → Int32 → Int64} {x : am_3} (h : am_li pc lv st f = some x) : ∃ a b t, st = .int b :: .long a :: t ∧ x = (pc + 1, lv, .long (f a b) :: t) := by
  unfold am_li at h
  split at h
  · exact ⟨_, _, _, rfl, (Option.some.inj h).symm⟩
  · cases h
theorem am_i1_inv {pc : Nat} {lv : List (Option Value)} {st : List Value} {f : Int32 → Value} {x : am_3} (h : am_i1 pc lv st f = some x) : ∃ a t, st = .int a :: t ∧ x = (pc + 1, lv, f a :: t) := by
  unfold am_i1 at h
  split at h
  · exact ⟨_, _, rfl, (Option.some.inj h).symm⟩
  · cases h
theorem am_l1_inv {pc : Nat} {lv : List (Option Value)} {st : List Value} {f : Int64 → Value} {x : am_3} (h : am_l1 pc lv st f = some x) : ∃ a t, st = .long a :: t ∧ x = (pc + 1, lv, f a :: t) := by
  unfold am_l1 at h
  split at h
  · exact ⟨_, _, rfl, (Option.some.inj h).symm⟩
  · cases h
theorem am_ldi_inv {pc : Nat} {lv : List (Option Value)} {st : List Value} {n i : Nat} {x : am_3} (h : am_ldi pc lv st n i = some x) : ∃ v, lv[i]? = some (some (.int v)) ∧ x = (pc + n, lv, .int v :: st) := by
  unfold am_ldi at h
  split at h
  · rename_i v hv
    exact ⟨v, am_lget_inv hv, (Option.some.inj h).symm⟩
  · cases h
theorem am_ldl_inv {pc : Nat} {lv : List (Option Value)} {st : List Value} {n i : Nat} {x : am_3} (h : am_ldl pc lv st n i = some x) : ∃ v, lv[i]? = some (some (.long v)) ∧ x = (pc + n, lv, .long v :: st) := by
  unfold am_ldl at h
  split at h
  · rename_i v hv
    exact ⟨v, am_lget_inv hv, (Option.some.inj h).symm⟩
  · cases h
theorem am_lda_inv {pc : Nat} {lv : List (Option Value)} {st : List Value} {n i : Nat} {x : am_3} (h : am_lda pc lv st n i = some x) : ∃ v, lv[i]? = some (some (.ref v)) ∧ x = (pc + n, lv, .ref v :: st) := by
  unfold am_lda at h
  split at h
  · rename_i v hv
    exact ⟨v, am_lget_inv hv, (Option.some.inj h).symm⟩
  · cases h
theorem am_sti_inv {pc : Nat} {lv : List (Option Value)} {st : List Value} {n i : Nat} {x : am_3} (h : am_sti pc lv st n i = some x) : ∃ v t, st = .int v :: t ∧ i < lv.length ∧ x = (pc + n, am_lset1 lv i (.int v), t) := by
  unfold am_sti at h
  split at h
  · obtain ⟨h1, h2⟩ := am_cond_inv h
    exact ⟨_, _, rfl, by simpa [Nat.blt_eq] using h1, h2.symm⟩
  · cases h
theorem am_sta_inv {pc : Nat} {lv : List (Option Value)} {st : List Value} {n i : Nat} {x : am_3} (h : am_sta pc lv st n i = some x) : ∃ v t, st = .ref v :: t ∧ i < lv.length ∧ x = (pc + n, am_lset1 lv i (.ref v), t) := by
  unfold am_sta at h
  split at h
  · obtain ⟨h1, h2⟩ := am_cond_inv h
    exact ⟨_, _, rfl, by simpa [Nat.blt_eq] using h1, h2.symm⟩
  · cases h
theorem am_stl_inv {pc : Nat} {lv : List (Option Value)} {st : List Value} {n i : Nat} {x : am_3} (h : am_stl pc lv st n i = some x) : ∃ v t, st = .long v :: t ∧ i + 1 < lv.length ∧ x = (pc + n, am_lset2 lv i (.long v), t) := by
  unfold am_stl at h
  split at h
  · obtain ⟨h1, h2⟩ := am_cond_inv h
    exact ⟨_, _, rfl, by simpa [Nat.blt_eq] using h1, h2.symm⟩
  · cases h
theorem am_inc_inv {pc : Nat} {lv : List (Option Value)} {st : List Value} {i : Nat} {n : Int} {x : am_3} (h : am_inc pc lv st i n = some x) : ∃ v, lv[i]? = some (some (.int v)) ∧ i < lv.length ∧ x = (pc + 3, am_lset1 lv i (.int (v + Int32.ofInt n)), st) := by
  unfold am_inc at h
  split at h
  · rename_i v hv
    obtain ⟨h1, h2⟩ := am_cond_inv h
    exact ⟨v, am_lget_inv hv, by simpa [Nat.blt_eq] using h1, h2.symm⟩
  · cases h
theorem am_du_inv {pc : Nat} {lv : List (Option Value)} {st : List Value} {x : am_3} (h : am_du pc lv st = some x) : ∃ v t, st = v :: t ∧ v.category = 1 ∧ x = (pc + 1, lv, v :: v :: t) := by
  unfold am_du at h
  split at h
  · obtain ⟨h1, h2⟩ := am_cond_inv h
    exact ⟨_, _, rfl, Nat.eq_of_beq_eq_true h1, h2.symm⟩
  · cases h
theorem am_po_inv {pc : Nat} {lv : List (Option Value)} {st : List Value} {x : am_3} (h : am_po pc lv st = some x) : ∃ v t, st = v :: t ∧ v.category = 1 ∧ x = (pc + 1, lv, t) := by
  unfold am_po at h
  split at h
  · obtain ⟨h1, h2⟩ := am_cond_inv h
    exact ⟨_, _, rfl, Nat.eq_of_beq_eq_true h1, h2.symm⟩
  · cases h
theorem am_d2_inv {pc : Nat} {lv : List (Option Value)} {st : List Value} {x : am_3} (h : am_d2 pc lv st = some x) : ∃ v w t, st = v :: w :: t ∧ v.category = 1 ∧ w.category = 1 ∧ x = (pc + 1, lv, v :: w :: v :: w :: t) := by
  unfold am_d2 at h
  split at h
  · obtain ⟨h1, h2⟩ := am_cond_inv h
    rw [Bool.and_eq_true] at h1
    exact ⟨_, _, _, rfl, Nat.eq_of_beq_eq_true h1.1, Nat.eq_of_beq_eq_true h1.2, h2.symm⟩
  · cases h
theorem am_rem_inv {pc : Nat} {lv : List (Option Value)} {st : List Value} {x : am_3} (h : am_rem pc lv st = some x) : ∃ a b t, st = .int b :: .int a :: t ∧ ¬ b = 0 ∧ x = (pc + 1, lv, .int (a - a / b * b) :: t) := by
  unfold am_rem at h
  split at h
  · rename_i y a t
    by_cases hy : y = 0
    · simp [hy] at h
    · simp [hy] at h
      exact ⟨_, _, _, rfl, hy, h.symm⟩
  · cases h
theorem am_tg_inv {pc : Nat} {off : Int} {t : Nat} (h : am_tg pc off = some t) : (pc : Int) + off = (t : Int) := by
  unfold am_tg at h
  obtain ⟨h1, h2⟩ := am_cond_inv h
  have h1 := of_decide_eq_true h1
  omega
section AMS
variable {p : Program} {l : Launch} {e : Env} {R : Room} {s : State} {m : MethodId} {args : Array Value} {below : List Frame} {meth : Method} {c : Code} {H : Heap} {locs : List Loc} {cells slots : Nat} {Q : State → Prop} {cc : ByteArray} {G : am_G} {ls : Array Slot} {nL : Nat}
theorem am_s1_sound (hx : p.tables.exec = Jvm.exec) (hb : c.code = cc) {i : am_I} {pc : Nat} {lv : List (Option Value)} {st : List Value} {x : am_3} (hd : am_dec cc pc i = true) (h : am_s1 i pc lv st = some x) (hl : am_lv G ls nL lv)
    (k : ∀ ls' : Array Slot, am_lv G ls' nL x.2.1 → W p l e R s m args below meth c H locs cells slots Q (F0 m x.1 ls' (x.2.2.map (am_tv G)))) : W p l e R s m args below meth c H locs cells slots Q (F0 m pc ls (st.map (am_tv G))) := by
  have hat : ∀ {j : Nat} {v : Value}, lv[j]? = some (some v) → ls[j]? = some (.val (am_tv G v)) := fun h => hl.2.2.2 _ _ h
  cases i
  case iconst n => obtain rfl := am_psh_inv h; exact lv_iconst hx hb (am_dl hd rfl) rfl (k ls hl)
  case bipush n => obtain rfl := am_psh_inv h; exact lv_bipush hx hb (am_dl hd rfl) rfl (k ls hl)
  case sipush n => obtain rfl := am_psh_inv h; exact lv_sipush hx hb (am_dl hd rfl) rfl (k ls hl)
  case lconst n => obtain rfl := am_psh_inv h; exact lv_lconst hx hb (am_dl hd rfl) rfl (k ls hl)
  case iload_n j => obtain ⟨v, hv, rfl⟩ := am_ldi_inv h; exact lv_iload_n hx hb (am_dl hd rfl) rfl (hat hv) (k ls hl)
  case iload j => obtain ⟨v, hv, rfl⟩ := am_ldi_inv h; exact lv_iload hx hb (am_dl hd rfl) (hat hv) (k ls hl)
  case lload_n j => obtain ⟨v, hv, rfl⟩ := am_ldl_inv h; exact lv_lload_n hx hb (am_dl hd rfl) rfl (hat hv) (k ls hl)
  case lload j => obtain ⟨v, hv, rfl⟩ := am_ldl_inv h; exact lv_lload hx hb (am_dl hd rfl) (hat hv) (k ls hl)
  case aload_n j => obtain ⟨v, hv, rfl⟩ := am_lda_inv h; exact lv_aload_n hx hb (am_dl hd rfl) rfl (hat hv) (k ls hl)
  case aload j => obtain ⟨v, hv, rfl⟩ := am_lda_inv h; exact lv_aload hx hb (am_dl hd rfl) (hat hv) (k ls hl)
  case istore_n j => obtain ⟨v, t, rfl, hj, rfl⟩ := am_sti_inv h; exact lv_istore_n hx hb (am_dl hd rfl) rfl hl.has (by rw [← hl.1]; exact hj) rfl (fun ls' h' => k ls' (am_set1 hl.1 h'))
  case istore j => obtain ⟨v, t, rfl, hj, rfl⟩ := am_sti_inv h; exact lv_istore hx hb (am_dl hd rfl) hl.has (by rw [← hl.1]; exact hj) rfl (fun ls' h' => k ls' (am_set1 hl.1 h'))
  case lstore_n j => obtain ⟨v, t, rfl, hj, rfl⟩ := am_stl_inv h; exact lv_lstore_n hx hb (am_dl hd rfl) rfl hl.has (by rw [← hl.1]; exact hj) rfl (fun ls' h' => k ls' (am_set2 hl.1 h'))
  case lstore j => obtain ⟨v, t, rfl, hj, rfl⟩ := am_stl_inv h; exact lv_lstore hx hb (am_dl hd rfl) hl.has (by rw [← hl.1]; exact hj) rfl (fun ls' h' => k ls' (am_set2 hl.1 h'))
  case astore_n j => obtain ⟨v, t, rfl, hj, rfl⟩ := am_sta_inv h; exact lv_astore_n hx hb (am_dl hd rfl) rfl hl.has (by rw [← hl.1]; exact hj) rfl (fun ls' h' => k ls' (am_set1 hl.1 h'))
  case astore j => obtain ⟨v, t, rfl, hj, rfl⟩ := am_sta_inv h; exact lv_astore hx hb (am_dl hd rfl) hl.has (by rw [← hl.1]; exact hj) rfl (fun ls' h' => k ls' (am_set1 hl.1 h'))
  case iinc j n =>
    obtain ⟨v, hv, hj, rfl⟩ := am_inc_inv h
    obtain ⟨q, hq⟩ := List.getElem?_of_mem (am_asc_mem (G := G) (lv := lv) (q := (j, .int v)) |>.mpr ⟨.int v, hv, rfl⟩)
    exact lv_iinc hx hb (am_dl hd rfl) hl.has hq rfl (by rw [← hl.1]; exact hj) rfl (fun ls' h' => k ls' (am_set1 hl.1 h'))
  case iadd => obtain ⟨a, b, t, rfl, rfl⟩ := am_ii_inv h; exact lv_iadd hx hb (am_dl hd rfl) (k ls hl)
  case isub => obtain ⟨a, b, t, rfl, rfl⟩ := am_ii_inv h; exact lv_isub hx hb (am_dl hd rfl) (k ls hl)
  case imul => obtain ⟨a, b, t, rfl, rfl⟩ := am_ii_inv h; exact lv_imul hx hb (am_dl hd rfl) (k ls hl)
  case irem => obtain ⟨a, b, t, rfl, hb0, rfl⟩ := am_rem_inv h; exact lv_irem hx hb (am_dl hd rfl) hb0 (k ls hl)
  case iand => obtain ⟨a, b, t, rfl, rfl⟩ := am_ii_inv h; exact lv_iand hx hb (am_dl hd rfl) (k ls hl)
  case ior => obtain ⟨a, b, t, rfl, rfl⟩ := am_ii_inv h; exact lv_ior hx hb (am_dl hd rfl) (k ls hl)
  case ixor => obtain ⟨a, b, t, rfl, rfl⟩ := am_ii_inv h; exact lv_ixor hx hb (am_dl hd rfl) (k ls hl)
  case ishl => obtain ⟨a, b, t, rfl, rfl⟩ := am_ii_inv h; exact lv_ishl hx hb (am_dl hd rfl) (k ls hl)
  case ishr => obtain ⟨a, b, t, rfl, rfl⟩ := am_ii_inv h; exact lv_ishr hx hb (am_dl hd rfl) (k ls hl)
  case iushr => obtain ⟨a, b, t, rfl, rfl⟩ := am_ii_inv h; exact lv_iushr hx hb (am_dl hd rfl) rfl (k ls hl)
  case ladd => obtain ⟨a, b, t, rfl, rfl⟩ := am_ll_inv h; exact lv_ladd hx hb (am_dl hd rfl) (k ls hl)
  case lsub => obtain ⟨a, b, t, rfl, rfl⟩ := am_ll_inv h; exact lv_lsub hx hb (am_dl hd rfl) (k ls hl)
  case lmul => obtain ⟨a, b, t, rfl, rfl⟩ := am_ll_inv h; exact lv_lmul hx hb (am_dl hd rfl) (k ls hl)
  case land => obtain ⟨a, b, t, rfl, rfl⟩ := am_ll_inv h; exact lv_land hx hb (am_dl hd rfl) (k ls hl)
  case lor => obtain ⟨a, b, t, rfl, rfl⟩ := am_ll_inv h; exact lv_lor hx hb (am_dl hd rfl) (k ls hl)
  case lxor => obtain ⟨a, b, t, rfl, rfl⟩ := am_ll_inv h; exact lv_lxor hx hb (am_dl hd rfl) (k ls hl)
  case lcmp => obtain ⟨a, b, t, rfl, rfl⟩ := am_ll_inv h; exact W.lcmp hx hb (am_dl hd rfl) (k ls hl)
  case lshl => obtain ⟨a, b, t, rfl, rfl⟩ := am_li_inv h; exact lv_lshl hx hb (am_dl hd rfl) rfl (k ls hl)
  case lshr => obtain ⟨a, b, t, rfl, rfl⟩ := am_li_inv h; exact lv_lshr hx hb (am_dl hd rfl) rfl (k ls hl)
  case lushr => obtain ⟨a, b, t, rfl, rfl⟩ := am_li_inv h; exact lv_lushr hx hb (am_dl hd rfl) rfl (k ls hl)
  case i2l => obtain ⟨a, t, rfl, rfl⟩ := am_i1_inv h; exact lv_i2l hx hb (am_dl hd rfl) rfl (k ls hl)
  case l2i => obtain ⟨a, t, rfl, rfl⟩ := am_l1_inv h; exact lv_l2i hx hb (am_dl hd rfl) rfl (k ls hl)
  case i2b => obtain ⟨a, t, rfl, rfl⟩ := am_i1_inv h; exact lv_i2b hx hb (am_dl hd rfl) rfl (k ls hl)
  case i2s => obtain ⟨a, t, rfl, rfl⟩ := am_i1_inv h; exact lv_i2s hx hb (am_dl hd rfl) rfl (k ls hl)
  case i2c => obtain ⟨a, t, rfl, rfl⟩ := am_i1_inv h; exact lv_i2c hx hb (am_dl hd rfl) rfl (k ls hl)
  case dup => obtain ⟨v, t, rfl, hv, rfl⟩ := am_du_inv h; exact lv_dup hx hb (am_dl hd rfl) (by rw [am_tv_cat]; exact hv) (k ls hl)
  case dup2 => obtain ⟨v, w, t, rfl, hv, hw, rfl⟩ := am_d2_inv h; exact lv_dup2_11 hx hb (am_dl hd rfl) (by rw [am_tv_cat]; exact hv) (by rw [am_tv_cat]; exact hw) (k ls hl)
  case pop => obtain ⟨v, t, rfl, hv, rfl⟩ := am_po_inv h; exact lv_pop hx hb (am_dl hd rfl) (by rw [am_tv_cat]; exact hv) (k ls hl)
  all_goals exact absurd h (by simp [am_s1])
theorem am_s2_sound (hx : p.tables.exec = Jvm.exec) (hb : c.code = cc) {i : am_I} {pc : Nat} {st : List Value} {x : Nat × List Value} (hd : am_dec cc pc i = true) (h : am_s2 i pc st = some x)
    (k : W p l e R s m args below meth c H locs cells slots Q (F0 m x.1 ls (x.2.map (am_tv G)))) : W p l e R s m args below meth c H locs cells slots Q (F0 m pc ls (st.map (am_tv G))) := by
  cases i
  case goto off => obtain ⟨t, ht, rfl⟩ := am_map_inv h; exact lv_goto hx hb (am_dl hd rfl) (am_tg_inv ht) k
  case ifCond q off =>
    unfold am_s2 at h
    simp only at h
    split at h
    · obtain ⟨t, ht, rfl⟩ := am_map_inv h
      cases q
      · exact lv_if_eq hx hb (am_dl hd rfl) (am_tg_inv ht) (fun hc => by simpa [am_cmp, hc] using k) (fun hc => by simpa [am_cmp, hc] using k)
      · exact lv_if_ne hx hb (am_dl hd rfl) (am_tg_inv ht) (fun hc => by simpa [am_cmp, hc] using k) (fun hc => by simpa [am_cmp, hc] using k)
      · exact lv_if_lt hx hb (am_dl hd rfl) (am_tg_inv ht) (fun hc => by simpa only [am_cmp, decide_eq_true hc, cond_true] using k) (fun hc => by simpa only [am_cmp, decide_eq_false hc, cond_false] using k)
      · exact lv_if_ge hx hb (am_dl hd rfl) (am_tg_inv ht) (fun hc => by simpa only [am_cmp, decide_eq_true hc, cond_true] using k) (fun hc => by simpa only [am_cmp, decide_eq_false hc, cond_false] using k)
      · exact lv_if_gt hx hb (am_dl hd rfl) (am_tg_inv ht) (fun hc => by simpa only [am_cmp, decide_eq_true hc, cond_true] using k) (fun hc => by simpa only [am_cmp, decide_eq_false hc, cond_false] using k)
      · exact lv_if_le hx hb (am_dl hd rfl) (am_tg_inv ht) (fun hc => by simpa only [am_cmp, decide_eq_true hc, cond_true] using k) (fun hc => by simpa only [am_cmp, decide_eq_false hc, cond_false] using k)
    · cases h
  case if_icmp q off =>
    unfold am_s2 at h
    simp only at h
    split at h
    · obtain ⟨t, ht, rfl⟩ := am_map_inv h
      cases q
      · exact lv_icmp_eq hx hb (am_dl hd rfl) (am_tg_inv ht) (fun hc => by simpa only [am_cmp, decide_eq_true hc, cond_true] using k) (fun hc => by simpa only [am_cmp, decide_eq_false hc, cond_false] using k)
      · exact lv_icmp_ne hx hb (am_dl hd rfl) (am_tg_inv ht) (fun hc => by simpa only [am_cmp, decide_eq_false hc, Bool.not_false, cond_true] using k) (fun hc => by simpa only [am_cmp, decide_eq_true hc, Bool.not_true, cond_false] using k)
      · exact lv_icmp_lt hx hb (am_dl hd rfl) (am_tg_inv ht) (fun hc => by simpa only [am_cmp, decide_eq_true hc, cond_true] using k) (fun hc => by simpa only [am_cmp, decide_eq_false hc, cond_false] using k)
      · exact lv_icmp_ge hx hb (am_dl hd rfl) (am_tg_inv ht) (fun hc => by simpa only [am_cmp, decide_eq_true hc, cond_true] using k) (fun hc => by simpa only [am_cmp, decide_eq_false hc, cond_false] using k)
      · exact lv_icmp_gt hx hb (am_dl hd rfl) (am_tg_inv ht) (fun hc => by simpa only [am_cmp, decide_eq_true hc, cond_true] using k) (fun hc => by simpa only [am_cmp, decide_eq_false hc, cond_false] using k)
      · exact lv_icmp_le hx hb (am_dl hd rfl) (am_tg_inv ht) (fun hc => by simpa only [am_cmp, decide_eq_true hc, cond_true] using k) (fun hc => by simpa only [am_cmp, decide_eq_false hc, cond_false] using k)
    · cases h
  case tableswitch dd lo hi offs =>
    unfold am_s2 at h
    simp only at h
    obtain ⟨len, hdg⟩ := am_dt hd
    split at h
    · rename_i v r
      by_cases hc : v.toInt < lo ∨ hi < v.toInt
      · have hc1 : (decide (v.toInt < lo) || decide (hi < v.toInt)) = true := by simpa using hc
        rw [hc1] at h
        obtain ⟨t, ht, rfl⟩ := am_map_inv h
        exact lv_tableOut hx hb hdg hc (am_tg_inv ht) k
      · have hc1 : (decide (v.toInt < lo) || decide (hi < v.toInt)) = false := by simpa using hc
        rw [hc1] at h
        simp only [cond_false] at h
        split at h
        · rename_i off ho
          obtain ⟨t, ht, rfl⟩ := am_map_inv h
          exact lv_tableIn hx hb hdg (fun q => hc (Or.inl q)) (fun q => hc (Or.inr q)) ho (am_tg_inv ht) k
        · cases h
    · cases h
  all_goals exact absurd h (by simp [am_s2])
end AMS
