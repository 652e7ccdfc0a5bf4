/-! ===== bounds: reading cells ===== -/
abbrev ab_4 : Type := Nat × List ab_V × ab_O × ab_N
def ab_al (D : List ab_D) (ty pc : Nat) (st : List ab_V) (o : ab_O) (N : ab_N) (F : List ab_T) : Option (List ab_4) := match st with
  | .inl t :: .inr (.inr a) :: r => match D[a]? with
    | some (.inl (t2, n, lo, hi, m)) => bif Nat.beq t2 ty && Nat.blt a 1000000 && ab_rng N F t 0 ((n : Int) - 1) then (match ab_find N a t o with
        | some v => some [(pc, v :: r, o, N)]
        | none => some [(pc, .inl (ab_var N.length) :: r, (a, t, .inl (ab_var N.length)) :: o, N ++ [(lo, hi, m)])]) else none
    | _ => none
  | _ => none
/-- as am_s3 -/
def ab_s3 (D : List ab_D) (c0 : Nat) (i : am_I) (pc : Nat) (st : List ab_V) (o : ab_O) (N : ab_N) (F : List ab_T) : Option (List ab_4) := match i with
  | .getfield idx => match st with
    | .inr (.inr a) :: r => match am_fld c0 idx with
      | some (c, k) => match D[a]? with
        | some (.inr (c2, ws)) => bif Nat.beq c2 c && Nat.blt a 1000000 then (match ab_find N a ((k : Int), []) o with
          | some v => some [(pc + 3, v :: r, o, N)]
          | none => match ws[k]? with
            | some (.inl (lo, hi)) => some [(pc + 3, .inl (ab_var N.length) :: r, (a, ((k : Int), []), .inl (ab_var N.length)) :: o, N ++ [(lo, hi, 511)])]
            | some (.inr (.inl _)) => some [(pc + 3, .inr (.inl (some (ab_var N.length))) :: r, (a, ((k : Int), []), .inr (.inl (some (ab_var N.length)))) :: o, N ++ [(-9223372036854775808, 9223372036854775807, 511)])]
            | some (.inr (.inr l)) => some (l.map (fun b => (pc + 3, .inr (.inr b) :: r, (a, ((k : Int), []), .inr (.inr b)) :: o, N)))
            | none => none) else none
        | _ => none
      | none => none
    | _ => none
  | .iaload => ab_al D 1 (pc + 1) st o N F
  | .baload => match ab_al D 0 (pc + 1) st o N F with
    | some l => some l
    | none => ab_al D 4 (pc + 1) st o N F
  | .saload => ab_al D 3 (pc + 1) st o N F
  | .laload => match st with
    | .inl t :: .inr (.inr a) :: r => match D[a]? with
      | some (.inl (t2, n, _, _, _)) => bif Nat.beq t2 2 && Nat.blt a 1000000 && ab_rng N F t 0 ((n : Int) - 1) then some [(pc + 1, .inr (.inl none) :: r, o, N)] else none
      | _ => none
    | _ => none
  | .arraylength => match st with
    | .inr (.inr a) :: r => match D[a]? with
      | some (.inl (t2, n, _, _, _)) => bif Nat.blt t2 5 && Nat.blt a 1000000 && Nat.blt n 2147483648 then some [(pc + 1, .inl ((n : Int), []) :: r, o, N)] else none
      | _ => none
    | _ => none
  | .ldc idx => match am_kst c0 idx with
    | some (.int v) => some [(pc + 2, .inl (v.toInt, []) :: st, o, N)]
    | _ => none
  | .ldc_w idx => match am_kst c0 idx with
    | some (.int v) => some [(pc + 3, .inl (v.toInt, []) :: st, o, N)]
    | _ => none
  | .ldc2_w idx => match am_kst c0 idx with
    | some (.long _) => some [(pc + 3, .inr (.inl none) :: st, o, N)]
    | _ => none
  | _ => none
def ab_S3 (ro : List Int) (h : am_H) (e : Option (Nat × List Value)) (l : List ab_4) : Prop := ∃ q ∈ l, ∃ ro2 st2, e = some (q.1, st2) ∧ ab_st (ro ++ ro2) q.2.1 st2 ∧ ab_ov (ro ++ ro2) h q.2.2.1 ∧ ab_env (ro ++ ro2) q.2.2.2
theorem ab_inx {i : Int32} {n : Nat} (h1 : 0 ≤ i.toInt) (h2 : i.toInt ≤ (n : Int) - 1) : am_in i n = true ∧ i.toNatClampNeg = i.toInt.toNat ∧ i.toInt.toNat < n := by
  have h3 : i.toNatClampNeg = i.toInt.toNat := rfl
  have h4 : i.toInt.toNat < n := by omega
  refine ⟨?_, h3, h4⟩
  unfold am_in
  have h5 : ¬ i < 0 := fun h => by
    have := Int32.lt_iff_toInt_lt.mp h
    have h0 : (0 : Int32).toInt = 0 := rfl
    omega
  rw [decide_eq_false h5, h3]
  simp only [Bool.not_false, Bool.true_and, Nat.blt_eq]
  exact h4
section AB3
variable {ro : List Int} {D : List ab_D} {N : ab_N} {F : List ab_T} {st : List ab_V} {stc : List Value} {pc : Nat} {o : ab_O} {h : am_H} {l : List ab_4}
theorem ab_S3.one {e : Option (Nat × List Value)} {pc2 : Nat} {v : ab_V} {A : List ab_V} {w : Value} {C : List Value} (hN : ab_env ro N) (ho : ab_ov ro h o) (hs : ab_st ro A C) (hv : ab_v ro v w) (he : e = some (pc2, w :: C)) : ab_S3 ro h e [(pc2, v :: A, o, N)] := ⟨_, List.mem_singleton.mpr rfl, [], w :: C, he, by rw [List.append_nil]; exact ⟨hv, hs⟩, by rw [List.append_nil]; exact ho, by rw [List.append_nil]; exact hN⟩
theorem ab_ov_cons {q : Nat × ab_T × ab_V} (ho : ab_ov ro h o) (hq : ∃ j w, ab_ev ro q.2.1 = some j ∧ ab_cell h q.1 j = some w ∧ ab_v ro q.2.2 w) : ab_ov ro h (q :: o) := fun p hp => by
  rcases List.mem_cons.mp hp with rfl | hp
  · exact hq
  · exact ho p hp
theorem ab_al_ok {ty : Nat} (h2 : Nat.beq ty 2 = false) (hh : ab_hok D h) (hN : ab_env ro N) (hF : ab_F ro F) (ho : ab_ov ro h o) (hs : ab_st ro st stc) (e : ab_al D ty (pc + 1) st o N F = some l) : ab_S3 ro h (am_ald h pc stc ty) l ∧ ∃ i a r, stc = .int i :: .ref a :: r ∧ ∃ n f, h[a]? = some (.inl (ty, n, .inl f)) := by
  unfold ab_al at e
  split at e
  · rename_i t a r
    split at e
    · rename_i t2 n lo hi m hD
      obtain ⟨hb, e1q⟩ := ab_cb e
      clear e
      have e := e1q
      clear e1q
      simp only [Bool.and_eq_true] at hb
      obtain ⟨⟨b1, b2⟩, b3⟩ := hb
      have := Nat.eq_of_beq_eq_true b1
      subst this
      obtain ⟨w, C, rfl, g1, g2⟩ := ab_st_cons hs
      obtain ⟨w2, C2, rfl, g3, g4⟩ := ab_st_cons g2
      obtain ⟨i, rfl, gi⟩ := ab_v_int g1
      obtain rfl := ab_v_ref g3
      obtain ⟨f, f1, f2, f3⟩ := ab_hok_ari hh hD h2 b2
      refine ⟨?_, i, a, C2, rfl, n, f, f1⟩
      obtain ⟨r1, r2⟩ := ab_rng_ok hN hF gi b3
      obtain ⟨x1, x2, x3⟩ := ab_inx r1 r2
      have he : am_ald h pc (.int i :: .ref a :: C2) t2 = some (pc + 1, .int (f i.toInt.toNat) :: C2) := by
        unfold am_ald
        simp only [f2, x1, cond_true, x2]
      have hc : ab_cell h a i.toInt = some (.int (f i.toInt.toNat)) := by
        unfold ab_cell
        rw [f1]
        simp only [decide_eq_true r1, Bool.true_and, show Nat.blt i.toInt.toNat n = true by simpa [Nat.blt_eq] using x3, cond_true]
      split at e
      · rename_i v hv
        cases e
        obtain ⟨w, k1, k2⟩ := ab_find_ok hN gi o v ho hv
        rw [hc] at k1
        cases k1
        exact ab_S3.one hN ho g4 k2 he
      · cases e
        refine ⟨_, List.mem_singleton.mpr rfl, [(f i.toInt.toNat).toInt], _, he, ⟨ab_ev_new hN _, ab_st_mono _ _ g4⟩, ab_ov_cons (ab_ov_mono ho) ⟨i.toInt, _, ab_ev_mono gi, hc, ab_ev_new hN _⟩, ab_env_push hN (f3 _ x3)⟩
    · cases e
  · cases e
theorem ab_cell_obj {a c k : Nat} {fs : List Value} (h1 : h[a]? = some (.inr (c, fs))) : ab_cell h a (k : Int) = fs[k]? := by
  unfold ab_cell
  rw [h1]
  simp
set_option maxHeartbeats 1000000 in
theorem ab_s3_ok {S : am_S} {c0 : Nat} {i : am_I} (h13 : Nat.beq c0 13 = false) (hh : ab_hok D h) (hN : ab_env ro N) (hF : ab_F ro F) (ho : ab_ov ro h o) (hs : ab_st ro st stc) (e : ab_s3 D c0 i pc st o N F = some l) : ab_S3 ro h (am_s3 S c0 i h pc stc) l := by
  cases i
  case getfield idx =>
    unfold ab_s3 at e
    simp only at e
    split at e
    · rename_i a r
      split at e
      · rename_i c k hfl
        split at e
        · rename_i c2 ws hD
          obtain ⟨hb, e1q⟩ := ab_cb e
          clear e
          have e := e1q
          clear e1q
          rw [Bool.and_eq_true] at hb
          have := Nat.eq_of_beq_eq_true hb.1
          subst this
          obtain ⟨w, C, rfl, g1, g2⟩ := ab_st_cons hs
          obtain rfl := ab_v_ref g1
          obtain ⟨fs, f1, f2, f3, f4⟩ := ab_hok_obj hh hD hb.2
          have hgo : ∀ v, fs[k]? = some v → am_s3 S c0 (.getfield idx) h pc (.ref a :: C) = some (pc + 3, v :: C) := by
            intro v hv
            show (match am_fld c0 idx with
              | some f => match am_obj h a f.1 with
                | some fs => match fs[f.2]? with
                  | some v => some (pc + 3, v :: C)
                  | none => none
                | none => none
              | none => none) = _
            simp only [hfl, f2, hv]
          have hc := ab_cell_obj (k := k) f1
          split at e
          · rename_i v hv
            cases e
            obtain ⟨w, k1, k2⟩ := ab_find_ok hN (ab_ev_k ro (k : Int)) o v ho hv
            rw [hc] at k1
            exact ab_S3.one hN ho g2 k2 (hgo w k1)
          · have hk : ∀ q, ws[k]? = some q → ∃ v, fs[k]? = some v ∧ ab_w q v := fun q hq => by
              have hl : k < fs.length := by rw [f3]; exact (List.getElem?_eq_some_iff.mp hq).1
              exact ⟨fs[k], List.getElem?_eq_getElem hl, f4 k q _ hq (List.getElem?_eq_getElem hl)⟩
            split at e
            · rename_i lo hi hw
              cases e
              obtain ⟨v, v1, v2⟩ := hk _ hw
              cases v with
              | int x =>
                refine ⟨_, List.mem_singleton.mpr rfl, [x.toInt], _, hgo _ v1, ⟨ab_ev_new hN _, ab_st_mono _ _ g2⟩, ab_ov_cons (ab_ov_mono ho) ⟨(k : Int), .int x, ab_ev_k _ _, by rw [hc]; exact v1, ab_ev_new hN x.toInt⟩, ab_env_push hN ⟨v2.1, v2.2, ?_⟩⟩
                show x.toInt % 512 ≤ 511
                omega
              | _ => exact v2.elim
            · rename_i hw
              cases e
              obtain ⟨v, v1, v2⟩ := hk _ hw
              cases v with
              | long x =>
                have hx : ab_v (ro ++ [x.toInt]) (.inr (.inl (some (ab_var N.length)))) (.long x) := fun t ht => by
                  cases ht
                  exact ab_ev_new hN x.toInt
                have hb1 := Int64.le_toInt x
                have hb2 := Int64.toInt_lt x
                refine ⟨_, List.mem_singleton.mpr rfl, [x.toInt], _, hgo _ v1, ⟨hx, ab_st_mono _ _ g2⟩, ab_ov_cons (ab_ov_mono ho) ⟨(k : Int), .long x, ab_ev_k _ _, by rw [hc]; exact v1, hx⟩, ab_env_push hN ⟨?_, ?_, ?_⟩⟩
                · show -9223372036854775808 ≤ x.toInt
                  omega
                · show x.toInt ≤ 9223372036854775807
                  omega
                · show x.toInt % 512 ≤ 511
                  omega
              | _ => exact v2.elim
            · rename_i bs hw
              cases e
              obtain ⟨v, v1, v2⟩ := hk _ hw
              cases v with
              | ref b =>
                refine ⟨_, List.mem_map.mpr ⟨b, v2, rfl⟩, [], _, hgo _ v1, ?_, ?_, ?_⟩
                · rw [List.append_nil]; exact ⟨rfl, g2⟩
                · rw [List.append_nil]; exact ab_ov_cons ho ⟨(k : Int), .ref b, ab_ev_k _ _, by rw [hc]; exact v1, rfl⟩
                · rw [List.append_nil]; exact hN
              | _ => exact v2.elim
            · cases e
        · cases e
      · cases e
    · cases e
  case iaload =>
    obtain ⟨⟨q, q1, ro2, st2, q2, q3⟩, -⟩ := ab_al_ok rfl hh hN hF ho hs e
    refine ⟨q, q1, ro2, st2, ?_, q3⟩
    show am_or (am_ald h pc stc 1) _ = _
    rw [q2]
    rfl
  case baload =>
    unfold ab_s3 at e
    simp only at e
    split at e
    · rename_i l2 hl2
      cases e
      obtain ⟨⟨q, q1, ro2, st2, q2, q3⟩, -⟩ := ab_al_ok rfl hh hN hF ho hs hl2
      refine ⟨q, q1, ro2, st2, ?_, q3⟩
      show am_or (am_ald h pc stc 0) _ = _
      rw [q2]
      rfl
    · obtain ⟨⟨q, q1, ro2, st2, q2, q3⟩, i, a, r, rfl, n, f, hf⟩ := ab_al_ok rfl hh hN hF ho hs e
      refine ⟨q, q1, ro2, st2, ?_, q3⟩
      have h0 : am_ald h pc (.int i :: .ref a :: r) 0 = none := by
        unfold am_ald am_ari
        simp only [hf]
        cases Nat.blt a 1000000 <;> rfl
      show am_or (am_ald h pc (.int i :: .ref a :: r) 0) (am_ald h pc (.int i :: .ref a :: r) 4) = _
      rw [h0, q2]
      rfl
  case saload =>
    obtain ⟨h1, -⟩ := ab_al_ok (ty := 3) rfl hh hN hF ho hs e
    exact h1
  case laload =>
    unfold ab_s3 at e
    simp only at e
    split at e
    · rename_i t a r
      split at e
      · rename_i t2 n lo hi m hD
        obtain ⟨hb, e1q⟩ := ab_cb e
        clear e
        have e := e1q
        clear e1q
        cases e
        simp only [Bool.and_eq_true] at hb
        obtain ⟨⟨b1, b2⟩, b3⟩ := hb
        have := Nat.eq_of_beq_eq_true b1
        subst this
        obtain ⟨w, C, rfl, g1, g2⟩ := ab_st_cons hs
        obtain ⟨w2, C2, rfl, g3, g4⟩ := ab_st_cons g2
        obtain ⟨i, rfl, gi⟩ := ab_v_int g1
        obtain rfl := ab_v_ref g3
        obtain ⟨f, f1, f2⟩ := ab_hok_arl hh hD b2
        obtain ⟨r1, r2⟩ := ab_rng_ok hN hF gi b3
        obtain ⟨x1, x2, x3⟩ := ab_inx r1 r2
        refine ab_S3.one (w := .long (f i.toNatClampNeg)) hN ho g4 ab_v_l0 ?_
        show am_lld h pc (.int i :: .ref a :: C2) 2 = _
        unfold am_lld
        simp only [f2, x1, cond_true]
      · cases e
    · cases e
  case arraylength =>
    unfold ab_s3 at e
    simp only at e
    split at e
    · rename_i a r
      split at e
      · rename_i t2 n lo hi m hD
        obtain ⟨hb, e1q⟩ := ab_cb e
        clear e
        have e := e1q
        clear e1q
        cases e
        simp only [Bool.and_eq_true] at hb
        obtain ⟨⟨b1, b2⟩, b3⟩ := hb
        obtain ⟨w, C, rfl, g1, g2⟩ := ab_st_cons hs
        obtain rfl := ab_v_ref g1
        have hn : n < 2147483648 := by simpa [Nat.blt_eq] using b3
        have hv : (Int32.ofNat n).toInt = (n : Int) := by
          rw [Int32.toInt_ofNat', show Int32.size = 4294967296 from rfl, Int.bmod_def]
          split <;> omega
        have hx : ∃ y, h[a]? = some (.inl (t2, n, y)) := by
          obtain ⟨q, h1, h3⟩ := ab_hok_get hh hD
          rcases h3 with ⟨-, f, rfl, -⟩ | ⟨h5, f, rfl⟩
          · exact ⟨_, h1⟩
          · subst h5
            exact ⟨_, h1⟩
        obtain ⟨y, hy⟩ := hx
        refine ab_S3.one (w := .int (Int32.ofNat n)) hN ho g2 (by show ab_ev ro _ = _; rw [hv]; exact ab_ev_k _ _) ?_
        show (bif Nat.beq c0 13 && Nat.beq a 1000000 then some (pc + 1, Value.int (Int32.ofNat S.1) :: C) else (bif Nat.blt a 1000000 then (match h[a]? with
          | some (.inl x) => bif Nat.blt x.1 5 then some (pc + 1, Value.int (Int32.ofNat x.2.1) :: C) else none
          | _ => none) else none)) = _
        rw [h13, b2, hy]
        simp only [Bool.false_and, cond_false, cond_true, b1]
      · cases e
    · cases e
  case ldc idx =>
    unfold ab_s3 at e
    simp only at e
    split at e
    · rename_i v hv
      cases e
      refine ab_S3.one (w := .int v) hN ho hs (ab_ev_k _ _) ?_
      show (match am_kst c0 idx with
        | some (.int v) => some (pc + 2, Value.int v :: stc)
        | some _ => none
        | none => bif Nat.beq c0 5 && Nat.beq idx 26 then some (pc + 2, Value.ref 1000001 :: stc) else none) = _
      rw [hv]
    · cases e
  case ldc_w idx =>
    unfold ab_s3 at e
    simp only at e
    split at e
    · rename_i v hv
      cases e
      refine ab_S3.one (w := .int v) hN ho hs (ab_ev_k _ _) ?_
      show (match am_kst c0 idx with
        | some (.int v) => some (pc + 3, Value.int v :: stc)
        | _ => none) = _
      rw [hv]
    · cases e
  case ldc2_w idx =>
    unfold ab_s3 at e
    simp only at e
    split at e
    · rename_i v hv
      cases e
      refine ab_S3.one (w := .long v) hN ho hs ab_v_l0 ?_
      show (match am_kst c0 idx with
        | some (.long v) => some (pc + 3, Value.long v :: stc)
        | _ => none) = _
      rw [hv]
    · cases e
  all_goals cases e
end AB3
/-! ===== bounds: writing cells ===== -/
abbrev ab_Mo : Type := List (Nat × Nat)
/-- what a method may write: (place, 0) an array, (place, k + 1) a field -/
def ab_md (mo : ab_Mo) (a k : Nat) : Bool := mo.any (fun q => match q with
  | (b, j) => Nat.beq b a && Nat.beq j k)
theorem ab_md_in {mo : ab_Mo} {a k : Nat} (h : ab_md mo a k = true) : (a, k) ∈ mo := by
  obtain ⟨q, h1, h2⟩ := List.any_eq_true.mp h
  obtain ⟨b, j⟩ := q
  rw [Bool.and_eq_true] at h2
  rw [← Nat.eq_of_beq_eq_true h2.1, ← Nat.eq_of_beq_eq_true h2.2]
  exact h1
def ab_fr (mo : ab_Mo) (h h2 : am_H) : Prop := (∀ a, (∀ k, (a, k) ∉ mo) → h2[a]? = h[a]?) ∧ ∀ (a k c : Nat) (fs : List Value), (a, k + 1) ∉ mo → h[a]? = some (.inr (c, fs)) → ∃ fs2, h2[a]? = some (.inr (c, fs2)) ∧ fs2[k]? = fs[k]?
theorem ab_fr.rf {mo : ab_Mo} {h : am_H} : ab_fr mo h h := ⟨fun _ _ => rfl, fun _ _ _ fs _ e => ⟨fs, e, rfl⟩⟩
theorem ab_fr.tr {mo : ab_Mo} {h h2 h3 : am_H} (x : ab_fr mo h h2) (y : ab_fr mo h2 h3) : ab_fr mo h h3 := ⟨fun a ha => (y.1 a ha).trans (x.1 a ha), fun a k c fs hm e => by
  obtain ⟨fs2, e2, g2⟩ := x.2 a k c fs hm e
  obtain ⟨fs3, e3, g3⟩ := y.2 a k c fs2 hm e2
  exact ⟨fs3, e3, g3.trans g2⟩⟩
theorem ab_fr.le {mo mo2 : ab_Mo} (hm : ∀ q ∈ mo, q ∈ mo2) {h h2 : am_H} (x : ab_fr mo h h2) : ab_fr mo2 h h2 := ⟨fun a ha => x.1 a (fun k hk => ha k (hm _ hk)), fun a k c fs hk e => x.2 a k c fs (fun hq => hk (hm _ hq)) e⟩
def ab_dropF (a : Nat) (k : Int) (o : ab_O) : ab_O := o.filter (fun q => match q with
  | (b, t, _) => !Nat.beq b a || (match t with
    | (j, []) => !decide (j = k) && decide (0 ≤ j)
    | _ => false))
def ab_dropA (N : ab_N) (a : Nat) (t : ab_T) (o : ab_O) : ab_O := o.filter (fun q => match q with
  | (b, u, _) => !Nat.beq b a || (ab_nn N (ab_add (ab_sub t u) (-1, [])) || ab_nn N (ab_add (ab_sub u t) (-1, []))))
def ab_fitw (N : ab_N) (F : List ab_T) (ty : FieldType) (w : ab_W) (v : ab_V) : Bool := match w, v with
  | .inl (lo, hi), .inl t => ab_rng N F t lo hi && (match ty with
    | .int => true
    | .boolean => decide (0 ≤ lo) && decide (hi ≤ 1)
    | _ => false)
  | .inr (.inl _), .inr (.inl _) => match ty with
    | .long => true
    | _ => false
  | .inr (.inr l), .inr (.inr b) => l.contains b && (match ty with
    | .object _ => true
    | .array _ => true
    | _ => false)
  | _, _ => false
theorem ab_bool {x : Int32} (h1 : 0 ≤ x.toInt) (h2 : x.toInt ≤ 1) : x = 0 ∨ x = 1 := by
  have h : x.toInt = 0 ∨ x.toInt = 1 := by omega
  rcases h with h | h
  · exact Or.inl (Int32.toInt_inj.mp h)
  · exact Or.inr (Int32.toInt_inj.mp h)
theorem ab_fitw_ok {ro : List Int} {N : ab_N} {F : List ab_T} (hN : ab_env ro N) (hF : ab_F ro F) {ty : FieldType} {w : ab_W} {v : ab_V} {x : Value} (hv : ab_v ro v x) (h : ab_fitw N F ty w v = true) : am_fit ty x = true ∧ ab_w w x := by
  unfold ab_fitw at h
  split at h
  · rename_i lo hi t
    rw [Bool.and_eq_true] at h
    obtain ⟨y, rfl, hy⟩ := ab_v_int hv
    obtain ⟨r1, r2⟩ := ab_rng_ok hN hF hy h.1
    refine ⟨?_, r1, r2⟩
    have h2 := h.2
    split at h2
    · rfl
    · rw [Bool.and_eq_true] at h2
      have a1 := of_decide_eq_true h2.1
      have a2 := of_decide_eq_true h2.2
      rcases ab_bool (x := y) (by omega) (by omega) with rfl | rfl
      · decide
      · decide
    · cases h2
  · obtain ⟨y, rfl⟩ := ab_v_long hv
    split at h
    · exact ⟨rfl, trivial⟩
    · cases h
  · rename_i l b
    rw [Bool.and_eq_true] at h
    obtain rfl := ab_v_ref hv
    refine ⟨?_, List.contains_iff_mem.mp h.1⟩
    have h2 := h.2
    split at h2
    · rfl
    · rfl
    · cases h2
  · cases h
def ab_st4 (D : List ab_D) (mo : ab_Mo) (ty : Nat) (nlo nhi : Int) (pc : Nat) (st : List ab_V) (o : ab_O) (N : ab_N) (F : List ab_T) : Option (Nat × List ab_V × ab_O) := match st with
  | .inl v :: .inl t :: .inr (.inr a) :: r => match D[a]? with
    | some (.inl (t2, n, lo, hi, m)) => bif Nat.beq t2 ty && Nat.blt a 1000000 && ab_rng N F t 0 ((n : Int) - 1) && ab_rng N F v lo hi && ab_rng N F v nlo nhi && decide (ab_m N v ≤ m) && ab_md mo a 0 then some (pc + 1, r, (a, t, .inl v) :: ab_dropA N a t o) else none
    | _ => none
  | _ => none
/-- as am_s4 -/
def ab_s4 (D : List ab_D) (mo : ab_Mo) (c0 : Nat) (i : am_I) (pc : Nat) (st : List ab_V) (o : ab_O) (N : ab_N) (F : List ab_T) : Option (Nat × List ab_V × ab_O) := match i with
  | .putfield idx => match st with
    | v :: .inr (.inr a) :: r => match am_fld c0 idx with
      | some (c, k) => match D[a]? with
        | some (.inr (c2, ws)) => match ws[k]? with
          | some w => bif Nat.beq c2 c && Nat.blt a 1000000 && Nat.blt k (am_NN c) && ab_fitw N F (am_ty c k) w v && !(am_TT c k).2.2.2 && ab_md mo a (k + 1) then some (pc + 3, r, (a, ((k : Int), []), v) :: ab_dropF a (k : Int) o) else none
          | none => none
        | _ => none
      | none => none
    | _ => none
  | .iastore => ab_st4 D mo 1 (-2147483648) 2147483647 pc st o N F
  | .bastore => match ab_st4 D mo 0 (-128) 127 pc st o N F with
    | some q => some q
    | none => ab_st4 D mo 4 0 1 pc st o N F
  | .sastore => ab_st4 D mo 3 (-32768) 32767 pc st o N F
  | .lastore => match st with
    | .inr (.inl _) :: .inl t :: .inr (.inr a) :: r => match D[a]? with
      | some (.inl (t2, n, _, _, _)) => bif Nat.beq t2 2 && Nat.blt a 1000000 && ab_rng N F t 0 ((n : Int) - 1) && ab_md mo a 0 then some (pc + 1, r, ab_dropA N a t o) else none
      | _ => none
    | _ => none
  | _ => none
def ab_S4 (ro : List Int) (D : List ab_D) (mo : ab_Mo) (h : am_H) (e : Option (Nat × List Value × am_H)) (q : Nat × List ab_V × ab_O) : Prop := ∃ st2 h2, e = some (q.1, st2, h2) ∧ ab_st ro q.2.1 st2 ∧ ab_ov ro h2 q.2.2 ∧ ab_hok D h2 ∧ ab_fr mo h h2
