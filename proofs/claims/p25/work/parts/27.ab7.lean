/-! ===== bounds: what holds at a place of the code, and whether a state is of that kind ===== -/
abbrev ab_Hm : Type := Nat ⊕ (Nat × ab_T)
/-- locals, cells, unknowns, facts, where each unknown is found, fields to be read first -/
abbrev ab_P : Type := List (Option ab_V) × ab_O × ab_N × List ab_T × List ab_Hm × List (Nat × Nat)
def ab_sbl (s : List ab_T) : ab_L → Option ab_T
  | [] => some (0, [])
  | (x, c) :: r => match s[x]? with
    | some u => match ab_sbl s r with
      | some v => some (ab_add (ab_scl c u) v)
      | none => none
    | none => none
def ab_sb (s : List ab_T) (t : ab_T) : Option ab_T := match t with
  | (k, l) => match ab_sbl s l with
    | some v => some (ab_add (k, []) v)
    | none => none
def ab_sbv (s : List ab_T) (v : ab_V) : Option ab_V := match v with
  | .inl t => match ab_sb s t with
    | some u => some (.inl u)
    | none => none
  | .inr (.inl none) => some (.inr (.inl none))
  | .inr (.inl (some _)) => none
  | .inr (.inr a) => some (.inr (.inr a))
/-- the unknowns of the place stand for sums of the state -/
def ab_sg (ro rT : List Int) (s : List ab_T) : Prop := rT.length = s.length ∧ ∀ (y : Nat) (u : ab_T), s[y]? = some u → ∃ z, rT[y]? = some z ∧ ab_ev ro u = some z
theorem ab_sbl_ok {ro rT : List Int} {s : List ab_T} (hs : ab_sg ro rT s) : ∀ (l : ab_L) (u : ab_T), ab_sbl s l = some u → ∃ z, ab_evl rT l = some z ∧ ab_ev ro u = some z := by
  intro l
  induction l with
  | nil =>
    intro u h
    cases h
    exact ⟨0, rfl, ab_ev_k ro 0⟩
  | cons q r ih =>
    intro u h
    obtain ⟨x, c⟩ := q
    unfold ab_sbl at h
    split at h
    · rename_i w hw
      split at h
      · rename_i v hv
        cases h
        obtain ⟨z, h1, h2⟩ := hs.2 x w hw
        obtain ⟨z2, h3, h4⟩ := ih v hv
        exact ⟨c * z + z2, ab_evl_of h1 h3, ab_add_ok (ab_scl_ok h2) h4⟩
      · cases h
    · cases h
theorem ab_sb_ok {ro rT : List Int} {s : List ab_T} (hs : ab_sg ro rT s) {t u : ab_T} (h : ab_sb s t = some u) : ∃ z, ab_ev rT t = some z ∧ ab_ev ro u = some z := by
  obtain ⟨k, l⟩ := t
  unfold ab_sb at h
  simp only at h
  split at h
  · rename_i v hv
    cases h
    obtain ⟨z, h1, h2⟩ := ab_sbl_ok hs l v hv
    exact ⟨k + z, ab_ev_of (t := (k, l)) h1, ab_add_ok (ab_ev_k ro k) h2⟩
  · cases h
theorem ab_sbv_to {ro rT : List Int} {s : List ab_T} (hs : ab_sg ro rT s) {v u : ab_V} {w : Value} (h : ab_sbv s v = some u) (hw : ab_v rT v w) : ab_v ro u w := by
  match v, h, hw with
  | .inl t, h, hw =>
    unfold ab_sbv at h
    simp only at h
    split at h
    · rename_i u2 hu
      cases h
      obtain ⟨z, h1, h2⟩ := ab_sb_ok hs hu
      obtain ⟨x, rfl, hx⟩ := ab_v_int hw
      rw [h1] at hx
      cases hx
      exact h2
    · cases h
  | .inr (.inl none), h, hw => cases h; obtain ⟨y, rfl⟩ := ab_v_long hw; exact ab_v_l0
  | .inr (.inl (some _)), h, hw => cases h
  | .inr (.inr x), h, hw => cases h; obtain rfl := ab_v_ref hw; rfl
def ab_eqv (N : ab_N) (F : List ab_T) (v u : ab_V) : Bool := match v, u with
  | .inl t, .inl t2 => ab_eqt N F t t2
  | .inr (.inl _), .inr (.inl _) => true
  | .inr (.inr a), .inr (.inr b) => Nat.beq a b
  | _, _ => false
/-- the place's word of a value is right -/
theorem ab_sbv_of {ro rT : List Int} {N : ab_N} {F : List ab_T} (hN : ab_env ro N) (hF : ab_F ro F) {s : List ab_T} (hs : ab_sg ro rT s) {vT u v : ab_V} {w : Value} (h : ab_sbv s vT = some u) (hq : ab_eqv N F v u = true) (hw : ab_v ro v w) : ab_v rT vT w := by
  match vT, h with
  | .inl t, h =>
    unfold ab_sbv at h
    simp only at h
    split at h
    · rename_i u2 hu
      cases h
      obtain ⟨z, h1, h2⟩ := ab_sb_ok hs hu
      match v, hq, hw with
      | .inl t2, hq, hw =>
        obtain ⟨x, rfl, hx⟩ := ab_v_int hw
        have := ab_eqt_ok hN hF hx h2 hq
        show ab_ev rT t = _
        rw [h1, this]
      | .inr (.inl _), hq, _ => cases hq
      | .inr (.inr _), hq, _ => cases hq
    · cases h
  | .inr (.inl (some _)), h => cases h
  | .inr (.inl none), h =>
    cases h
    match v, hq, hw with
    | .inl t2, hq, _ => cases hq
    | .inr (.inl _), _, hw => obtain ⟨y, rfl⟩ := ab_v_long hw; exact ab_v_l0
    | .inr (.inr _), hq, _ => cases hq
  | .inr (.inr x), h =>
    cases h
    match v, hq, hw with
    | .inl t2, hq, _ => cases hq
    | .inr (.inl _), hq, _ => cases hq
    | .inr (.inr b), hq, hw =>
      obtain rfl := ab_v_ref hw
      exact (Nat.eq_of_beq_eq_true hq).symm
def ab_sig (N : ab_N) (lv : List (Option ab_V)) (o : ab_O) : List ab_Hm → List ab_T → Option (List ab_T)
  | [], acc => some acc
  | .inl i :: r, acc => match lv[i]? with
    | some (some (.inl t)) => ab_sig N lv o r (acc ++ [t])
    | _ => none
  | .inr (a, k) :: r, acc => match ab_sb acc k with
    | some k2 => match ab_find N a k2 o with
      | some (.inl t) => ab_sig N lv o r (acc ++ [t])
      | _ => none
    | none => none
theorem ab_sig_pre {N : ab_N} {lv : List (Option ab_V)} {o : ab_O} : ∀ (hm : List ab_Hm) (acc s : List ab_T), ab_sig N lv o hm acc = some s → ∃ s2, s = acc ++ s2 := by
  intro hm
  induction hm with
  | nil => intro acc s h; cases h; exact ⟨[], (List.append_nil _).symm⟩
  | cons q r ih =>
    intro acc s h
    cases q with
    | inl i =>
      unfold ab_sig at h
      split at h
      · rename_i t _
        obtain ⟨s2, rfl⟩ := ih _ _ h
        exact ⟨[t] ++ s2, by rw [List.append_assoc]⟩
      · cases h
    | inr q =>
      obtain ⟨a, k⟩ := q
      unfold ab_sig at h
      split at h
      · split at h
        · rename_i t _
          obtain ⟨s2, rfl⟩ := ih _ _ h
          exact ⟨[t] ++ s2, by rw [List.append_assoc]⟩
        · cases h
      · cases h
def ab_sc (n : Nat) (t : ab_T) : Bool := t.2.all (fun q => Nat.blt q.1 n)
theorem ab_sc_l {ro : List Int} : ∀ (l : ab_L), (l.all (fun q => Nat.blt q.1 ro.length)) = true → ∃ z, ab_evl ro l = some z := by
  intro l
  induction l with
  | nil => intro _; exact ⟨0, rfl⟩
  | cons q r ih =>
    intro h
    rw [List.all_cons, Bool.and_eq_true] at h
    obtain ⟨z, hz⟩ := ih h.2
    obtain ⟨x, c⟩ := q
    have hx : x < ro.length := by simpa [Nat.blt_eq] using h.1
    exact ⟨_, ab_evl_of (List.getElem?_eq_getElem hx) hz⟩
theorem ab_sc_ok {ro : List Int} {t : ab_T} (h : ab_sc ro.length t = true) : ∃ z, ab_ev ro t = some z := by
  obtain ⟨z, hz⟩ := ab_sc_l t.2 h
  exact ⟨_, ab_ev_of hz⟩
def ab_val (ro : List Int) (s : List ab_T) : List Int := s.map (fun u => (ab_ev ro u).getD 0)
theorem ab_val_sg {ro : List Int} {s : List ab_T} (h : s.all (ab_sc ro.length) = true) : ab_sg ro (ab_val ro s) s := by
  refine ⟨by unfold ab_val; rw [List.length_map], fun y u hu => ?_⟩
  obtain ⟨z, hz⟩ := ab_sc_ok (List.all_eq_true.mp h u (List.mem_of_getElem? hu))
  refine ⟨z, ?_, hz⟩
  unfold ab_val
  rw [List.getElem?_map, hu]
  simp [hz]
def ab_lvm (N : ab_N) (F : List ab_T) (s : List ab_T) : List (Option ab_V) → List (Option ab_V) → Bool
  | [], [] => true
  | none :: A, _ :: B => ab_lvm N F s A B
  | some vT :: A, some v :: B => (match ab_sbv s vT with
    | some u => ab_eqv N F v u
    | none => false) && ab_lvm N F s A B
  | _, _ => false
theorem ab_lvm_ok {ro rT : List Int} {N : ab_N} {F : List ab_T} (hN : ab_env ro N) (hF : ab_F ro F) {s : List ab_T} (hs : ab_sg ro rT s) : ∀ (A B : List (Option ab_V)) (C : List (Option Value)), ab_lvm N F s A B = true → ab_lv ro B C → ab_lv rT A C := by
  intro A
  induction A with
  | nil =>
    intro B C h hl
    cases B with
    | nil => exact ⟨hl.1, fun i v hv => by simp at hv⟩
    | cons b B => cases h
  | cons a A ih =>
    intro B C h hl
    cases B with
    | nil => cases a <;> cases h
    | cons b B =>
      cases C with
      | nil => have := hl.1; simp at this
      | cons c C =>
        have hl2 : ab_lv ro B C := ⟨by have := hl.1; simpa using this, fun i v hv => hl.2 (i + 1) v hv⟩
        cases a with
        | none =>
          have h2 := ih B C h hl2
          refine ⟨by simp [h2.1], fun i v hv => ?_⟩
          cases i with
          | zero => cases hv
          | succ i => exact h2.2 i v hv
        | some vT =>
          cases b with
          | none => cases h
          | some v =>
            have h3 : ((match ab_sbv s vT with
              | some u => ab_eqv N F v u
              | none => false) && ab_lvm N F s A B) = true := h
            rw [Bool.and_eq_true] at h3
            have h2 := ih B C h3.2 hl2
            refine ⟨by simp [h2.1], fun i v2 hv => ?_⟩
            cases i with
            | zero =>
              cases hv
              obtain ⟨w, w1, w2⟩ := hl.2 0 v rfl
              refine ⟨w, w1, ?_⟩
              have h4 := h3.1
              split at h4
              · rename_i u hu
                exact ab_sbv_of hN hF hs hu h4 w2
              · cases h4
            | succ i => exact h2.2 i v2 hv
def ab_om (N : ab_N) (F : List ab_T) (s : List ab_T) (o oT : ab_O) : Bool := oT.all (fun q => match q with
  | (a, k, v) => match ab_sb s k with
    | some k2 => match ab_sbv s v with
      | some v2 => match ab_find N a k2 o with
        | some v3 => ab_eqv N F v3 v2
        | none => false
      | none => false
    | none => false)
theorem ab_om_ok {ro rT : List Int} {N : ab_N} {F : List ab_T} (hN : ab_env ro N) (hF : ab_F ro F) {s : List ab_T} (hs : ab_sg ro rT s) {o oT : ab_O} {h : am_H} (ho : ab_ov ro h o) (e : ab_om N F s o oT = true) : ab_ov rT h oT := fun q hq => by
  have h1 := List.all_eq_true.mp e q hq
  obtain ⟨a, k, v⟩ := q
  simp only at h1
  split at h1
  · rename_i k2 hk2
    split at h1
    · rename_i v2 hv2
      split at h1
      · rename_i v3 hv3
        obtain ⟨j, j1, j2⟩ := ab_sb_ok hs hk2
        obtain ⟨w, w1, w2⟩ := ab_find_ok hN j2 o v3 ho hv3
        exact ⟨j, w, j1, w1, ab_sbv_of hN hF hs hv2 h1 w2⟩
      · cases h1
    · cases h1
  · cases h1
def ab_nm (N : ab_N) (F : List ab_T) : List ab_T → ab_N → Bool
  | [], [] => true
  | t :: s, (lo, hi, m) :: M => ab_rng N F t lo hi && decide (511 ≤ m) && ab_nm N F s M
  | _, _ => false
theorem ab_nm_ok {ro : List Int} {N : ab_N} {F : List ab_T} (hN : ab_env ro N) (hF : ab_F ro F) : ∀ (s : List ab_T) (M : ab_N) (rT : List Int), ab_nm N F s M = true → ab_sg ro rT s → ab_env rT M := by
  intro s
  induction s with
  | nil =>
    intro M rT h hs
    cases M with
    | nil =>
      have : rT = [] := List.eq_nil_of_length_eq_zero hs.1
      subst this
      exact ⟨rfl, fun x z e h1 => by simp at h1⟩
    | cons m M => cases h
  | cons t s ih =>
    intro M rT h hs
    cases M with
    | nil => cases h
    | cons e M =>
      obtain ⟨lo, hi, m⟩ := e
      have h3 : (ab_rng N F t lo hi && decide (511 ≤ m) && ab_nm N F s M) = true := h
      simp only [Bool.and_eq_true] at h3
      obtain ⟨⟨a1, a2⟩, a3⟩ := h3
      cases rT with
      | nil => have := hs.1; simp at this
      | cons z rT =>
        have hs2 : ab_sg ro rT s := ⟨by have := hs.1; simpa using this, fun y u hu => hs.2 (y + 1) u hu⟩
        have h2 := ih M rT a3 hs2
        refine ⟨by simp [h2.1], fun x y e h4 h5 => ?_⟩
        cases x with
        | zero =>
          cases h4
          cases h5
          obtain ⟨z2, z1, z3⟩ := hs.2 0 t rfl
          cases z1
          obtain ⟨r1, r2⟩ := ab_rng_ok hN hF z3 a1
          have := of_decide_eq_true a2
          refine ⟨r1, r2, ?_⟩
          simp only
          omega
        | succ x => exact h2.2 x y e h4 h5
/-- by several facts together -/
def ab_shr (f t : ab_L) : Bool := f.any (fun q => match q with
  | (x, c) => t.any (fun p => match p with
    | (y, d) => Nat.beq x y && decide (c = d)))
def ab_gen (N : ab_N) (F : List ab_T) : Nat → ab_T → Bool
  | 0, t => ab_ge N F t
  | n + 1, t => ab_ge N F t || F.any (fun f => ab_shr f.2 t.2 && ab_gen N F n (ab_sub t f))
theorem ab_gen_ok {ro : List Int} {N : ab_N} {F : List ab_T} (hN : ab_env ro N) (hF : ab_F ro F) : ∀ (n : Nat) (t : ab_T) (z : Int), ab_ev ro t = some z → ab_gen N F n t = true → 0 ≤ z := by
  intro n
  induction n with
  | zero => intro t z h1 h2; exact ab_ge_ok hN hF h1 h2
  | succ n ih =>
    intro t z h1 h2
    unfold ab_gen at h2
    rcases Bool.or_eq_true_iff.mp h2 with h | h
    · exact ab_ge_ok hN hF h1 h
    · obtain ⟨f, hf, h3⟩ := List.any_eq_true.mp h
      rw [Bool.and_eq_true] at h3
      obtain ⟨y, e1, e2⟩ := hF f hf
      have := ih _ _ (ab_sub_ok h1 e1) h3.2
      omega
def ab_fm (N : ab_N) (F : List ab_T) (s : List ab_T) (FT : List ab_T) : Bool := FT.all (fun f => match ab_sb s f with
  | some u => ab_gen N F 5 u
  | none => false)
theorem ab_fm_ok {ro rT : List Int} {N : ab_N} {F : List ab_T} (hN : ab_env ro N) (hF : ab_F ro F) {s : List ab_T} (hs : ab_sg ro rT s) {FT : List ab_T} (h : ab_fm N F s FT = true) : ab_F rT FT := fun f hf => by
  have h1 := List.all_eq_true.mp h f hf
  split at h1
  · rename_i u hu
    obtain ⟨z, z1, z2⟩ := ab_sb_ok hs hu
    exact ⟨z, z1, ab_gen_ok hN hF 5 _ _ z2 h1⟩
  · cases h1
/-- what holds at a place -/
def ab_at (rT : List Int) (P : ab_P) (C : List (Option Value)) (h : am_H) : Prop := ab_lv rT P.1 C ∧ ab_ov rT h P.2.1 ∧ ab_env rT P.2.2.1 ∧ ab_F rT P.2.2.2.1
def ab_mt (N : ab_N) (F : List ab_T) (lv : List (Option ab_V)) (o : ab_O) (acc : List ab_T) (P : ab_P) : Option (List ab_T) := match P with
  | (lvT, oT, NT, FT, hm, _) => match ab_sig N lv o hm acc with
    | some s => bif s.all (ab_sc N.length) && ab_lvm N F s lvT lv && ab_om N F s o oT && ab_nm N F s NT && ab_fm N F s FT then some s else none
    | none => none
theorem ab_mt_ok {ro : List Int} {N : ab_N} {F : List ab_T} (hN : ab_env ro N) (hF : ab_F ro F) {lv : List (Option ab_V)} {C : List (Option Value)} (hl : ab_lv ro lv C) {o : ab_O} {h : am_H} (ho : ab_ov ro h o) {acc s : List ab_T} {P : ab_P} (e : ab_mt N F lv o acc P = some s) : ab_sg ro (ab_val ro s) s ∧ ab_at (ab_val ro s) P C h ∧ ∃ s2, s = acc ++ s2 := by
  obtain ⟨lvT, oT, NT, FT, hm, mk⟩ := P
  unfold ab_mt at e
  simp only at e
  split at e
  · rename_i s1 hs1
    obtain ⟨hb, e1q⟩ := ab_cb e
    clear e
    have e := e1q
    clear e1q
    cases e
    simp only [Bool.and_eq_true] at hb
    obtain ⟨⟨⟨⟨b1, b2⟩, b3⟩, b4⟩, b5⟩ := hb
    rw [← hN.1] at b1
    have hs := ab_val_sg b1
    exact ⟨hs, ⟨ab_lvm_ok hN hF hs _ _ _ b2 hl, ab_om_ok hN hF hs ho b3, ab_nm_ok hN hF _ _ _ b4 hs, ab_fm_ok hN hF hs b5⟩, ab_sig_pre hm acc s hs1⟩
  · cases e
/-- fields that are read first -/
def ab_mat (D : List ab_D) : List (Nat × Nat) → ab_O → ab_N → ab_O × ab_N
  | [], o, N => (o, N)
  | (a, k) :: r, o, N => match ab_find N a ((k : Int), []) o with
    | some _ => ab_mat D r o N
    | none => match D[a]? with
      | some (.inr (_, ws)) => match ws[k]? with
        | some (.inl (lo, hi)) => ab_mat D r ((a, ((k : Int), []), .inl (ab_var N.length)) :: o) (N ++ [(lo, hi, 511)])
        | _ => ab_mat D r o N
      | _ => ab_mat D r o N
theorem ab_mat_ok {D : List ab_D} {h : am_H} (hh : ab_hok D h) : ∀ (l : List (Nat × Nat)) (o : ab_O) (N : ab_N) (ro : List Int), ab_env ro N → ab_ov ro h o → ∃ ro2, ab_env (ro ++ ro2) (ab_mat D l o N).2 ∧ ab_ov (ro ++ ro2) h (ab_mat D l o N).1 := by
  intro l
  induction l with
  | nil => intro o N ro hN ho; exact ⟨[], by rw [List.append_nil]; exact hN, by rw [List.append_nil]; exact ho⟩
  | cons q r ih =>
    intro o N ro hN ho
    obtain ⟨a, k⟩ := q
    unfold ab_mat
    split
    · exact ih o N ro hN ho
    · split
      · rename_i c ws hD
        split
        · rename_i lo hi hw
          obtain ⟨e, h1, h2⟩ := ab_hok_get hh hD
          obtain ⟨fs, rfl, h3, h4⟩ := h2
          have hl : k < fs.length := by rw [h3]; exact (List.getElem?_eq_some_iff.mp hw).1
          have hv := List.getElem?_eq_getElem hl
          have hq := h4 k _ _ hw hv
          cases hx : fs[k] with
          | int x =>
            rw [hx] at hq hv
            have hn : ab_env (ro ++ [x.toInt]) (N ++ [(lo, hi, 511)]) := ab_env_push hN ⟨hq.1, hq.2, by show x.toInt % 512 ≤ 511; omega⟩
            obtain ⟨ro2, g1, g2⟩ := ih ((a, ((k : Int), []), .inl (ab_var N.length)) :: o) _ _ hn (ab_ov_cons (ab_ov_mono ho) ⟨(k : Int), .int x, ab_ev_k _ _, by rw [ab_cell_obj h1]; exact hv, ab_ev_new hN x.toInt⟩)
            exact ⟨[x.toInt] ++ ro2, by rw [← List.append_assoc]; exact g1, by rw [← List.append_assoc]; exact g2⟩
          | _ => rw [hx] at hq; exact hq.elim
        · exact ih o N ro hN ho
      · exact ih o N ro hN ho
