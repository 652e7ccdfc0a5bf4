/-! ===== bounds: calls ===== -/
/-- a method, its depth, what must hold at its entry, what it may write, its ends -/
abbrev ab_K : Type := Nat × Nat × ab_P × ab_Mo × List ab_P
abbrev ab_S : Type := Nat × List (Option ab_V) × List ab_V × ab_O × ab_N × List ab_T
def ab_kok (al : Bool) (D : List ab_D) (k : ab_K) : Prop := ∀ (ro : List Int) (as : List Value) (h : am_H) (d : Nat), k.2.1 ≤ d → ab_hok D h → ab_at ro k.2.2.1 (as.map some) h → ∃ X ∈ k.2.2.2.2, ∃ (ro2 : List Int) (r : Option Value) (h2 : am_H), am_Do al d k.1 as h (r, h2) ∧ ab_hok D h2 ∧ ab_fr k.2.2.2.1 h h2 ∧ ab_at (ro ++ ro2) X (r.toList.map some) h2
def ab_rsm (st : List ab_V) : Bool := Nat.ble ((st.map ab_cat).sum) 8
theorem ab_rsm_ok {ro : List Int} : ∀ (A : List ab_V) (C : List Value), ab_st ro A C → (C.map fun v => v.category).sum = (A.map ab_cat).sum := by
  intro A
  induction A with
  | nil => intro C h; rw [ab_st_nil h]; rfl
  | cons v A ih =>
    intro C h
    obtain ⟨w, C2, rfl, h1, h2⟩ := ab_st_cons h
    simp only [List.map_cons, List.sum_cons]
    rw [ih C2 h2, ab_cat_ok h1]
theorem ab_st_app {ro : List Int} {B : List ab_V} {E : List Value} (hb : ab_st ro B E) : ∀ (A : List ab_V) (C : List Value), ab_st ro A C → ab_st ro (A ++ B) (C ++ E) := by
  intro A
  induction A with
  | nil => intro C h; rw [ab_st_nil h]; exact hb
  | cons v A ih =>
    intro C h
    obtain ⟨w, C2, rfl, h1, h2⟩ := ab_st_cons h
    exact ⟨h1, ih C2 h2⟩
theorem ab_st_rev {ro : List Int} : ∀ (A : List ab_V) (C : List Value), ab_st ro A C → ab_st ro A.reverse C.reverse := by
  intro A
  induction A with
  | nil => intro C h; rw [ab_st_nil h]; trivial
  | cons v A ih =>
    intro C h
    obtain ⟨w, C2, rfl, h1, h2⟩ := ab_st_cons h
    rw [List.reverse_cons, List.reverse_cons]
    exact ab_st_app (B := [v]) (E := [w]) ⟨h1, trivial⟩ _ _ (ih C2 h2)
theorem ab_st_td {ro : List Int} : ∀ (n : Nat) (A : List ab_V) (C : List Value), ab_st ro A C → ab_st ro (A.take n) (C.take n) ∧ ab_st ro (A.drop n) (C.drop n) := by
  intro n
  induction n with
  | zero => intro A C h; exact ⟨trivial, h⟩
  | succ n ih =>
    intro A C h
    cases A with
    | nil => rw [ab_st_nil h]; exact ⟨trivial, trivial⟩
    | cons v A =>
      obtain ⟨w, C2, rfl, h1, h2⟩ := ab_st_cons h
      obtain ⟨g1, g2⟩ := ih A C2 h2
      exact ⟨⟨h1, g1⟩, g2⟩
theorem ab_st_len {ro : List Int} : ∀ (A : List ab_V) (C : List Value), ab_st ro A C → A.length = C.length := by
  intro A
  induction A with
  | nil => intro C h; rw [ab_st_nil h]; rfl
  | cons v A ih =>
    intro C h
    obtain ⟨w, C2, rfl, h1, h2⟩ := ab_st_cons h
    simp only [List.length_cons]
    rw [ih C2 h2]
theorem ab_st_lv {ro : List Int} : ∀ (A : List ab_V) (C : List Value), ab_st ro A C → ab_lv ro (A.map some) (C.map some) := by
  intro A
  induction A with
  | nil => intro C h; rw [ab_st_nil h]; exact ⟨rfl, fun i v hv => by simp at hv⟩
  | cons v A ih =>
    intro C h
    obtain ⟨w, C2, rfl, h1, h2⟩ := ab_st_cons h
    have h3 := ih C2 h2
    refine ⟨by simpa using h3.1, fun i u hu => ?_⟩
    cases i with
    | zero => cases hu; exact ⟨w, rfl, h1⟩
    | succ i => exact h3.2 i u hu
def ab_pop (n : Nat) (st : List ab_V) : Option (List ab_V × List ab_V) := bif Nat.ble n st.length then some ((st.take n).reverse, st.drop n) else none
theorem ab_pop_ok {ro : List Int} {n : Nat} {A : List ab_V} {C : List Value} {q : List ab_V × List ab_V} (hs : ab_st ro A C) (h : ab_pop n A = some q) : ∃ c, am_pop n C = some c ∧ ab_st ro q.1 c.1 ∧ ab_st ro q.2 c.2 := by
  unfold ab_pop at h
  obtain ⟨hb, h⟩ := ab_cb h
  cases h
  obtain ⟨g1, g2⟩ := ab_st_td n A C hs
  refine ⟨((C.take n).reverse, C.drop n), ?_, ab_st_rev _ _ g1, g2⟩
  unfold am_pop
  rw [ab_st_len A C hs] at hb
  rw [hb]
  rfl
def ab_fresh (b : Nat) : Nat → List ab_T
  | 0 => []
  | n + 1 => ab_var b :: ab_fresh (b + 1) n
theorem ab_fresh_get {n : Nat} : ∀ (b y : Nat) (u : ab_T), (ab_fresh b n)[y]? = some u → y < n ∧ u = ab_var (b + y) := by
  induction n with
  | zero => intro b y u h; simp [ab_fresh] at h
  | succ n ih =>
    intro b y u h
    cases y with
    | zero => cases h; exact ⟨Nat.succ_pos _, rfl⟩
    | succ y =>
      obtain ⟨h1, h2⟩ := ih (b + 1) y u h
      exact ⟨by omega, by rw [h2, show b + 1 + y = b + (y + 1) by omega]⟩
theorem ab_fresh_len : ∀ (n b : Nat), (ab_fresh b n).length = n := by
  intro n
  induction n with
  | zero => intro b; rfl
  | succ n ih => intro b; show (ab_fresh (b + 1) n).length + 1 = n + 1; rw [ih]
def ab_sbo (s : List ab_T) : ab_O → Option ab_O
  | [] => some []
  | (a, k, v) :: r => match ab_sb s k with
    | some k2 => match ab_sbv s v with
      | some v2 => match ab_sbo s r with
        | some r2 => some ((a, k2, v2) :: r2)
        | none => none
      | none => none
    | none => none
def ab_sbf (s : List ab_T) : List ab_T → Option (List ab_T)
  | [] => some []
  | f :: r => match ab_sb s f with
    | some f2 => match ab_sbf s r with
      | some r2 => some (f2 :: r2)
      | none => none
    | none => none
def ab_sbr (s : List ab_T) : List (Option ab_V) → Option (List ab_V)
  | [] => some []
  | some v :: r => match ab_sbv s v with
    | some v2 => match ab_sbr s r with
      | some r2 => some (v2 :: r2)
      | none => none
    | none => none
  | none :: _ => none
theorem ab_sbo_ok {ro rT : List Int} {s : List ab_T} (hs : ab_sg ro rT s) {h : am_H} : ∀ (o o2 : ab_O), ab_sbo s o = some o2 → ab_ov rT h o → ab_ov ro h o2 := by
  intro o
  induction o with
  | nil => intro o2 h1 _; cases h1; exact fun q hq => by cases hq
  | cons q r ih =>
    intro o2 h1 h2
    obtain ⟨a, k, v⟩ := q
    unfold ab_sbo at h1
    split at h1
    · rename_i k2 hk
      split at h1
      · rename_i v2 hv
        split at h1
        · rename_i r2 hr
          cases h1
          obtain ⟨j, w, g1, g2, g3⟩ := h2 _ List.mem_cons_self
          refine ab_ov_cons (ih r2 hr (fun q hq => h2 q (List.mem_cons_of_mem _ hq))) ?_
          obtain ⟨z, z1, z2⟩ := ab_sb_ok hs hk
          rw [g1] at z1
          cases z1
          exact ⟨j, w, z2, g2, ab_sbv_to hs hv g3⟩
        · cases h1
      · cases h1
    · cases h1
theorem ab_sbf_ok {ro rT : List Int} {s : List ab_T} (hs : ab_sg ro rT s) : ∀ (F F2 : List ab_T), ab_sbf s F = some F2 → ab_F rT F → ab_F ro F2 := by
  intro F
  induction F with
  | nil => intro F2 h1 _; cases h1; exact fun q hq => by cases hq
  | cons f r ih =>
    intro F2 h1 h2
    unfold ab_sbf at h1
    split at h1
    · rename_i f2 hf
      split at h1
      · rename_i r2 hr
        cases h1
        obtain ⟨z, z1, z2⟩ := h2 f List.mem_cons_self
        obtain ⟨y, y1, y2⟩ := ab_sb_ok hs hf
        rw [z1] at y1
        cases y1
        intro g hg
        rcases List.mem_cons.mp hg with rfl | hg
        · exact ⟨z, y2, z2⟩
        · exact ih r2 hr (fun q hq => h2 q (List.mem_cons_of_mem _ hq)) g hg
      · cases h1
    · cases h1
theorem ab_sbr_ok {ro rT : List Int} {s : List ab_T} (hs : ab_sg ro rT s) : ∀ (l : List (Option ab_V)) (l2 : List ab_V) (C : List Value), ab_sbr s l = some l2 → ab_lv rT l (C.map some) → ab_st ro l2 C := by
  intro l
  induction l with
  | nil =>
    intro l2 C h1 h2
    cases h1
    have := h2.1
    cases C with
    | nil => trivial
    | cons w C => simp at this
  | cons q r ih =>
    intro l2 C h1 h2
    cases q with
    | none => cases h1
    | some v =>
      unfold ab_sbr at h1
      split at h1
      · rename_i v2 hv
        split at h1
        · rename_i r2 hr
          cases h1
          cases C with
          | nil => have := h2.1; simp at this
          | cons w C =>
            obtain ⟨w2, g1, g2⟩ := h2.2 0 v rfl
            cases g1
            exact ⟨ab_sbv_to hs hv g2, ih r2 C hr ⟨by have := h2.1; simpa using this, fun i u hu => h2.2 (i + 1) u hu⟩⟩
        · cases h1
      · cases h1
/-- the cells that stay over a call -/
def ab_keep (D : List ab_D) (mo : ab_Mo) (o : ab_O) : ab_O := o.filter (fun q => match q with
  | (a, t, _) => !mo.any (fun p => Nat.beq p.1 a) || (match D[a]? with
    | some (.inr _) => (match t with
      | (k, []) => decide (0 ≤ k) && !ab_md mo a (k.toNat + 1)
      | _ => false)
    | _ => false))
theorem ab_md_not {mo : ab_Mo} {a k : Nat} (h : ab_md mo a k = false) : (a, k) ∉ mo := fun hm => by
  have : ab_md mo a k = true := List.any_eq_true.mpr ⟨(a, k), hm, by simp [Nat.beq_refl]⟩
  rw [this] at h
  cases h
theorem ab_keep_ok {ro : List Int} {D : List ab_D} {mo : ab_Mo} {o : ab_O} {h h2 : am_H} (hh : ab_hok D h) (ho : ab_ov ro h o) (hf : ab_fr mo h h2) : ab_ov ro h2 (ab_keep D mo o) := fun q hq => by
  obtain ⟨hq1, hq2⟩ := List.mem_filter.mp hq
  obtain ⟨j, w, g1, g2, g3⟩ := ho q hq1
  refine ⟨j, w, g1, ?_, g3⟩
  obtain ⟨a, t, v⟩ := q
  simp only at hq2 g1 g2 g3 ⊢
  rcases Bool.or_eq_true_iff.mp hq2 with h3 | h3
  · have h4 : ∀ k, (a, k) ∉ mo := fun k hk => by
      have : (mo.any fun p => Nat.beq p.1 a) = true := List.any_eq_true.mpr ⟨(a, k), hk, Nat.beq_refl a⟩
      rw [this] at h3
      cases h3
    have h5 := hf.1 a h4
    unfold ab_cell at g2 ⊢
    rw [h5]
    exact g2
  · split at h3
    · rename_i x hD
      split at h3
      · rename_i k
        rw [Bool.and_eq_true] at h3
        have k0 : 0 ≤ k := of_decide_eq_true h3.1
        have h4 : (a, k.toNat + 1) ∉ mo := ab_md_not (by simpa using h3.2)
        obtain ⟨c, ws⟩ := x
        obtain ⟨e, e1, e2⟩ := ab_hok_get hh hD
        obtain ⟨fs, rfl, -, -⟩ := e2
        obtain ⟨fs2, f1, f2⟩ := hf.2 a k.toNat c fs h4 e1
        rw [ab_ev_k] at g1
        cases g1
        unfold ab_cell at g2 ⊢
        rw [e1] at g2
        rw [f1]
        simp only [decide_eq_true k0, cond_true] at g2 ⊢
        rw [f2]
        exact g2
      · cases h3
    · cases h3
def ab_out1 (D : List ab_D) (pc : Nat) (lv : List (Option ab_V)) (rest : List ab_V) (o : ab_O) (N : ab_N) (F : List ab_T) (mo : ab_Mo) (s : List ab_T) (X : ab_P) : Option (List ab_S) := match X with
  | (rT, oT, NT, FT, _, _) => match NT.drop s.length with
    | nw => match s ++ ab_fresh N.length nw.length with
      | s2 => match ab_sbo s2 oT with
        | some o2 => match ab_sbf s2 FT with
          | some f2 => match ab_sbr s2 rT with
            | some r2 => match ab_asms (N ++ nw) F f2 with
              | some (N3, F3) => some [(pc, lv, r2 ++ rest, o2 ++ ab_keep D mo o, N3, F3)]
              | none => some []
            | none => none
          | none => none
        | none => none
/-- where the small machine stands -/
def ab_J (D : List ab_D) (mo : ab_Mo) (h0 : am_H) (ro : List Int) (s : ab_S) (x : am_C) : Prop := x.1 = s.1 ∧ ab_lv ro s.2.1 x.2.1 ∧ ab_st ro s.2.2.1 x.2.2.1 ∧ ab_ov ro x.2.2.2.1 s.2.2.2.1 ∧ ab_env ro s.2.2.2.2.1 ∧ ab_F ro s.2.2.2.2.2 ∧ ab_hok D x.2.2.2.1 ∧ ab_fr mo h0 x.2.2.2.1 ∧ x.2.2.2.2 = (0, 0)
theorem ab_env_app {ro ro2 rT : List Int} {N M : ab_N} {n : Nat} (hN : ab_env ro N) (hM : ab_env (rT ++ ro2) M) (hn : rT.length = n) : ab_env (ro ++ ro2) (N ++ M.drop n) := by
  have hl := hM.1
  rw [List.length_append, hn] at hl
  refine ⟨by rw [List.length_append, List.length_append, List.length_drop, hN.1]; omega, fun x z e h1 h2 => ?_⟩
  by_cases hx : x < ro.length
  · rw [List.getElem?_append_left hx] at h1
    rw [List.getElem?_append_left (by rw [← hN.1]; exact hx)] at h2
    exact hN.2 x z e h1 h2
  · rw [List.getElem?_append_right (by omega)] at h1
    rw [List.getElem?_append_right (by rw [← hN.1]; omega), ← hN.1, List.getElem?_drop] at h2
    refine hM.2 (n + (x - ro.length)) z e ?_ h2
    rw [List.getElem?_append_right (by omega), hn, Nat.add_sub_cancel_left]
    exact h1
theorem ab_sg_app {ro ro2 rT : List Int} {N : ab_N} {s : List ab_T} {n : Nat} (hN : ab_env ro N) (hs : ab_sg ro rT s) (hn : ro2.length = n) : ab_sg (ro ++ ro2) (rT ++ ro2) (s ++ ab_fresh N.length n) := by
  refine ⟨by rw [List.length_append, List.length_append, hs.1, ab_fresh_len, hn], fun y u hu => ?_⟩
  by_cases hy : y < s.length
  · rw [List.getElem?_append_left hy] at hu
    obtain ⟨z, h1, h2⟩ := hs.2 y u hu
    exact ⟨z, by rw [List.getElem?_append_left (by rw [hs.1]; exact hy)]; exact h1, ab_ev_mono h2⟩
  · rw [List.getElem?_append_right (by omega)] at hu
    obtain ⟨h1, rfl⟩ := ab_fresh_get _ _ _ hu
    have h2 : y - s.length < ro2.length := by omega
    refine ⟨ro2[y - s.length], ?_, ab_ev_var ?_⟩
    · rw [List.getElem?_append_right (by rw [hs.1]; omega), hs.1]
      exact List.getElem?_eq_getElem h2
    · rw [← hN.1, List.getElem?_append_right (by omega), Nat.add_sub_cancel_left]
      exact List.getElem?_eq_getElem h2
theorem ab_out1_ok {D : List ab_D} {mo mo2 : ab_Mo} {h0 h h2 : am_H} {ro ro2 rT : List Int} {pc : Nat} {lv : List (Option ab_V)} {lvc : List (Option Value)} {rest : List ab_V} {restc : List Value} {o : ab_O} {N : ab_N} {F : List ab_T} {s : List ab_T} {X : ab_P} {l : List ab_S} {rv : Option Value}
    (hN : ab_env ro N) (hF : ab_F ro F) (hl : ab_lv ro lv lvc) (hr : ab_st ro rest restc) (ho : ab_ov ro h o) (hh : ab_hok D h) (hs : ab_sg ro rT s) (hh2 : ab_hok D h2) (hf : ab_fr mo2 h h2) (hf0 : ab_fr mo h0 h2) (hX : ab_at (rT ++ ro2) X (rv.toList.map some) h2) (e : ab_out1 D pc lv rest o N F mo2 s X = some l) : ∃ q ∈ l, ∃ ro3, ab_J D mo h0 (ro ++ ro3) q (pc, lvc, rv.toList ++ restc, h2, 0, 0) := by
  obtain ⟨rT2, oT, NT, FT, hm, mk⟩ := X
  obtain ⟨x1, x2, x3, x4⟩ := hX
  simp only at x1 x2 x3 x4
  unfold ab_out1 at e
  simp only at e
  have hlen : ro2.length = (NT.drop s.length).length := by
    have := x3.1
    rw [List.length_append, hs.1] at this
    rw [List.length_drop]
    omega
  have hs2 := ab_sg_app (ro2 := ro2) hN hs hlen
  have hN2 := ab_env_app hN x3 hs.1
  split at e
  · rename_i o2 ho2
    split at e
    · rename_i f2 hf2
      split at e
      · rename_i r2 hr2
        obtain ⟨⟨N3, F3⟩, a1, a2, a3⟩ := ab_asms_ok f2 _ F hN2 (ab_F_mono hF) (ab_sbf_ok hs2 _ _ hf2 x4)
        rw [a1] at e
        cases e
        refine ⟨_, List.mem_singleton.mpr rfl, ro2, rfl, ab_lv_mono hl, ab_st_app (ab_st_mono _ _ hr) _ _ (ab_sbr_ok hs2 _ _ _ hr2 x1), ?_, a2, a3, hh2, hf0, rfl⟩
        intro q hq
        rcases List.mem_append.mp hq with hq | hq
        · exact ab_sbo_ok hs2 _ _ ho2 x2 q hq
        · exact ab_ov_mono (ab_keep_ok hh ho hf) q hq
      · cases e
    · cases e
  · cases e
def ab_outs (D : List ab_D) (pc : Nat) (lv : List (Option ab_V)) (rest : List ab_V) (o : ab_O) (N : ab_N) (F : List ab_T) (mo : ab_Mo) (s : List ab_T) : List ab_P → Option (List ab_S)
  | [] => some []
  | X :: r => match ab_out1 D pc lv rest o N F mo s X with
    | some a => match ab_outs D pc lv rest o N F mo s r with
      | some b => some (a ++ b)
      | none => none
    | none => none
theorem ab_outs_in {D : List ab_D} {pc : Nat} {lv : List (Option ab_V)} {rest : List ab_V} {o : ab_O} {N : ab_N} {F : List ab_T} {mo : ab_Mo} {s : List ab_T} : ∀ (Xs : List ab_P) (l : List ab_S) (X : ab_P), ab_outs D pc lv rest o N F mo s Xs = some l → X ∈ Xs → ∃ a, ab_out1 D pc lv rest o N F mo s X = some a ∧ ∀ q ∈ a, q ∈ l := by
  intro Xs
  induction Xs with
  | nil => intro l X _ h; cases h
  | cons Y r ih =>
    intro l X h hX
    unfold ab_outs at h
    split at h
    · rename_i a ha
      split at h
      · rename_i b hb
        cases h
        rcases List.mem_cons.mp hX with rfl | hX
        · exact ⟨a, ha, fun q hq => List.mem_append_left _ hq⟩
        · obtain ⟨a2, h1, h2⟩ := ih b X hb hX
          exact ⟨a2, h1, fun q hq => List.mem_append_right _ (h2 q hq)⟩
      · cases h
    · cases h
def ab_cal (D : List ab_D) (mo : ab_Mo) (dp mi : Nat) (as rest : List ab_V) (pc : Nat) (lv : List (Option ab_V)) (o : ab_O) (N : ab_N) (F : List ab_T) : List ab_K → Option (List ab_S)
  | [] => none
  | (mi2, dp2, P, mo2, Xs) :: r => bif Nat.beq mi2 mi && Nat.ble (dp2 + 1) dp && mo2.all (fun q => ab_md mo q.1 q.2) then (match ab_mat D P.2.2.2.2.2 o N with
      | (o2, N2) => match ab_mt N2 F (as.map some) o2 [] P with
        | some s => match ab_outs D pc lv rest o2 N2 F mo2 s Xs with
          | some l => some l
          | none => ab_cal D mo dp mi as rest pc lv o N F r
        | none => ab_cal D mo dp mi as rest pc lv o N F r) else ab_cal D mo dp mi as rest pc lv o N F r
theorem ab_cal_ok {al : Bool} {D : List ab_D} {mo : ab_Mo} {dp mi d : Nat} {as rest : List ab_V} {asc restc : List Value} {pc : Nat} {lv : List (Option ab_V)} {lvc : List (Option Value)} {o : ab_O} {N : ab_N} {F : List ab_T} {h0 h : am_H} {ro : List Int} (hd : dp ≤ d + 1)
    (hN : ab_env ro N) (hF : ab_F ro F) (hl : ab_lv ro lv lvc) (ha : ab_st ro as asc) (hr : ab_st ro rest restc) (ho : ab_ov ro h o) (hh : ab_hok D h) (hf0 : ab_fr mo h0 h) : ∀ (Ks : List ab_K) (l : List ab_S), (∀ k ∈ Ks, ab_kok al D k) → ab_cal D mo dp mi as rest pc lv o N F Ks = some l → ∃ rv h2, am_Do al d mi asc h (rv, h2) ∧ ab_hok D h2 ∧ ∃ q ∈ l, ∃ ro3, ab_J D mo h0 (ro ++ ro3) q (pc, lvc, rv.toList ++ restc, h2, 0, 0) := by
  intro Ks
  induction Ks with
  | nil => intro l _ h; cases h
  | cons k r ih =>
    intro l hK e
    obtain ⟨mi2, dp2, P, mo2, Xs⟩ := k
    have ih2 := fun l => ih l (fun k hk => hK k (List.mem_cons_of_mem _ hk))
    unfold ab_cal at e
    cases hb : (Nat.beq mi2 mi && Nat.ble (dp2 + 1) dp && mo2.all (fun q => ab_md mo q.1 q.2)) with
    | false => rw [hb] at e; exact ih2 l e
    | true =>
      rw [hb] at e
      simp only [cond_true] at e
      simp only [Bool.and_eq_true, Nat.ble_eq] at hb
      obtain ⟨⟨b1, b2⟩, b3⟩ := hb
      have := Nat.eq_of_beq_eq_true b1
      subst this
      obtain ⟨roM, m1, m2⟩ := ab_mat_ok hh P.2.2.2.2.2 o N ro hN ho
      generalize hmat : ab_mat D P.2.2.2.2.2 o N = on at e m1 m2
      obtain ⟨o2, N2⟩ := on
      simp only at e m1 m2
      split at e
      · rename_i s hs
        split at e
        · rename_i l2 hl2
          cases e
          obtain ⟨g1, g2, -⟩ := ab_mt_ok m1 (ab_F_mono hF) (ab_st_lv _ _ (ab_st_mono _ _ ha)) m2 hs
          obtain ⟨X, hX, ro2, rv, h2, k1, k2, k3, k4⟩ := hK _ List.mem_cons_self _ asc h d (show dp2 ≤ d by omega) hh g2
          obtain ⟨a, a1, a2⟩ := ab_outs_in Xs l X hl2 hX
          have hm : ∀ q ∈ mo2, q ∈ mo := fun q hq => ab_md_in (List.all_eq_true.mp b3 q hq)
          obtain ⟨q, q1, ro3, q2⟩ := ab_out1_ok (mo := mo) (h0 := h0) m1 (ab_F_mono hF) (ab_lv_mono hl) (ab_st_mono _ _ hr) m2 hh g1 k2 k3 (hf0.tr (k3.le hm)) k4 a1
          exact ⟨rv, h2, k1, k2, q, a2 q q1, roM ++ ro3, by rw [← List.append_assoc]; exact q2⟩
        · exact ih2 l e
      · exact ih2 l e
