/-! ===== ends: M's states ===== -/
/-- what ends stands on: rules, values, verses told, worn ones, their sets, types, how many -/
abbrev ep_ : Type := rp_T × (Nat → Int32) × Nat × (Nat → Int32) × (Nat → Int32) × (Nat → Int32) × Nat
/-- a verse stands on the place q + 1 -/
def fd_ (ϖ : ep_) (q : Nat) : Prop := q < ϖ.2.2.1 ∧ (ϖ.2.2.2.1 q).toInt = 0
noncomputable def ecn_ (ϖ : ep_) (P : Nat) : Nat := @ite Nat (fd_ ϖ (P - 1)) (Classical.propDecidable _) 1 ϖ.2.2.2.2.2.2
noncomputable def ecs_ (ϖ : ep_) (P t : Nat) : Int32 := @ite Int32 (fd_ ϖ (P - 1)) (Classical.propDecidable _) (ϖ.2.2.2.2.1 (P - 1)) (ϖ.2.2.2.2.2.1 t)
def eok_ (ϖ : ep_) (v : Nat → Int32) (c : Int32) (P : Nat) : Prop := ∀ k, k < ϖ.1.2.2.1 → ¬ br_ ϖ.2.1 ϖ.1.1 (v 0) (v 1) c (rp_rl ϖ.1 k) (v (2 + k)).toInt (P : Int) ϖ.1.2.2.2.1
def enx_ (ϖ : ep_) (v : Nat → Int32) (c : Int32) : Nat → Int32 := fun i => if i = 0 then c else if i = 1 then v 0 else if i < 2 + ϖ.1.2.2.1 then Int32.ofInt (nx_ (rp_rl ϖ.1 (i - 2)).1.toInt (rp_rl ϖ.1 (i - 2)).2.2.1.toInt (v i).toInt (hb_ (rp_rl ϖ.1 (i - 2)).2.1 c)) else v i
def ev0_ (ϖ : ep_) : Nat → Int32 := fun i => if i < 2 then Int32.ofInt (-1) else if i < 2 + ϖ.1.2.2.1 ∧ (rp_rl ϖ.1 (i - 2)).1.toInt = 3 then (rp_rl ϖ.1 (i - 2)).2.2.1 else Int32.ofInt 0
noncomputable abbrev eLp (ϖ : ep_) : Nat → el_ := eL_ (eok_ ϖ) (enx_ ϖ) (ecn_ ϖ) (ecs_ ϖ) (ev0_ ϖ)
noncomputable abbrev ecp (ϖ : ep_) : Nat → Nat → Nat → el_ := ec_ (eok_ ϖ) (enx_ ϖ) (ecn_ ϖ) (ecs_ ϖ) (ev0_ ϖ)
noncomputable abbrev edp (ϖ : ep_) : Nat → Nat → Nat → Int := ed_ (eok_ ϖ) (enx_ ϖ) (ecn_ ϖ) (ecs_ ϖ) (ev0_ ϖ)
noncomputable abbrev eSp (ϖ : ep_) : Nat → Int := eS_ (eok_ ϖ) (enx_ ϖ) (ecn_ ϖ) (ecs_ ϖ) (ev0_ ϖ)
/-- such parameters -/
def eP_ (ϖ : ep_) : Prop := rp_ok ϖ.1 ∧ rk_ ϖ.1 ∧ (1 ≤ ϖ.1.2.2.2.1 ∧ ϖ.1.2.2.2.1 ≤ 48) ∧ (∀ i, i < 64 → -9 ≤ (ϖ.2.1 i).toInt ∧ (ϖ.2.1 i).toInt ≤ 9) ∧ (ϖ.2.2.1 : Int) ≤ ϖ.1.2.2.2.1 ∧ (∀ i, i < ϖ.2.2.1 → 0 ≤ (ϖ.2.2.2.2.1 i).toInt ∧ (ϖ.2.2.2.2.1 i).toInt < (rp_kset ϖ.1.1).toInt) ∧ (∀ i, i < ϖ.2.2.2.2.2.2 → 0 ≤ (ϖ.2.2.2.2.2.1 i).toInt ∧ (ϖ.2.2.2.2.2.1 i).toInt < (rp_kset ϖ.1.1).toInt) ∧ ϖ.2.2.2.2.2.2 ≤ 16
theorem ecn_y {ϖ : ep_} {P : Nat} (h : fd_ ϖ (P - 1)) : ecn_ ϖ P = 1 := if_pos h
theorem ecn_n {ϖ : ep_} {P : Nat} (h : ¬ fd_ ϖ (P - 1)) : ecn_ ϖ P = ϖ.2.2.2.2.2.2 := if_neg h
theorem ecs_y {ϖ : ep_} {P t : Nat} (h : fd_ ϖ (P - 1)) : ecs_ ϖ P t = ϖ.2.2.2.2.1 (P - 1) := if_pos h
theorem ecs_n {ϖ : ep_} {P t : Nat} (h : ¬ fd_ ϖ (P - 1)) : ecs_ ϖ P t = ϖ.2.2.2.2.2.1 t := if_neg h
theorem ecn_16 {ϖ : ep_} (h : eP_ ϖ) {P : Nat} : ecn_ ϖ P ≤ 16 := by
  have h16 := h.2.2.2.2.2.2.2
  by_cases c : fd_ ϖ (P - 1)
  · rw [ecn_y c]; omega
  · rw [ecn_n c]; exact h16
theorem ecs_rng {ϖ : ep_} (h : eP_ ϖ) {P t : Nat} (ht : t < ecn_ ϖ P) : 0 ≤ (ecs_ ϖ P t).toInt ∧ (ecs_ ϖ P t).toInt < (rp_kset ϖ.1.1).toInt := by
  by_cases c : fd_ ϖ (P - 1)
  · rw [ecs_y c]; exact h.2.2.2.2.2.1 _ c.1
  · rw [ecs_n c]
    rw [ecn_n c] at ht
    exact h.2.2.2.2.2.2.1 t ht
/-- what the states behind the place p are -/
def ewf_ (ϖ : ep_) (p : Nat) (v : Nat → Int32) : Prop := (p = 0 → v 0 = Int32.ofInt (-1)) ∧ (0 < p → 0 ≤ (v 0).toInt ∧ (v 0).toInt < (rp_kset ϖ.1.1).toInt) ∧ (p ≤ 1 → v 1 = Int32.ofInt (-1)) ∧ (1 < p → 0 ≤ (v 1).toInt ∧ (v 1).toInt < (rp_kset ϖ.1.1).toInt) ∧ (∀ k, k < ϖ.1.2.2.1 → no_ (rp_rl ϖ.1 k).1.toInt (rp_rl ϖ.1 k).2.2.1.toInt (p : Int) (v (2 + k)).toInt) ∧ ∀ i, 2 + ϖ.1.2.2.1 ≤ i → i < 14 → v i = Int32.ofInt 0
theorem ewf_0 {ϖ : ep_} (h : eP_ ϖ) : ewf_ ϖ 0 (ev0_ ϖ) := by
  refine ⟨fun _ => rfl, fun z => by omega, fun _ => rfl, fun z => by omega, fun k hk => ?_, fun i h1 h2 => ?_⟩
  · obtain ⟨r1, r2, r3⟩ := h.2.1 k hk
    have e : ev0_ ϖ (2 + k) = if (rp_rl ϖ.1 k).1.toInt = 3 then (rp_rl ϖ.1 k).2.2.1 else Int32.ofInt 0 := by
      unfold ev0_
      rw [if_neg (by omega), show 2 + k - 2 = k by omega]
      by_cases c : (rp_rl ϖ.1 k).1.toInt = 3
      · rw [if_pos ⟨by omega, c⟩, if_pos c]
      · rw [if_neg (fun z => c z.2), if_neg c]
    rw [e]
    unfold no_
    have z0 : (Int32.ofInt 0).toInt = 0 := rfl
    split <;> omega
  · unfold ev0_
    rw [if_neg (by omega), if_neg (by omega)]
theorem ewf_nx {ϖ : ep_} (h : eP_ ϖ) {p : Nat} (hp : (p : Int) < ϖ.1.2.2.2.1) {v : Nat → Int32} {c : Int32} (hv : ewf_ ϖ p v) (hc : 0 ≤ c.toInt ∧ c.toInt < (rp_kset ϖ.1.1).toInt) : ewf_ ϖ (p + 1) (enx_ ϖ v c) := by
  obtain ⟨v1, v2, v3, v4, v5, v6⟩ := hv
  have hl := h.2.2.1
  refine ⟨fun z => by omega, fun _ => hc, fun z => ?_, fun z => ?_, fun k hk => ?_, fun i h1 h2 => ?_⟩
  · exact v1 (by omega)
  · exact v2 (by omega)
  · obtain ⟨r1, r2, r3⟩ := h.2.1 k hk
    have e : enx_ ϖ v c (2 + k) = Int32.ofInt (nx_ (rp_rl ϖ.1 k).1.toInt (rp_rl ϖ.1 k).2.2.1.toInt (v (2 + k)).toInt (hb_ (rp_rl ϖ.1 k).2.1 c)) := by
      unfold enx_
      rw [if_neg (by omega), if_neg (by omega), if_pos (by omega), show 2 + k - 2 = k by omega]
    have n1 := no_nx (h := hb_ (rp_rl ϖ.1 k).2.1 c) r2.1 (by omega) (v5 k hk)
    have n2 := no_le r1.1 r2.2 (by omega) (by omega) n1
    rw [e, am_oi (by omega) (by omega), show ((p + 1 : Nat) : Int) = (p : Int) + 1 by omega]
    exact n1
  · unfold enx_
    rw [if_neg (by omega), if_neg (by omega), if_neg (by omega)]
    exact v6 i h1 h2
theorem ewf_all {ϖ : ep_} (h : eP_ ϖ) : ∀ p : Nat, (p : Int) ≤ ϖ.1.2.2.2.1 → ∀ j, j < (eLp ϖ p).1 → ewf_ ϖ p ((eLp ϖ p).2 j) := by
  intro p
  induction p with
  | zero => intro _ j _; exact ewf_0 h
  | succ p ih =>
    intro hp
    exact ec_all_of (Q := ewf_ ϖ (p + 1)) (fun k t hk ht _ => ewf_nx h (by omega) (ih (by omega) k hk) (ecs_rng h ht)) (eLp ϖ p).1 (Nat.le_refl _) 0 (Or.inr rfl)
theorem ewf_ec {ϖ : ep_} (h : eP_ ϖ) {p k t : Nat} (hp : (p : Int) < ϖ.1.2.2.2.1) (hk : k < (eLp ϖ p).1) (ht : t ≤ ecn_ ϖ (p + 1)) : ∀ j, j < (ecp ϖ p k t).1 → ewf_ ϖ (p + 1) ((ecp ϖ p k t).2 j) := ec_all_of (Q := ewf_ ϖ (p + 1)) (fun k t hk ht _ => ewf_nx h hp (ewf_all h p (by omega) k hk) (ecs_rng h ht)) k (Nat.le_of_lt hk) t (Or.inl ⟨ht, hk⟩)
/-- a state's numbers -/
theorem ewf_no {ϖ : ep_} (h : eP_ ϖ) {p : Nat} (hp : (p : Int) ≤ ϖ.1.2.2.2.1) {v : Nat → Int32} (hv : ewf_ ϖ p v) : ∀ k, k < ϖ.1.2.2.1 → 0 ≤ (v (2 + k)).toInt ∧ (v (2 + k)).toInt ≤ 48 := by
  intro k hk
  obtain ⟨r1, r2, r3⟩ := h.2.1 k hk
  have hl := h.2.2.1
  exact no_le r1.1 r2.2 (by omega) (by omega) (hv.2.2.2.2.1 k hk)
theorem e_i1 {x y : Int32} {p j : Nat} (hx : x.toInt = (p : Int)) (hy : y.toInt = (j : Int)) (hp : p ≤ 48) (hj : j ≤ 400) : (Int32.ofInt 400 * x + y).toInt = ((400 * p + j : Nat) : Int) ∧ ((Int32.ofInt 400 * x + y) * Int32.ofInt 14).toInt = (((400 * p + j) * 14 : Nat) : Int) ∧ ((Int32.ofInt 400 * x + y) * Int32.ofInt 16).toInt = (((400 * p + j) * 16 : Nat) : Int) := by
  have z4 : (Int32.ofInt 400).toInt = 400 := rfl
  have z14 : (Int32.ofInt 14).toInt = 14 := rfl
  have z16 : (Int32.ofInt 16).toInt = 16 := rfl
  have a1 : (Int32.ofInt 400 * x).toInt = 400 * (p : Int) := by rw [i32_mul (by rw [z4]; omega) (by rw [z4]; omega), z4, hx]
  have a2 : (Int32.ofInt 400 * x + y).toInt = 400 * (p : Int) + (j : Int) := by rw [i32_add (by omega) (by omega), a1, hy]
  refine ⟨by rw [a2]; omega, ?_, ?_⟩
  · rw [i32_mul (by rw [z14]; omega) (by rw [z14]; omega), z14, a2]; omega
  · rw [i32_mul (by rw [z16]; omega) (by rw [z16]; omega), z16, a2]; omega
section EM
variable {s : sg_S} {x1 x2 : Int32} {T : rp_T}
theorem sm_along2 {R : Nat} (hU : rm_RU T s) (hR : T.2.2.1 = R) (h12 : R ≤ 12) (hn : ∀ k, k < R → 0 ≤ (s.2.2.1 82 (2 + k)).toInt ∧ (s.2.2.1 82 (2 + k)).toInt ≤ 48) : am_SpV 186 [.ref 64, .int x1] s (fun s2 => sg_fr [] [82] s s2 ∧ s2.2.2.1 82 0 = x1 ∧ s2.2.2.1 82 1 = s.2.2.1 82 0 ∧ (∀ k, k < R → (s2.2.2.1 82 (2 + k)).toInt = nx_ (rp_rl T k).1.toInt (rp_rl T k).2.2.1.toInt (s.2.2.1 82 (2 + k)).toInt (hb_ (rp_rl T k).2.1 x1)) ∧ ∀ k, R ≤ k → s2.2.2.1 82 (2 + k) = s.2.2.1 82 (2 + k)) := by
  have z2 : (Int32.ofInt 2).toInt = 2 := rfl
  refine wp_M_goesAlong_ok
    (I21 := fun l s1 => sg_fr [] [82] s s1 ∧ (s1.2.2.1 82 0 = x1 ∧ s1.2.2.1 82 1 = s.2.2.1 82 0) ∧ ∃ i : Nat, l.toInt = (i : Int) ∧ i ≤ R ∧ (∀ k, k < i → (s1.2.2.1 82 (2 + k)).toInt = nx_ (rp_rl T k).1.toInt (rp_rl T k).2.2.1.toInt (s.2.2.1 82 (2 + k)).toInt (hb_ (rp_rl T k).2.1 x1)) ∧ ∀ k, i ≤ k → s1.2.2.1 82 (2 + k) = s.2.2.1 82 (2 + k))
    (I46 := fun l h s1 => sg_fr [] [82] s s1 ∧ (s1.2.2.1 82 0 = x1 ∧ s1.2.2.1 82 1 = s.2.2.1 82 0) ∧ ∃ i : Nat, l.toInt = (i : Int) ∧ i < R ∧ (∀ k, k < i → (s1.2.2.1 82 (2 + k)).toInt = nx_ (rp_rl T k).1.toInt (rp_rl T k).2.2.1.toInt (s.2.2.1 82 (2 + k)).toInt (hb_ (rp_rl T k).2.1 x1)) ∧ (∀ k, i ≤ k → s1.2.2.1 82 (2 + k) = s.2.2.1 82 (2 + k)) ∧ ((¬ h.toInt = 0 ∧ hb_ (rp_rl T i).2.1 x1 = true) ∨ (h.toInt = 0 ∧ hb_ (rp_rl T i).2.1 x1 = false)))
    (I213 := fun l s1 => sg_fr [] [82] s s1 ∧ (s1.2.2.1 82 0 = x1 ∧ s1.2.2.1 82 1 = s.2.2.1 82 0) ∧ ∃ i : Nat, l.toInt = (i : Int) ∧ i < R ∧ (∀ k, k < i + 1 → (s1.2.2.1 82 (2 + k)).toInt = nx_ (rp_rl T k).1.toInt (rp_rl T k).2.2.1.toInt (s.2.2.1 82 (2 + k)).toInt (hb_ (rp_rl T k).2.1 x1)) ∧ ∀ k, i + 1 ≤ k → s1.2.2.1 82 (2 + k) = s.2.2.1 82 (2 + k)) ?_ ?_ ?_ ?_
  · intro l s1 hI
    obtain ⟨f, g, i, hi, hiR, h1, h2⟩ := hI
    have e23 : (s1.1 64 23).toInt = (R : Int) := by rw [f.i rfl, hU.2.2.1, hR]
    unfold wp_M_goesAlong_21
    simp only [hi, e23, Int.toNat_natCast]
    refine ⟨fun c1 _ _ => ?_, fun c1 => ⟨f, g.1, g.2, fun k hk => h1 k (by omega), fun k hk => h2 k (by omega)⟩⟩
    have u := (hU.2.2.2.2.2 i (by omega)).2.1
    have e73 : s1.2.2.1 73 i = (rp_rl T i).2.1 := by rw [f.a rfl]; exact u
    rw [e73, Int32.and_comm]
    exact ⟨fun c2 => ⟨f, g, i, rfl, by omega, h1, h2, Or.inr ⟨rfl, hb_f.mpr c2⟩⟩, fun c2 => ⟨f, g, i, rfl, by omega, h1, h2, Or.inl ⟨by decide, hb_t.mpr c2⟩⟩⟩
  · intro l h s1 hI
    obtain ⟨f, g, i, hi, hiR, h1, h2, hh⟩ := hI
    obtain ⟨u72, -, u74, -⟩ := hU.2.2.2.2.2 i (by omega)
    have e72 : s1.2.2.1 72 i = (rp_rl T i).1 := by rw [f.a rfl]; exact u72
    have e74 : s1.2.2.1 74 i = (rp_rl T i).2.2.1 := by rw [f.a rfl]; exact u74
    have e2 : (Int32.ofInt 2 + l).toInt = ((2 + i : Nat) : Int) := by rw [i32_add (by omega) (by omega), z2, hi]; omega
    have e82 := h2 i (Nat.le_refl _)
    have hni := hn i hiR
    have hinc : (s.2.2.1 82 (2 + i) + Int32.ofInt 1).toInt = (s.2.2.1 82 (2 + i)).toInt + 1 := i32_inc (c := 0) (by omega) (by omega)
    have put : ∀ v : Int32, v.toInt = nx_ (rp_rl T i).1.toInt (rp_rl T i).2.2.1.toInt (s.2.2.1 82 (2 + i)).toInt (hb_ (rp_rl T i).2.1 x1) → sg_fr [] [82] s (sg_uA s1 82 (2 + i) v) ∧ ((sg_uA s1 82 (2 + i) v).2.2.1 82 0 = x1 ∧ (sg_uA s1 82 (2 + i) v).2.2.1 82 1 = s.2.2.1 82 0) ∧ ∃ j : Nat, l.toInt = (j : Int) ∧ j < R ∧ (∀ k, k < j + 1 → ((sg_uA s1 82 (2 + i) v).2.2.1 82 (2 + k)).toInt = nx_ (rp_rl T k).1.toInt (rp_rl T k).2.2.1.toInt (s.2.2.1 82 (2 + k)).toInt (hb_ (rp_rl T k).2.1 x1)) ∧ ∀ k, j + 1 ≤ k → (sg_uA s1 82 (2 + i) v).2.2.1 82 (2 + k) = s.2.2.1 82 (2 + k) := by
      intro v hv
      refine ⟨f.uA rfl, ⟨(sg_A2 (fun c => by omega)).trans g.1, (sg_A2 (fun c => by omega)).trans g.2⟩, i, hi, hiR, fun k hk => ?_, fun k hk => ?_⟩
      · by_cases ek : k = i
        · rw [ek, sg_A1]
          exact hv
        · rw [sg_A2 (fun c => by omega)]
          exact h1 k (by omega)
      · rw [sg_A2 (fun c => by omega)]
        exact h2 k (by omega)
    unfold wp_M_goesAlong_46
    rw [e2]
    simp only [Int.toNat_natCast]
    have el : l.toInt.toNat = i := by omega
    rw [el, e72, e74, e82]
    intro _ _ _ _
    generalize hbb : hb_ (rp_rl T i).2.1 x1 = bb at hh put
    unfold nx_ at put
    refine ⟨fun c => ?_, fun c => ?_, fun c => ?_, fun c => ?_, fun c => ?_⟩
    · rcases hh with ⟨q1, q2⟩ | ⟨q1, q2⟩
      · exact ⟨fun d => absurd d q1, fun _ => put _ (by rw [if_pos c, if_pos q2]; exact hinc)⟩
      · exact ⟨fun _ => put _ (by rw [if_pos c, if_neg (by rw [q2]; decide)]; rfl), fun d => absurd q1 d⟩
    · rcases hh with ⟨q1, q2⟩ | ⟨q1, q2⟩
      · exact ⟨fun d => absurd d q1, fun _ => put _ (by rw [if_neg (by omega), if_pos c, if_pos q2]; rfl)⟩
      · exact ⟨fun _ => ⟨fun d => put _ (by rw [if_neg (by omega), if_pos c, if_neg (by rw [q2]; decide), if_pos d]; exact hinc), fun d => put _ (by rw [if_neg (by omega), if_pos c, if_neg (by rw [q2]; decide), if_neg d])⟩, fun d => absurd q1 d⟩
    · rcases hh with ⟨q1, q2⟩ | ⟨q1, q2⟩
      · exact ⟨fun d => absurd d q1, fun _ => put _ (by rw [if_neg (by omega), if_neg (by omega), if_pos c, if_pos q2]; exact hinc)⟩
      · exact ⟨fun _ => put _ (by rw [if_neg (by omega), if_neg (by omega), if_pos c, if_neg (by rw [q2]; decide)]), fun d => absurd q1 d⟩
    · rcases hh with ⟨q1, q2⟩ | ⟨q1, q2⟩
      · exact ⟨fun d => absurd d q1, fun _ => ⟨fun d => put _ (by rw [if_neg (by omega), if_neg (by omega), if_neg (by omega), if_pos c, if_pos q2, if_pos d]; exact hinc), fun d => put _ (by rw [if_neg (by omega), if_neg (by omega), if_neg (by omega), if_pos c, if_pos q2, if_neg d])⟩⟩
      · exact ⟨fun _ => put _ (by rw [if_neg (by omega), if_neg (by omega), if_neg (by omega), if_pos c, if_neg (by rw [q2]; decide)]), fun d => absurd q1 d⟩
    · refine ⟨f, g, i, hi, hiR, fun k hk => ?_, fun k hk => h2 k (by omega)⟩
      by_cases ek : k = i
      · subst ek
        unfold nx_
        rw [e82, if_neg (by omega), if_neg (by omega), if_neg (by omega), if_neg (by omega)]
      · exact h1 k (by omega)
  · intro l s1 hI
    obtain ⟨f, g, i, hi, hiR, h1, h2⟩ := hI
    unfold wp_M_goesAlong_213
    refine ⟨f, g, i + 1, ?_, by omega, h1, h2⟩
    rw [i32_inc (c := 0) (by omega) (by omega), hi]
    rfl
  · unfold wp_M_goesAlong
    refine ⟨(sg_fr.rf.uA rfl).uA rfl, ⟨sg_A1, (sg_A2 (fun c => absurd c.2 (by decide))).trans sg_A1⟩, 0, rfl, Nat.zero_le _, fun k hk => absurd hk (Nat.not_lt_zero k), fun k _ => (sg_A2 (fun c => by omega)).trans (sg_A2 (fun c => by omega))⟩
theorem em_along {ϖ : ep_} (hϖ : eP_ ϖ) (hU : rm_RU ϖ.1 s) {p : Nat} (hp : (p : Int) ≤ ϖ.1.2.2.2.1) {v : Nat → Int32} (hv : ewf_ ϖ p v) (h82 : ∀ i, i < 14 → s.2.2.1 82 i = v i) : am_SpV 186 [.ref 64, .int x1] s (fun s2 => sg_fr [] [82] s s2 ∧ ∀ i, i < 14 → s2.2.2.1 82 i = enx_ ϖ v x1 i) := by
  have h12 := hϖ.1.2.2.1
  have hno := ewf_no hϖ hp hv
  refine (sm_along2 hU rfl h12 (fun k hk => by rw [h82 (2 + k) (by omega)]; exact hno k hk)).mono (fun s2 h2 => ?_)
  obtain ⟨f, g0, g1, gn, gr⟩ := h2
  refine ⟨f, fun i hi => ?_⟩
  unfold enx_
  by_cases c0 : i = 0
  · rw [if_pos c0, c0]; exact g0
  · rw [if_neg c0]
    by_cases c1 : i = 1
    · rw [if_pos c1, c1, g1]; exact h82 0 (by omega)
    · rw [if_neg c1]
      obtain ⟨k, rfl⟩ : ∃ k, i = 2 + k := ⟨i - 2, by omega⟩
      by_cases c2 : 2 + k < 2 + ϖ.1.2.2.1
      · rw [if_pos c2, show 2 + k - 2 = k by omega, ← h82 (2 + k) hi]
        exact rx_ofI (gn k (by omega))
      · rw [if_neg c2, gr k (by omega)]
        exact h82 (2 + k) hi
theorem em_nothing {ϖ : ep_} (hϖ : eP_ ϖ) (hU : rm_RU ϖ.1 s) : am_SpV 185 [.ref 64] s (fun s2 => sg_fr [] [82] s s2 ∧ ∀ i, i < 14 → s2.2.2.1 82 i = ev0_ ϖ i) := by
  have h12 := hϖ.1.2.2.1
  have z2 : (Int32.ofInt 2).toInt = 2 := rfl
  refine wp_M_alongNothing_ok (I16 := fun l s1 => sg_fr [] [82] s s1 ∧ ∃ i : Nat, l.toInt = (i : Int) ∧ i ≤ 12 ∧ ∀ k, k < 2 + i → s1.2.2.1 82 k = ev0_ ϖ k) ?_ ⟨(sg_fr.rf.uA rfl).uA rfl, 0, rfl, by omega, fun k hk => ?_⟩
  · intro l s1 hI
    obtain ⟨f, i, hi, hi12, h⟩ := hI
    have e23 : (s1.1 64 23).toInt = (ϖ.1.2.2.1 : Int) := by rw [f.i rfl, hU.2.2.1]
    have el : l.toInt.toNat = i := by omega
    unfold wp_M_alongNothing_16
    by_cases hlt : i < 12
    · have e2 : (Int32.ofInt 2 + l).toInt = ((2 + i : Nat) : Int) := by rw [i32_add (by omega) (by omega), z2, hi]; omega
      have hinc : (l + Int32.ofInt 1).toInt = ((i + 1 : Nat) : Int) := by
        rw [i32_inc (c := 0) (by omega) (by omega), hi]
        rfl
      have put : ∀ w : Int32, w = ev0_ ϖ (2 + i) → sg_fr [] [82] s (sg_uA s1 82 (2 + i) w) ∧ ∃ j : Nat, (l + Int32.ofInt 1).toInt = (j : Int) ∧ j ≤ 12 ∧ ∀ k, k < 2 + j → (sg_uA s1 82 (2 + i) w).2.2.1 82 k = ev0_ ϖ k := by
        intro w hw
        refine ⟨f.uA rfl, i + 1, hinc, by omega, fun k hk => ?_⟩
        by_cases ek : k = 2 + i
        · rw [ek, sg_A1]; exact hw
        · rw [sg_A2 (fun c => ek c.2)]
          exact h k (by omega)
      rw [e2, e23, el, Int.toNat_natCast]
      refine ⟨fun _ => ⟨fun c2 _ _ => ?_, fun c2 _ _ => put _ ?_⟩, fun c => absurd (show l.toInt < 12 by omega) c⟩
      · obtain ⟨u72, -, u74, -⟩ := hU.2.2.2.2.2 i (by omega)
        have e72 : s1.2.2.1 72 i = (rp_rl ϖ.1 i).1 := by rw [f.a rfl]; exact u72
        have e74 : s1.2.2.1 74 i = (rp_rl ϖ.1 i).2.2.1 := by rw [f.a rfl]; exact u74
        rw [e72, e74]
        refine ⟨fun c3 _ _ => put _ ?_, fun c3 _ _ => put _ ?_⟩
        · unfold ev0_
          rw [if_neg (by omega), show 2 + i - 2 = i by omega, if_pos ⟨by omega, c3⟩]
        · unfold ev0_
          rw [if_neg (by omega), show 2 + i - 2 = i by omega, if_neg (fun z => c3 z.2)]
      · unfold ev0_
        rw [if_neg (by omega), if_neg (by omega)]
    · exact ⟨fun c => by omega, fun _ => ⟨f, fun k hk => h k (by omega)⟩⟩
  · have hk : k < 2 := hk
    have e : ev0_ ϖ k = Int32.ofInt (-1) := if_pos hk
    rw [e]
    match k, hk with
    | 0, _ => exact (sg_A2 (fun c => absurd c.2 (by decide))).trans sg_A1
    | 1, _ => exact sg_A1
    | k + 2, hk => omega
theorem em_takes {p k : Nat} (h1 : x1.toInt = (p : Int)) (h2 : x2.toInt = (k : Int)) (hp : p ≤ 48) (hk : k < 400) : am_SpV 199 [.ref 64, .int x1, .int x2] s (fun s2 => sg_fr [] [82] s s2 ∧ ∀ i, i < 14 → s2.2.2.1 82 i = s.2.2.1 89 ((400 * p + k) * 14 + i)) := by
  obtain ⟨-, e14, -⟩ := e_i1 h1 h2 hp (by omega)
  refine wp_M_takes_ok (I14 := fun l3 l4 s1 => l3.toInt = (((400 * p + k) * 14 : Nat) : Int) ∧ sg_fr [] [82] s s1 ∧ ∃ i : Nat, l4.toInt = (i : Int) ∧ i ≤ 14 ∧ ∀ j, j < i → s1.2.2.1 82 j = s.2.2.1 89 ((400 * p + k) * 14 + j)) ?_ ⟨e14, sg_fr.rf, 0, rfl, by omega, fun j hj => absurd hj (Nat.not_lt_zero j)⟩
  intro l3 l4 s1 hI
  obtain ⟨h3, f, i, h4, hi, h⟩ := hI
  unfold wp_M_takes_14
  refine ⟨fun c _ _ _ _ => ⟨h3, f.uA rfl, i + 1, ?_, by omega, fun j hj => ?_⟩, fun c => ⟨f, fun j hj => h j (by omega)⟩⟩
  · rw [i32_inc (c := 0) (by omega) (by omega), h4]
    rfl
  · have e4 : l4.toInt.toNat = i := by omega
    have e5 : (l3 + l4).toInt.toNat = (400 * p + k) * 14 + i := by rw [i32_add (by omega) (by omega), h3, h4]; omega
    rw [e4, e5]
    by_cases ej : j = i
    · rw [ej, sg_A1, f.a rfl]
    · rw [sg_A2 (fun c => ej c.2)]
      exact h j (by omega)
/-- the state is looked for among those of a layer -/
theorem em_finds {p : Nat} {L : el_} {w : Nat → Int32} (h1 : x1.toInt = (p : Int)) (hp : p ≤ 48) (hL : L.1 ≤ 400) (h90 : (s.2.2.1 90 p).toInt = (L.1 : Int)) (h89 : ∀ j, j < L.1 → ∀ i, i < 14 → s.2.2.1 89 ((400 * p + j) * 14 + i) = L.2 j i) (h82 : ∀ i, i < 14 → s.2.2.1 82 i = w i) : am_SpI 200 [.ref 64, .int x1] s (fun r s2 => (ef_ L w < L.1 → r.toInt = (ef_ L w : Int) ∧ s2 = s) ∧ (¬ ef_ L w < L.1 → (L.1 = 400 → r.toInt = -1 ∧ s2 = sg_uI s 64 56 (s.1 64 56 + Int32.ofInt 1)) ∧ (L.1 < 400 → r.toInt = (L.1 : Int) ∧ sg_fr [(64, 56)] [89, 90] s s2 ∧ s2.1 64 56 = s.1 64 56 + Int32.ofInt 1 ∧ (s2.2.2.1 90 = fun i => if i = p then Int32.ofInt ((L.1 : Int) + 1) else s.2.2.1 90 i) ∧ (∀ i, i < 14 → s2.2.2.1 89 ((400 * p + L.1) * 14 + i) = w i) ∧ ∀ i, i < (400 * p + L.1) * 14 → s2.2.2.1 89 i = s.2.2.1 89 i))) := by
  have e1 : x1.toInt.toNat = p := by omega
  have z1 : (Int32.ofInt 1).toInt = 1 := rfl
  refine wp_M_finds_ok
    (I2 := fun l s1 => s1 = s ∧ ∃ k : Nat, l.toInt = (k : Int) ∧ k ≤ L.1 ∧ ∀ j, j < k → ¬ eqs_ (L.2 j) w)
    (I128 := fun l2 l3 s1 => (l2.toInt = (((400 * p + L.1) * 14 : Nat) : Int) ∧ L.1 < 400 ∧ ¬ ef_ L w < L.1) ∧ sg_fr [(64, 56)] [89] s s1 ∧ s1.1 64 56 = s.1 64 56 + Int32.ofInt 1 ∧ ∃ i : Nat, l3.toInt = (i : Int) ∧ i ≤ 14 ∧ (∀ u, u < i → s1.2.2.1 89 ((400 * p + L.1) * 14 + u) = w u) ∧ ∀ u, u < (400 * p + L.1) * 14 → s1.2.2.1 89 u = s.2.2.1 89 u)
    (I29 := fun l2 l3 l4 l5 s1 => s1 = s ∧ ∃ k i : Nat, l2.toInt = (k : Int) ∧ k < L.1 ∧ (∀ j, j < k → ¬ eqs_ (L.2 j) w) ∧ l3.toInt = (((400 * p + k) * 14 : Nat) : Int) ∧ l5.toInt = (i : Int) ∧ i ≤ 14 ∧ ((¬ l4.toInt = 0 ∧ ∀ u, u < i → L.2 k u = w u) ∨ (l4.toInt = 0 ∧ ¬ eqs_ (L.2 k) w))) ?_ ?_ ?_ ⟨rfl, 0, rfl, Nat.zero_le _, fun j hj => absurd hj (Nat.not_lt_zero j)⟩
  · intro l s1 hI
    obtain ⟨rfl, k, hk, hkL, h⟩ := hI
    unfold wp_M_finds_2
    rw [e1, h90, hk]
    refine fun _ _ => ⟨fun c => ⟨rfl, k, 0, hk, by omega, h, (e_i1 h1 hk hp (by omega)).2.1, rfl, by omega, Or.inl ⟨by decide, fun u hu => absurd hu (Nat.not_lt_zero u)⟩⟩, fun c => ?_⟩
    have ekL : k = L.1 := by omega
    have hno : ¬ ef_ L w < L.1 := by
      have := ef_none (L := L) (w := w) (fun j hj => h j (by omega))
      omega
    refine ⟨fun c4 => ⟨fun z => absurd z hno, fun _ => ⟨fun _ => ⟨rfl, rfl⟩, fun z => by omega⟩⟩, fun c4 => ⟨⟨(e_i1 h1 h90 hp hL).2.1, by omega, hno⟩, sg_fr.rf.uI rfl, rfl, 0, rfl, by omega, fun u hu => absurd hu (Nat.not_lt_zero u), fun u _ => rfl⟩⟩
  · intro l2 l3 s1 hI
    obtain ⟨⟨h2, hL4, hno⟩, f, g56, i, h3, hi, g1, g2⟩ := hI
    unfold wp_M_finds_128
    have e3 : l3.toInt.toNat = i := by omega
    refine ⟨fun c _ _ _ _ => ⟨⟨h2, hL4, hno⟩, f.uA rfl, g56, i + 1, ?_, by omega, fun u hu => ?_, fun u hu => ?_⟩, fun c _ _ => ?_⟩
    · rw [i32_inc (c := 0) (by omega) (by omega), h3]
      rfl
    · have e5 : (l2 + l3).toInt.toNat = (400 * p + L.1) * 14 + i := by rw [i32_add (by omega) (by omega), h2, h3]; omega
      rw [e3, e5]
      by_cases eu : u = i
      · rw [eu, sg_A1, f.a rfl]
        exact h82 i (by omega)
      · rw [sg_A2 (fun c => by omega)]
        exact g1 u (by omega)
    · have e5 : (l2 + l3).toInt.toNat = (400 * p + L.1) * 14 + i := by rw [i32_add (by omega) (by omega), h2, h3]; omega
      rw [e5, sg_A2 (fun c => by omega)]
      exact g2 u hu
    · rw [e1, sg_A1]
      have a90 : s1.2.2.1 90 p = s.2.2.1 90 p := by rw [f.a rfl]
      have hinc : (s1.2.2.1 90 p + Int32.ofInt 1).toInt = (L.1 : Int) + 1 := by rw [a90, i32_inc (c := 0) (by omega) (by omega), h90]
      refine ⟨fun z => absurd z hno, fun _ => ⟨fun z => by omega, fun _ => ⟨?_, (f.le (by decide) (by decide)).uA rfl, g56, ?_, fun u hu => ?_, fun u hu => ?_⟩⟩⟩
      · rw [i32_sub (by omega) (by omega), hinc, z1]
        omega
      · rw [sg_Aall, f.a rfl]
        funext q
        by_cases eq : q = p
        · rw [if_pos eq, if_pos eq, ← a90]
          exact rx_ofI hinc
        · rw [if_neg eq, if_neg eq]
      · rw [sg_A2 (fun c => absurd c.1 (by decide))]
        exact g1 u (by omega)
      · rw [sg_A2 (fun c => absurd c.1 (by decide))]
        exact g2 u hu
  · intro l2 l3 l4 l5 s1 hI
    obtain ⟨rfl, k, i, hk, hkL, h, h3, h5, hi, h4⟩ := hI
    have hinc2 : (l2 + Int32.ofInt 1).toInt = ((k + 1 : Nat) : Int) := by
      rw [i32_inc (c := 0) (by omega) (by omega), hk]
      rfl
    have next : ¬ eqs_ (L.2 k) w → s1 = s1 ∧ ∃ k : Nat, (l2 + Int32.ofInt 1).toInt = (k : Int) ∧ k ≤ L.1 ∧ ∀ j, j < k → ¬ eqs_ (L.2 j) w := fun hn => ⟨rfl, k + 1, hinc2, by omega, fun j hj => by
      by_cases ej : j = k
      · rw [ej]; exact hn
      · exact h j (by omega)⟩
    have found : eqs_ (L.2 k) w → (ef_ L w < L.1 → l2.toInt = (ef_ L w : Int) ∧ s1 = s1) ∧ (¬ ef_ L w < L.1 → (L.1 = 400 → l2.toInt = -1 ∧ s1 = sg_uI s1 64 56 (s1.1 64 56 + Int32.ofInt 1)) ∧ (L.1 < 400 → l2.toInt = (L.1 : Int) ∧ sg_fr [(64, 56)] [89, 90] s1 s1 ∧ s1.1 64 56 = s1.1 64 56 + Int32.ofInt 1 ∧ (s1.2.2.1 90 = fun i => if i = p then Int32.ofInt ((L.1 : Int) + 1) else s1.2.2.1 90 i) ∧ (∀ i, i < 14 → s1.2.2.1 89 ((400 * p + L.1) * 14 + i) = w i) ∧ ∀ i, i < (400 * p + L.1) * 14 → s1.2.2.1 89 i = s1.2.2.1 89 i)) := fun he => by
      have e := ef_at hkL he h
      exact ⟨fun _ => ⟨by rw [e]; exact hk, rfl⟩, fun z => absurd (show ef_ L w < L.1 by omega) z⟩
    unfold wp_M_finds_29
    refine ⟨fun c => ⟨fun c4 => ⟨fun _ => next ?_, fun z => absurd c4 z⟩, fun c4 _ _ _ _ => ?_⟩, fun c => ⟨fun c4 => next ?_, fun c4 => found ?_⟩⟩
    · rcases h4 with q | q
      · exact absurd c4 q.1
      · exact q.2
    · have e3 : (l3 + l5).toInt.toNat = (400 * p + k) * 14 + i := by rw [i32_add (by omega) (by omega), h3, h5]; omega
      have e5 : l5.toInt.toNat = i := by omega
      have hinc5 : (l5 + Int32.ofInt 1).toInt = ((i + 1 : Nat) : Int) := by
        rw [i32_inc (c := 0) (by omega) (by omega), h5]
        rfl
      rw [e3, e5, h89 k hkL i (by omega), h82 i (by omega)]
      refine ⟨fun c5 => ⟨rfl, k, i + 1, hk, hkL, h, h3, hinc5, by omega, Or.inl ⟨by decide, fun u hu => ?_⟩⟩, fun c5 => ⟨rfl, k, i + 1, hk, hkL, h, h3, hinc5, by omega, Or.inr ⟨rfl, fun z => c5 (by rw [z i (by omega)])⟩⟩⟩
      rcases h4 with q | q
      · by_cases eu : u = i
        · rw [eu]; exact Int32.toInt_inj.mp c5
        · exact q.2 u (by omega)
      · exact absurd q.1 c4
    · rcases h4 with q | q
      · exact absurd c4 q.1
      · exact q.2
    · rcases h4 with q | q
      · exact fun u hu => q.2 u (by omega)
      · exact absurd q.1 c4
end EM
