/-! ===== rules: their numbers from verse to verse, what breaks them ===== -/
def hb_ (se v : Int32) : Bool := !decide ((se &&& v).toInt = 0)
theorem hb_t {se v : Int32} : hb_ se v = true ↔ ¬ (se &&& v).toInt = 0 := by
  unfold hb_
  rw [Bool.not_eq_true', decide_eq_false_iff_not]
theorem hb_f {se v : Int32} : hb_ se v = false ↔ (se &&& v).toInt = 0 := by
  unfold hb_
  rw [Bool.not_eq_false', decide_eq_true_eq]
/-- a rule's number behind one verse more -/
def nx_ (so a n : Int) (h : Bool) : Int := if so = 2 then (if h = true then n + 1 else 0) else if so = 3 then (if h = true then 0 else if n < a then n + 1 else n) else if so = 4 then (if h = true then n + 1 else n) else if so = 5 then (if h = true then (if n < a then n + 1 else n) else n) else n
/-- what such a number is -/
def no_ (so a p n : Int) : Prop := 0 ≤ n ∧ (so = 2 ∨ so = 4 → n ≤ p) ∧ (so = 3 ∨ so = 5 → n ≤ a) ∧ (so < 2 ∨ 5 < so → n = 0)
theorem no_nx {so a p n : Int} {h : Bool} (ha : 0 ≤ a) (hp : 0 ≤ p) (hn : no_ so a p n) : no_ so a (p + 1) (nx_ so a n h) := by
  obtain ⟨n0, n1, n2, n3⟩ := hn
  unfold nx_ no_
  by_cases c2 : so = 2
  · rw [if_pos c2]
    have := n1 (Or.inl c2)
    split <;> omega
  · rw [if_neg c2]
    by_cases c3 : so = 3
    · rw [if_pos c3]
      have := n2 (Or.inl c3)
      split
      · omega
      · split <;> omega
    · rw [if_neg c3]
      by_cases c4 : so = 4
      · rw [if_pos c4]
        have := n1 (Or.inr c4)
        split <;> omega
      · rw [if_neg c4]
        by_cases c5 : so = 5
        · rw [if_pos c5]
          have := n2 (Or.inr c5)
          split
          · split <;> omega
          · omega
        · rw [if_neg c5]
          have := n3 (by omega)
          omega
theorem no_le {so a p n : Int} (hs : 0 ≤ so) (ha : a ≤ 48) (hp : p ≤ 48) (hp0 : 0 ≤ p) (hn : no_ so a p n) : 0 ≤ n ∧ n ≤ 48 := by
  obtain ⟨n0, n1, n2, n3⟩ := hn
  refine ⟨n0, ?_⟩
  by_cases c : so = 2 ∨ so = 4
  · have := n1 c; omega
  · by_cases c2 : so = 3 ∨ so = 5
    · have := n2 c2; omega
    · have := n3 (by omega); omega
/-- a rule's number behind p verses with these sets -/
def nb_ (ρ : Int32 × Int32 × Int32 × Int32) (sf : Nat → Int32) : Nat → Int
  | 0 => if ρ.1.toInt = 3 then ρ.2.2.1.toInt else 0
  | p + 1 => nx_ ρ.1.toInt ρ.2.2.1.toInt (nb_ ρ sf p) (hb_ ρ.2.1 (sf p))
theorem nb_congr {ρ : Int32 × Int32 × Int32 × Int32} {sf sg : Nat → Int32} : ∀ p : Nat, (∀ v, v < p → sf v = sg v) → nb_ ρ sf p = nb_ ρ sg p := by
  intro p
  induction p with
  | zero => intro _; rfl
  | succ p ih =>
    intro h
    show nx_ _ _ (nb_ ρ sf p) (hb_ _ (sf p)) = nx_ _ _ (nb_ ρ sg p) (hb_ _ (sg p))
    rw [ih (fun v hv => h v (by omega)), h p (by omega)]
theorem nb_no {ρ : Int32 × Int32 × Int32 × Int32} {sf : Nat → Int32} (ha : 0 ≤ ρ.2.2.1.toInt) : ∀ p : Nat, no_ ρ.1.toInt ρ.2.2.1.toInt (p : Int) (nb_ ρ sf p) := by
  intro p
  induction p with
  | zero =>
    show no_ ρ.1.toInt ρ.2.2.1.toInt ((0 : Nat) : Int) (if ρ.1.toInt = 3 then ρ.2.2.1.toInt else 0)
    unfold no_
    split <;> omega
  | succ p ih =>
    have := no_nx (h := hb_ ρ.2.1 (sf p)) ha (by omega) ih
    rw [show ((p + 1 : Nat) : Int) = (p : Int) + 1 by omega]
    exact this
/-- a verse breaks a rule that looks at its name alone; n: the number behind the one ahead -/
def bk_ (so a b n p len : Int) (h : Bool) : Prop := (so = 0 ∧ a ≤ p ∧ p ≤ b ∧ h = false) ∨ (so = 1 ∧ a ≤ p ∧ p ≤ b ∧ h = true) ∨ (so = 2 ∧ ((h = true ∧ (b < n + 1 ∨ (p = len ∧ n + 1 < a))) ∨ (h = false ∧ 0 < n ∧ n < a))) ∨ (so = 3 ∧ h = true ∧ 0 < n ∧ n < a) ∨ (so = 4 ∧ h = true ∧ a < n + 1) ∨ (so = 5 ∧ n + (if h = true then 1 else 0) + len - p < a)
section RU
variable {s : sg_S} {x1 x2 x3 x4 : Int32} {T : rp_T} {k : Nat}
theorem sx_had (hU : rx_RU T s) (hk : x1.toInt = (k : Int)) (hk2 : k < T.2.2.1) : am_SpI 74 [.ref 1, .int x1, .int x2] s (bo_ (hb_ (rp_rl T k).2.1 x2 = true) s) := by
  refine wp_XRules_isHad_1_ok ?_
  unfold wp_XRules_isHad_1
  simp only [hk, Int.toNat_natCast]
  rw [(hU.2.2.2.2.2 k hk2).2.1]
  exact fun _ _ => ⟨fun c => bo_0 (fun z => hb_t.mp z c), fun c => bo_1 (hb_t.mpr c)⟩
theorem sx_next {n : Int} {h : Bool} (hU : rx_RU T s) (hk : x1.toInt = (k : Int)) (hk2 : k < T.2.2.1) (hn : x2.toInt = n) (hh : (¬ x3.toInt = 0 ∧ h = true) ∨ (x3.toInt = 0 ∧ h = false)) (hno : no_ (rp_rl T k).1.toInt (rp_rl T k).2.2.1.toInt 48 n) (ha : 0 ≤ (rp_rl T k).2.2.1.toInt ∧ (rp_rl T k).2.2.1.toInt ≤ 48) (hs0 : 0 ≤ (rp_rl T k).1.toInt) : am_SpI 75 [.ref 1, .int x1, .int x2, .int x3] s (fun r s2 => s2 = s ∧ r.toInt = nx_ (rp_rl T k).1.toInt (rp_rl T k).2.2.1.toInt n h) := by
  have hle := no_le hs0 ha.2 (by omega) (by omega) hno
  obtain ⟨n0, n1, n2, n3⟩ := hno
  have hinc : (x2 + Int32.ofInt 1).toInt = n + 1 := by rw [i32_inc (c := 0) (by omega) (by omega), hn]
  obtain ⟨u4, -, u6, -⟩ := hU.2.2.2.2.2 k hk2
  refine wp_XRules_nextNumber_1_ok ?_
  unfold wp_XRules_nextNumber_1
  simp only [hk, Int.toNat_natCast, u4, u6]
  have mi : ∀ (y z : Int32) (c : Int), y.toInt = c → (if z < y then z else y).toInt = if z.toInt < c then z.toInt else c := by
    intro y z c hc
    by_cases q : z < y
    · rw [if_pos q, if_pos (by rw [← hc]; exact Int32.lt_iff_toInt_lt.mp q)]
    · rw [if_neg q, if_neg (by rw [← hc]; exact fun w => q (Int32.lt_iff_toInt_lt.mpr w)), hc]
  have v2 : (rp_rl T k).1.toInt = 2 → nx_ (rp_rl T k).1.toInt (rp_rl T k).2.2.1.toInt n h = if h = true then n + 1 else 0 := fun c => by
    unfold nx_
    rw [if_pos c]
  have v3 : (rp_rl T k).1.toInt = 3 → nx_ (rp_rl T k).1.toInt (rp_rl T k).2.2.1.toInt n h = if h = true then 0 else if n < (rp_rl T k).2.2.1.toInt then n + 1 else n := fun c => by
    unfold nx_
    rw [if_neg (by omega), if_pos c]
  have v4 : (rp_rl T k).1.toInt = 4 → nx_ (rp_rl T k).1.toInt (rp_rl T k).2.2.1.toInt n h = if h = true then n + 1 else n := fun c => by
    unfold nx_
    rw [if_neg (by omega), if_neg (by omega), if_pos c]
  have v5 : (rp_rl T k).1.toInt = 5 → nx_ (rp_rl T k).1.toInt (rp_rl T k).2.2.1.toInt n h = if h = true then (if n < (rp_rl T k).2.2.1.toInt then n + 1 else n) else n := fun c => by
    unfold nx_
    rw [if_neg (by omega), if_neg (by omega), if_neg (by omega), if_pos c]
  have v6 : (rp_rl T k).1.toInt < 2 ∨ 5 < (rp_rl T k).1.toInt → nx_ (rp_rl T k).1.toInt (rp_rl T k).2.2.1.toInt n h = n := fun c => by
    unfold nx_
    rw [if_neg (by omega), if_neg (by omega), if_neg (by omega), if_neg (by omega)]
  refine fun _ _ => ⟨fun c => ?_, fun c => ?_, fun c => ?_, fun c => ?_, fun c => ⟨trivial, ?_⟩⟩
  · rw [v2 c]
    rcases hh with ⟨h1, rfl⟩ | ⟨h1, rfl⟩
    · exact ⟨fun d => absurd d h1, fun _ => ⟨trivial, by rw [if_pos rfl]; exact hinc⟩⟩
    · exact ⟨fun _ => ⟨trivial, rfl⟩, fun d => absurd h1 d⟩
  · rw [v3 c]
    have := n2 (Or.inl c)
    rcases hh with ⟨h1, rfl⟩ | ⟨h1, rfl⟩
    · exact ⟨fun d => absurd d h1, fun _ => ⟨trivial, rfl⟩⟩
    · refine ⟨fun _ => ⟨trivial, ?_⟩, fun d => absurd h1 d⟩
      rw [if_neg (show ¬ false = true by decide), mi _ _ _ hinc]
      split <;> split <;> omega
  · rw [v4 c]
    rcases hh with ⟨h1, rfl⟩ | ⟨h1, rfl⟩
    · exact ⟨fun d => absurd d h1, fun _ => ⟨trivial, by rw [if_pos rfl]; exact hinc⟩⟩
    · exact ⟨fun _ => ⟨trivial, by rw [if_neg (by decide)]; exact hn⟩, fun d => absurd h1 d⟩
  · rw [v5 c]
    have := n2 (Or.inr c)
    rcases hh with ⟨h1, rfl⟩ | ⟨h1, rfl⟩
    · refine ⟨fun d => absurd d h1, fun _ => ⟨trivial, ?_⟩⟩
      rw [if_pos (show true = true from rfl), mi _ _ _ hinc]
      split <;> split <;> omega
    · refine ⟨fun _ => ⟨trivial, ?_⟩, fun d => absurd h1 d⟩
      rw [if_neg (show ¬ false = true by decide), mi _ _ _ hn]
      split <;> omega
  · rw [v6 c]
    have := n3 (by omega)
    rw [this]
    rfl
theorem sx_brk {n p len : Int} {h : Bool} (hU : rx_RU T s) (hk : x1.toInt = (k : Int)) (hk2 : k < T.2.2.1) (hn : x2.toInt = n) (hn2 : 0 ≤ n ∧ n ≤ 48) (hp : x3.toInt = p) (hp2 : 0 ≤ p ∧ p ≤ 48) (hlen : T.2.2.2.1 = len) (hl2 : 0 ≤ len ∧ len ≤ 48) (hh : (¬ x4.toInt = 0 ∧ h = true) ∨ (x4.toInt = 0 ∧ h = false)) : am_SpI 76 [.ref 1, .int x1, .int x2, .int x3, .int x4] s (bo_ (bk_ (rp_rl T k).1.toInt (rp_rl T k).2.2.1.toInt (rp_rl T k).2.2.2.toInt n p len h) s) := by
  obtain ⟨u4, -, u6, u7⟩ := hU.2.2.2.2.2 k hk2
  have e13 : (s.1 1 3).toInt = len := by rw [hU.2.2.2.1, hlen]
  have hinc : (x2 + Int32.ofInt 1).toInt = n + 1 := by rw [i32_inc (c := 0) (by omega) (by omega), hn]
  have z0 : (Int32.ofInt 0).toInt = 0 := rfl
  have z1 : (Int32.ofInt 1).toInt = 1 := rfl
  have l0 : (((x2 + Int32.ofInt 0) + s.1 1 3) - x3).toInt = n + 0 + len - p := by
    have a1 : (x2 + Int32.ofInt 0).toInt = n := by rw [i32_add (by omega) (by omega), z0, hn]; omega
    have a2 : ((x2 + Int32.ofInt 0) + s.1 1 3).toInt = n + len := by rw [i32_add (by omega) (by omega), a1, e13]
    rw [i32_sub (by omega) (by omega), a2, hp]
    omega
  have l1 : (((x2 + Int32.ofInt 1) + s.1 1 3) - x3).toInt = n + 1 + len - p := by
    have a2 : ((x2 + Int32.ofInt 1) + s.1 1 3).toInt = n + 1 + len := by rw [i32_add (by omega) (by omega), hinc, e13]
    rw [i32_sub (by omega) (by omega), a2, hp]
  have ht : ∀ d : ¬ x4.toInt = 0, h = true := fun d => by rcases hh with ⟨_, q⟩ | ⟨q, _⟩; exact q; exact absurd q d
  have hf : ∀ d : x4.toInt = 0, h = false := fun d => by rcases hh with ⟨q, _⟩ | ⟨_, q⟩; exact absurd d q; exact q
  have tn : h = true → ¬ h = false := fun q => by rw [q]; decide
  have nt : h = false → ¬ h = true := fun q => by rw [q]; decide
  refine wp_XRules_isBrokenBy_1_ok ?_
  unfold wp_XRules_isBrokenBy_1
  simp only [hk, Int.toNat_natCast, u4, u6, u7, hp, hn, hinc, l0, l1]
  generalize (rp_rl T k).1.toInt = so
  refine fun _ _ => ⟨fun c => ⟨fun d => ⟨fun e => bo_0 ?_, fun e => ⟨fun g => bo_0 ?_, fun g => bo_1 (Or.inl ⟨c, by omega, by omega, hf d⟩)⟩⟩, fun d => bo_0 ?_⟩, fun c => ⟨fun d => bo_0 ?_, fun d => ⟨fun e => bo_0 ?_, fun e => ⟨fun g => bo_0 ?_, fun g => bo_1 (Or.inr (Or.inl ⟨c, by omega, by omega, ht d⟩))⟩⟩⟩, fun c => ?_, fun c => ⟨fun d => bo_0 ?_, fun d => ⟨fun e => ⟨fun g => bo_1 (Or.inr (Or.inr (Or.inr (Or.inl ⟨c, ht d, e, g⟩)))), fun g => bo_0 ?_⟩, fun e => bo_0 ?_⟩⟩, fun c => ⟨fun d => bo_0 ?_, fun d => ⟨fun e => bo_1 (Or.inr (Or.inr (Or.inr (Or.inr (Or.inl ⟨c, ht d, e⟩))))), fun e => bo_0 ?_⟩⟩, fun c => ⟨fun d => ⟨fun e => bo_1 (Or.inr (Or.inr (Or.inr (Or.inr (Or.inr ⟨c, by rw [if_neg (nt (hf d))]; omega⟩))))), fun e => bo_0 ?_⟩, fun d => ⟨fun e => bo_1 (Or.inr (Or.inr (Or.inr (Or.inr (Or.inr ⟨c, by rw [if_pos (ht d)]; omega⟩))))), fun e => bo_0 ?_⟩⟩, fun c => bo_0 ?_⟩
  · intro z; rcases z with z | z | z | z | z | z <;> omega
  · intro z; rcases z with z | z | z | z | z | z <;> omega
  · intro z
    rcases z with z | z | z | z | z | z
    · exact tn (ht d) z.2.2.2
    all_goals omega
  · intro z
    rcases z with z | z | z | z | z | z
    · omega
    · exact nt (hf d) z.2.2.2
    all_goals omega
  · intro z; rcases z with z | z | z | z | z | z <;> omega
  · intro z; rcases z with z | z | z | z | z | z <;> omega
  · refine wp_XRules_isRunBroken_1_ok ?_
    unfold wp_XRules_isRunBroken_1
    simp only [hk, Int.toNat_natCast, u6, u7, hp, hn, hinc, e13]
    refine ⟨fun d => ⟨fun e _ _ => ⟨fun g => bo_1 (Or.inr (Or.inr (Or.inl ⟨c, Or.inr ⟨hf d, e, g⟩⟩))), fun g => bo_0 ?_⟩, fun e => bo_0 ?_⟩, fun d _ _ => ⟨fun e => bo_1 (Or.inr (Or.inr (Or.inl ⟨c, Or.inl ⟨ht d, Or.inl e⟩⟩))), fun e => ⟨fun g => ⟨fun i => bo_1 (Or.inr (Or.inr (Or.inl ⟨c, Or.inl ⟨ht d, Or.inr ⟨g, i⟩⟩⟩))), fun i => bo_0 ?_⟩, fun g => bo_0 ?_⟩⟩⟩
    · intro z
      rcases z with z | z | z | z | z | z
      · omega
      · omega
      · rcases z.2 with z | z
        · exact nt (hf d) z.1
        · omega
      all_goals omega
    · intro z
      rcases z with z | z | z | z | z | z
      · omega
      · omega
      · rcases z.2 with z | z
        · exact nt (hf d) z.1
        · omega
      all_goals omega
    · intro z
      rcases z with z | z | z | z | z | z
      · omega
      · omega
      · rcases z.2 with z | z
        · omega
        · exact tn (ht d) z.1
      all_goals omega
    · intro z
      rcases z with z | z | z | z | z | z
      · omega
      · omega
      · rcases z.2 with z | z
        · omega
        · exact tn (ht d) z.1
      all_goals omega
  · intro z
    rcases z with z | z | z | z | z | z
    · omega
    · omega
    · omega
    · exact nt (hf d) z.2.1
    all_goals omega
  · intro z; rcases z with z | z | z | z | z | z <;> omega
  · intro z; rcases z with z | z | z | z | z | z <;> omega
  · intro z
    rcases z with z | z | z | z | z | z
    · omega
    · omega
    · omega
    · omega
    · exact nt (hf d) z.2.1
    · omega
  · intro z; rcases z with z | z | z | z | z | z <;> omega
  · intro z
    rcases z with z | z | z | z | z | z
    · omega
    · omega
    · omega
    · omega
    · omega
    · have z := z.2
      rw [if_neg (nt (hf d))] at z
      omega
  · intro z
    rcases z with z | z | z | z | z | z
    · omega
    · omega
    · omega
    · omega
    · omega
    · have z := z.2
      rw [if_pos (ht d)] at z
      omega
  · intro z; rcases z with z | z | z | z | z | z <;> omega
/-- M goes along with a set -/
theorem sm_along {R : Nat} (hU : rm_RU T s) (hR : T.2.2.1 = R) (h12 : R ≤ 12) (hn : ∀ k, k < R → 0 ≤ (s.2.2.1 82 (2 + k)).toInt ∧ (s.2.2.1 82 (2 + k)).toInt ≤ 48) : am_SpV 186 [.ref 64, .int x1] s (fun s2 => sg_fr [] [82] s s2 ∧ s2.2.2.1 82 0 = x1 ∧ s2.2.2.1 82 1 = s.2.2.1 82 0 ∧ ∀ k, k < R → (s2.2.2.1 82 (2 + k)).toInt = nx_ (rp_rl T k).1.toInt (rp_rl T k).2.2.1.toInt (s.2.2.1 82 (2 + k)).toInt (hb_ (rp_rl T k).2.1 x1)) := by
  have z2 : (Int32.ofInt 2).toInt = 2 := rfl
  refine wp_M_goesAlong_ok
    (I21 := fun l s1 => sg_fr [] [82] s s1 ∧ (s1.2.2.1 82 0 = x1 ∧ s1.2.2.1 82 1 = s.2.2.1 82 0) ∧ ∃ i : Nat, l.toInt = (i : Int) ∧ i ≤ R ∧ (∀ k, k < i → (s1.2.2.1 82 (2 + k)).toInt = nx_ (rp_rl T k).1.toInt (rp_rl T k).2.2.1.toInt (s.2.2.1 82 (2 + k)).toInt (hb_ (rp_rl T k).2.1 x1)) ∧ ∀ k, i ≤ k → s1.2.2.1 82 (2 + k) = s.2.2.1 82 (2 + k))
    (I46 := fun l h s1 => sg_fr [] [82] s s1 ∧ (s1.2.2.1 82 0 = x1 ∧ s1.2.2.1 82 1 = s.2.2.1 82 0) ∧ ∃ i : Nat, l.toInt = (i : Int) ∧ i < R ∧ (∀ k, k < i → (s1.2.2.1 82 (2 + k)).toInt = nx_ (rp_rl T k).1.toInt (rp_rl T k).2.2.1.toInt (s.2.2.1 82 (2 + k)).toInt (hb_ (rp_rl T k).2.1 x1)) ∧ (∀ k, i ≤ k → s1.2.2.1 82 (2 + k) = s.2.2.1 82 (2 + k)) ∧ ((¬ h.toInt = 0 ∧ hb_ (rp_rl T i).2.1 x1 = true) ∨ (h.toInt = 0 ∧ hb_ (rp_rl T i).2.1 x1 = false)))
    (I213 := fun l s1 => sg_fr [] [82] s s1 ∧ (s1.2.2.1 82 0 = x1 ∧ s1.2.2.1 82 1 = s.2.2.1 82 0) ∧ ∃ i : Nat, l.toInt = (i : Int) ∧ i < R ∧ (∀ k, k < i + 1 → (s1.2.2.1 82 (2 + k)).toInt = nx_ (rp_rl T k).1.toInt (rp_rl T k).2.2.1.toInt (s.2.2.1 82 (2 + k)).toInt (hb_ (rp_rl T k).2.1 x1)) ∧ ∀ k, i + 1 ≤ k → s1.2.2.1 82 (2 + k) = s.2.2.1 82 (2 + k)) ?_ ?_ ?_ ?_
  · intro l s1 hI
    obtain ⟨f, g, i, hi, hiR, h1, h2⟩ := hI
    have e23 : (s1.1 64 23).toInt = (R : Int) := by rw [f.i rfl, hU.2.2.1, hR]
    unfold wp_M_goesAlong_21
    simp only [hi, e23, Int.toNat_natCast]
    refine ⟨fun c1 _ _ => ?_, fun c1 => ⟨f, g.1, g.2, fun k hk => h1 k (by omega)⟩⟩
    have u := (hU.2.2.2.2.2 i (by omega)).2.1
    have e73 : s1.2.2.1 73 i = (rp_rl T i).2.1 := by rw [f.a rfl]; exact u
    rw [e73, Int32.and_comm]
    exact ⟨fun c2 => ⟨f, g, i, rfl, by omega, h1, h2, Or.inr ⟨rfl, hb_f.mpr c2⟩⟩, fun c2 => ⟨f, g, i, rfl, by omega, h1, h2, Or.inl ⟨by decide, hb_t.mpr c2⟩⟩⟩
  · intro l h s1 hI
    obtain ⟨f, g, i, hi, hiR, h1, h2, hh⟩ := hI
    obtain ⟨u72, -, u74, -⟩ := hU.2.2.2.2.2 i (by omega)
    have e72 : s1.2.2.1 72 i = (rp_rl T i).1 := by rw [f.a rfl]; exact u72
    have e74 : s1.2.2.1 74 i = (rp_rl T i).2.2.1 := by rw [f.a rfl]; exact u74
    have e2 : (Int32.ofInt 2 + l).toInt = ((2 + i : Nat) : Int) := by rw [i32_add (by omega) (by omega), z2, hi]; omega
    have e82 := h2 i (Nat.le_refl _)
    have hni := hn i hiR
    have hinc : (s.2.2.1 82 (2 + i) + Int32.ofInt 1).toInt = (s.2.2.1 82 (2 + i)).toInt + 1 := i32_inc (c := 0) (by omega) (by omega)
    have put : ∀ v : Int32, v.toInt = nx_ (rp_rl T i).1.toInt (rp_rl T i).2.2.1.toInt (s.2.2.1 82 (2 + i)).toInt (hb_ (rp_rl T i).2.1 x1) → sg_fr [] [82] s (sg_uA s1 82 (2 + i) v) ∧ ((sg_uA s1 82 (2 + i) v).2.2.1 82 0 = x1 ∧ (sg_uA s1 82 (2 + i) v).2.2.1 82 1 = s.2.2.1 82 0) ∧ ∃ j : Nat, l.toInt = (j : Int) ∧ j < R ∧ (∀ k, k < j + 1 → ((sg_uA s1 82 (2 + i) v).2.2.1 82 (2 + k)).toInt = nx_ (rp_rl T k).1.toInt (rp_rl T k).2.2.1.toInt (s.2.2.1 82 (2 + k)).toInt (hb_ (rp_rl T k).2.1 x1)) ∧ ∀ k, j + 1 ≤ k → (sg_uA s1 82 (2 + i) v).2.2.1 82 (2 + k) = s.2.2.1 82 (2 + k) := by
      intro v hv
      refine ⟨f.uA rfl, ⟨(sg_A2 (fun c => by omega)).trans g.1, (sg_A2 (fun c => by omega)).trans g.2⟩, i, hi, hiR, fun k hk => ?_, fun k hk => ?_⟩
      · by_cases ek : k = i
        · rw [ek, sg_A1]
          exact hv
        · rw [sg_A2 (fun c => by omega)]
          exact h1 k (by omega)
      · rw [sg_A2 (fun c => by omega)]
        exact h2 k (by omega)
    unfold wp_M_goesAlong_46
    rw [e2]
    simp only [Int.toNat_natCast]
    have el : l.toInt.toNat = i := by omega
    rw [el, e72, e74, e82]
    intro _ _ _ _
    generalize hbb : hb_ (rp_rl T i).2.1 x1 = bb at hh put
    unfold nx_ at put
    refine ⟨fun c => ?_, fun c => ?_, fun c => ?_, fun c => ?_, fun c => ?_⟩
    · rcases hh with ⟨q1, q2⟩ | ⟨q1, q2⟩
      · exact ⟨fun d => absurd d q1, fun _ => put _ (by rw [if_pos c, if_pos q2]; exact hinc)⟩
      · exact ⟨fun _ => put _ (by rw [if_pos c, if_neg (by rw [q2]; decide)]; rfl), fun d => absurd q1 d⟩
    · rcases hh with ⟨q1, q2⟩ | ⟨q1, q2⟩
      · exact ⟨fun d => absurd d q1, fun _ => put _ (by rw [if_neg (by omega), if_pos c, if_pos q2]; rfl)⟩
      · exact ⟨fun _ => ⟨fun d => put _ (by rw [if_neg (by omega), if_pos c, if_neg (by rw [q2]; decide), if_pos d]; exact hinc), fun d => put _ (by rw [if_neg (by omega), if_pos c, if_neg (by rw [q2]; decide), if_neg d])⟩, fun d => absurd q1 d⟩
    · rcases hh with ⟨q1, q2⟩ | ⟨q1, q2⟩
      · exact ⟨fun d => absurd d q1, fun _ => put _ (by rw [if_neg (by omega), if_neg (by omega), if_pos c, if_pos q2]; exact hinc)⟩
      · exact ⟨fun _ => put _ (by rw [if_neg (by omega), if_neg (by omega), if_pos c, if_neg (by rw [q2]; decide)]), fun d => absurd q1 d⟩
    · rcases hh with ⟨q1, q2⟩ | ⟨q1, q2⟩
      · exact ⟨fun d => absurd d q1, fun _ => ⟨fun d => put _ (by rw [if_neg (by omega), if_neg (by omega), if_neg (by omega), if_pos c, if_pos q2, if_pos d]; exact hinc), fun d => put _ (by rw [if_neg (by omega), if_neg (by omega), if_neg (by omega), if_pos c, if_pos q2, if_neg d])⟩⟩
      · exact ⟨fun _ => put _ (by rw [if_neg (by omega), if_neg (by omega), if_neg (by omega), if_pos c, if_neg (by rw [q2]; decide)]), fun d => absurd q1 d⟩
    · refine ⟨f, g, i, hi, hiR, fun k hk => ?_, fun k hk => h2 k (by omega)⟩
      by_cases ek : k = i
      · subst ek
        unfold nx_
        rw [e82, if_neg (by omega), if_neg (by omega), if_neg (by omega), if_neg (by omega)]
      · exact h1 k (by omega)
  · intro l s1 hI
    obtain ⟨f, g, i, hi, hiR, h1, h2⟩ := hI
    unfold wp_M_goesAlong_213
    refine ⟨f, g, i + 1, ?_, by omega, h1, h2⟩
    rw [i32_inc (c := 0) (by omega) (by omega), hi]
    rfl
  · unfold wp_M_goesAlong
    refine ⟨(sg_fr.rf.uA rfl).uA rfl, ⟨sg_A1, (sg_A2 (fun c => absurd c.2 (by decide))).trans sg_A1⟩, 0, rfl, Nat.zero_le _, fun k hk => absurd hk (Nat.not_lt_zero k), fun k _ => (sg_A2 (fun c => by omega)).trans (sg_A2 (fun c => by omega))⟩
end RU
