/-! ===== tokens of a text, words and their numbers: pure ===== -/
theorem i32_add {x y : Int32} (h1 : -2147483648 ≤ x.toInt + y.toInt) (h2 : x.toInt + y.toInt ≤ 2147483647) : (x + y).toInt = x.toInt + y.toInt := by
  have := am_oa x.toInt y.toInt
  rw [am_oio, am_oio] at this
  rw [this, am_oi h1 h2]
theorem i32_sub {x y : Int32} (h1 : -2147483648 ≤ x.toInt - y.toInt) (h2 : x.toInt - y.toInt ≤ 2147483647) : (x - y).toInt = x.toInt - y.toInt := by
  have := am_os x.toInt y.toInt
  rw [am_oio, am_oio] at this
  rw [this, am_oi h1 h2]
theorem i32_mul {x y : Int32} (h1 : -2147483648 ≤ x.toInt * y.toInt) (h2 : x.toInt * y.toInt ≤ 2147483647) : (x * y).toInt = x.toInt * y.toInt := by
  have := am_om x.toInt y.toInt
  rw [am_oio, am_oio] at this
  rw [this, am_oi h1 h2]
theorem i32_inc {x : Int32} {c : Int} (h : c ≤ x.toInt) (h2 : x.toInt < 2147483647) (hc : -2147483647 ≤ c := by decide) : (x + Int32.ofInt 1).toInt = x.toInt + 1 := by
  have e : (Int32.ofInt 1).toInt = 1 := rfl
  rw [i32_add (by omega) (by omega), e]
theorem i64_of (x : Int32) : x.toInt64 = Int64.ofInt x.toInt := by
  apply Int64.toInt_inj.mp
  have := ab_i32 x
  rw [Int32.toInt_toInt64, Int64.toInt_ofInt_of_le (by omega) (by omega)]
theorem i64_oi {z : Int} (h1 : -9223372036854775808 ≤ z) (h2 : z ≤ 9223372036854775807) : (Int64.ofInt z).toInt = z := Int64.toInt_ofInt_of_le (by omega) (by omega)
theorem i64_inj {a b : Int} (ha : 0 ≤ a) (ha2 : a ≤ 9223372036854775807) (hb : 0 ≤ b) (hb2 : b ≤ 9223372036854775807) : Int64.ofInt a = Int64.ofInt b ↔ a = b := by
  constructor
  · intro h
    rw [← i64_oi (z := a) (by omega) ha2, ← i64_oi (z := b) (by omega) hb2, h]
  · intro h
    rw [h]
def rd_bl (c : Int) : Bool := decide (c = 32) || decide (c = 10)
def rd_le (c : Int) : Bool := decide (97 ≤ c) && decide (c ≤ 122)
def rd_di (c : Int) : Bool := decide (48 ≤ c) && decide (c ≤ 57)
def rd_sg (c : Int) : Bool := decide (c = 59) || decide (c = 61) || decide (c = 44) || decide (c = 45)
theorem rd_bl_iff {c : Int} : rd_bl c = true ↔ c = 32 ∨ c = 10 := by simp [rd_bl]
theorem rd_le_iff {c : Int} : rd_le c = true ↔ 97 ≤ c ∧ c ≤ 122 := by simp [rd_le]
theorem rd_di_iff {c : Int} : rd_di c = true ↔ 48 ≤ c ∧ c ≤ 57 := by simp [rd_di]
theorem rd_sg_iff {c : Int} : rd_sg c = true ↔ c = 59 ∨ c = 61 ∨ c = 44 ∨ c = 45 := by simp [rd_sg, or_assoc]
theorem rd_bl_no {c : Int} (h : ¬ (c = 32 ∨ c = 10)) : rd_bl c = false := by
  rw [← rd_bl_iff] at h
  simpa using h
theorem rd_le_no {c : Int} (h : ¬ (97 ≤ c ∧ c ≤ 122)) : rd_le c = false := by
  rw [← rd_le_iff] at h
  simpa using h
theorem rd_di_no {c : Int} (h : ¬ (48 ≤ c ∧ c ≤ 57)) : rd_di c = false := by
  rw [← rd_di_iff] at h
  simpa using h
theorem rd_sg_no {c : Int} (h : ¬ (c = 59 ∨ c = 61 ∨ c = 44 ∨ c = 45)) : rd_sg c = false := by
  rw [← rd_sg_iff] at h
  simpa using h
/-- from p on as long as P holds -/
def rd_sw (P : Int → Bool) (B : Nat → Int) : Nat → Nat → Nat
  | 0, p => p
  | n + 1, p => bif P (B p) then rd_sw P B n (p + 1) else p
def rd_to (P : Int → Bool) (B : Nat → Int) (N p : Nat) : Nat := rd_sw P B (N - p) p
section RT
variable {P : Int → Bool} {B : Nat → Int} {N p : Nat}
theorem rd_to_go (h : p < N) (hp : P (B p) = true) : rd_to P B N p = rd_to P B N (p + 1) := by
  unfold rd_to
  obtain ⟨m, hm⟩ : ∃ m, N - p = m + 1 := ⟨N - p - 1, by omega⟩
  have hm2 : N - (p + 1) = m := by omega
  rw [hm, hm2]
  show (bif P (B p) then rd_sw P B m (p + 1) else p) = _
  rw [hp]
  rfl
theorem rd_to_no (hp : P (B p) = false) : rd_to P B N p = p := by
  unfold rd_to
  cases N - p with
  | zero => rfl
  | succ m =>
    show (bif P (B p) then rd_sw P B m (p + 1) else p) = _
    rw [hp]
    rfl
theorem rd_to_end (h : N ≤ p) : rd_to P B N p = p := by
  unfold rd_to
  rw [show N - p = 0 by omega]
  rfl
theorem rd_sw_ge : ∀ (n p : Nat), p ≤ rd_sw P B n p ∧ rd_sw P B n p ≤ p + n ∧ (rd_sw P B n p < p + n → P (B (rd_sw P B n p)) = false) ∧ ∀ i, p ≤ i → i < rd_sw P B n p → P (B i) = true := by
  intro n
  induction n with
  | zero => intro p; exact ⟨Nat.le_refl _, Nat.le_refl _, fun h => absurd h (Nat.lt_irrefl _), fun i h1 h2 => absurd h2 (Nat.not_lt.mpr h1)⟩
  | succ n ih =>
    intro p
    show p ≤ (bif P (B p) then rd_sw P B n (p + 1) else p) ∧ (bif P (B p) then rd_sw P B n (p + 1) else p) ≤ p + (n + 1) ∧ ((bif P (B p) then rd_sw P B n (p + 1) else p) < p + (n + 1) → P (B (bif P (B p) then rd_sw P B n (p + 1) else p)) = false) ∧ ∀ i, p ≤ i → i < (bif P (B p) then rd_sw P B n (p + 1) else p) → P (B i) = true
    cases hp : P (B p) with
    | false => exact ⟨Nat.le_refl _, Nat.le_add_right _ _, fun _ => hp, fun i h1 h2 => absurd h2 (Nat.not_lt.mpr h1)⟩
    | true =>
      simp only [cond_true]
      obtain ⟨a, b, c, d⟩ := ih (p + 1)
      refine ⟨by omega, by omega, fun h => c (by omega), fun i h1 h2 => ?_⟩
      by_cases hi : i = p
      · rw [hi]; exact hp
      · exact d i (by omega) h2
theorem rd_to_ge : p ≤ rd_to P B N p := (rd_sw_ge _ _).1
theorem rd_to_le (h : p ≤ N) : rd_to P B N p ≤ N := by
  have := (rd_sw_ge (P := P) (B := B) (N - p) p).2.1
  unfold rd_to
  omega
theorem rd_to_stop (h : rd_to P B N p < N) : P (B (rd_to P B N p)) = false := by
  have h1 : p ≤ rd_to P B N p := rd_to_ge
  exact (rd_sw_ge (P := P) (B := B) (N - p) p).2.2.1 (by unfold rd_to at h h1; omega)
theorem rd_to_in {i : Nat} (h1 : p ≤ i) (h2 : i < rd_to P B N p) : P (B i) = true := (rd_sw_ge (P := P) (B := B) (N - p) p).2.2.2 i h1 h2
theorem rd_to_idem : rd_to P B N (rd_to P B N p) = rd_to P B N p := by
  by_cases h : rd_to P B N p < N
  · exact rd_to_no (rd_to_stop h)
  · exact rd_to_end (by omega)
theorem rd_to_pos (h : p < N) (hp : P (B p) = true) : p < rd_to P B N p := by
  rw [rd_to_go h hp]
  exact rd_to_ge (P := P) (B := B) (N := N) (p := p + 1)
end RT
/-- digits, the last first -/
def rd_ds (o : Int) (B : Nat → Int) (p : Nat) : Nat → List Int
  | 0 => []
  | n + 1 => (B (p + n) - o) :: rd_ds o B p n
def rd_cd (b : Int) : List Int → Int
  | [] => 0
  | d :: w => rd_cd b w * b + d
def rd_ok (b : Int) (w : List Int) : Prop := ∀ d ∈ w, 1 ≤ d ∧ d < b
theorem rd_cd_nn {b : Int} (hb : 2 ≤ b) : ∀ {w : List Int}, rd_ok b w → 0 ≤ rd_cd b w ∧ (w ≠ [] → 1 ≤ rd_cd b w) := by
  intro w
  induction w with
  | nil => intro _; exact ⟨Int.le_refl _, fun h => absurd rfl h⟩
  | cons d w ih =>
    intro h
    have h1 := (ih (fun x hx => h x (List.mem_cons_of_mem _ hx))).1
    have h2 := h d List.mem_cons_self
    have h3 : 0 ≤ rd_cd b w * b := Int.mul_nonneg h1 (by omega)
    show 0 ≤ rd_cd b w * b + d ∧ (_ → 1 ≤ rd_cd b w * b + d)
    exact ⟨by omega, fun _ => by omega⟩
theorem rd_cd_inj {b : Int} (hb : 2 ≤ b) : ∀ {w v : List Int}, rd_ok b w → rd_ok b v → rd_cd b w = rd_cd b v → w = v := by
  intro w
  induction w with
  | nil =>
    intro v _ hv e
    cases v with
    | nil => rfl
    | cons d v =>
      have := (rd_cd_nn hb hv).2 (by simp)
      rw [← e] at this
      exact absurd this (show ¬ (1 : Int) ≤ 0 by decide)
  | cons d w ih =>
    intro v hw hv e
    cases v with
    | nil =>
      have := (rd_cd_nn hb hw).2 (by simp)
      rw [e] at this
      exact absurd this (show ¬ (1 : Int) ≤ 0 by decide)
    | cons c v =>
      have h1 := hw d List.mem_cons_self
      have h2 := hv c List.mem_cons_self
      have e2 : rd_cd b w * b + d = rd_cd b v * b + c := e
      have m1 : (rd_cd b w * b + d) % b = d := by
        rw [Int.add_comm, Int.add_mul_emod_self_right]
        exact Int.emod_eq_of_lt (by omega) h1.2
      have m2 : (rd_cd b v * b + c) % b = c := by
        rw [Int.add_comm, Int.add_mul_emod_self_right]
        exact Int.emod_eq_of_lt (by omega) h2.2
      have hdc : d = c := by rw [← m1, ← m2, e2]
      subst hdc
      have e3 : rd_cd b w * b = rd_cd b v * b := by omega
      have e4 : rd_cd b w = rd_cd b v := Int.eq_of_mul_eq_mul_right (by omega) e3
      rw [ih (fun x hx => hw x (List.mem_cons_of_mem _ hx)) (fun x hx => hv x (List.mem_cons_of_mem _ hx)) e4]
/-- a name's letters: at most eight of 1 .. 26 -/
def rd_nm (w : List Int) : Prop := w.length ≤ 8 ∧ ∀ d ∈ w, 1 ≤ d ∧ d ≤ 26
theorem rd_nm.ok {w : List Int} (h : rd_nm w) {b : Int} (hb : 27 ≤ b) : rd_ok b w := fun d hd => ⟨(h.2 d hd).1, by have := (h.2 d hd).2; omega⟩
theorem rd_cd_le {w : List Int} (h : rd_nm w) {b : Int} (hb : 27 ≤ b) (hb2 : b ≤ 32) : 0 ≤ rd_cd b w ∧ rd_cd b w ≤ 9223372036854775807 := by
  refine ⟨(rd_cd_nn (by omega) (h.ok hb)).1, ?_⟩
  have key : ∀ w : List Int, (∀ d ∈ w, 1 ≤ d ∧ d ≤ 26) → rd_cd b w ≤ 32 ^ w.length - 1 := by
    intro w
    induction w with
    | nil => intro _; exact Int.le_refl _
    | cons d w ih =>
      intro hw
      have h1 := ih (fun x hx => hw x (List.mem_cons_of_mem _ hx))
      have h0 := (rd_cd_nn (b := b) (by omega) (w := w) (fun x hx => ⟨(hw x (List.mem_cons_of_mem _ hx)).1, by have := (hw x (List.mem_cons_of_mem _ hx)).2; omega⟩)).1
      have h2 := hw d List.mem_cons_self
      have h3 : rd_cd b w * b ≤ rd_cd b w * 32 := Int.mul_le_mul_of_nonneg_left hb2 h0
      show rd_cd b w * b + d ≤ 32 ^ (w.length + 1) - 1
      rw [Int.pow_succ]
      omega
  have h1 := key w h.2
  have h3 : ∀ n : Nat, n < 9 → (32 : Int) ^ n ≤ 1099511627776 := by decide
  have h2 := h3 w.length (by have := h.1; omega)
  omega
/-- both codes tell names apart -/
theorem rd_cd_eq {w v : List Int} (hw : rd_nm w) (hv : rd_nm v) {b : Int} (hb : 27 ≤ b) (hb2 : b ≤ 32) : Int64.ofInt (rd_cd b w) = Int64.ofInt (rd_cd b v) ↔ w = v := by
  have h1 := rd_cd_le hw hb hb2
  have h2 := rd_cd_le hv hb hb2
  rw [i64_inj h1.1 h1.2 h2.1 h2.2]
  exact ⟨rd_cd_inj (by omega) (hw.ok hb) (hv.ok hb), fun h => by rw [h]⟩
def rd_KW : List (List Int) := [[20, 1], [20, 15, 14], [14, 21, 18], [16, 1, 7], [20, 19, 15, 13], [20, 19, 1, 5, 12], [14, 9, 1, 7, 1], [11, 14, 9, 12], [20, 6, 9, 8, 19], [4, 14, 9, 11], [16, 21, 15, 18, 7], [8, 20, 7, 14, 5, 12], [19, 5, 20, 21, 14, 9, 13]]
/-- the number of a word of the text, or -1; only the first k are looked at -/
def rd_kn (w : List Int) : Nat → Int
  | 0 => -1
  | k + 1 => if rd_KW[k]? = some w then (k : Int) else rd_kn w k
def rd_kw (w : List Int) : Int := rd_kn w 13
theorem rd_KW_nm : ∀ (k : Nat) (v : List Int), rd_KW[k]? = some v → rd_nm v := by
  have h : (rd_KW.all (fun v => decide (v.length ≤ 8) && v.all (fun d => decide (1 ≤ d) && decide (d ≤ 26)))) = true := by decide
  intro k v hv
  have h1 := List.all_eq_true.mp h v (List.mem_of_getElem? hv)
  rw [Bool.and_eq_true, decide_eq_true_eq] at h1
  refine ⟨h1.1, fun d hd => ?_⟩
  have h2 := List.all_eq_true.mp h1.2 d hd
  rw [Bool.and_eq_true, decide_eq_true_eq, decide_eq_true_eq] at h2
  exact h2
theorem rd_kn_lt (w : List Int) : ∀ k : Nat, -1 ≤ rd_kn w k ∧ rd_kn w k < (k : Int) := by
  intro k
  induction k with
  | zero => exact ⟨Int.le_refl _, show (-1 : Int) < 0 by decide⟩
  | succ k ih =>
    show -1 ≤ (if rd_KW[k]? = some w then (k : Int) else rd_kn w k) ∧ (if rd_KW[k]? = some w then (k : Int) else rd_kn w k) < ((k + 1 : Nat) : Int)
    split <;> omega
