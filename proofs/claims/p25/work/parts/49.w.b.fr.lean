/-! ===== frames of states, tokens by the place of their first byte ===== -/
def sg_fr (mo : List (Nat × Nat)) (ao : List Nat) (s s2 : sg_S) : Prop := (∀ b j, (b, j) ∉ mo → s2.1 b j = s.1 b j ∧ s2.2.1 b j = s.2.1 b j) ∧ (∀ b, b ∉ ao → s2.2.2.1 b = s.2.2.1 b ∧ s2.2.2.2.1 b = s.2.2.2.1 b) ∧ s2.2.2.2.2 = s.2.2.2.2
section FR
variable {mo mo2 : List (Nat × Nat)} {ao ao2 : List Nat} {s s1 s2 : sg_S}
theorem sg_fr.rf : sg_fr mo ao s s := ⟨fun _ _ _ => ⟨rfl, rfl⟩, fun _ _ => ⟨rfl, rfl⟩, rfl⟩
theorem sg_fr.tr (f : sg_fr mo ao s s1) (g : sg_fr mo ao s1 s2) : sg_fr mo ao s s2 := ⟨fun b j h => ⟨(g.1 b j h).1.trans (f.1 b j h).1, (g.1 b j h).2.trans (f.1 b j h).2⟩, fun b h => ⟨(g.2.1 b h).1.trans (f.2.1 b h).1, (g.2.1 b h).2.trans (f.2.1 b h).2⟩, g.2.2.trans f.2.2⟩
theorem sg_fr.le (f : sg_fr mo ao s s2) (h1 : (mo.all (fun q => mo2.contains q)) = true) (h2 : (ao.all (fun q => ao2.contains q)) = true) : sg_fr mo2 ao2 s s2 := by
  refine ⟨fun b j h => f.1 b j (fun q => h ?_), fun b h => f.2.1 b (fun q => h ?_), f.2.2⟩
  · exact List.contains_iff_mem.mp (List.all_eq_true.mp h1 _ q)
  · exact List.contains_iff_mem.mp (List.all_eq_true.mp h2 _ q)
theorem sg_fr.uI {a k : Nat} {v : Int32} (f : sg_fr mo ao s s2) (h : (mo.contains (a, k)) = true) : sg_fr mo ao s (sg_uI s2 a k v) := by
  refine ⟨fun b j hn => ⟨?_, (f.1 b j hn).2⟩, f.2⟩
  show (if b = a ∧ j = k then v else s2.1 b j) = _
  rw [if_neg (fun q => hn (by rw [q.1, q.2]; exact List.contains_iff_mem.mp h)), (f.1 b j hn).1]
theorem sg_fr.uL {a k : Nat} {v : Int64} (f : sg_fr mo ao s s2) (h : (mo.contains (a, k)) = true) : sg_fr mo ao s (sg_uL s2 a k v) := by
  refine ⟨fun b j hn => ⟨(f.1 b j hn).1, ?_⟩, f.2⟩
  show (if b = a ∧ j = k then v else s2.2.1 b j) = _
  rw [if_neg (fun q => hn (by rw [q.1, q.2]; exact List.contains_iff_mem.mp h)), (f.1 b j hn).2]
theorem sg_fr.uA {a k : Nat} {v : Int32} (f : sg_fr mo ao s s2) (h : (ao.contains a) = true) : sg_fr mo ao s (sg_uA s2 a k v) := by
  refine ⟨f.1, fun b hn => ⟨?_, (f.2.1 b hn).2⟩, f.2.2⟩
  rw [← (f.2.1 b hn).1]
  funext j
  show (if b = a ∧ j = k then v else s2.2.2.1 b j) = _
  rw [if_neg (fun q => hn (by rw [q.1]; exact List.contains_iff_mem.mp h))]
theorem sg_fr.uM {a k : Nat} {v : Int64} (f : sg_fr mo ao s s2) (h : (ao.contains a) = true) : sg_fr mo ao s (sg_uM s2 a k v) := by
  refine ⟨f.1, fun b hn => ⟨(f.2.1 b hn).1, ?_⟩, f.2.2⟩
  rw [← (f.2.1 b hn).2]
  funext j
  show (if b = a ∧ j = k then v else s2.2.2.2.1 b j) = _
  rw [if_neg (fun q => hn (by rw [q.1]; exact List.contains_iff_mem.mp h))]
theorem sg_fr.i {b j : Nat} (f : sg_fr mo ao s s2) (h : (mo.contains (b, j)) = false) : s2.1 b j = s.1 b j := (f.1 b j (fun q => by rw [List.contains_iff_mem.mpr q] at h; cases h)).1
theorem sg_fr.l {b j : Nat} (f : sg_fr mo ao s s2) (h : (mo.contains (b, j)) = false) : s2.2.1 b j = s.2.1 b j := (f.1 b j (fun q => by rw [List.contains_iff_mem.mpr q] at h; cases h)).2
theorem sg_fr.a {b : Nat} (f : sg_fr mo ao s s2) (h : (ao.contains b) = false) : s2.2.2.1 b = s.2.2.1 b := (f.2.1 b (fun q => by rw [List.contains_iff_mem.mpr q] at h; cases h)).1
theorem sg_fr.m {b : Nat} (f : sg_fr mo ao s s2) (h : (ao.contains b) = false) : s2.2.2.2.1 b = s.2.2.2.1 b := (f.2.1 b (fun q => by rw [List.contains_iff_mem.mpr q] at h; cases h)).2
end FR
theorem sg_A1 {s : sg_S} {a k : Nat} {v : Int32} : (sg_uA s a k v).2.2.1 a k = v := if_pos ⟨rfl, rfl⟩
theorem sg_A2 {s : sg_S} {a k b j : Nat} {v : Int32} (h : ¬ (b = a ∧ j = k)) : (sg_uA s a k v).2.2.1 b j = s.2.2.1 b j := if_neg h
theorem sg_M1 {s : sg_S} {a k : Nat} {v : Int64} : (sg_uM s a k v).2.2.2.1 a k = v := if_pos ⟨rfl, rfl⟩
theorem sg_M2 {s : sg_S} {a k b j : Nat} {v : Int64} (h : ¬ (b = a ∧ j = k)) : (sg_uM s a k v).2.2.2.1 b j = s.2.2.2.1 b j := if_neg h
/-- the token that begins at q: its end, its kind, its letters, its number -/
def tk_wl (B : Nat → Int) (N q : Nat) : Nat := rd_to rd_le B N q - q
def tk_nl (B : Nat → Int) (N q : Nat) : Nat := rd_to rd_di B N q - q
def tk_e (B : Nat → Int) (N q : Nat) : Nat := if N ≤ q then q else if rd_le (B q) = true then rd_to rd_le B N q else if rd_di (B q) = true then rd_to rd_di B N q else q + 1
def tk_k (B : Nat → Int) (N q : Nat) : Int := if N ≤ q then 0 else if rd_le (B q) = true then (if 8 < tk_wl B N q then 5 else 1) else if rd_di (B q) = true then (if 3 < tk_nl B N q then 5 else 3) else if rd_sg (B q) = true then 4 else 5
def tk_w (B : Nat → Int) (N q : Nat) : List Int := rd_ds 96 B q (tk_wl B N q)
def tk_n (B : Nat → Int) (N q : Nat) : Int := rd_cd 10 (rd_ds 48 B q (tk_nl B N q))
def rd_q (B : Nat → Int) (N p : Nat) : Nat := rd_to rd_bl B N p
/-- the next token's place -/
def tk_x (B : Nat → Int) (N q : Nat) : Nat := rd_q B N (tk_e B N q)
section TK
variable {B : Nat → Int} {N q : Nat}
theorem tk_e_gt (h : q < N) : q < tk_e B N q ∧ tk_e B N q ≤ N := by
  unfold tk_e
  rw [if_neg (by omega)]
  by_cases h1 : rd_le (B q) = true
  · rw [if_pos h1]
    exact ⟨rd_to_pos h h1, rd_to_le (by omega)⟩
  · rw [if_neg h1]
    by_cases h2 : rd_di (B q) = true
    · rw [if_pos h2]
      exact ⟨rd_to_pos h h2, rd_to_le (by omega)⟩
    · rw [if_neg h2]
      omega
theorem tk_x_gt (h : q < N) : q < tk_x B N q ∧ tk_x B N q ≤ N := by
  have h1 := tk_e_gt (B := B) h
  have h2 : tk_e B N q ≤ tk_x B N q := rd_to_ge
  exact ⟨by omega, rd_to_le h1.2⟩
theorem rd_ds_len {o : Int} {B : Nat → Int} {p : Nat} : ∀ n, (rd_ds o B p n).length = n := by
  intro n
  induction n with
  | zero => rfl
  | succ n ih => show (rd_ds o B p n).length + 1 = _; rw [ih]
theorem rd_ds_all {o lo hi : Int} {B : Nat → Int} {p : Nat} : ∀ n, (∀ i, p ≤ i → i < p + n → lo ≤ B i - o ∧ B i - o ≤ hi) → ∀ d ∈ rd_ds o B p n, lo ≤ d ∧ d ≤ hi := by
  intro n
  induction n with
  | zero => intro _ d hd; cases hd
  | succ n ih =>
    intro h d hd
    rcases List.mem_cons.mp hd with rfl | hd
    · exact h (p + n) (by omega) (by omega)
    · exact ih (fun i h1 h2 => h i h1 (by omega)) d hd
theorem tk_k1 (h : tk_k B N q = 1) : q < N ∧ rd_le (B q) = true ∧ tk_wl B N q ≤ 8 ∧ rd_nm (tk_w B N q) := by
  unfold tk_k at h
  split at h
  · exact absurd h (by decide)
  · rename_i h0
    split at h
    · rename_i h1
      split at h
      · exact absurd h (by decide)
      · rename_i h2
        refine ⟨by omega, h1, by omega, ?_, ?_⟩
        · unfold tk_w
          rw [rd_ds_len]
          omega
        · refine rd_ds_all (lo := 1) (hi := 26) _ (fun i h3 h4 => ?_)
          have h6 : q ≤ rd_to rd_le B N q := rd_to_ge
          have h5 := rd_le_iff.mp (rd_to_in (P := rd_le) (B := B) (N := N) (p := q) h3 (by unfold tk_wl at h4; omega))
          omega
    · split at h
      · split at h <;> exact absurd h (by decide)
      · split at h <;> exact absurd h (by decide)
theorem rd_cd10 : ∀ (n : Nat) (w : List Int), w.length = n → (∀ d ∈ w, 0 ≤ d ∧ d ≤ 9) → 0 ≤ rd_cd 10 w ∧ rd_cd 10 w ≤ 10 ^ n - 1 := by
  intro n
  induction n with
  | zero =>
    intro w hw _
    rw [List.length_eq_zero_iff.mp hw]
    exact ⟨Int.le_refl _, Int.le_refl _⟩
  | succ n ih =>
    intro w hw h
    match w, hw with
    | d :: w, hw =>
      obtain ⟨a, b⟩ := ih w (by simpa using hw) (fun x hx => h x (List.mem_cons_of_mem _ hx))
      have h2 := h d List.mem_cons_self
      show 0 ≤ rd_cd 10 w * 10 + d ∧ rd_cd 10 w * 10 + d ≤ 10 ^ (n + 1) - 1
      rw [Int.pow_succ]
      omega
theorem rd_n_le {B : Nat → Int} {p n : Nat} (hn : n ≤ 3) (h : ∀ i, p ≤ i → i < p + n → rd_di (B i) = true) : 0 ≤ rd_cd 10 (rd_ds 48 B p n) ∧ rd_cd 10 (rd_ds 48 B p n) ≤ 999 := by
  have h1 := rd_cd10 n (rd_ds 48 B p n) (rd_ds_len n) (rd_ds_all (lo := 0) (hi := 9) n (fun i h3 h4 => by have := rd_di_iff.mp (h i h3 h4); omega))
  have h3 : ∀ n : Nat, n < 4 → (10 : Int) ^ n ≤ 1000 := by decide
  have h2 := h3 n (by omega)
  omega
theorem tk_k3 (h : tk_k B N q = 3) : q < N ∧ rd_le (B q) = false ∧ rd_di (B q) = true ∧ tk_nl B N q ≤ 3 ∧ 0 ≤ tk_n B N q ∧ tk_n B N q ≤ 999 := by
  unfold tk_k at h
  split at h
  · exact absurd h (by decide)
  · rename_i h0
    split at h
    · split at h <;> exact absurd h (by decide)
    · rename_i h1
      split at h
      · rename_i h2
        split at h
        · exact absurd h (by decide)
        · rename_i h3
          refine ⟨by omega, by simpa using h1, h2, by omega, ?_⟩
          refine rd_n_le (by omega) (fun i h4 h5 => ?_)
          have h6 : q ≤ rd_to rd_di B N q := rd_to_ge
          exact rd_to_in (P := rd_di) (B := B) (N := N) (p := q) h4 (by unfold tk_nl at h5; omega)
      · split at h <;> exact absurd h (by decide)
theorem tk_k0 : tk_k B N q = 0 ↔ N ≤ q := by
  unfold tk_k
  by_cases h : N ≤ q
  · rw [if_pos h]; exact ⟨fun _ => h, fun _ => rfl⟩
  · rw [if_neg h]
    refine ⟨fun e => ?_, fun e => absurd e h⟩
    split at e
    · split at e <;> exact absurd e (by decide)
    · split at e
      · split at e <;> exact absurd e (by decide)
      · split at e <;> exact absurd e (by decide)
theorem tk_k_cases : tk_k B N q = 0 ∨ tk_k B N q = 1 ∨ tk_k B N q = 3 ∨ tk_k B N q = 4 ∨ tk_k B N q = 5 := by
  unfold tk_k
  split
  · exact Or.inl rfl
  · split
    · split
      · exact Or.inr (Or.inr (Or.inr (Or.inr rfl)))
      · exact Or.inr (Or.inl rfl)
    · split
      · split
        · exact Or.inr (Or.inr (Or.inr (Or.inr rfl)))
        · exact Or.inr (Or.inr (Or.inl rfl))
      · split
        · exact Or.inr (Or.inr (Or.inr (Or.inl rfl)))
        · exact Or.inr (Or.inr (Or.inr (Or.inr rfl)))
theorem tk_q4 (h : q < N) (h1 : rd_sg (B q) = true) : tk_k B N q = 4 ∧ tk_e B N q = q + 1 := by
  have h2 := rd_sg_iff.mp h1
  have h3 : ¬ rd_le (B q) = true := fun c => by have := rd_le_iff.mp c; omega
  have h4 : ¬ rd_di (B q) = true := fun c => by have := rd_di_iff.mp c; omega
  unfold tk_k tk_e
  rw [if_neg (by omega), if_neg h3, if_neg h4, if_pos h1, if_neg (by omega), if_neg h3, if_neg h4]
  exact ⟨rfl, rfl⟩
theorem tk_k4 (h : tk_k B N q = 4) : q < N ∧ rd_sg (B q) = true := by
  unfold tk_k at h
  split at h
  · exact absurd h (by decide)
  · rename_i h0
    split at h
    · split at h <;> exact absurd h (by decide)
    · split at h
      · split at h <;> exact absurd h (by decide)
      · split at h
        · rename_i h1
          exact ⟨by omega, h1⟩
        · exact absurd h (by decide)
end TK
