/-! ===== poets: whose turn, who passes ===== -/
/-- how many of the first m are p's -/
def tc_ (b : Nat → Int32) : Nat → Int → Int
  | 0, _ => 0
  | m + 1, p => tc_ b m p + (if (b m).toInt = p then 1 else 0)
theorem tc_rng (b : Nat → Int32) (p : Int) : ∀ m : Nat, 0 ≤ tc_ b m p ∧ tc_ b m p ≤ (m : Int) := by
  intro m
  induction m with
  | zero => exact ⟨Int.le_refl _, Int.le_refl _⟩
  | succ m ih =>
    show 0 ≤ tc_ b m p + (if (b m).toInt = p then 1 else 0) ∧ tc_ b m p + (if (b m).toInt = p then 1 else 0) ≤ ((m + 1 : Nat) : Int)
    split <;> omega
theorem tc_congr {b b2 : Nat → Int32} {p : Int} : ∀ m : Nat, (∀ v, v < m → b v = b2 v) → tc_ b m p = tc_ b2 m p := by
  intro m
  induction m with
  | zero => intro _; rfl
  | succ m ih =>
    intro h
    show tc_ b m p + (if (b m).toInt = p then 1 else 0) = tc_ b2 m p + (if (b2 m).toInt = p then 1 else 0)
    rw [ih (fun v hv => h v (by omega)), h m (by omega)]
/-- whose turn it is among the first: who has passed, how many verses, ranks -/
def wt_ (ps c k : Nat → Int) : Nat → Int
  | 0 => -1
  | n + 1 => if ps n = 0 ∧ (wt_ ps c k n = -1 ∨ c n < c (wt_ ps c k n).toNat ∨ (c n = c (wt_ ps c k n).toNat ∧ k n < k (wt_ ps c k n).toNat)) then (n : Int) else wt_ ps c k n
theorem wt_lt (ps c k : Nat → Int) : ∀ n : Nat, -1 ≤ wt_ ps c k n ∧ wt_ ps c k n < (n : Int) := by
  intro n
  induction n with
  | zero => exact ⟨Int.le_refl _, show (-1 : Int) < 0 by decide⟩
  | succ n ih =>
    show -1 ≤ (if _ then (n : Int) else wt_ ps c k n) ∧ (if _ then (n : Int) else wt_ ps c k n) < ((n + 1 : Nat) : Int)
    split <;> omega
theorem wt_congr {ps c k ps2 c2 k2 : Nat → Int} : ∀ n : Nat, (∀ i, i < n → ps i = ps2 i ∧ c i = c2 i ∧ k i = k2 i) → wt_ ps c k n = wt_ ps2 c2 k2 n := by
  intro n
  induction n with
  | zero => intro _; rfl
  | succ n ih =>
    intro h
    have e := ih (fun i hi => h i (by omega))
    have hl := wt_lt ps2 c2 k2 n
    obtain ⟨h1, h2, h3⟩ := h n (by omega)
    show (if ps n = 0 ∧ (wt_ ps c k n = -1 ∨ c n < c (wt_ ps c k n).toNat ∨ (c n = c (wt_ ps c k n).toNat ∧ k n < k (wt_ ps c k n).toNat)) then (n : Int) else wt_ ps c k n) = (if ps2 n = 0 ∧ (wt_ ps2 c2 k2 n = -1 ∨ c2 n < c2 (wt_ ps2 c2 k2 n).toNat ∨ (c2 n = c2 (wt_ ps2 c2 k2 n).toNat ∧ k2 n < k2 (wt_ ps2 c2 k2 n).toNat)) then (n : Int) else wt_ ps2 c2 k2 n)
    rw [e, h1, h2, h3]
    by_cases q : wt_ ps2 c2 k2 n = -1
    · simp only [q, true_or]
    · obtain ⟨-, g2, g3⟩ := h (wt_ ps2 c2 k2 n).toNat (by omega)
      rw [g2, g3]
/-- what passing leaves of who has passed -/
def pz_ (f : Nat → Int32) (n : Nat) : Nat → Int32 := fun i => if i < n then Int32.ofInt 0 else f i
def pg_ (f : Nat → Int32) (p : Nat) : Nat → Int32 := fun i => if i = p then Int32.ofInt 1 else f i
def pw_ (f : Nat → Int32) (n p : Nat) : Nat → Int32 := if (∀ i, i < n → ¬ (pg_ f p i).toInt = 0) then pz_ (pg_ f p) n else pg_ f p
theorem pw_congr {f g : Nat → Int32} {n p N : Nat} (hn : n ≤ N) (h : ∀ i, i < N → f i = g i) : ∀ i, i < N → pw_ f n p i = pw_ g n p i := by
  have e : ∀ i, i < N → pg_ f p i = pg_ g p i := by
    intro i hi
    unfold pg_
    rw [h i hi]
  have ec : (∀ i, i < n → ¬ (pg_ f p i).toInt = 0) ↔ (∀ i, i < n → ¬ (pg_ g p i).toInt = 0) := ⟨fun q i hi => by rw [← e i (by omega)]; exact q i hi, fun q i hi => by rw [e i (by omega)]; exact q i hi⟩
  intro i hi
  unfold pw_
  by_cases c : ∀ i, i < n → ¬ (pg_ g p i).toInt = 0
  · rw [if_pos (ec.mpr c), if_pos c]
    unfold pz_
    rw [e i hi]
  · rw [if_neg (fun q => c (ec.mp q)), if_neg c, e i hi]
theorem pw_hi {f : Nat → Int32} {n p : Nat} (hp : p < n) : ∀ i, n ≤ i → pw_ f n p i = f i := by
  intro i hi
  have e : pg_ f p i = f i := by
    unfold pg_
    rw [if_neg (by omega)]
  unfold pw_
  split
  · unfold pz_
    rw [if_neg (by omega), e]
  · exact e
theorem vp_b1 : vp_nar .boolean (Int32.ofInt 1) = Int32.ofInt 1 := ab_nbo (by decide) (by decide)
theorem sg_Aall {s : sg_S} {a k : Nat} {v : Int32} : (sg_uA s a k v).2.2.1 a = fun i => if i = k then v else s.2.2.1 a i := by
  funext j
  show (if a = a ∧ j = k then v else s.2.2.1 a j) = (if j = k then v else s.2.2.1 a j)
  by_cases h : j = k
  · rw [if_pos ⟨rfl, h⟩, if_pos h]
  · rw [if_neg (fun q => h q.2), if_neg h]
theorem pz_step {f : Nat → Int32} {k : Nat} : (fun i => if i = k then Int32.ofInt 0 else pz_ f k i) = pz_ f (k + 1) := by
  funext i
  unfold pz_
  by_cases h : i = k
  · rw [if_pos h, if_pos (by omega)]
  · rw [if_neg h]
    by_cases h2 : i < k
    · rw [if_pos h2, if_pos (by omega)]
    · rw [if_neg h2, if_neg (by omega)]
theorem pz_0 {f : Nat → Int32} : pz_ f 0 = f := by
  funext i
  unfold pz_
  rw [if_neg (by omega)]
section PO
variable {s : sg_S} {x1 x2 : Int32} {n m : Nat}
theorem sx_forget (hn : (s.1 24 0).toInt = (n : Int)) (h12 : n ≤ 12) : am_SpV 35 [.ref 24] s (fun s2 => sg_fr [] [27] s s2 ∧ s2.2.2.1 27 = pz_ (s.2.2.1 27) n) := by
  refine wp_XPoets_forgetPasses_ok (I2 := fun l s1 => sg_fr [] [27] s s1 ∧ ∃ k : Nat, l.toInt = (k : Int) ∧ k ≤ n ∧ s1.2.2.1 27 = pz_ (s.2.2.1 27) k) ?_ ⟨sg_fr.rf, 0, rfl, Nat.zero_le _, pz_0.symm⟩
  intro l s1 hI
  obtain ⟨f, k, hk, hk2, h⟩ := hI
  have e0 : (s1.1 24 0).toInt = (n : Int) := by rw [f.i rfl]; exact hn
  unfold wp_XPoets_forgetPasses_2
  simp only [hk, e0, Int.toNat_natCast]
  refine ⟨fun c1 _ _ => ⟨f.uA rfl, k + 1, ?_, by omega, ?_⟩, fun c1 => ⟨f, ?_⟩⟩
  · rw [i32_inc (c := 0) (by omega) (by omega), hk]
    rfl
  · rw [sg_Aall, h, vp_b0]
    exact pz_step
  · rw [h, show k = n by omega]
theorem sx_ahead : am_SpI 38 [.ref 24, .int x1, .int x2] s (bo_ ((s.2.2.1 26 x1.toInt.toNat).toInt < (s.2.2.1 26 x2.toInt.toNat).toInt ∨ ((s.2.2.1 26 x1.toInt.toNat).toInt = (s.2.2.1 26 x2.toInt.toNat).toInt ∧ (s.2.2.1 25 x1.toInt.toNat).toInt < (s.2.2.1 25 x2.toInt.toNat).toInt)) s) := by
  refine wp_XPoets_isAheadOf_ok ?_
  unfold wp_XPoets_isAheadOf
  exact fun _ _ _ _ => ⟨fun c => ⟨fun d => bo_1 (Or.inr ⟨c, d⟩), fun d => bo_0 (by omega)⟩, fun c => ⟨fun d => bo_1 (Or.inl d), fun d => bo_0 (by omega)⟩⟩
theorem sx_whose (hn : (s.1 24 0).toInt = (n : Int)) (h12 : n ≤ 12) : am_SpI 37 [.ref 24] s (fun r s2 => s2 = s ∧ r.toInt = wt_ (fun i => (s.2.2.1 27 i).toInt) (fun i => (s.2.2.1 26 i).toInt) (fun i => (s.2.2.1 25 i).toInt) n) := by
  refine wp_XPoets_whoseTurn_ok (I4 := fun l1 l2 s1 => s1 = s ∧ ∃ k : Nat, l2.toInt = (k : Int) ∧ k ≤ n ∧ l1.toInt = wt_ (fun i => (s.2.2.1 27 i).toInt) (fun i => (s.2.2.1 26 i).toInt) (fun i => (s.2.2.1 25 i).toInt) k) ?_ ⟨rfl, 0, rfl, Nat.zero_le _, rfl⟩
  intro l1 l2 s1 hI
  obtain ⟨rfl, k, hk, hkn, e1⟩ := hI
  have hst : wt_ (fun i => (s1.2.2.1 27 i).toInt) (fun i => (s1.2.2.1 26 i).toInt) (fun i => (s1.2.2.1 25 i).toInt) (k + 1) = if (s1.2.2.1 27 k).toInt = 0 ∧ (wt_ (fun i => (s1.2.2.1 27 i).toInt) (fun i => (s1.2.2.1 26 i).toInt) (fun i => (s1.2.2.1 25 i).toInt) k = -1 ∨ (s1.2.2.1 26 k).toInt < (s1.2.2.1 26 (wt_ (fun i => (s1.2.2.1 27 i).toInt) (fun i => (s1.2.2.1 26 i).toInt) (fun i => (s1.2.2.1 25 i).toInt) k).toNat).toInt ∨ ((s1.2.2.1 26 k).toInt = (s1.2.2.1 26 (wt_ (fun i => (s1.2.2.1 27 i).toInt) (fun i => (s1.2.2.1 26 i).toInt) (fun i => (s1.2.2.1 25 i).toInt) k).toNat).toInt ∧ (s1.2.2.1 25 k).toInt < (s1.2.2.1 25 (wt_ (fun i => (s1.2.2.1 27 i).toInt) (fun i => (s1.2.2.1 26 i).toInt) (fun i => (s1.2.2.1 25 i).toInt) k).toNat).toInt)) then (k : Int) else wt_ (fun i => (s1.2.2.1 27 i).toInt) (fun i => (s1.2.2.1 26 i).toInt) (fun i => (s1.2.2.1 25 i).toInt) k := rfl
  unfold wp_XPoets_whoseTurn_4
  refine ⟨fun c1 i1 i2 => ?_, fun c1 => ⟨rfl, by rw [e1, show k = n by omega]⟩⟩
  have hkn2 : k < n := by omega
  have ek : l2.toInt.toNat = k := by omega
  have hinc : (l2 + Int32.ofInt 1).toInt = ((k + 1 : Nat) : Int) := by
    rw [i32_inc (c := 0) (by omega) (by omega), hk]
    rfl
  generalize hw : wt_ (fun i => (s1.2.2.1 27 i).toInt) (fun i => (s1.2.2.1 26 i).toInt) (fun i => (s1.2.2.1 25 i).toInt) k = w at e1 hst
  have keep : wt_ (fun i => (s1.2.2.1 27 i).toInt) (fun i => (s1.2.2.1 26 i).toInt) (fun i => (s1.2.2.1 25 i).toInt) (k + 1) = w → s1 = s1 ∧ ∃ k : Nat, (l2 + Int32.ofInt 1).toInt = (k : Int) ∧ k ≤ n ∧ l1.toInt = wt_ (fun i => (s1.2.2.1 27 i).toInt) (fun i => (s1.2.2.1 26 i).toInt) (fun i => (s1.2.2.1 25 i).toInt) k := fun h => ⟨rfl, k + 1, hinc, by omega, by rw [h]; exact e1⟩
  have take : wt_ (fun i => (s1.2.2.1 27 i).toInt) (fun i => (s1.2.2.1 26 i).toInt) (fun i => (s1.2.2.1 25 i).toInt) (k + 1) = (k : Int) → s1 = s1 ∧ ∃ k : Nat, (l2 + Int32.ofInt 1).toInt = (k : Int) ∧ k ≤ n ∧ l2.toInt = wt_ (fun i => (s1.2.2.1 27 i).toInt) (fun i => (s1.2.2.1 26 i).toInt) (fun i => (s1.2.2.1 25 i).toInt) k := fun h => ⟨rfl, k + 1, hinc, by omega, by rw [h]; exact hk⟩
  rw [ek]
  refine ⟨fun c2 => ⟨fun c3 => take ?_, fun c3 => sx_ahead.mono (fun y s2 h => ?_)⟩, fun c2 => keep ?_⟩
  · rw [hst, if_pos ⟨c2, Or.inl (by omega)⟩]
  · obtain rfl := h.eq
    rw [ek, e1] at h
    refine ⟨fun c4 => keep ?_, fun c4 => take ?_⟩
    · have hno := h.no c4
      rw [hst, if_neg (fun z => by rcases z.2 with z | z; exact c3 (e1.trans z); exact hno z)]
    · rw [hst, if_pos ⟨c2, Or.inr (h.yes c4)⟩]
  · rw [hst, if_neg (fun z => c2 z.1)]
theorem sm_told (hm : (s.1 64 40).toInt = (m : Int)) (h48 : m ≤ 48) : am_SpI 170 [.ref 64, .int x1] s (fun r s2 => s2 = s ∧ r.toInt = tc_ (s.2.2.1 83) m x1.toInt) := by
  refine wp_M_told_ok (I4 := fun l2 l3 s1 => s1 = s ∧ ∃ k : Nat, l3.toInt = (k : Int) ∧ k ≤ m ∧ l2.toInt = tc_ (s.2.2.1 83) k x1.toInt) ?_ ⟨rfl, 0, rfl, Nat.zero_le _, rfl⟩
  intro l2 l3 s1 hI
  obtain ⟨rfl, k, hk, hkm, e2⟩ := hI
  have hr := tc_rng (s1.2.2.1 83) x1.toInt k
  have z0 : (Int32.ofInt 0).toInt = 0 := rfl
  have hst : tc_ (s1.2.2.1 83) (k + 1) x1.toInt = tc_ (s1.2.2.1 83) k x1.toInt + (if (s1.2.2.1 83 k).toInt = x1.toInt then 1 else 0) := rfl
  unfold wp_M_told_4
  refine ⟨fun c1 i1 i2 => ?_, fun c1 => ⟨rfl, by rw [e2, show k = m by omega]⟩⟩
  have ek : l3.toInt.toNat = k := by omega
  have hinc : (l3 + Int32.ofInt 1).toInt = ((k + 1 : Nat) : Int) := by
    rw [i32_inc (c := 0) (by omega) (by omega), hk]
    rfl
  rw [ek]
  refine ⟨fun c2 => ⟨rfl, k + 1, hinc, by omega, ?_⟩, fun c2 => ⟨rfl, k + 1, hinc, by omega, ?_⟩⟩
  · rw [hst, if_pos c2, i32_inc (c := 0) (by omega) (by omega), e2]
  · rw [hst, if_neg c2, i32_add (by omega) (by omega), z0, e2]
/-- X's turn, M's turn -/
theorem sx_Turn (hn : (s.1 24 0).toInt = (n : Int)) (h12 : n ≤ 12) : am_SpI 123 [.ref 0] s (fun r s2 => s2 = s ∧ r.toInt = if (s.1 28 2).toInt < (s.1 1 3).toInt then wt_ (fun i => (s.2.2.1 27 i).toInt) (fun i => (s.2.2.1 26 i).toInt) (fun i => (s.2.2.1 25 i).toInt) n else -1) := by
  refine wp_X_turn_ok ?_
  unfold wp_X_turn
  refine ⟨fun c => (sx_whose hn h12).mono (fun r s2 h => ⟨h.1, by rw [if_pos c]; exact h.2⟩), fun c => ⟨rfl, by rw [if_neg c]; rfl⟩⟩
theorem sm_Turn (hn : (s.1 64 30).toInt = (n : Int)) (h12 : n ≤ 12) (hm : (s.1 64 40).toInt = (m : Int)) (h48 : m ≤ 48) : am_SpI 169 [.ref 64] s (fun r s2 => s2 = s ∧ r.toInt = if (s.1 64 40).toInt = (s.1 64 24).toInt then -1 else wt_ (fun i => (s.2.2.1 77 i).toInt) (fun i => tc_ (s.2.2.1 83) m (i : Int)) (fun i => (s.2.2.1 76 i).toInt) n) := by
  have hstep : ∀ k : Nat, wt_ (fun i => (s.2.2.1 77 i).toInt) (fun i => tc_ (s.2.2.1 83) m (i : Int)) (fun i => (s.2.2.1 76 i).toInt) (k + 1) = if (s.2.2.1 77 k).toInt = 0 ∧ (wt_ (fun i => (s.2.2.1 77 i).toInt) (fun i => tc_ (s.2.2.1 83) m (i : Int)) (fun i => (s.2.2.1 76 i).toInt) k = -1 ∨ tc_ (s.2.2.1 83) m (k : Int) < tc_ (s.2.2.1 83) m ((wt_ (fun i => (s.2.2.1 77 i).toInt) (fun i => tc_ (s.2.2.1 83) m (i : Int)) (fun i => (s.2.2.1 76 i).toInt) k).toNat : Int) ∨ (tc_ (s.2.2.1 83) m (k : Int) = tc_ (s.2.2.1 83) m ((wt_ (fun i => (s.2.2.1 77 i).toInt) (fun i => tc_ (s.2.2.1 83) m (i : Int)) (fun i => (s.2.2.1 76 i).toInt) k).toNat : Int) ∧ (s.2.2.1 76 k).toInt < (s.2.2.1 76 (wt_ (fun i => (s.2.2.1 77 i).toInt) (fun i => tc_ (s.2.2.1 83) m (i : Int)) (fun i => (s.2.2.1 76 i).toInt) k).toNat).toInt)) then (k : Int) else wt_ (fun i => (s.2.2.1 77 i).toInt) (fun i => tc_ (s.2.2.1 83) m (i : Int)) (fun i => (s.2.2.1 76 i).toInt) k := fun k => rfl
  refine wp_M_turn_ok (I17 := fun l1 l2 s1 => s1 = s ∧ ¬ (s.1 64 40).toInt = (s.1 64 24).toInt ∧ ∃ k : Nat, l2.toInt = (k : Int) ∧ k ≤ n ∧ l1.toInt = wt_ (fun i => (s.2.2.1 77 i).toInt) (fun i => tc_ (s.2.2.1 83) m (i : Int)) (fun i => (s.2.2.1 76 i).toInt) k)
    (I83 := fun l2 s1 => s1 = s ∧ ¬ (s.1 64 40).toInt = (s.1 64 24).toInt ∧ ∃ k : Nat, l2.toInt = (k : Int) ∧ k < n ∧ wt_ (fun i => (s.2.2.1 77 i).toInt) (fun i => tc_ (s.2.2.1 83) m (i : Int)) (fun i => (s.2.2.1 76 i).toInt) (k + 1) = (k : Int)) ?_ ?_ ?_
  · intro l1 l2 s1 hI
    obtain ⟨rfl, hlen, k, hk, hkn, e1⟩ := hI
    have hst := hstep k
    have hlt := wt_lt (fun i => (s1.2.2.1 77 i).toInt) (fun i => tc_ (s1.2.2.1 83) m (i : Int)) (fun i => (s1.2.2.1 76 i).toInt) k
    unfold wp_M_turn_17
    refine ⟨fun c1 i1 i2 => ?_, fun c1 => ⟨rfl, by rw [if_neg hlen, e1, show k = n by omega]⟩⟩
    have hkn2 : k < n := by omega
    have ek : l2.toInt.toNat = k := by omega
    have hinc : (l2 + Int32.ofInt 1).toInt = ((k + 1 : Nat) : Int) := by
      rw [i32_inc (c := 0) (by omega) (by omega), hk]
      rfl
    generalize hw : wt_ (fun i => (s1.2.2.1 77 i).toInt) (fun i => tc_ (s1.2.2.1 83) m (i : Int)) (fun i => (s1.2.2.1 76 i).toInt) k = w at e1 hst hlt
    have keep : wt_ (fun i => (s1.2.2.1 77 i).toInt) (fun i => tc_ (s1.2.2.1 83) m (i : Int)) (fun i => (s1.2.2.1 76 i).toInt) (k + 1) = w → s1 = s1 ∧ ¬ (s1.1 64 40).toInt = (s1.1 64 24).toInt ∧ ∃ k : Nat, (l2 + Int32.ofInt 1).toInt = (k : Int) ∧ k ≤ n ∧ l1.toInt = wt_ (fun i => (s1.2.2.1 77 i).toInt) (fun i => tc_ (s1.2.2.1 83) m (i : Int)) (fun i => (s1.2.2.1 76 i).toInt) k := fun h => ⟨rfl, hlen, k + 1, hinc, by omega, by rw [h]; exact e1⟩
    have take : wt_ (fun i => (s1.2.2.1 77 i).toInt) (fun i => tc_ (s1.2.2.1 83) m (i : Int)) (fun i => (s1.2.2.1 76 i).toInt) (k + 1) = (k : Int) → s1 = s1 ∧ ¬ (s1.1 64 40).toInt = (s1.1 64 24).toInt ∧ ∃ k : Nat, l2.toInt = (k : Int) ∧ k < n ∧ wt_ (fun i => (s1.2.2.1 77 i).toInt) (fun i => tc_ (s1.2.2.1 83) m (i : Int)) (fun i => (s1.2.2.1 76 i).toInt) (k + 1) = (k : Int) := fun h => ⟨rfl, hlen, k, hk, hkn2, h⟩
    rw [ek]
    refine ⟨fun c2 => ⟨fun c3 => take (by rw [hst, if_pos ⟨c2, Or.inl (by omega)⟩]), fun c3 => ?_⟩, fun c2 => keep (by rw [hst, if_neg (fun z => c2 z.1)])⟩
    have ew : ((w.toNat : Nat) : Int) = l1.toInt := by omega
    rw [ew] at hst
    refine (sm_told hm h48).mono (fun y1 s2 h1 => ?_)
    obtain ⟨rfl, h1⟩ := h1
    refine (sm_told hm h48).mono (fun y2 s3 h2 => ?_)
    obtain ⟨rfl, h2⟩ := h2
    rw [h1, h2, hk]
    refine ⟨fun c4 => take (by rw [hst, if_pos ⟨c2, Or.inr (Or.inl c4)⟩]), fun c4 => (sm_told hm h48).mono (fun y3 s4 h3 => ?_)⟩
    obtain ⟨rfl, h3⟩ := h3
    refine (sm_told hm h48).mono (fun y4 s5 h4 => ?_)
    obtain ⟨rfl, h4⟩ := h4
    have el : l1.toInt.toNat = w.toNat := by rw [e1]
    rw [h3, h4, hk, el]
    refine ⟨fun c5 _ _ _ _ => ⟨fun c6 => take (by rw [hst, if_pos ⟨c2, Or.inr (Or.inr ⟨c5, c6⟩)⟩]), fun c6 => keep (by rw [hst, if_neg (fun z => by rcases z.2 with z | z | z; exact c3 (e1.trans z); exact c4 z; exact c6 z.2)])⟩, fun c5 => keep (by rw [hst, if_neg (fun z => by rcases z.2 with z | z | z; exact c3 (e1.trans z); exact c4 z; exact c5 z.1)])⟩
  · intro l2 s1 hI
    obtain ⟨rfl, hlen, k, hk, hkn, e1⟩ := hI
    unfold wp_M_turn_83
    refine ⟨rfl, hlen, k + 1, ?_, by omega, by rw [e1]; exact hk⟩
    rw [i32_inc (c := 0) (by omega) (by omega), hk]
    rfl
  · unfold wp_M_turn
    exact ⟨fun c => ⟨rfl, by rw [if_pos c]; rfl⟩, fun c => ⟨rfl, c, 0, rfl, Nat.zero_le _, rfl⟩⟩
/-- who passes -/
theorem sx_letPass {p : Nat} (hn : (s.1 24 0).toInt = (n : Int)) (h12 : n ≤ 12) (hp : x1.toInt = (p : Int)) : am_SpV 39 [.ref 24, .int x1] s (fun s2 => sg_fr [] [27] s s2 ∧ s2.2.2.1 27 = pw_ (s.2.2.1 27) n p) := by
  refine wp_XPoets_letPass_ok (I9 := fun l s1 => sg_fr [] [27] s s1 ∧ s1.2.2.1 27 = pg_ (s.2.2.1 27) p ∧ ∃ k : Nat, l.toInt = (k : Int) ∧ k ≤ n ∧ ∀ i, i < k → ¬ (pg_ (s.2.2.1 27) p i).toInt = 0) ?_ ?_
  · intro l s1 hI
    obtain ⟨f, e, k, hk, hkn, h⟩ := hI
    have e0 : (s1.1 24 0).toInt = (n : Int) := by rw [f.i rfl]; exact hn
    unfold wp_XPoets_letPass_9
    simp only [hk, e0, Int.toNat_natCast]
    rw [e]
    refine ⟨fun c1 _ _ => ⟨fun c2 => ⟨f, ?_⟩, fun c2 => ⟨f, rfl, k + 1, ?_, by omega, fun i hi => ?_⟩⟩, fun c1 => (sx_forget e0 h12).mono (fun s2 h2 => ⟨f.tr h2.1, ?_⟩)⟩
    · unfold pw_
      rw [if_neg (fun q => q k (by omega) c2)]
    · rw [i32_inc (c := 0) (by omega) (by omega), hk]
      rfl
    · by_cases ei : i = k
      · rw [ei]; exact c2
      · exact h i (by omega)
    · unfold pw_
      rw [h2.2, e, if_pos (fun i hi => h i (by omega))]
  · unfold wp_XPoets_letPass
    simp only [hp, Int.toNat_natCast]
    refine fun _ _ => ⟨sg_fr.rf.uA rfl, ?_, 0, rfl, Nat.zero_le _, fun i hi => absurd hi (Nat.not_lt_zero i)⟩
    rw [sg_Aall, vp_b1]
    rfl
theorem sm_passes {p : Nat} (hn : (s.1 64 30).toInt = (n : Int)) (h12 : n ≤ 12) (hp : x1.toInt = (p : Int)) : am_SpV 172 [.ref 64, .int x1] s (fun s2 => sg_fr [] [77] s s2 ∧ s2.2.2.1 77 = pw_ (s.2.2.1 77) n p) := by
  refine wp_M_passes_ok (I9 := fun l s1 => sg_fr [] [77] s s1 ∧ s1.2.2.1 77 = pg_ (s.2.2.1 77) p ∧ ∃ k : Nat, l.toInt = (k : Int) ∧ k ≤ n ∧ ∀ i, i < k → ¬ (pg_ (s.2.2.1 77) p i).toInt = 0)
    (I35 := fun l s1 => sg_fr [] [77] s s1 ∧ (∀ i, i < n → ¬ (pg_ (s.2.2.1 77) p i).toInt = 0) ∧ ∃ k : Nat, l.toInt = (k : Int) ∧ k ≤ n ∧ s1.2.2.1 77 = pz_ (pg_ (s.2.2.1 77) p) k) ?_ ?_ ?_
  · intro l s1 hI
    obtain ⟨f, e, k, hk, hkn, h⟩ := hI
    have e0 : (s1.1 64 30).toInt = (n : Int) := by rw [f.i rfl]; exact hn
    unfold wp_M_passes_9
    simp only [hk, e0, Int.toNat_natCast]
    rw [e]
    refine ⟨fun c1 _ _ => ⟨fun c2 => ⟨f, ?_⟩, fun c2 => ⟨f, rfl, k + 1, ?_, by omega, fun i hi => ?_⟩⟩, fun c1 => ⟨f, fun i hi => h i (by omega), 0, rfl, Nat.zero_le _, pz_0.symm⟩⟩
    · unfold pw_
      rw [if_neg (fun q => q k (by omega) c2)]
    · rw [i32_inc (c := 0) (by omega) (by omega), hk]
      rfl
    · by_cases ei : i = k
      · rw [ei]; exact c2
      · exact h i (by omega)
  · intro l s1 hI
    obtain ⟨f, hall, k, hk, hkn, h⟩ := hI
    have e0 : (s1.1 64 30).toInt = (n : Int) := by rw [f.i rfl]; exact hn
    unfold wp_M_passes_35
    simp only [hk, e0, Int.toNat_natCast]
    refine ⟨fun c1 _ _ => ⟨f.uA rfl, hall, k + 1, ?_, by omega, ?_⟩, fun c1 => ⟨f, ?_⟩⟩
    · rw [i32_inc (c := 0) (by omega) (by omega), hk]
      rfl
    · rw [sg_Aall, h, vp_b0]
      exact pz_step
    · unfold pw_
      rw [if_pos hall, h, show k = n by omega]
  · unfold wp_M_passes
    simp only [hp, Int.toNat_natCast]
    refine fun _ _ => ⟨sg_fr.rf.uA rfl, ?_, 0, rfl, Nat.zero_le _, fun i hi => absurd hi (Nat.not_lt_zero i)⟩
    rw [sg_Aall, vp_b1]
    rfl
end PO
