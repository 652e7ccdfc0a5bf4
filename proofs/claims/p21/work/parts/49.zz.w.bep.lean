/-! ===== best: all tries by numbers ===== -/
abbrev ac_ : Type := Bool × Int
def ka_ (w : Int) (a : ac_) : ac_ := if a.1 = true ∧ w ≤ a.2 then a else (true, w)
def up_ (p : Nat → Nat) (d v : Nat) : Nat → Nat := fun j => if j = d then v else p j
theorem up_1 {p : Nat → Nat} {d v : Nat} : up_ p d v d = v := if_pos rfl
theorem up_2 {p : Nat → Nat} {d v j : Nat} (h : ¬ j = d) : up_ p d v j = p j := if_neg h
def fo_ (g : Nat → ac_ → ac_) : Nat → Nat → ac_ → ac_
  | 0, _, a => a
  | c + 1, k, a => fo_ g c (k + 1) (g k a)
theorem fo_congr {g h : Nat → ac_ → ac_} : ∀ (c k : Nat) (a : ac_), (∀ v a, g v a = h v a) → fo_ g c k a = fo_ h c k a := by
  intro c
  induction c with
  | zero => intro k a _; rfl
  | succ c ih =>
    intro k a e
    show fo_ g c (k + 1) (g k a) = fo_ h c (k + 1) (h k a)
    rw [e k a, ih (k + 1) (h k a) e]
theorem fo_id {g : Nat → ac_ → ac_} : ∀ (c k : Nat) (a : ac_), (∀ v a, g v a = a) → fo_ g c k a = a := by
  intro c
  induction c with
  | zero => intro k a _; rfl
  | succ c ih =>
    intro k a e
    show fo_ g c (k + 1) (g k a) = a
    rw [e k a, ih (k + 1) a e]
def vi_ (p : Nat → Nat) (d v : Nat) : Prop := ∃ j, j < d ∧ p j = v
section TR
variable (G : (Nat → Nat) → Nat → Nat → Prop) (mo : (Nat → Nat) → Nat → Nat → Int) (n : Nat)
noncomputable def tr_ : Nat → Nat → (Nat → Nat) → Int → ac_ → ac_
  | 0, _, _, w, a => ka_ w a
  | r + 1, d, p, w, a => fo_ (fun v a => @ite ac_ (vi_ p d v ∨ ¬ G p d v) (Classical.propDecidable _) a (tr_ r (d + 1) (up_ p d v) (w + mo p d v) a)) n 0 a
noncomputable def sq_ (r d : Nat) (p : Nat → Nat) (w : Int) (v : Nat) (a : ac_) : ac_ := @ite ac_ (vi_ p d v ∨ ¬ G p d v) (Classical.propDecidable _) a (tr_ G mo n r (d + 1) (up_ p d v) (w + mo p d v) a)
noncomputable def rq_ (m : Nat) (c p : Nat → Nat) (W : Nat → Int) : Nat → ac_ → ac_
  | 0, a => a
  | L + 1, a => rq_ m c p W L (fo_ (sq_ G mo n (m - 1 - L) L p (W L)) (n - c L) (c L) a)
end TR
section TS
variable {G : (Nat → Nat) → Nat → Nat → Prop} {mo : (Nat → Nat) → Nat → Nat → Int} {n m : Nat}
theorem tr_succ {r d : Nat} {p : Nat → Nat} {w : Int} {a : ac_} : tr_ G mo n (r + 1) d p w a = fo_ (sq_ G mo n r d p w) n 0 a := rfl
theorem sq_no {r d v : Nat} {p : Nat → Nat} {w : Int} {a : ac_} (h : vi_ p d v ∨ ¬ G p d v) : sq_ G mo n r d p w v a = a := if_pos h
theorem sq_yes {r d v : Nat} {p : Nat → Nat} {w : Int} {a : ac_} (h1 : ¬ vi_ p d v) (h2 : G p d v) : sq_ G mo n r d p w v a = tr_ G mo n r (d + 1) (up_ p d v) (w + mo p d v) a := if_neg (fun q => by rcases q with q | q; exact h1 q; exact q h2)
theorem vi_congr {d v : Nat} {p q : Nat → Nat} (h : ∀ j, j < d → p j = q j) : vi_ p d v ↔ vi_ q d v := ⟨fun ⟨j, h1, h2⟩ => ⟨j, h1, by rw [← h j h1]; exact h2⟩, fun ⟨j, h1, h2⟩ => ⟨j, h1, by rw [h j h1]; exact h2⟩⟩
theorem tr_congr (hG : ∀ (p q : Nat → Nat) (d v : Nat), (∀ j, j < d → p j = q j) → (G p d v ↔ G q d v)) (hm : ∀ (p q : Nat → Nat) (d v : Nat), (∀ j, j < d → p j = q j) → mo p d v = mo q d v) : ∀ (r d : Nat) (p q : Nat → Nat) (w : Int) (a : ac_), (∀ j, j < d → p j = q j) → tr_ G mo n r d p w a = tr_ G mo n r d q w a := by
  intro r
  induction r with
  | zero => intro d p q w a _; rfl
  | succ r ih =>
    intro d p q w a h
    rw [tr_succ, tr_succ]
    refine fo_congr n 0 a (fun v b => ?_)
    by_cases c : vi_ p d v ∨ ¬ G p d v
    · rw [sq_no c, sq_no (by rw [← vi_congr h, ← hG p q d v h]; exact c)]
    · have c1 : ¬ vi_ p d v := fun z => c (Or.inl z)
      have c2 : G p d v := Classical.byContradiction (fun z => c (Or.inr z))
      rw [sq_yes c1 c2, sq_yes (fun z => c1 ((vi_congr h).mpr z)) ((hG p q d v h).mp c2), hm p q d v h]
      refine ih (d + 1) _ _ _ _ (fun j hj => ?_)
      unfold up_
      by_cases e : j = d
      · rw [if_pos e, if_pos e]
      · rw [if_neg e, if_neg e, h j (by omega)]
theorem sq_congr (hG : ∀ (p q : Nat → Nat) (d v : Nat), (∀ j, j < d → p j = q j) → (G p d v ↔ G q d v)) (hm : ∀ (p q : Nat → Nat) (d v : Nat), (∀ j, j < d → p j = q j) → mo p d v = mo q d v) {r d v : Nat} {p q : Nat → Nat} {w : Int} {a : ac_} (h : ∀ j, j < d → p j = q j) : sq_ G mo n r d p w v a = sq_ G mo n r d q w v a := by
  by_cases c : vi_ p d v ∨ ¬ G p d v
  · rw [sq_no c, sq_no (by rw [← vi_congr h, ← hG p q d v h]; exact c)]
  · have c1 : ¬ vi_ p d v := fun z => c (Or.inl z)
    have c2 : G p d v := Classical.byContradiction (fun z => c (Or.inr z))
    rw [sq_yes c1 c2, sq_yes (fun z => c1 ((vi_congr h).mpr z)) ((hG p q d v h).mp c2), hm p q d v h]
    refine tr_congr hG hm r (d + 1) _ _ _ _ (fun j hj => ?_)
    unfold up_
    by_cases e : j = d
    · rw [if_pos e, if_pos e]
    · rw [if_neg e, if_neg e, h j (by omega)]
theorem rq_congr (hG : ∀ (p q : Nat → Nat) (d v : Nat), (∀ j, j < d → p j = q j) → (G p d v ↔ G q d v)) (hm : ∀ (p q : Nat → Nat) (d v : Nat), (∀ j, j < d → p j = q j) → mo p d v = mo q d v) {c c2 p p2 : Nat → Nat} {W W2 : Nat → Int} : ∀ (L : Nat) (a : ac_), (∀ j, j < L → c j = c2 j ∧ W j = W2 j) → (∀ j, j + 1 < L → p j = p2 j) → rq_ G mo n m c p W L a = rq_ G mo n m c2 p2 W2 L a := by
  intro L
  induction L with
  | zero => intro a _ _; rfl
  | succ L ih =>
    intro a h1 h2
    show rq_ G mo n m c p W L (fo_ (sq_ G mo n (m - 1 - L) L p (W L)) (n - c L) (c L) a) = rq_ G mo n m c2 p2 W2 L (fo_ (sq_ G mo n (m - 1 - L) L p2 (W2 L)) (n - c2 L) (c2 L) a)
    rw [(h1 L (by omega)).1, (h1 L (by omega)).2, fo_congr _ _ _ (fun v b => sq_congr hG hm (fun j hj => h2 j (by omega)))]
    exact ih _ (fun j hj => h1 j (by omega)) (fun j hj => h2 j (by omega))
theorem rq_a {c p : Nat → Nat} {W : Nat → Int} {L : Nat} {a : ac_} (h : n ≤ c L) : rq_ G mo n m c p W (L + 1) a = rq_ G mo n m c p W L a := by
  show rq_ G mo n m c p W L (fo_ (sq_ G mo n (m - 1 - L) L p (W L)) (n - c L) (c L) a) = _
  rw [show n - c L = 0 by omega]
  rfl
theorem rq_s {c p : Nat → Nat} {W : Nat → Int} {L : Nat} {a : ac_} (h : c L < n) : rq_ G mo n m c p W (L + 1) a = rq_ G mo n m c p W L (fo_ (sq_ G mo n (m - 1 - L) L p (W L)) (n - (c L + 1)) (c L + 1) (sq_ G mo n (m - 1 - L) L p (W L) (c L) a)) := by
  show rq_ G mo n m c p W L (fo_ (sq_ G mo n (m - 1 - L) L p (W L)) (n - c L) (c L) a) = _
  rw [show n - c L = n - (c L + 1) + 1 by omega]
  rfl
/-- the next one at a depth is looked at: not good -/
theorem rq_n (hG : ∀ (p q : Nat → Nat) (d v : Nat), (∀ j, j < d → p j = q j) → (G p d v ↔ G q d v)) (hm : ∀ (p q : Nat → Nat) (d v : Nat), (∀ j, j < d → p j = q j) → mo p d v = mo q d v) {c p : Nat → Nat} {W : Nat → Int} {L : Nat} {a : ac_} (h : c L < n) (hno : vi_ p L (c L) ∨ ¬ G p L (c L)) : rq_ G mo n m c p W (L + 1) a = rq_ G mo n m (up_ c L (c L + 1)) p W (L + 1) a := by
  rw [rq_s h, sq_no hno]
  show _ = rq_ G mo n m (up_ c L (c L + 1)) p W L (fo_ (sq_ G mo n (m - 1 - L) L p (W L)) (n - up_ c L (c L + 1) L) (up_ c L (c L + 1) L) a)
  rw [up_1]
  exact rq_congr hG hm L _ (fun j hj => ⟨(up_2 (by omega)).symm, rfl⟩) (fun j _ => rfl)
/-- good, the last of the try -/
theorem rq_k (hG : ∀ (p q : Nat → Nat) (d v : Nat), (∀ j, j < d → p j = q j) → (G p d v ↔ G q d v)) (hm : ∀ (p q : Nat → Nat) (d v : Nat), (∀ j, j < d → p j = q j) → mo p d v = mo q d v) {c p : Nat → Nat} {W : Nat → Int} {L : Nat} {a : ac_} (h : c L < n) (h1 : ¬ vi_ p L (c L)) (h2 : G p L (c L)) (hL : m = L + 1) : rq_ G mo n m c p W (L + 1) a = rq_ G mo n m (up_ c L (c L + 1)) p W (L + 1) (ka_ (W L + mo p L (c L)) a) := by
  rw [rq_s h, sq_yes h1 h2]
  show _ = rq_ G mo n m (up_ c L (c L + 1)) p W L (fo_ (sq_ G mo n (m - 1 - L) L p (W L)) (n - up_ c L (c L + 1) L) (up_ c L (c L + 1) L) (ka_ (W L + mo p L (c L)) a))
  rw [up_1, show m - 1 - L = 0 by omega]
  exact rq_congr hG hm L _ (fun j hj => ⟨(up_2 (by omega)).symm, rfl⟩) (fun j _ => rfl)
def uw_ (W : Nat → Int) (d : Nat) (v : Int) : Nat → Int := fun j => if j = d then v else W j
/-- good, and more are to come -/
theorem rq_d (hG : ∀ (p q : Nat → Nat) (d v : Nat), (∀ j, j < d → p j = q j) → (G p d v ↔ G q d v)) (hm : ∀ (p q : Nat → Nat) (d v : Nat), (∀ j, j < d → p j = q j) → mo p d v = mo q d v) {c p : Nat → Nat} {W : Nat → Int} {L : Nat} {a : ac_} (h : c L < n) (h1 : ¬ vi_ p L (c L)) (h2 : G p L (c L)) (hL : L + 1 < m) : rq_ G mo n m c p W (L + 1) a = rq_ G mo n m (up_ (up_ c L (c L + 1)) (L + 1) 0) (up_ p L (c L)) (uw_ W (L + 1) (W L + mo p L (c L))) (L + 2) a := by
  have e1 : up_ (up_ c L (c L + 1)) (L + 1) 0 (L + 1) = 0 := up_1
  have e2 : uw_ W (L + 1) (W L + mo p L (c L)) (L + 1) = W L + mo p L (c L) := if_pos rfl
  have e3 : up_ (up_ c L (c L + 1)) (L + 1) 0 L = c L + 1 := (up_2 (by omega)).trans up_1
  have e4 : uw_ W (L + 1) (W L + mo p L (c L)) L = W L := if_neg (by omega)
  rw [rq_s h, sq_yes h1 h2]
  show _ = rq_ G mo n m (up_ (up_ c L (c L + 1)) (L + 1) 0) (up_ p L (c L)) (uw_ W (L + 1) (W L + mo p L (c L))) L (fo_ (sq_ G mo n (m - 1 - L) L (up_ p L (c L)) (uw_ W (L + 1) (W L + mo p L (c L)) L)) (n - up_ (up_ c L (c L + 1)) (L + 1) 0 L) (up_ (up_ c L (c L + 1)) (L + 1) 0 L) (fo_ (sq_ G mo n (m - 1 - (L + 1)) (L + 1) (up_ p L (c L)) (uw_ W (L + 1) (W L + mo p L (c L)) (L + 1))) (n - up_ (up_ c L (c L + 1)) (L + 1) 0 (L + 1)) (up_ (up_ c L (c L + 1)) (L + 1) 0 (L + 1)) a))
  rw [e1, e2, e3, e4]
  have e5 : fo_ (sq_ G mo n (m - 1 - (L + 1)) (L + 1) (up_ p L (c L)) (W L + mo p L (c L))) (n - 0) 0 a = tr_ G mo n (m - 1 - L) (L + 1) (up_ p L (c L)) (W L + mo p L (c L)) a := by
    rw [show m - 1 - L = m - 1 - (L + 1) + 1 by omega]
    rfl
  rw [e5, fo_congr _ _ _ (fun v b => sq_congr hG hm (p := p) (q := up_ p L (c L)) (fun j hj => (up_2 (by omega)).symm))]
  exact rq_congr hG hm L _ (fun j hj => ⟨((up_2 (by omega)).trans (up_2 (by omega))).symm, (if_neg (by omega)).symm⟩) (fun j hj => (up_2 (by omega)).symm)
/-- none that is long enough -/
theorem tr_none {m0 : Nat} {len : Int} (hG : ∀ (p : Nat → Nat) (d v : Nat), G p d v → ((m0 + d + 1 : Nat) : Int) ≤ len) : ∀ (r d : Nat) (p : Nat → Nat) (w : Int) (a : ac_), ((m0 + d : Nat) : Int) ≤ len → len < ((m0 + d + r : Nat) : Int) → tr_ G mo n r d p w a = a := by
  intro r
  induction r with
  | zero => intro d p w a h1 h2; omega
  | succ r ih =>
    intro d p w a h1 h2
    rw [tr_succ]
    refine fo_id n 0 a (fun v b => ?_)
    by_cases c : vi_ p d v ∨ ¬ G p d v
    · exact sq_no c
    · have c1 : ¬ vi_ p d v := fun z => c (Or.inl z)
      have c2 : G p d v := Classical.byContradiction (fun z => c (Or.inr z))
      rw [sq_yes c1 c2]
      have := hG p d v c2
      exact ih (d + 1) _ _ _ (by omega) (by omega)
end TS
/-! ===== a sheet with tries behind it ===== -/
def fp_ (f : Nat → Int32) (m0 : Nat) (S : Nat → Int32) (p : Nat → Nat) : Nat → Int32 := fun i => if i < m0 then f i else S (p (i - m0))
def wq_ (w : Nat → Int32) (m0 : Nat) (ws : Nat → Int32) (p : Nat → Nat) : Nat → Int32 := fun k => if k < 3 * m0 then w k else ws (3 * p ((k - 3 * m0) / 3) + (k - 3 * m0) % 3)
theorem fp_cg {f S : Nat → Int32} {m0 d : Nat} {p q : Nat → Nat} (h : ∀ j, j < d → p j = q j) : ∀ i, i < m0 + d → fp_ f m0 S p i = fp_ f m0 S q i := by
  intro i hi
  unfold fp_
  by_cases c : i < m0
  · rw [if_pos c, if_pos c]
  · rw [if_neg c, if_neg c, h (i - m0) (by omega)]
theorem wq_cg {w ws : Nat → Int32} {m0 d : Nat} {p q : Nat → Nat} (h : ∀ j, j < d → p j = q j) : ∀ k, k < 3 * (m0 + d) → wq_ w m0 ws p k = wq_ w m0 ws q k := by
  intro k hk
  unfold wq_
  by_cases c : k < 3 * m0
  · rw [if_pos c, if_pos c]
  · rw [if_neg c, if_neg c, h ((k - 3 * m0) / 3) (by omega)]
theorem fp_at {f S : Nat → Int32} {m0 d v : Nat} {p : Nat → Nat} : fp_ f m0 S (up_ p d v) (m0 + d) = S v := by
  unfold fp_
  rw [if_neg (by omega), show m0 + d - m0 = d by omega, up_1]
theorem wq_at {w ws : Nat → Int32} {m0 d v j : Nat} {p : Nat → Nat} (hj : j < 3) : wq_ w m0 ws (up_ p d v) (3 * (m0 + d) + j) = ws (3 * v + j) := by
  unfold wq_
  rw [if_neg (by omega), show (3 * (m0 + d) + j - 3 * m0) / 3 = d by omega, show (3 * (m0 + d) + j - 3 * m0) % 3 = j by omega, up_1]
theorem fp_up {f S : Nat → Int32} {m0 d v : Nat} {p : Nat → Nat} : ∀ i, i < m0 + d → fp_ f m0 S (up_ p d v) i = fp_ f m0 S p i := fp_cg (fun j hj => up_2 (by omega))
theorem wq_up {w ws : Nat → Int32} {m0 d v : Nat} {p : Nat → Nat} : ∀ k, k < 3 * (m0 + d) → wq_ w m0 ws (up_ p d v) k = wq_ w m0 ws p k := wq_cg (fun j hj => up_2 (by omega))
theorem a0_cg {f g : Nat → Int32} {m : Nat} (h : ∀ i, i < m → f i = g i) : a0_ f m = a0_ g m := by
  unfold a0_
  by_cases c : m = 0
  · rw [if_pos c, if_pos c]
  · rw [if_neg c, if_neg c, h _ (by omega)]
theorem a1_cg {f g : Nat → Int32} {m : Nat} (h : ∀ i, i < m → f i = g i) : a1_ f m = a1_ g m := by
  unfold a1_
  by_cases c : m ≤ 1
  · rw [if_pos c, if_pos c]
  · rw [if_neg c, if_neg c, h _ (by omega)]
theorem bm_cg {t w u : Nat → Int32} {K : Nat} {A0 A1 v a b c : Int32} {ρ : Int32 × Int32 × Int32 × Int32} {n p len : Int} (h : ∀ k : Nat, (k : Int) < 3 * (p - 1) → w k = u k) : bm_ t w K A0 A1 v a b c ρ n p len ↔ bm_ t u K A0 A1 v a b c ρ n p len := by
  unfold bm_
  rw [ag_congr h]
/-- a stored verse is good behind the sheet and the tries ahead of it -/
def bg_ (T : rp_T) (t f w ws S : Nat → Int32) (m0 : Nat) (p : Nat → Nat) (d v : Nat) : Prop := ((m0 + d + 1 : Nat) : Int) ≤ T.2.2.2.1 ∧ ∀ k, k < T.2.2.1 → ¬ bm_ t (wq_ w m0 ws p) T.1 (a0_ (fp_ f m0 S p) (m0 + d)) (a1_ (fp_ f m0 S p) (m0 + d)) (S v) (ws (3 * v)) (ws (3 * v + 1)) (ws (3 * v + 2)) (rp_rl T k) (nb_ (rp_rl T k) (fp_ f m0 S p) (m0 + d)) ((m0 + d + 1 : Nat) : Int) T.2.2.2.1
def bo2_ (T : rp_T) (t f S : Nat → Int32) (m0 : Nat) (p : Nat → Nat) (d v : Nat) : Int := if m0 + d = 0 then 0 else lg_ t (S v) (fp_ f m0 S p (m0 + d - 1)) T.1
section BGC
variable {T : rp_T} {t f w ws S : Nat → Int32} {m0 : Nat}
theorem bg_cg : ∀ (p q : Nat → Nat) (d v : Nat), (∀ j, j < d → p j = q j) → (bg_ T t f w ws S m0 p d v ↔ bg_ T t f w ws S m0 q d v) := by
  intro p q d v h
  unfold bg_
  rw [a0_cg (fp_cg (f := f) (S := S) (m0 := m0) h), a1_cg (fp_cg (f := f) (S := S) (m0 := m0) h)]
  have e : ∀ k, nb_ (rp_rl T k) (fp_ f m0 S p) (m0 + d) = nb_ (rp_rl T k) (fp_ f m0 S q) (m0 + d) := fun k => nb_congr _ (fp_cg h)
  constructor
  · rintro ⟨h1, h2⟩
    refine ⟨h1, fun k hk z => h2 k hk ?_⟩
    rw [e k]
    exact (bm_cg (fun i hi => wq_cg h i (by omega))).mpr z
  · rintro ⟨h1, h2⟩
    refine ⟨h1, fun k hk z => h2 k hk ?_⟩
    rw [← e k]
    exact (bm_cg (fun i hi => wq_cg h i (by omega))).mp z
theorem bo2_cg : ∀ (p q : Nat → Nat) (d v : Nat), (∀ j, j < d → p j = q j) → bo2_ T t f S m0 p d v = bo2_ T t f S m0 q d v := by
  intro p q d v h
  unfold bo2_
  by_cases c : m0 + d = 0
  · rw [if_pos c, if_pos c]
  · rw [if_neg c, if_neg c, fp_cg h (m0 + d - 1) (by omega)]
theorem bo2_rng (ht : ∀ i, i < 64 → -9 ≤ (t i).toInt ∧ (t i).toInt ≤ 9) (hK : T.1 ≤ 8) {p : Nat → Nat} {d v : Nat} : -576 ≤ bo2_ T t f S m0 p d v ∧ bo2_ T t f S m0 p d v ≤ 576 := by
  unfold bo2_
  split
  · exact ⟨by decide, by decide⟩
  · exact lg_rng ht hK
end BGC
