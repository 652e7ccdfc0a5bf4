/-! ===== the fresh pair of objects ===== -/
def am_vi (v : Value) : Nat := match v with
  | .ref i => 4 * i + 1
  | .int x => 4 * x.toBitVec.toNat + 2
  | .long x => 4 * x.toBitVec.toNat + 3
  | .null => 0
  | _ => 4
theorem am_vi_inj {v w : Value} (h : am_vi v = am_vi w) (hw : Nat.beq (am_vi w) 4 = false) : v = w := by
  have hw : am_vi w ≠ 4 := fun q => by rw [q] at hw; cases hw
  match v, w, h, hw with
  | .int x, .int y, h, _ =>
    have h1 : x.toBitVec.toNat = y.toBitVec.toNat := by simp only [am_vi] at h; omega
    exact congrArg Value.int (Int32.toBitVec_inj.mp (BitVec.eq_of_toNat_eq h1))
  | .long x, .long y, h, _ =>
    have h1 : x.toBitVec.toNat = y.toBitVec.toNat := by simp only [am_vi] at h; omega
    exact congrArg Value.long (Int64.toBitVec_inj.mp (BitVec.eq_of_toNat_eq h1))
  | .ref x, .ref y, h, _ =>
    have h1 : 4 * x + 1 = 4 * y + 1 := h
    have h2 : x = y := Nat.eq_of_mul_eq_mul_left (by decide : 0 < 4) (Nat.succ.inj h1)
    rw [h2]
  | .null, .null, _, _ => rfl
  | .int x, .long y, h, _ => simp only [am_vi] at h; omega
  | .int x, .ref y, h, _ => simp only [am_vi] at h; omega
  | .int x, .null, h, _ => simp only [am_vi] at h; omega
  | .long x, .int y, h, _ => simp only [am_vi] at h; omega
  | .long x, .ref y, h, _ => simp only [am_vi] at h; omega
  | .long x, .null, h, _ => simp only [am_vi] at h; omega
  | .ref x, .int y, h, _ => simp only [am_vi] at h; omega
  | .ref x, .long y, h, _ => simp only [am_vi] at h; omega
  | .ref x, .null, h, _ => simp only [am_vi] at h; omega
  | .null, .int y, h, _ => simp only [am_vi] at h; omega
  | .null, .long y, h, _ => simp only [am_vi] at h; omega
  | .null, .ref y, h, _ => simp only [am_vi] at h; omega
  | .float x, .int y, h, _ => simp only [am_vi] at h; omega
  | .float x, .long y, h, _ => simp only [am_vi] at h; omega
  | .float x, .ref y, h, _ => simp only [am_vi] at h; omega
  | .float x, .null, h, _ => simp only [am_vi] at h; omega
  | .double x, .int y, h, _ => simp only [am_vi] at h; omega
  | .double x, .long y, h, _ => simp only [am_vi] at h; omega
  | .double x, .ref y, h, _ => simp only [am_vi] at h; omega
  | .double x, .null, h, _ => simp only [am_vi] at h; omega
  | .retAddr x, .int y, h, _ => simp only [am_vi] at h; omega
  | .retAddr x, .long y, h, _ => simp only [am_vi] at h; omega
  | .retAddr x, .ref y, h, _ => simp only [am_vi] at h; omega
  | .retAddr x, .null, h, _ => simp only [am_vi] at h; omega
  | _, .float y, _, hw => exact absurd rfl hw
  | _, .double y, _, hw => exact absurd rfl hw
  | _, .retAddr y, _, hw => exact absurd rfl hw
theorem am_vis_inj : ∀ (l m : List Value), l.map am_vi = m.map am_vi → m.all (fun v => !Nat.beq (am_vi v) 4) = true → l = m := by
  intro l
  induction l with
  | nil => intro m h _; cases m with
    | nil => rfl
    | cons w m => cases h
  | cons v l ih =>
    intro m h hm
    cases m with
    | nil => cases h
    | cons w m =>
      simp only [List.map_cons, List.cons.injEq] at h
      simp only [List.all_cons, Bool.and_eq_true, Bool.not_eq_true'] at hm
      rw [am_vi_inj h.1 hm.1, ih m h.2 hm.2]
abbrev am_DS : Type := Nat × Nat × Nat × List Value
def am_ds1 (e : am_E) : Nat × Nat × Nat × List Nat := match e with
  | .inr o => (0, o.1, 0, o.2.map am_vi)
  | .inl x => (match x.2.2 with
    | .inl _ => (1, x.1, x.2.1, [])
    | .inr (.inl _) => (2, x.1, x.2.1, [])
    | _ => (9, 0, 0, []))
def am_en (d : am_DS) : Nat × Nat × Nat × List Nat := (d.1, d.2.1, d.2.2.1, d.2.2.2.map am_vi)
def am_dok (d : am_DS) : Bool := d.2.2.2.all (fun v => !Nat.beq (am_vi v) 4) && Nat.ble d.1 2
def am_ctI (h : am_H) (a : Nat) : Nat → Int32 := match h[a]? with
  | some (.inl x) => (match x.2.2 with
    | .inl f => f
    | _ => fun _ => 0)
  | _ => fun _ => 0
def am_ctL (h : am_H) (a : Nat) : Nat → Int64 := match h[a]? with
  | some (.inl x) => (match x.2.2 with
    | .inr (.inl f) => f
    | _ => fun _ => 0)
  | _ => fun _ => 0
def am_und (h : am_H) (k : Nat) (d : am_DS) : am_E := match d with
  | (0, c, _, fs) => .inr (c, fs)
  | (1, t, n, _) => .inl (t, n, .inl (am_ctI h k))
  | (_, t, n, _) => .inl (t, n, .inr (.inl (am_ctL h k)))
theorem am_rec1 {h : am_H} {k : Nat} {e : am_E} {d : am_DS} (he : h[k]? = some e) (hd : am_ds1 e = am_en d) (hk : am_dok d = true) : e = am_und h k d := by
  obtain ⟨d1, d2, d3, d4⟩ := d
  unfold am_dok at hk
  rw [Bool.and_eq_true] at hk
  obtain ⟨hk1, hk2⟩ := hk
  match e, he, hd with
  | .inr (c, fs), he, hd =>
    simp only [am_ds1, am_en, Prod.mk.injEq] at hd
    obtain ⟨rfl, rfl, rfl, h4⟩ := hd
    rw [am_vis_inj fs d4 h4 hk1]
    rfl
  | .inl (t, n, .inl f), he, hd =>
    simp only [am_ds1, am_en, Prod.mk.injEq] at hd
    obtain ⟨rfl, rfl, rfl, h4⟩ := hd
    simp only [am_und, am_ctI, he]
  | .inl (t, n, .inr (.inl f)), he, hd =>
    simp only [am_ds1, am_en, Prod.mk.injEq] at hd
    obtain ⟨rfl, rfl, rfl, h4⟩ := hd
    simp only [am_und, am_ctL, he]
  | .inl (t, n, .inr (.inr q)), he, hd =>
    simp only [am_ds1, am_en, Prod.mk.injEq] at hd
    obtain ⟨h1, -⟩ := hd
    rw [← h1] at hk2
    cases hk2
def am_undL (h : am_H) : Nat → List am_DS → am_H
  | _, [] => []
  | k, d :: ds => am_und h k d :: am_undL h (k + 1) ds
theorem am_undL_get (h : am_H) : ∀ (ds : List am_DS) (k i : Nat), (am_undL h k ds)[i]? = (ds[i]?).map (fun d => am_und h (k + i) d) := by
  intro ds
  induction ds with
  | nil => intro k i; rfl
  | cons d ds ih =>
    intro k i
    match i with
    | 0 => rfl
    | i + 1 =>
      show (am_undL h (k + 1) ds)[i]? = _
      rw [ih (k + 1) i, show k + 1 + i = k + (i + 1) by omega]
      rfl
theorem am_rec {h : am_H} {ds : List am_DS} (hd : h.map am_ds1 = ds.map am_en) (hk : ds.all am_dok = true) : h = am_undL h 0 ds := by
  apply List.ext_getElem?
  intro k
  rw [am_undL_get, Nat.zero_add]
  have h0 := congrArg (fun l => l[k]?) hd
  simp only [List.getElem?_map] at h0
  cases he : h[k]? with
  | none =>
    rw [he] at h0
    cases hs : ds[k]? with
    | none => rfl
    | some d => rw [hs] at h0; cases h0
  | some e =>
    rw [he] at h0
    cases hs : ds[k]? with
    | none => rw [hs] at h0; cases h0
    | some d =>
      rw [hs] at h0
      have h1 := List.all_eq_true.mp hk d (List.mem_of_getElem? hs)
      have h2 := am_rec1 he (Option.some.inj h0) h1
      show some e = some (am_und h k d)
      rw [← h2]
def am_qX : Option (Option Value × am_H) := am_call true 100000 19 118 [.ref 0] [.inr (11, am_def 11)]
def am_dX : List am_DS := [(0, 11, 0, [.ref 8, .ref 1, .ref 18, .ref 22, .ref 24, .ref 28, .ref 35, .ref 58]), (0, 6, 0, [.int 0, .int 0, .int 0, .int 36, .int 99, .int 0, .ref 2, .ref 3, .ref 4, .ref 5, .ref 6, .ref 7]), (2, 2, 16, []), (1, 1, 16, []), (1, 1, 12, []), (1, 1, 12, []), (1, 1, 12, []), (1, 1, 12, []), (0, 5, 0, [.ref 9, .ref 16, .int 0, .ref 17, .int 0, .int 0, .int 0, .int 0, .int 0, .long 0]), (0, 6, 0, [.int 0, .int 0, .int 0, .int 36, .int 99, .int 0, .ref 10, .ref 11, .ref 12, .ref 13, .ref 14, .ref 15]), (2, 2, 16, []), (1, 1, 16, []), (1, 1, 12, []), (1, 1, 12, []), (1, 1, 12, []), (1, 1, 12, []), (1, 1, 600, []), (2, 2, 13, []), (0, 0, 0, [.int 0, .int 0, .ref 19, .ref 20, .ref 21]), (1, 1, 100, []), (1, 1, 100, []), (1, 1, 100, []), (0, 10, 0, [.ref 23]), (1, 1, 64, []), (0, 4, 0, [.int 0, .ref 25, .ref 26, .ref 27]), (1, 1, 12, []), (1, 1, 12, []), (1, 4, 12, []), (0, 7, 0, [.ref 1, .ref 22, .int 0, .int 0, .ref 29, .ref 30, .ref 31, .ref 32, .ref 33, .ref 34]), (1, 1, 49, []), (1, 1, 49, []), (1, 1, 49, []), (1, 1, 147, []), (1, 4, 49, []), (1, 1, 588, []), (0, 2, 0, [.ref 1, .ref 28, .ref 36, .int 0, .int 0, .ref 37, .ref 38, .ref 50, .int 0, .ref 54, .ref 39, .ref 43, .ref 47, .ref 48, .ref 49]), (1, 1, 16, []), (1, 1, 49, []), (1, 1, 49, []), (0, 8, 0, [.ref 40, .ref 41, .int 0, .ref 42, .int 0]), (2, 2, 400, []), (2, 2, 400, []), (1, 1, 1024, []), (0, 8, 0, [.ref 44, .ref 45, .int 0, .ref 46, .int 0]), (2, 2, 400, []), (2, 2, 400, []), (1, 1, 1024, []), (1, 1, 49, []), (1, 3, 307200, []), (1, 0, 19600, []), (0, 1, 0, [.ref 1, .ref 22, .ref 51, .ref 52, .int 0, .ref 53]), (1, 1, 16, []), (1, 1, 16, []), (1, 1, 256, []), (0, 3, 0, [.ref 1, .ref 55, .int 0, .int 0, .int 0, .int 0, .int 0, .int 0, .long 0, .long 0, .ref 56, .ref 57]), (1, 1, 12, []), (2, 2, 12, []), (2, 2, 12, []), (0, 9, 0, [.ref 1, .ref 22, .ref 28, .ref 18, .int 0, .ref 59, .ref 60, .int 0, .int 0, .ref 61, .ref 62, .ref 63]), (1, 1, 60, []), (1, 1, 20, []), (1, 1, 3, []), (1, 1, 3, []), (1, 1, 3, [])]
theorem am_qX_ok : (match am_qX with
  | some q => q.1.isNone && decide (q.2.map am_ds1 = am_dX.map am_en)
  | none => false) = true := by decide +kernel
def am_hof (q : Option (Option Value × am_H)) : am_H := match q with
  | some q => q.2
  | none => []
theorem am_q_split {q : Option (Option Value × am_H)} {ds : List am_DS} (h : (match q with
  | some q => q.1.isNone && decide (q.2.map am_ds1 = ds.map am_en)
  | none => false) = true) (hk : ds.all am_dok = true) : ∃ hh, q = some (none, hh) ∧ hh = am_undL hh 0 ds := by
  match q, h with
  | some (none, hh), h =>
    simp only [Bool.and_eq_true] at h
    exact ⟨hh, rfl, am_rec (of_decide_eq_true h.2) hk⟩
  | some (some v, hh), h => simp only [Option.isNone_some, Bool.false_and] at h; cases h
  | none, h => cases h
theorem am_q_get {q : Option (Option Value × am_H)} {ds : List am_DS} (h : (match q with
  | some q => q.1.isNone && decide (q.2.map am_ds1 = ds.map am_en)
  | none => false) = true) (hk : ds.all am_dok = true) : q = some (none, am_hof q) ∧ am_hof q = am_undL (am_hof q) 0 ds := by
  obtain ⟨hh, h1, h2⟩ := am_q_split h hk
  subst h1
  exact ⟨rfl, h2⟩
def am_hX : am_H := am_hof am_qX
def am_hXf (h : am_H) : am_H := [.inr (11, [.ref 8, .ref 1, .ref 18, .ref 22, .ref 24, .ref 28, .ref 35, .ref 58]), .inr (6, [.int 0, .int 0, .int 0, .int 36, .int 99, .int 0, .ref 2, .ref 3, .ref 4, .ref 5, .ref 6, .ref 7]), .inl (2, 16, .inr (.inl (am_ctL h 2))), .inl (1, 16, .inl (am_ctI h 3)), .inl (1, 12, .inl (am_ctI h 4)), .inl (1, 12, .inl (am_ctI h 5)), .inl (1, 12, .inl (am_ctI h 6)), .inl (1, 12, .inl (am_ctI h 7)), .inr (5, [.ref 9, .ref 16, .int 0, .ref 17, .int 0, .int 0, .int 0, .int 0, .int 0, .long 0]), .inr (6, [.int 0, .int 0, .int 0, .int 36, .int 99, .int 0, .ref 10, .ref 11, .ref 12, .ref 13, .ref 14, .ref 15]), .inl (2, 16, .inr (.inl (am_ctL h 10))), .inl (1, 16, .inl (am_ctI h 11)), .inl (1, 12, .inl (am_ctI h 12)), .inl (1, 12, .inl (am_ctI h 13)), .inl (1, 12, .inl (am_ctI h 14)), .inl (1, 12, .inl (am_ctI h 15)), .inl (1, 600, .inl (am_ctI h 16)), .inl (2, 13, .inr (.inl (am_ctL h 17))), .inr (0, [.int 0, .int 0, .ref 19, .ref 20, .ref 21]), .inl (1, 100, .inl (am_ctI h 19)), .inl (1, 100, .inl (am_ctI h 20)), .inl (1, 100, .inl (am_ctI h 21)), .inr (10, [.ref 23]), .inl (1, 64, .inl (am_ctI h 23)), .inr (4, [.int 0, .ref 25, .ref 26, .ref 27]), .inl (1, 12, .inl (am_ctI h 25)), .inl (1, 12, .inl (am_ctI h 26)), .inl (4, 12, .inl (am_ctI h 27)), .inr (7, [.ref 1, .ref 22, .int 0, .int 0, .ref 29, .ref 30, .ref 31, .ref 32, .ref 33, .ref 34]), .inl (1, 49, .inl (am_ctI h 29)), .inl (1, 49, .inl (am_ctI h 30)), .inl (1, 49, .inl (am_ctI h 31)), .inl (1, 147, .inl (am_ctI h 32)), .inl (4, 49, .inl (am_ctI h 33)), .inl (1, 588, .inl (am_ctI h 34)), .inr (2, [.ref 1, .ref 28, .ref 36, .int 0, .int 0, .ref 37, .ref 38, .ref 50, .int 0, .ref 54, .ref 39, .ref 43, .ref 47, .ref 48, .ref 49]), .inl (1, 16, .inl (am_ctI h 36)), .inl (1, 49, .inl (am_ctI h 37)), .inl (1, 49, .inl (am_ctI h 38)), .inr (8, [.ref 40, .ref 41, .int 0, .ref 42, .int 0]), .inl (2, 400, .inr (.inl (am_ctL h 40))), .inl (2, 400, .inr (.inl (am_ctL h 41))), .inl (1, 1024, .inl (am_ctI h 42)), .inr (8, [.ref 44, .ref 45, .int 0, .ref 46, .int 0]), .inl (2, 400, .inr (.inl (am_ctL h 44))), .inl (2, 400, .inr (.inl (am_ctL h 45))), .inl (1, 1024, .inl (am_ctI h 46)), .inl (1, 49, .inl (am_ctI h 47)), .inl (3, 307200, .inl (am_ctI h 48)), .inl (0, 19600, .inl (am_ctI h 49)), .inr (1, [.ref 1, .ref 22, .ref 51, .ref 52, .int 0, .ref 53]), .inl (1, 16, .inl (am_ctI h 51)), .inl (1, 16, .inl (am_ctI h 52)), .inl (1, 256, .inl (am_ctI h 53)), .inr (3, [.ref 1, .ref 55, .int 0, .int 0, .int 0, .int 0, .int 0, .int 0, .long 0, .long 0, .ref 56, .ref 57]), .inl (1, 12, .inl (am_ctI h 55)), .inl (2, 12, .inr (.inl (am_ctL h 56))), .inl (2, 12, .inr (.inl (am_ctL h 57))), .inr (9, [.ref 1, .ref 22, .ref 28, .ref 18, .int 0, .ref 59, .ref 60, .int 0, .int 0, .ref 61, .ref 62, .ref 63]), .inl (1, 60, .inl (am_ctI h 59)), .inl (1, 20, .inl (am_ctI h 60)), .inl (1, 3, .inl (am_ctI h 61)), .inl (1, 3, .inl (am_ctI h 62)), .inl (1, 3, .inl (am_ctI h 63))]
set_option maxRecDepth 100000 in
theorem am_hXf_eq (h : am_H) : am_undL h 0 am_dX = am_hXf h := rfl
def am_hXx : am_H := am_hXf am_hX
set_option maxRecDepth 100000 in
theorem am_hX_ok : am_qX = some (none, am_hX) ∧ am_hX = am_undL am_hX 0 am_dX := am_q_get am_qX_ok (by decide +kernel)
set_option maxRecDepth 100000 in
theorem am_hX_eq : am_hX = am_hXx := am_hX_ok.2.trans (am_hXf_eq am_hX)
theorem am_DoX : am_Do true 19 118 [.ref 0] [.inr (11, am_def 11)] (none, am_hXx) := am_hX_eq ▸ (am_Do.cl (F := 100000) (q := (none, am_hX)) am_hX_ok.1)
