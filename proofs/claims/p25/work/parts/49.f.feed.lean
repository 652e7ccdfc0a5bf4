/-! ===== feed: what it lays on the tape ===== -/
theorem am_d8 : ab_D0[8]? = some (.inr (5, [.inr (.inr [9]), .inr (.inr [16]), .inl (Int.ofNat 0, Int.ofNat 600), .inr (.inr [17]), .inl (Int.ofNat 0, Int.ofNat 600), .inl (Int.ofNat 0, Int.ofNat 6100), .inl (Int.ofNat 0, Int.ofNat 5), .inl (Int.ofNat 0, Int.ofNat 600), .inl (Int.negSucc 2147483647, Int.ofNat 2147483647), .inr (.inl ())])) := rfl

def am_bx (s : Int32) (A : Int64) : Int32 := (A.toUInt64 >>> (s.toInt64.toUInt64 &&& Int64.toUInt64 63)).toInt64.toInt32 &&& 255
def am_bm (s : Int32) (A : Int64) : Int32 := (A >>> (s.toInt64 &&& 63)).toInt32.toInt8.toInt32
def am_lx (A : Int64) : List Int32 := [am_bx 56 A, am_bx 48 A, am_bx 40 A, am_bx 32 A, am_bx 24 A, am_bx 16 A, am_bx 8 A, am_bx 0 A]
def am_lm (A : Int64) : List Int32 := [am_bm 56 A, am_bm 48 A, am_bm 40 A, am_bm 32 A, am_bm 24 A, am_bm 16 A, am_bm 8 A, am_bm 0 A]
/-- a byte comes behind the tape -/
def am_tp (q : Int × (Nat → Int32)) (b : Int32) : Int × (Nat → Int32) := if b ≠ 0 ∧ q.1 < 600 then (q.1 + 1, upd q.2 q.1.toNat b) else q
/-- as long, and byte by byte alike -/
def am_tq (q p : Int × (Nat → Int32)) : Prop := q.1 = p.1 ∧ ∀ j : Nat, (j : Int) < q.1 → (q.2 j).toInt = (p.2 j).toInt % 256
theorem am_tq.step {q p : Int × (Nat → Int32)} {b c : Int32} (h : am_tq q p) (h0 : 0 ≤ q.1) (hb : b.toInt = c.toInt % 256) (hc : -128 ≤ c.toInt ∧ c.toInt ≤ 127) : am_tq (am_tp q b) (am_tp p c) := by
  obtain ⟨n, B⟩ := q
  obtain ⟨m, C⟩ := p
  obtain ⟨h1, h2⟩ := h
  simp only at h1 h2 h0
  subst h1
  have hz : b ≠ 0 ↔ c ≠ 0 := by
    constructor
    · intro hb0 hc0
      subst hc0
      exact hb0 (Int32.toInt_inj.mp (by rw [hb]; rfl))
    · intro hc0 hb0
      subst hb0
      have h3 : (0 : Int) = c.toInt % 256 := hb
      exact hc0 (Int32.toInt_inj.mp (show c.toInt = 0 by omega))
  unfold am_tp
  by_cases hq : b ≠ 0 ∧ n < 600
  · rw [if_pos hq, if_pos ⟨hz.mp hq.1, hq.2⟩]
    refine ⟨rfl, fun j hj => ?_⟩
    simp only at hj ⊢
    unfold upd
    by_cases hj2 : j = n.toNat
    · rw [if_pos hj2, if_pos hj2]
      exact hb
    · rw [if_neg hj2, if_neg hj2]
      exact h2 j (by omega)
  · rw [if_neg hq, if_neg (fun q => hq ⟨hz.mpr q.1, q.2⟩)]
    exact ⟨rfl, h2⟩
theorem am_tp_r {q : Int × (Nat → Int32)} {b : Int32} (h : 0 ≤ q.1 ∧ q.1 ≤ 600) : 0 ≤ (am_tp q b).1 ∧ (am_tp q b).1 ≤ 600 := by
  unfold am_tp
  split
  · rename_i h2
    simp only
    omega
  · exact h
def am_l2 : List Int32 → List Int32 → Prop
  | [], [] => True
  | b :: l, c :: m => (b.toInt = c.toInt % 256 ∧ -128 ≤ c.toInt ∧ c.toInt ≤ 127) ∧ am_l2 l m
  | _, _ => False
theorem am_l2.app {l2 m2 : List Int32} (h2 : am_l2 l2 m2) : ∀ (l m : List Int32), am_l2 l m → am_l2 (l ++ l2) (m ++ m2) := by
  intro l
  induction l with
  | nil => intro m h; cases m with
    | nil => exact h2
    | cons c m => exact h.elim
  | cons b l ih =>
    intro m h
    cases m with
    | nil => exact h.elim
    | cons c m => exact ⟨h.1, ih m h.2⟩
theorem am_tq.fold : ∀ (l m : List Int32) (q p : Int × (Nat → Int32)), am_tq q p → (0 ≤ q.1 ∧ q.1 ≤ 600) → am_l2 l m → am_tq (l.foldl am_tp q) (m.foldl am_tp p) := by
  intro l
  induction l with
  | nil => intro m q p h h0 hl; cases m with
    | nil => exact h
    | cons c m => exact hl.elim
  | cons b l ih =>
    intro m q p h h0 hl
    cases m with
    | nil => exact hl.elim
    | cons c m => exact ih m _ _ (h.step h0.1 hl.1.1 hl.1.2) (am_tp_r h0) hl.2
theorem am_b8 (s : Nat) (hs : s ≤ 56) (v : BitVec 64) : ((v >>> s).setWidth 32 &&& 255#32).toNat = (((v.sshiftRight s).setWidth 32).setWidth 8).toNat := by
  have e1 : ((v.sshiftRight s).setWidth 32).setWidth 8 = (v >>> s).setWidth 8 := by
    apply BitVec.eq_of_getLsbD_eq
    intro i hi
    simp only [BitVec.getLsbD_setWidth, BitVec.getLsbD_sshiftRight, BitVec.getLsbD_ushiftRight]
    have a1 : decide (64 ≤ i) = false := decide_eq_false (by omega)
    have a2 : s + i < 64 := by omega
    have a3 : i < 32 := by omega
    simp only [a1, a2, a3, hi, decide_true, Bool.not_false, Bool.true_and, if_true]
  rw [e1, BitVec.toNat_and, BitVec.toNat_setWidth, BitVec.toNat_setWidth, show (255#32).toNat = 2 ^ 8 - 1 from rfl, Nat.and_two_pow_sub_one_eq_mod]
  omega
theorem am_sx8i (x : BitVec 8) : (x.signExtend 32).toInt = x.toInt := by
  rw [BitVec.toInt_signExtend]
  have h1 := x.toInt_lt
  have h2 := x.le_toInt
  have h3 : min 32 8 = 8 := rfl
  rw [h3]
  exact BitVec.toInt_bmod_cancel x
theorem am_mod8 (x : BitVec 8) : x.toInt % 256 = (x.toNat : Int) := by
  have h0 := x.isLt
  rw [BitVec.toInt_eq_toNat_cond]
  split <;> omega
theorem am_bnat {x : Int32} (h : x.toBitVec.toNat < 2 ^ 31) : x.toInt = (x.toBitVec.toNat : Int) := by
  rw [ab_ti, if_pos (by omega)]
theorem am_bxm (s : Nat) (hs : s ≤ 56) (A : Int64) (x y : Int32) (hx : x.toBitVec = (A.toBitVec >>> s).signExtend 32 &&& 255#32) (hy : y.toBitVec = (((A.toBitVec.sshiftRight s).signExtend 32).signExtend 8).signExtend 32) : x.toInt = y.toInt % 256 ∧ -128 ≤ y.toInt ∧ y.toInt ≤ 127 := by
  rw [BitVec.signExtend_eq_setWidth_of_le _ (by decide)] at hx
  rw [BitVec.signExtend_eq_setWidth_of_le (A.toBitVec.sshiftRight s) (by decide), BitVec.signExtend_eq_setWidth_of_le ((A.toBitVec.sshiftRight s).setWidth 32) (by decide)] at hy
  have h1 := am_b8 s hs A.toBitVec
  rw [← hx] at h1
  generalize ((A.toBitVec.sshiftRight s).setWidth 32).setWidth 8 = z at hy h1
  have h2 : y.toInt = z.toInt := by
    show y.toBitVec.toInt = z.toInt
    rw [hy]
    exact am_sx8i z
  have h3 := z.isLt
  have h4 : x.toInt = (z.toNat : Int) := by rw [am_bnat (by omega), h1]
  rw [h2, am_mod8]
  refine ⟨h4, ?_, ?_⟩
  · rw [BitVec.toInt_eq_toNat_cond]
    split <;> omega
  · rw [BitVec.toInt_eq_toNat_cond]
    split <;> omega
theorem am_bb0 (A : Int64) : (am_bx 0 A).toInt = (am_bm 0 A).toInt % 256 ∧ -128 ≤ (am_bm 0 A).toInt ∧ (am_bm 0 A).toInt ≤ 127 := am_bxm 0 (by decide) A _ _ rfl rfl
theorem am_bb8 (A : Int64) : (am_bx 8 A).toInt = (am_bm 8 A).toInt % 256 ∧ -128 ≤ (am_bm 8 A).toInt ∧ (am_bm 8 A).toInt ≤ 127 := am_bxm 8 (by decide) A _ _ rfl rfl
theorem am_bb16 (A : Int64) : (am_bx 16 A).toInt = (am_bm 16 A).toInt % 256 ∧ -128 ≤ (am_bm 16 A).toInt ∧ (am_bm 16 A).toInt ≤ 127 := am_bxm 16 (by decide) A _ _ rfl rfl
theorem am_bb24 (A : Int64) : (am_bx 24 A).toInt = (am_bm 24 A).toInt % 256 ∧ -128 ≤ (am_bm 24 A).toInt ∧ (am_bm 24 A).toInt ≤ 127 := am_bxm 24 (by decide) A _ _ rfl rfl
theorem am_bb32 (A : Int64) : (am_bx 32 A).toInt = (am_bm 32 A).toInt % 256 ∧ -128 ≤ (am_bm 32 A).toInt ∧ (am_bm 32 A).toInt ≤ 127 := am_bxm 32 (by decide) A _ _ rfl rfl
theorem am_bb40 (A : Int64) : (am_bx 40 A).toInt = (am_bm 40 A).toInt % 256 ∧ -128 ≤ (am_bm 40 A).toInt ∧ (am_bm 40 A).toInt ≤ 127 := am_bxm 40 (by decide) A _ _ rfl rfl
theorem am_bb48 (A : Int64) : (am_bx 48 A).toInt = (am_bm 48 A).toInt % 256 ∧ -128 ≤ (am_bm 48 A).toInt ∧ (am_bm 48 A).toInt ≤ 127 := am_bxm 48 (by decide) A _ _ rfl rfl
theorem am_bb56 (A : Int64) : (am_bx 56 A).toInt = (am_bm 56 A).toInt % 256 ∧ -128 ≤ (am_bm 56 A).toInt ∧ (am_bm 56 A).toInt ≤ 127 := am_bxm 56 (by decide) A _ _ rfl rfl
theorem am_lx1 (A : Int64) : am_l2 (am_lx A) (am_lm A) := ⟨am_bb56 A, am_bb48 A, am_bb40 A, am_bb32 A, am_bb24 A, am_bb16 A, am_bb8 A, am_bb0 A, trivial⟩
theorem am_lxm (A B C : Int64) : am_l2 (am_lx A ++ am_lx B ++ am_lx C) (am_lm A ++ am_lm B ++ am_lm C) := (am_lx1 C).app _ _ ((am_lx1 B).app _ _ (am_lx1 A))
/-- the class's tape -/
def am_v8 (mo : ab_Mo) (h0 h : am_H) (q : Int × (Nat → Int32)) : Prop := ab_hok ab_D0 h ∧ ab_fr mo h0 h ∧ ab_cell h 8 ((2 : Nat) : Int) = some (.int (Int32.ofInt q.1)) ∧ h[16]? = some (.inl (1, 600, .inl q.2)) ∧ 0 ≤ q.1 ∧ q.1 ≤ 600
def am_mo8 : ab_Mo := [(8, 3), (16, 0)]
abbrev am_lv8 (A : Int64) (s : Int) (o4 : Option Value) : List (Option Value) := [some (.ref 8), some (.long A), none, some (.int (Int32.ofInt s)), o4]
set_option maxRecDepth 100000 in
theorem am_pb1 {al : Bool} {d : Nat} {h0 h : am_H} {A : Int64} {s : Int} {o4 : Option Value} {q : Int × (Nat → Int32)} {Φ : am_C → Prop} (hs : 0 ≤ s ∧ s ≤ 56) (v : am_v8 am_mo8 h0 h q) (K : ∀ h2 o4, am_v8 am_mo8 h0 h2 (am_tp q (am_bx (Int32.ofInt s) A)) → am_Wp al d (0, fun _ => 0) am_r44 Φ (3, am_lv8 A (s + -8) o4, [], h2, 0, 0)) : am_Wp al d (0, fun _ => 0) am_r44 Φ (3, am_lv8 A s o4, [], h, 0, 0) := by
  obtain ⟨hok, hfr, hn, hB, hq⟩ := id v
  refine am_Wp.bl 1 (y := (4, am_lv8 A s o4, [.int (Int32.ofInt s)], h, 0, 0)) (fun _ => rfl) ?_
  refine am_Wp.i0 ⟨by omega, by omega⟩ rfl rfl (fun hc => by have hc : s < 0 := hc; omega) (fun _ => ?_)
  refine am_Wp.bl 8 (y := (19, am_lv8 A s (some (.int (am_bx (Int32.ofInt s) A))), [.int (am_bx (Int32.ofInt s) A)], h, 0, 0)) (fun _ => rfl) ?_
  have step : ∀ h2, am_v8 am_mo8 h0 h2 (am_tp q (am_bx (Int32.ofInt s) A)) → am_Wp al d (0, fun _ => 0) am_r44 Φ (53, am_lv8 A s (some (.int (am_bx (Int32.ofInt s) A))), [], h2, 0, 0) := fun h2 v2 => by
    refine am_Wp.bl 2 (y := (3, [some (.ref 8), some (.long A), none, some (.int (Int32.ofInt s + Int32.ofInt (-8))), some (.int (am_bx (Int32.ofInt s) A))], [], h2, 0, 0)) (fun _ => rfl) ?_
    simp only [am_oa]
    exact K h2 _ v2
  cases hz : am_cmp .eq (am_bx (Int32.ofInt s) A) 0 with
  | true =>
    refine am_Wp.zbr true rfl rfl hz (step h ?_)
    have e : am_tp q (am_bx (Int32.ofInt s) A) = q := by
      unfold am_tp
      exact if_neg (fun g => g.1 (of_decide_eq_true hz))
    rw [e]
    exact v
  | false =>
    refine am_Wp.zbr false rfl rfl hz ?_
    have hnz : am_bx (Int32.ofInt s) A ≠ 0 := of_decide_eq_false hz
    refine am_Wp.bl 1 (y := (23, am_lv8 A s (some (.int (am_bx (Int32.ofInt s) A))), [.ref 8], h, 0, 0)) (fun _ => rfl) ?_
    refine am_Wp.gi (D := ab_D0) (c := 5) (k := 2) rfl rfl hok am_d8 rfl hn ?_
    refine am_Wp.bl 1 (y := (29, am_lv8 A s (some (.int (am_bx (Int32.ofInt s) A))), [.int (Int32.ofInt 600), .int (Int32.ofInt q.1)], h, 0, 0)) (fun _ => rfl) ?_
    refine am_Wp.ic ⟨by omega, by omega⟩ ⟨by omega, by omega⟩ rfl rfl (fun hc => ?_) (fun hc => ?_)
    · have hc : (600 : Int) ≤ q.1 := hc
      refine step h ?_
      have e : am_tp q (am_bx (Int32.ofInt s) A) = q := by
        unfold am_tp
        exact if_neg (fun g => by omega)
      rw [e]
      exact v
    · have hc : ¬ ((600 : Int) ≤ q.1) := hc
      have e : am_tp q (am_bx (Int32.ofInt s) A) = (q.1 + 1, upd q.2 q.1.toNat (am_bx (Int32.ofInt s) A)) := by
        unfold am_tp
        exact if_pos ⟨hnz, by omega⟩
      rw [e] at step
      have hbr : 0 ≤ (am_bx (Int32.ofInt s) A).toInt ∧ (am_bx (Int32.ofInt s) A).toInt ≤ 255 := ab_and_le (y := 255) (by decide)
      generalize am_bx (Int32.ofInt s) A = b at step hbr ⊢
      refine am_Wp.bl 1 (y := (33, am_lv8 A s (some (.int b)), [.ref 8], h, 0, 0)) (fun _ => rfl) ?_
      refine am_Wp.gr (D := ab_D0) (c := 5) (k := 1) (b := 16) rfl rfl hok am_d8 rfl rfl ?_
      refine am_Wp.bl 1 (y := (37, am_lv8 A s (some (.int b)), [.ref 8, .ref 16], h, 0, 0)) (fun _ => rfl) ?_
      refine am_Wp.gi (D := ab_D0) (c := 5) (k := 2) rfl rfl hok am_d8 rfl hn ?_
      refine am_Wp.bl 1 (y := (42, am_lv8 A s (some (.int b)), [.int b, .int (Int32.ofInt q.1), .ref 16], h, 0, 0)) (fun _ => rfl) ?_
      refine am_Wp.is hB (by omega) (by omega) rfl rfl (by decide) ?_
      have ok2 := am_aset (z := q.1.toNat) (w := b) hok (lo := 0) (hi := 255) (m := 511) rfl (by decide) hB ⟨hbr.1, hbr.2, by show b.toInt % 512 ≤ 511; omega⟩
      have f2 : ab_fr am_mo8 h0 (h.set 16 (.inl (1, 600, .inl (upd q.2 q.1.toNat b)))) := hfr.tr (ab_fr_arr rfl hB)
      have n2 : ab_cell (h.set 16 (.inl (1, 600, .inl (upd q.2 q.1.toNat b)))) 8 ((2 : Nat) : Int) = some (.int (Int32.ofInt q.1)) := (am_cell_ne (by decide)).trans hn
      have b2 : (h.set 16 (.inl (1, 600, .inl (upd q.2 q.1.toNat b))))[16]? = some (.inl (1, 600, .inl (upd q.2 q.1.toNat b))) := List.getElem?_set_self (am_len_of hB)
      generalize h.set 16 (.inl (1, 600, .inl (upd q.2 q.1.toNat b))) = h2 at ok2 f2 n2 b2 ⊢
      refine am_Wp.bl 2 (y := (45, am_lv8 A s (some (.int b)), [.ref 8, .ref 8], h2, 0, 0)) (fun _ => rfl) ?_
      refine am_Wp.gi (D := ab_D0) (c := 5) (k := 2) rfl rfl ok2 am_d8 rfl n2 ?_
      refine am_Wp.bl 2 (y := (50, am_lv8 A s (some (.int b)), [.int (Int32.ofInt q.1 + Int32.ofInt 1), .ref 8], h2, 0, 0)) (fun _ => rfl) ?_
      simp only [am_oa]
      refine am_Wp.pi (D := ab_D0) (c := 5) (k := 2) rfl rfl ok2 am_d8 rfl rfl ⟨by rw [am_oi (by omega) (by omega)]; show (0 : Int) ≤ q.1 + 1; omega, by rw [am_oi (by omega) (by omega)]; show q.1 + 1 ≤ (600 : Int); omega⟩ (by decide) (Or.inl rfl) (fun h3 ok3 f3 c3 e3 => ?_)
      exact step h3 ⟨ok3, f2.tr (f3.le (fun x hx => ab_md_in (List.all_eq_true.mp (show [(8, 3)].all (fun q => ab_md am_mo8 q.1 q.2) = true from rfl) x hx))), c3, (e3 16 (by decide)).trans b2, by show (0 : Int) ≤ q.1 + 1; omega, by show q.1 + 1 ≤ (600 : Int); omega⟩
set_option maxRecDepth 100000 in
theorem am_pb {al : Bool} {d : Nat} {h0 h : am_H} {A : Int64} {q : Int × (Nat → Int32)} (v : am_v8 am_mo8 h0 h q) : ∃ h2, am_Do al (d + 1) 44 [.ref 8, .long A] h (none, h2) ∧ am_v8 am_mo8 h0 h2 ((am_lx A).foldl am_tp q) := by
  have key : am_Wp al d (0, fun _ => 0) am_r44 (fun y => y.1 = 59 ∧ y.2.2.1 = [] ∧ am_v8 am_mo8 h0 y.2.2.2.1 ((am_lx A).foldl am_tp q)) (0, [some (.ref 8), some (.long A), none, none, none], [], h, 0, 0) := by
    refine am_Wp.bl 2 (y := (3, am_lv8 A 56 none, [], h, 0, 0)) (fun _ => rfl) ?_
    refine am_pb1 (s := 56) (by omega) v (fun h1 p1 v1 => ?_)
    refine am_pb1 (s := 48) (by omega) v1 (fun h2 p2 v2 => ?_)
    refine am_pb1 (s := 40) (by omega) v2 (fun h3 p3 v3 => ?_)
    refine am_pb1 (s := 32) (by omega) v3 (fun h4 p4 v4 => ?_)
    refine am_pb1 (s := 24) (by omega) v4 (fun h5 p5 v5 => ?_)
    refine am_pb1 (s := 16) (by omega) v5 (fun h6 p6 v6 => ?_)
    refine am_pb1 (s := 8) (by omega) v6 (fun h7 p7 v7 => ?_)
    refine am_pb1 (s := 0) (by omega) v7 (fun h8 p8 v8 => ?_)
    refine am_Wp.bl 1 (y := (4, am_lv8 A (-8) p8, [.int (Int32.ofInt (-8))], h8, 0, 0)) (fun _ => rfl) ?_
    refine am_Wp.i0 ⟨by omega, by omega⟩ rfl rfl (fun _ => ?_) (fun hc => (hc (show (-8 : Int) < 0 by omega)).elim)
    exact am_Wp.en ⟨rfl, rfl, v8⟩
  obtain ⟨y, g1, g2, g3, g4⟩ := key
  obtain ⟨pc, lv, st, h2, nc, ns⟩ := y
  simp only at g2 g3 g4
  subst g2
  subst g3
  exact ⟨h2, am_Do.of (r := am_r44) (i := .return_) rfl rfl g1 rfl rfl rfl, g4⟩
abbrev am_lvF (A B C : Int64) : List (Option Value) := [some (.ref 0), some (.long A), none, some (.long B), none, some (.long C), none]
set_option maxRecDepth 100000 in
theorem am_fdX {h : am_H} {A B C : Int64} {q : Int × (Nat → Int32)} (v : am_v8 am_mo8 h h q) : ∃ h2, am_Do false 19 119 [.ref 0, .long A, .long B, .long C] h (some (.int (Int32.ofInt ((am_lx A ++ am_lx B ++ am_lx C).foldl am_tp q).1)), h2) ∧ am_v8 am_mo8 h h2 ((am_lx A ++ am_lx B ++ am_lx C).foldl am_tp q) := by
  obtain ⟨h1, d1, v1⟩ := am_pb (al := false) (d := 17) (A := A) v
  obtain ⟨h2, d2, v2⟩ := am_pb (al := false) (d := 17) (A := B) v1
  obtain ⟨h3, d3, v3⟩ := am_pb (al := false) (d := 17) (A := C) v2
  have e : (am_lx C).foldl am_tp ((am_lx B).foldl am_tp ((am_lx A).foldl am_tp q)) = (am_lx A ++ am_lx B ++ am_lx C).foldl am_tp q := by rw [List.foldl_append, List.foldl_append]
  rw [e] at v3
  generalize (am_lx A ++ am_lx B ++ am_lx C).foldl am_tp q = q3 at v3 ⊢
  have hb : (0 : Nat) ≤ (am_k am_r119).1 := Nat.zero_le _
  have hb2 : (0 : Nat) ≤ (am_k am_r119).2 := Nat.zero_le _
  have key : am_Wp false 18 (0, fun _ => 0) am_r119 (fun y => y = (32, am_lvF A B C, [.int (Int32.ofInt q3.1)], h3, 0, 0)) (0, am_lvF A B C, [], h, 0, 0) := by
    refine am_Wp.bl 1 (y := (1, am_lvF A B C, [.ref 0], h, 0, 0)) (fun _ => rfl) ?_
    refine am_Wp.gr (D := ab_D0) (c := 11) (k := 0) (b := 8) rfl rfl v.1 am_d0 rfl rfl ?_
    refine am_Wp.bl 1 (y := (5, am_lvF A B C, [.long A, .ref 8], h, 0, 0)) (fun _ => rfl) ?_
    refine am_Wp.callN (b := 8) d1 v.1 v1.1 hb hb2 rfl rfl rfl rfl am_d8 rfl rfl rfl rfl ?_
    refine am_Wp.bl 1 (y := (9, am_lvF A B C, [.ref 0], h1, 0, 0)) (fun _ => rfl) ?_
    refine am_Wp.gr (D := ab_D0) (c := 11) (k := 0) (b := 8) rfl rfl v1.1 am_d0 rfl rfl ?_
    refine am_Wp.bl 1 (y := (13, am_lvF A B C, [.long B, .ref 8], h1, 0, 0)) (fun _ => rfl) ?_
    refine am_Wp.callN (b := 8) d2 v1.1 v2.1 hb hb2 rfl rfl rfl rfl am_d8 rfl rfl rfl rfl ?_
    refine am_Wp.bl 1 (y := (17, am_lvF A B C, [.ref 0], h2, 0, 0)) (fun _ => rfl) ?_
    refine am_Wp.gr (D := ab_D0) (c := 11) (k := 0) (b := 8) rfl rfl v2.1 am_d0 rfl rfl ?_
    refine am_Wp.bl 1 (y := (22, am_lvF A B C, [.long C, .ref 8], h2, 0, 0)) (fun _ => rfl) ?_
    refine am_Wp.callN (b := 8) d3 v2.1 v3.1 hb hb2 rfl rfl rfl rfl am_d8 rfl rfl rfl rfl ?_
    refine am_Wp.bl 1 (y := (26, am_lvF A B C, [.ref 0], h3, 0, 0)) (fun _ => rfl) ?_
    refine am_Wp.gr (D := ab_D0) (c := 11) (k := 0) (b := 8) rfl rfl v3.1 am_d0 rfl rfl ?_
    refine am_Wp.gi (D := ab_D0) (c := 5) (k := 2) rfl rfl v3.1 am_d8 rfl v3.2.2.1 ?_
    exact am_Wp.en rfl
  obtain ⟨y, g1, g2⟩ := key
  subst g2
  exact ⟨h3, am_Do.of (r := am_r119) (i := .ireturn) rfl rfl g1 rfl rfl rfl, v3⟩
/-- the reference's tape -/
def am_v64 (mo : ab_Mo) (h0 h : am_H) (q : Int × (Nat → Int32)) : Prop := ab_hok ab_D0 h ∧ ab_fr mo h0 h ∧ ab_cell h 64 ((2 : Nat) : Int) = some (.int (Int32.ofInt q.1)) ∧ h[65]? = some (.inl (0, 600, .inl q.2)) ∧ 0 ≤ q.1 ∧ q.1 ≤ 600
def am_mo64 : ab_Mo := [(64, 3), (65, 0)]
/-- a byte array's element is set -/
theorem am_Wp.b0 {al : Bool} {d : Nat} {S : am_S} {r : am_M} {Φ : am_C → Prop} {pc : Nat} {lv : List (Option Value)} {st : List Value} {h : am_H} {nc ns a n : Nat} {f : Nat → Int32} {z : Int} {w : Int32} (ha : h[a]? = some (.inl (0, n, .inl f))) (h0 : 0 ≤ z) (h1 : z < (n : Int)) (hw : -128 ≤ w.toInt ∧ w.toInt ≤ 127) (hi : am_at r pc = some .bastore) (hb : Nat.blt a 1000000 = true) (hn : n < 2147483648) (kk : am_Wp al d S r Φ (pc + 1, lv, st, h.set a (.inl (0, n, .inl (upd f z.toNat w))), nc, ns)) : am_Wp al d S r Φ (pc, lv, .int w :: .int (Int32.ofInt z) :: .ref a :: st, h, nc, ns) := by
  refine am_Wp.one hi (fun call => ?_) kk
  have e4 : am_s4 (am_o r) (am_i r) .bastore h pc (.int w :: .int (Int32.ofInt z) :: .ref a :: st) = some (pc + 1, st, h.set a (.inl (0, n, .inl (upd f z.toNat w)))) := by
    have e1 : am_ast h pc (.int w :: .int (Int32.ofInt z) :: .ref a :: st) 0 (vp_nar .byte) = some (pc + 1, st, h.set a (.inl (0, n, .inl (upd f z.toNat w)))) := by
      unfold am_ast
      simp only [am_ari_of ha hb, am_oin h0 h1 hn, cond_true, am_onat h0 (show z ≤ 2147483647 by omega), ab_nb hw.1 hw.2]
    show am_or (am_ast h pc (.int w :: .int (Int32.ofInt z) :: .ref a :: st) 0 (vp_nar .byte)) _ = _
    rw [e1]
    rfl
  show (match am_s4 (am_o r) (am_i r) .bastore h pc (.int w :: .int (Int32.ofInt z) :: .ref a :: st) with
    | some x => some (x.1, lv, x.2.1, x.2.2, nc, ns)
    | none => _) = _
  rw [e4]
abbrev am_lvG (A B C : Int64) (k : Int32) (o8 o9 o10 : Option Value) : List (Option Value) := [some (.ref 64), some (.long A), none, some (.long B), none, some (.long C), none, some (.int k), o8, o9, o10]
set_option maxRecDepth 100000 in
/-- from 56, a byte b read, on -/
theorem am_fmS {al : Bool} {d : Nat} {h0 h : am_H} {A B C W : Int64} {b : Int32} {k : Int32} {q : Int × (Nat → Int32)} {Φ : am_C → Prop} (hbr : -128 ≤ b.toInt ∧ b.toInt ≤ 127) (v : am_v64 am_mo64 h0 h q) (K : ∀ h2, am_v64 am_mo64 h0 h2 (am_tp q b) → am_Wp al d (0, fun _ => 0) am_r150 Φ (93, am_lvG A B C k (some (.long W)) none (some (.int b)), [], h2, 0, 0)) : am_Wp al d (0, fun _ => 0) am_r150 Φ (56, am_lvG A B C k (some (.long W)) none (some (.int b)), [.int b], h, 0, 0) := by
  obtain ⟨hok, hfr, hn, hB, hq⟩ := id v
  cases hz : am_cmp .eq b 0 with
  | true =>
    refine am_Wp.zbr true rfl rfl hz (K h ?_)
    have e : am_tp q b = q := by
      unfold am_tp
      exact if_neg (fun g => g.1 (of_decide_eq_true hz))
    rw [e]
    exact v
  | false =>
    refine am_Wp.zbr false rfl rfl hz ?_
    have hnz : b ≠ 0 := of_decide_eq_false hz
    refine am_Wp.bl 1 (y := (60, am_lvG A B C k (some (.long W)) none (some (.int b)), [.ref 64], h, 0, 0)) (fun _ => rfl) ?_
    refine am_Wp.gi (D := ab_D0) (c := 12) (k := 2) rfl rfl hok am_d64 rfl hn ?_
    refine am_Wp.bl 1 (y := (66, am_lvG A B C k (some (.long W)) none (some (.int b)), [.int (Int32.ofInt 600), .int (Int32.ofInt q.1)], h, 0, 0)) (fun _ => rfl) ?_
    refine am_Wp.ic ⟨by omega, by omega⟩ ⟨by omega, by omega⟩ rfl rfl (fun hc => ?_) (fun hc => ?_)
    · have hc : ¬ (q.1 = (600 : Int)) := hc
      have e : am_tp q b = (q.1 + 1, upd q.2 q.1.toNat b) := by
        unfold am_tp
        exact if_pos ⟨hnz, by omega⟩
      rw [e] at K
      refine am_Wp.bl 1 (y := (73, am_lvG A B C k (some (.long W)) none (some (.int b)), [.ref 64], h, 0, 0)) (fun _ => rfl) ?_
      refine am_Wp.gr (D := ab_D0) (c := 12) (k := 1) (b := 65) rfl rfl hok am_d64 rfl rfl ?_
      refine am_Wp.bl 1 (y := (77, am_lvG A B C k (some (.long W)) none (some (.int b)), [.ref 64, .ref 65], h, 0, 0)) (fun _ => rfl) ?_
      refine am_Wp.gi (D := ab_D0) (c := 12) (k := 2) rfl rfl hok am_d64 rfl hn ?_
      refine am_Wp.bl 1 (y := (82, am_lvG A B C k (some (.long W)) none (some (.int b)), [.int b, .int (Int32.ofInt q.1), .ref 65], h, 0, 0)) (fun _ => rfl) ?_
      refine am_Wp.b0 hB (by omega) (by omega) hbr rfl rfl (by decide) ?_
      have ok2 := am_aset (z := q.1.toNat) (w := b) hok (lo := -128) (hi := 127) (m := 511) rfl (by decide) hB ⟨hbr.1, hbr.2, by show b.toInt % 512 ≤ 511; omega⟩
      have f2 : ab_fr am_mo64 h0 (h.set 65 (.inl (0, 600, .inl (upd q.2 q.1.toNat b)))) := hfr.tr (ab_fr_arr rfl hB)
      have n2 : ab_cell (h.set 65 (.inl (0, 600, .inl (upd q.2 q.1.toNat b)))) 64 ((2 : Nat) : Int) = some (.int (Int32.ofInt q.1)) := (am_cell_ne (by decide)).trans hn
      have b2 : (h.set 65 (.inl (0, 600, .inl (upd q.2 q.1.toNat b))))[65]? = some (.inl (0, 600, .inl (upd q.2 q.1.toNat b))) := List.getElem?_set_self (am_len_of hB)
      generalize h.set 65 (.inl (0, 600, .inl (upd q.2 q.1.toNat b))) = h2 at ok2 f2 n2 b2 ⊢
      refine am_Wp.bl 2 (y := (85, am_lvG A B C k (some (.long W)) none (some (.int b)), [.ref 64, .ref 64], h2, 0, 0)) (fun _ => rfl) ?_
      refine am_Wp.gi (D := ab_D0) (c := 12) (k := 2) rfl rfl ok2 am_d64 rfl n2 ?_
      refine am_Wp.bl 2 (y := (90, am_lvG A B C k (some (.long W)) none (some (.int b)), [.int (Int32.ofInt q.1 + Int32.ofInt 1), .ref 64], h2, 0, 0)) (fun _ => rfl) ?_
      simp only [am_oa]
      refine am_Wp.pi (D := ab_D0) (c := 12) (k := 2) rfl rfl ok2 am_d64 rfl rfl ⟨by rw [am_oi (by omega) (by omega)]; show (0 : Int) ≤ q.1 + 1; omega, by rw [am_oi (by omega) (by omega)]; show q.1 + 1 ≤ (600 : Int); omega⟩ (by decide) (Or.inl rfl) (fun h3 ok3 f3 c3 e3 => ?_)
      exact K h3 ⟨ok3, f2.tr (f3.le (fun x hx => ab_md_in (List.all_eq_true.mp (show [(64, 3)].all (fun q => ab_md am_mo64 q.1 q.2) = true from rfl) x hx))), c3, (e3 65 (by decide)).trans b2, by show (0 : Int) ≤ q.1 + 1; omega, by show q.1 + 1 ≤ (600 : Int); omega⟩
    · have hc : ¬ ¬ (q.1 = (600 : Int)) := hc
      have e : am_tp q b = q := by
        unfold am_tp
        exact if_neg (fun g => by omega)
      rw [e] at K
      exact am_Wp.bl 1 (fun _ => rfl) (K h v)
set_option maxRecDepth 100000 in
theorem am_fk0 {al : Bool} {d : Nat} {h0 h : am_H} {A B C : Int64} {q : Int × (Nat → Int32)} {o8 o10 : Option Value} {Φ : am_C → Prop} (v : am_v64 am_mo64 h0 h q) (K : ∀ h2, am_v64 am_mo64 h0 h2 (am_tp q (am_bm 56 A)) → am_Wp al d (0, fun _ => 0) am_r150 Φ (3, am_lvG A B C 1 (some (.long A)) none (some (.int (am_bm 56 A))), [], h2, 0, 0)) : am_Wp al d (0, fun _ => 0) am_r150 Φ (3, am_lvG A B C 0 o8 none o10, [], h, 0, 0) := by
  refine am_Wp.bl 22 (y := (56, am_lvG A B C 0 (some (.long A)) none (some (.int (am_bm 56 A))), [.int (am_bm 56 A)], h, 0, 0)) (fun _ => rfl) ?_
  refine am_fmS (am_bb56 A).2 v (fun h2 v2 => ?_)
  exact am_Wp.bl 2 (fun _ => rfl) (K h2 v2)
set_option maxRecDepth 100000 in
theorem am_fk1 {al : Bool} {d : Nat} {h0 h : am_H} {A B C : Int64} {q : Int × (Nat → Int32)} {o8 o10 : Option Value} {Φ : am_C → Prop} (v : am_v64 am_mo64 h0 h q) (K : ∀ h2, am_v64 am_mo64 h0 h2 (am_tp q (am_bm 48 A)) → am_Wp al d (0, fun _ => 0) am_r150 Φ (3, am_lvG A B C 2 (some (.long A)) none (some (.int (am_bm 48 A))), [], h2, 0, 0)) : am_Wp al d (0, fun _ => 0) am_r150 Φ (3, am_lvG A B C 1 o8 none o10, [], h, 0, 0) := by
  refine am_Wp.bl 22 (y := (56, am_lvG A B C 1 (some (.long A)) none (some (.int (am_bm 48 A))), [.int (am_bm 48 A)], h, 0, 0)) (fun _ => rfl) ?_
  refine am_fmS (am_bb48 A).2 v (fun h2 v2 => ?_)
  exact am_Wp.bl 2 (fun _ => rfl) (K h2 v2)
set_option maxRecDepth 100000 in
theorem am_fk2 {al : Bool} {d : Nat} {h0 h : am_H} {A B C : Int64} {q : Int × (Nat → Int32)} {o8 o10 : Option Value} {Φ : am_C → Prop} (v : am_v64 am_mo64 h0 h q) (K : ∀ h2, am_v64 am_mo64 h0 h2 (am_tp q (am_bm 40 A)) → am_Wp al d (0, fun _ => 0) am_r150 Φ (3, am_lvG A B C 3 (some (.long A)) none (some (.int (am_bm 40 A))), [], h2, 0, 0)) : am_Wp al d (0, fun _ => 0) am_r150 Φ (3, am_lvG A B C 2 o8 none o10, [], h, 0, 0) := by
  refine am_Wp.bl 22 (y := (56, am_lvG A B C 2 (some (.long A)) none (some (.int (am_bm 40 A))), [.int (am_bm 40 A)], h, 0, 0)) (fun _ => rfl) ?_
  refine am_fmS (am_bb40 A).2 v (fun h2 v2 => ?_)
  exact am_Wp.bl 2 (fun _ => rfl) (K h2 v2)
set_option maxRecDepth 100000 in
theorem am_fk3 {al : Bool} {d : Nat} {h0 h : am_H} {A B C : Int64} {q : Int × (Nat → Int32)} {o8 o10 : Option Value} {Φ : am_C → Prop} (v : am_v64 am_mo64 h0 h q) (K : ∀ h2, am_v64 am_mo64 h0 h2 (am_tp q (am_bm 32 A)) → am_Wp al d (0, fun _ => 0) am_r150 Φ (3, am_lvG A B C 4 (some (.long A)) none (some (.int (am_bm 32 A))), [], h2, 0, 0)) : am_Wp al d (0, fun _ => 0) am_r150 Φ (3, am_lvG A B C 3 o8 none o10, [], h, 0, 0) := by
  refine am_Wp.bl 22 (y := (56, am_lvG A B C 3 (some (.long A)) none (some (.int (am_bm 32 A))), [.int (am_bm 32 A)], h, 0, 0)) (fun _ => rfl) ?_
  refine am_fmS (am_bb32 A).2 v (fun h2 v2 => ?_)
  exact am_Wp.bl 2 (fun _ => rfl) (K h2 v2)
set_option maxRecDepth 100000 in
theorem am_fk4 {al : Bool} {d : Nat} {h0 h : am_H} {A B C : Int64} {q : Int × (Nat → Int32)} {o8 o10 : Option Value} {Φ : am_C → Prop} (v : am_v64 am_mo64 h0 h q) (K : ∀ h2, am_v64 am_mo64 h0 h2 (am_tp q (am_bm 24 A)) → am_Wp al d (0, fun _ => 0) am_r150 Φ (3, am_lvG A B C 5 (some (.long A)) none (some (.int (am_bm 24 A))), [], h2, 0, 0)) : am_Wp al d (0, fun _ => 0) am_r150 Φ (3, am_lvG A B C 4 o8 none o10, [], h, 0, 0) := by
  refine am_Wp.bl 22 (y := (56, am_lvG A B C 4 (some (.long A)) none (some (.int (am_bm 24 A))), [.int (am_bm 24 A)], h, 0, 0)) (fun _ => rfl) ?_
  refine am_fmS (am_bb24 A).2 v (fun h2 v2 => ?_)
  exact am_Wp.bl 2 (fun _ => rfl) (K h2 v2)
set_option maxRecDepth 100000 in
theorem am_fk5 {al : Bool} {d : Nat} {h0 h : am_H} {A B C : Int64} {q : Int × (Nat → Int32)} {o8 o10 : Option Value} {Φ : am_C → Prop} (v : am_v64 am_mo64 h0 h q) (K : ∀ h2, am_v64 am_mo64 h0 h2 (am_tp q (am_bm 16 A)) → am_Wp al d (0, fun _ => 0) am_r150 Φ (3, am_lvG A B C 6 (some (.long A)) none (some (.int (am_bm 16 A))), [], h2, 0, 0)) : am_Wp al d (0, fun _ => 0) am_r150 Φ (3, am_lvG A B C 5 o8 none o10, [], h, 0, 0) := by
  refine am_Wp.bl 22 (y := (56, am_lvG A B C 5 (some (.long A)) none (some (.int (am_bm 16 A))), [.int (am_bm 16 A)], h, 0, 0)) (fun _ => rfl) ?_
  refine am_fmS (am_bb16 A).2 v (fun h2 v2 => ?_)
  exact am_Wp.bl 2 (fun _ => rfl) (K h2 v2)
set_option maxRecDepth 100000 in
theorem am_fk6 {al : Bool} {d : Nat} {h0 h : am_H} {A B C : Int64} {q : Int × (Nat → Int32)} {o8 o10 : Option Value} {Φ : am_C → Prop} (v : am_v64 am_mo64 h0 h q) (K : ∀ h2, am_v64 am_mo64 h0 h2 (am_tp q (am_bm 8 A)) → am_Wp al d (0, fun _ => 0) am_r150 Φ (3, am_lvG A B C 7 (some (.long A)) none (some (.int (am_bm 8 A))), [], h2, 0, 0)) : am_Wp al d (0, fun _ => 0) am_r150 Φ (3, am_lvG A B C 6 o8 none o10, [], h, 0, 0) := by
  refine am_Wp.bl 22 (y := (56, am_lvG A B C 6 (some (.long A)) none (some (.int (am_bm 8 A))), [.int (am_bm 8 A)], h, 0, 0)) (fun _ => rfl) ?_
  refine am_fmS (am_bb8 A).2 v (fun h2 v2 => ?_)
  exact am_Wp.bl 2 (fun _ => rfl) (K h2 v2)
set_option maxRecDepth 100000 in
theorem am_fk7 {al : Bool} {d : Nat} {h0 h : am_H} {A B C : Int64} {q : Int × (Nat → Int32)} {o8 o10 : Option Value} {Φ : am_C → Prop} (v : am_v64 am_mo64 h0 h q) (K : ∀ h2, am_v64 am_mo64 h0 h2 (am_tp q (am_bm 0 A)) → am_Wp al d (0, fun _ => 0) am_r150 Φ (3, am_lvG A B C 8 (some (.long A)) none (some (.int (am_bm 0 A))), [], h2, 0, 0)) : am_Wp al d (0, fun _ => 0) am_r150 Φ (3, am_lvG A B C 7 o8 none o10, [], h, 0, 0) := by
  refine am_Wp.bl 22 (y := (56, am_lvG A B C 7 (some (.long A)) none (some (.int (am_bm 0 A))), [.int (am_bm 0 A)], h, 0, 0)) (fun _ => rfl) ?_
  refine am_fmS (am_bb0 A).2 v (fun h2 v2 => ?_)
  exact am_Wp.bl 2 (fun _ => rfl) (K h2 v2)
set_option maxRecDepth 100000 in
theorem am_fk8 {al : Bool} {d : Nat} {h0 h : am_H} {A B C : Int64} {q : Int × (Nat → Int32)} {o8 o10 : Option Value} {Φ : am_C → Prop} (v : am_v64 am_mo64 h0 h q) (K : ∀ h2, am_v64 am_mo64 h0 h2 (am_tp q (am_bm 56 B)) → am_Wp al d (0, fun _ => 0) am_r150 Φ (3, am_lvG A B C 9 (some (.long B)) none (some (.int (am_bm 56 B))), [], h2, 0, 0)) : am_Wp al d (0, fun _ => 0) am_r150 Φ (3, am_lvG A B C 8 o8 none o10, [], h, 0, 0) := by
  refine am_Wp.bl 25 (y := (56, am_lvG A B C 8 (some (.long B)) none (some (.int (am_bm 56 B))), [.int (am_bm 56 B)], h, 0, 0)) (fun _ => rfl) ?_
  refine am_fmS (am_bb56 B).2 v (fun h2 v2 => ?_)
  exact am_Wp.bl 2 (fun _ => rfl) (K h2 v2)
set_option maxRecDepth 100000 in
theorem am_fk9 {al : Bool} {d : Nat} {h0 h : am_H} {A B C : Int64} {q : Int × (Nat → Int32)} {o8 o10 : Option Value} {Φ : am_C → Prop} (v : am_v64 am_mo64 h0 h q) (K : ∀ h2, am_v64 am_mo64 h0 h2 (am_tp q (am_bm 48 B)) → am_Wp al d (0, fun _ => 0) am_r150 Φ (3, am_lvG A B C 10 (some (.long B)) none (some (.int (am_bm 48 B))), [], h2, 0, 0)) : am_Wp al d (0, fun _ => 0) am_r150 Φ (3, am_lvG A B C 9 o8 none o10, [], h, 0, 0) := by
  refine am_Wp.bl 25 (y := (56, am_lvG A B C 9 (some (.long B)) none (some (.int (am_bm 48 B))), [.int (am_bm 48 B)], h, 0, 0)) (fun _ => rfl) ?_
  refine am_fmS (am_bb48 B).2 v (fun h2 v2 => ?_)
  exact am_Wp.bl 2 (fun _ => rfl) (K h2 v2)
set_option maxRecDepth 100000 in
theorem am_fk10 {al : Bool} {d : Nat} {h0 h : am_H} {A B C : Int64} {q : Int × (Nat → Int32)} {o8 o10 : Option Value} {Φ : am_C → Prop} (v : am_v64 am_mo64 h0 h q) (K : ∀ h2, am_v64 am_mo64 h0 h2 (am_tp q (am_bm 40 B)) → am_Wp al d (0, fun _ => 0) am_r150 Φ (3, am_lvG A B C 11 (some (.long B)) none (some (.int (am_bm 40 B))), [], h2, 0, 0)) : am_Wp al d (0, fun _ => 0) am_r150 Φ (3, am_lvG A B C 10 o8 none o10, [], h, 0, 0) := by
  refine am_Wp.bl 25 (y := (56, am_lvG A B C 10 (some (.long B)) none (some (.int (am_bm 40 B))), [.int (am_bm 40 B)], h, 0, 0)) (fun _ => rfl) ?_
  refine am_fmS (am_bb40 B).2 v (fun h2 v2 => ?_)
  exact am_Wp.bl 2 (fun _ => rfl) (K h2 v2)
set_option maxRecDepth 100000 in
theorem am_fk11 {al : Bool} {d : Nat} {h0 h : am_H} {A B C : Int64} {q : Int × (Nat → Int32)} {o8 o10 : Option Value} {Φ : am_C → Prop} (v : am_v64 am_mo64 h0 h q) (K : ∀ h2, am_v64 am_mo64 h0 h2 (am_tp q (am_bm 32 B)) → am_Wp al d (0, fun _ => 0) am_r150 Φ (3, am_lvG A B C 12 (some (.long B)) none (some (.int (am_bm 32 B))), [], h2, 0, 0)) : am_Wp al d (0, fun _ => 0) am_r150 Φ (3, am_lvG A B C 11 o8 none o10, [], h, 0, 0) := by
  refine am_Wp.bl 25 (y := (56, am_lvG A B C 11 (some (.long B)) none (some (.int (am_bm 32 B))), [.int (am_bm 32 B)], h, 0, 0)) (fun _ => rfl) ?_
  refine am_fmS (am_bb32 B).2 v (fun h2 v2 => ?_)
  exact am_Wp.bl 2 (fun _ => rfl) (K h2 v2)
set_option maxRecDepth 100000 in
theorem am_fk12 {al : Bool} {d : Nat} {h0 h : am_H} {A B C : Int64} {q : Int × (Nat → Int32)} {o8 o10 : Option Value} {Φ : am_C → Prop} (v : am_v64 am_mo64 h0 h q) (K : ∀ h2, am_v64 am_mo64 h0 h2 (am_tp q (am_bm 24 B)) → am_Wp al d (0, fun _ => 0) am_r150 Φ (3, am_lvG A B C 13 (some (.long B)) none (some (.int (am_bm 24 B))), [], h2, 0, 0)) : am_Wp al d (0, fun _ => 0) am_r150 Φ (3, am_lvG A B C 12 o8 none o10, [], h, 0, 0) := by
  refine am_Wp.bl 25 (y := (56, am_lvG A B C 12 (some (.long B)) none (some (.int (am_bm 24 B))), [.int (am_bm 24 B)], h, 0, 0)) (fun _ => rfl) ?_
  refine am_fmS (am_bb24 B).2 v (fun h2 v2 => ?_)
  exact am_Wp.bl 2 (fun _ => rfl) (K h2 v2)
set_option maxRecDepth 100000 in
theorem am_fk13 {al : Bool} {d : Nat} {h0 h : am_H} {A B C : Int64} {q : Int × (Nat → Int32)} {o8 o10 : Option Value} {Φ : am_C → Prop} (v : am_v64 am_mo64 h0 h q) (K : ∀ h2, am_v64 am_mo64 h0 h2 (am_tp q (am_bm 16 B)) → am_Wp al d (0, fun _ => 0) am_r150 Φ (3, am_lvG A B C 14 (some (.long B)) none (some (.int (am_bm 16 B))), [], h2, 0, 0)) : am_Wp al d (0, fun _ => 0) am_r150 Φ (3, am_lvG A B C 13 o8 none o10, [], h, 0, 0) := by
  refine am_Wp.bl 25 (y := (56, am_lvG A B C 13 (some (.long B)) none (some (.int (am_bm 16 B))), [.int (am_bm 16 B)], h, 0, 0)) (fun _ => rfl) ?_
  refine am_fmS (am_bb16 B).2 v (fun h2 v2 => ?_)
  exact am_Wp.bl 2 (fun _ => rfl) (K h2 v2)
set_option maxRecDepth 100000 in
theorem am_fk14 {al : Bool} {d : Nat} {h0 h : am_H} {A B C : Int64} {q : Int × (Nat → Int32)} {o8 o10 : Option Value} {Φ : am_C → Prop} (v : am_v64 am_mo64 h0 h q) (K : ∀ h2, am_v64 am_mo64 h0 h2 (am_tp q (am_bm 8 B)) → am_Wp al d (0, fun _ => 0) am_r150 Φ (3, am_lvG A B C 15 (some (.long B)) none (some (.int (am_bm 8 B))), [], h2, 0, 0)) : am_Wp al d (0, fun _ => 0) am_r150 Φ (3, am_lvG A B C 14 o8 none o10, [], h, 0, 0) := by
  refine am_Wp.bl 25 (y := (56, am_lvG A B C 14 (some (.long B)) none (some (.int (am_bm 8 B))), [.int (am_bm 8 B)], h, 0, 0)) (fun _ => rfl) ?_
  refine am_fmS (am_bb8 B).2 v (fun h2 v2 => ?_)
  exact am_Wp.bl 2 (fun _ => rfl) (K h2 v2)
set_option maxRecDepth 100000 in
theorem am_fk15 {al : Bool} {d : Nat} {h0 h : am_H} {A B C : Int64} {q : Int × (Nat → Int32)} {o8 o10 : Option Value} {Φ : am_C → Prop} (v : am_v64 am_mo64 h0 h q) (K : ∀ h2, am_v64 am_mo64 h0 h2 (am_tp q (am_bm 0 B)) → am_Wp al d (0, fun _ => 0) am_r150 Φ (3, am_lvG A B C 16 (some (.long B)) none (some (.int (am_bm 0 B))), [], h2, 0, 0)) : am_Wp al d (0, fun _ => 0) am_r150 Φ (3, am_lvG A B C 15 o8 none o10, [], h, 0, 0) := by
  refine am_Wp.bl 25 (y := (56, am_lvG A B C 15 (some (.long B)) none (some (.int (am_bm 0 B))), [.int (am_bm 0 B)], h, 0, 0)) (fun _ => rfl) ?_
  refine am_fmS (am_bb0 B).2 v (fun h2 v2 => ?_)
  exact am_Wp.bl 2 (fun _ => rfl) (K h2 v2)
set_option maxRecDepth 100000 in
theorem am_fk16 {al : Bool} {d : Nat} {h0 h : am_H} {A B C : Int64} {q : Int × (Nat → Int32)} {o8 o10 : Option Value} {Φ : am_C → Prop} (v : am_v64 am_mo64 h0 h q) (K : ∀ h2, am_v64 am_mo64 h0 h2 (am_tp q (am_bm 56 C)) → am_Wp al d (0, fun _ => 0) am_r150 Φ (3, am_lvG A B C 17 (some (.long C)) none (some (.int (am_bm 56 C))), [], h2, 0, 0)) : am_Wp al d (0, fun _ => 0) am_r150 Φ (3, am_lvG A B C 16 o8 none o10, [], h, 0, 0) := by
  refine am_Wp.bl 24 (y := (56, am_lvG A B C 16 (some (.long C)) none (some (.int (am_bm 56 C))), [.int (am_bm 56 C)], h, 0, 0)) (fun _ => rfl) ?_
  refine am_fmS (am_bb56 C).2 v (fun h2 v2 => ?_)
  exact am_Wp.bl 2 (fun _ => rfl) (K h2 v2)
set_option maxRecDepth 100000 in
theorem am_fk17 {al : Bool} {d : Nat} {h0 h : am_H} {A B C : Int64} {q : Int × (Nat → Int32)} {o8 o10 : Option Value} {Φ : am_C → Prop} (v : am_v64 am_mo64 h0 h q) (K : ∀ h2, am_v64 am_mo64 h0 h2 (am_tp q (am_bm 48 C)) → am_Wp al d (0, fun _ => 0) am_r150 Φ (3, am_lvG A B C 18 (some (.long C)) none (some (.int (am_bm 48 C))), [], h2, 0, 0)) : am_Wp al d (0, fun _ => 0) am_r150 Φ (3, am_lvG A B C 17 o8 none o10, [], h, 0, 0) := by
  refine am_Wp.bl 24 (y := (56, am_lvG A B C 17 (some (.long C)) none (some (.int (am_bm 48 C))), [.int (am_bm 48 C)], h, 0, 0)) (fun _ => rfl) ?_
  refine am_fmS (am_bb48 C).2 v (fun h2 v2 => ?_)
  exact am_Wp.bl 2 (fun _ => rfl) (K h2 v2)
set_option maxRecDepth 100000 in
theorem am_fk18 {al : Bool} {d : Nat} {h0 h : am_H} {A B C : Int64} {q : Int × (Nat → Int32)} {o8 o10 : Option Value} {Φ : am_C → Prop} (v : am_v64 am_mo64 h0 h q) (K : ∀ h2, am_v64 am_mo64 h0 h2 (am_tp q (am_bm 40 C)) → am_Wp al d (0, fun _ => 0) am_r150 Φ (3, am_lvG A B C 19 (some (.long C)) none (some (.int (am_bm 40 C))), [], h2, 0, 0)) : am_Wp al d (0, fun _ => 0) am_r150 Φ (3, am_lvG A B C 18 o8 none o10, [], h, 0, 0) := by
  refine am_Wp.bl 24 (y := (56, am_lvG A B C 18 (some (.long C)) none (some (.int (am_bm 40 C))), [.int (am_bm 40 C)], h, 0, 0)) (fun _ => rfl) ?_
  refine am_fmS (am_bb40 C).2 v (fun h2 v2 => ?_)
  exact am_Wp.bl 2 (fun _ => rfl) (K h2 v2)
set_option maxRecDepth 100000 in
theorem am_fk19 {al : Bool} {d : Nat} {h0 h : am_H} {A B C : Int64} {q : Int × (Nat → Int32)} {o8 o10 : Option Value} {Φ : am_C → Prop} (v : am_v64 am_mo64 h0 h q) (K : ∀ h2, am_v64 am_mo64 h0 h2 (am_tp q (am_bm 32 C)) → am_Wp al d (0, fun _ => 0) am_r150 Φ (3, am_lvG A B C 20 (some (.long C)) none (some (.int (am_bm 32 C))), [], h2, 0, 0)) : am_Wp al d (0, fun _ => 0) am_r150 Φ (3, am_lvG A B C 19 o8 none o10, [], h, 0, 0) := by
  refine am_Wp.bl 24 (y := (56, am_lvG A B C 19 (some (.long C)) none (some (.int (am_bm 32 C))), [.int (am_bm 32 C)], h, 0, 0)) (fun _ => rfl) ?_
  refine am_fmS (am_bb32 C).2 v (fun h2 v2 => ?_)
  exact am_Wp.bl 2 (fun _ => rfl) (K h2 v2)
set_option maxRecDepth 100000 in
theorem am_fk20 {al : Bool} {d : Nat} {h0 h : am_H} {A B C : Int64} {q : Int × (Nat → Int32)} {o8 o10 : Option Value} {Φ : am_C → Prop} (v : am_v64 am_mo64 h0 h q) (K : ∀ h2, am_v64 am_mo64 h0 h2 (am_tp q (am_bm 24 C)) → am_Wp al d (0, fun _ => 0) am_r150 Φ (3, am_lvG A B C 21 (some (.long C)) none (some (.int (am_bm 24 C))), [], h2, 0, 0)) : am_Wp al d (0, fun _ => 0) am_r150 Φ (3, am_lvG A B C 20 o8 none o10, [], h, 0, 0) := by
  refine am_Wp.bl 24 (y := (56, am_lvG A B C 20 (some (.long C)) none (some (.int (am_bm 24 C))), [.int (am_bm 24 C)], h, 0, 0)) (fun _ => rfl) ?_
  refine am_fmS (am_bb24 C).2 v (fun h2 v2 => ?_)
  exact am_Wp.bl 2 (fun _ => rfl) (K h2 v2)
set_option maxRecDepth 100000 in
theorem am_fk21 {al : Bool} {d : Nat} {h0 h : am_H} {A B C : Int64} {q : Int × (Nat → Int32)} {o8 o10 : Option Value} {Φ : am_C → Prop} (v : am_v64 am_mo64 h0 h q) (K : ∀ h2, am_v64 am_mo64 h0 h2 (am_tp q (am_bm 16 C)) → am_Wp al d (0, fun _ => 0) am_r150 Φ (3, am_lvG A B C 22 (some (.long C)) none (some (.int (am_bm 16 C))), [], h2, 0, 0)) : am_Wp al d (0, fun _ => 0) am_r150 Φ (3, am_lvG A B C 21 o8 none o10, [], h, 0, 0) := by
  refine am_Wp.bl 24 (y := (56, am_lvG A B C 21 (some (.long C)) none (some (.int (am_bm 16 C))), [.int (am_bm 16 C)], h, 0, 0)) (fun _ => rfl) ?_
  refine am_fmS (am_bb16 C).2 v (fun h2 v2 => ?_)
  exact am_Wp.bl 2 (fun _ => rfl) (K h2 v2)
set_option maxRecDepth 100000 in
theorem am_fk22 {al : Bool} {d : Nat} {h0 h : am_H} {A B C : Int64} {q : Int × (Nat → Int32)} {o8 o10 : Option Value} {Φ : am_C → Prop} (v : am_v64 am_mo64 h0 h q) (K : ∀ h2, am_v64 am_mo64 h0 h2 (am_tp q (am_bm 8 C)) → am_Wp al d (0, fun _ => 0) am_r150 Φ (3, am_lvG A B C 23 (some (.long C)) none (some (.int (am_bm 8 C))), [], h2, 0, 0)) : am_Wp al d (0, fun _ => 0) am_r150 Φ (3, am_lvG A B C 22 o8 none o10, [], h, 0, 0) := by
  refine am_Wp.bl 24 (y := (56, am_lvG A B C 22 (some (.long C)) none (some (.int (am_bm 8 C))), [.int (am_bm 8 C)], h, 0, 0)) (fun _ => rfl) ?_
  refine am_fmS (am_bb8 C).2 v (fun h2 v2 => ?_)
  exact am_Wp.bl 2 (fun _ => rfl) (K h2 v2)
set_option maxRecDepth 100000 in
theorem am_fk23 {al : Bool} {d : Nat} {h0 h : am_H} {A B C : Int64} {q : Int × (Nat → Int32)} {o8 o10 : Option Value} {Φ : am_C → Prop} (v : am_v64 am_mo64 h0 h q) (K : ∀ h2, am_v64 am_mo64 h0 h2 (am_tp q (am_bm 0 C)) → am_Wp al d (0, fun _ => 0) am_r150 Φ (3, am_lvG A B C 24 (some (.long C)) none (some (.int (am_bm 0 C))), [], h2, 0, 0)) : am_Wp al d (0, fun _ => 0) am_r150 Φ (3, am_lvG A B C 23 o8 none o10, [], h, 0, 0) := by
  refine am_Wp.bl 24 (y := (56, am_lvG A B C 23 (some (.long C)) none (some (.int (am_bm 0 C))), [.int (am_bm 0 C)], h, 0, 0)) (fun _ => rfl) ?_
  refine am_fmS (am_bb0 C).2 v (fun h2 v2 => ?_)
  exact am_Wp.bl 2 (fun _ => rfl) (K h2 v2)
set_option maxRecDepth 100000 in
theorem am_fdM {h : am_H} {A B C : Int64} {q : Int × (Nat → Int32)} (v : am_v64 am_mo64 h h q) : ∃ h2, am_Do false 19 150 [.ref 64, .long A, .long B, .long C] h (some (.int (Int32.ofInt ((am_lm A ++ am_lm B ++ am_lm C).foldl am_tp q).1)), h2) ∧ am_v64 am_mo64 h h2 ((am_lm A ++ am_lm B ++ am_lm C).foldl am_tp q) := by
  have key : am_Wp false 18 (0, fun _ => 0) am_r150 (fun y => y.1 = 103 ∧ y.2.2.1 = [.int (Int32.ofInt ((am_lm A ++ am_lm B ++ am_lm C).foldl am_tp q).1)] ∧ am_v64 am_mo64 h y.2.2.2.1 ((am_lm A ++ am_lm B ++ am_lm C).foldl am_tp q)) (0, [some (.ref 64), some (.long A), none, some (.long B), none, some (.long C), none, none, none, none, none], [], h, 0, 0) := by
    refine am_Wp.bl 2 (y := (3, am_lvG A B C 0 none none none, [], h, 0, 0)) (fun _ => rfl) ?_
    refine am_fk0 v (fun h1 v1 => ?_)
    refine am_fk1 v1 (fun h2 v2 => ?_)
    refine am_fk2 v2 (fun h3 v3 => ?_)
    refine am_fk3 v3 (fun h4 v4 => ?_)
    refine am_fk4 v4 (fun h5 v5 => ?_)
    refine am_fk5 v5 (fun h6 v6 => ?_)
    refine am_fk6 v6 (fun h7 v7 => ?_)
    refine am_fk7 v7 (fun h8 v8 => ?_)
    refine am_fk8 v8 (fun h9 v9 => ?_)
    refine am_fk9 v9 (fun h10 v10 => ?_)
    refine am_fk10 v10 (fun h11 v11 => ?_)
    refine am_fk11 v11 (fun h12 v12 => ?_)
    refine am_fk12 v12 (fun h13 v13 => ?_)
    refine am_fk13 v13 (fun h14 v14 => ?_)
    refine am_fk14 v14 (fun h15 v15 => ?_)
    refine am_fk15 v15 (fun h16 v16 => ?_)
    refine am_fk16 v16 (fun h17 v17 => ?_)
    refine am_fk17 v17 (fun h18 v18 => ?_)
    refine am_fk18 v18 (fun h19 v19 => ?_)
    refine am_fk19 v19 (fun h20 v20 => ?_)
    refine am_fk20 v20 (fun h21 v21 => ?_)
    refine am_fk21 v21 (fun h22 v22 => ?_)
    refine am_fk22 v22 (fun h23 v23 => ?_)
    refine am_fk23 v23 (fun h24 v24 => ?_)
    refine am_Wp.bl 4 (y := (100, am_lvG A B C 24 (some (.long C)) none (some (.int (am_bm 0 C))), [.ref 64], h24, 0, 0)) (fun _ => rfl) ?_
    refine am_Wp.gi (D := ab_D0) (c := 12) (k := 2) rfl rfl v24.1 am_d64 rfl v24.2.2.1 ?_
    exact am_Wp.en ⟨rfl, rfl, v24⟩
  obtain ⟨y, g1, g2, g3, g4⟩ := key
  obtain ⟨pc, lv, st, h2, nc, ns⟩ := y
  simp only at g2 g3 g4
  subst g2
  subst g3
  exact ⟨h2, am_Do.of (r := am_r150) (i := .ireturn) rfl rfl g1 rfl rfl rfl, g4⟩
