/-! ===== verseOf, poetOf, ruleOf, pass of both ===== -/
/-- what verseOf answers at a told verse v -/
def vr_ (b st wd wn tk : Nat → Int32) (L1 L2 : Prop) (v : Nat) (w r : Int) : Prop := (w = 0 → r = (b v).toInt) ∧ (w = 1 → r = (st v).toInt) ∧ (w = 2 → r = (wd (3 * v)).toInt) ∧ (w = 3 → r = (wd (3 * v + 1)).toInt) ∧ (w = 4 → r = (wd (3 * v + 2)).toInt) ∧ (w = 5 → ((wn v).toInt = 0 → r = 0) ∧ (¬ (wn v).toInt = 0 → r = 1)) ∧ (w = 6 → r = (tk v).toInt) ∧ (w = 7 → (L1 → r = 1) ∧ (¬ L1 → r = 0)) ∧ (w = 8 → (L2 → r = 1) ∧ (¬ L2 → r = 0)) ∧ (w < 0 ∨ 8 < w → r = -1)
theorem vr_det {b st wd wn tk : Nat → Int32} {L1 L2 : Prop} {v : Nat} {w r r2 : Int} (h : vr_ b st wd wn tk L1 L2 v w r) (h2 : vr_ b st wd wn tk L1 L2 v w r2) : r = r2 := by
  obtain ⟨a0, a1, a2, a3, a4, a5, a6, a7, a8, a9⟩ := h
  obtain ⟨b0, b1, b2, b3, b4, b5, b6, b7, b8, b9⟩ := h2
  have hw : w = 0 ∨ w = 1 ∨ w = 2 ∨ w = 3 ∨ w = 4 ∨ w = 5 ∨ w = 6 ∨ w = 7 ∨ w = 8 ∨ (w < 0 ∨ 8 < w) := by omega
  rcases hw with q | q | q | q | q | q | q | q | q | q
  · rw [a0 q, b0 q]
  · rw [a1 q, b1 q]
  · rw [a2 q, b2 q]
  · rw [a3 q, b3 q]
  · rw [a4 q, b4 q]
  · by_cases c : (wn v).toInt = 0
    · rw [(a5 q).1 c, (b5 q).1 c]
    · rw [(a5 q).2 c, (b5 q).2 c]
  · rw [a6 q, b6 q]
  · by_cases c : L1
    · rw [(a7 q).1 c, (b7 q).1 c]
    · rw [(a7 q).2 c, (b7 q).2 c]
  · by_cases c : L2
    · rw [(a8 q).1 c, (b8 q).1 c]
    · rw [(a8 q).2 c, (b8 q).2 c]
  · rw [a9 q, b9 q]
theorem vr_congr {b st wd wn tk b' st' wd' wn' tk' : Nat → Int32} {L1 L2 L1' L2' : Prop} {v : Nat} {w r : Int} (e0 : b v = b' v) (e1 : st v = st' v) (e2 : wd (3 * v) = wd' (3 * v)) (e3 : wd (3 * v + 1) = wd' (3 * v + 1)) (e4 : wd (3 * v + 2) = wd' (3 * v + 2)) (e5 : wn v = wn' v) (e6 : tk v = tk' v) (e7 : L1 ↔ L1') (e8 : L2 ↔ L2') (h : vr_ b st wd wn tk L1 L2 v w r) : vr_ b' st' wd' wn' tk' L1' L2' v w r := by
  unfold vr_ at h ⊢
  rw [← e0, ← e1, ← e2, ← e3, ← e4, ← e5, ← e6, ← e7, ← e8]
  exact h
section VR
variable {b st wd wn tk : Nat → Int32} {L1 L2 : Prop} {v : Nat} {w r : Int}
theorem vr_0 (q : w = 0) (h : r = (b v).toInt) : vr_ b st wd wn tk L1 L2 v w r := ⟨fun _ => h, fun z => by omega, fun z => by omega, fun z => by omega, fun z => by omega, fun z => by omega, fun z => by omega, fun z => by omega, fun z => by omega, fun z => by omega⟩
theorem vr_1 (q : w = 1) (h : r = (st v).toInt) : vr_ b st wd wn tk L1 L2 v w r := ⟨fun z => by omega, fun _ => h, fun z => by omega, fun z => by omega, fun z => by omega, fun z => by omega, fun z => by omega, fun z => by omega, fun z => by omega, fun z => by omega⟩
theorem vr_2 (q : w = 2) (h : r = (wd (3 * v)).toInt) : vr_ b st wd wn tk L1 L2 v w r := ⟨fun z => by omega, fun z => by omega, fun _ => h, fun z => by omega, fun z => by omega, fun z => by omega, fun z => by omega, fun z => by omega, fun z => by omega, fun z => by omega⟩
theorem vr_3 (q : w = 3) (h : r = (wd (3 * v + 1)).toInt) : vr_ b st wd wn tk L1 L2 v w r := ⟨fun z => by omega, fun z => by omega, fun z => by omega, fun _ => h, fun z => by omega, fun z => by omega, fun z => by omega, fun z => by omega, fun z => by omega, fun z => by omega⟩
theorem vr_4 (q : w = 4) (h : r = (wd (3 * v + 2)).toInt) : vr_ b st wd wn tk L1 L2 v w r := ⟨fun z => by omega, fun z => by omega, fun z => by omega, fun z => by omega, fun _ => h, fun z => by omega, fun z => by omega, fun z => by omega, fun z => by omega, fun z => by omega⟩
theorem vr_5 (q : w = 5) (h : ((wn v).toInt = 0 → r = 0) ∧ (¬ (wn v).toInt = 0 → r = 1)) : vr_ b st wd wn tk L1 L2 v w r := ⟨fun z => by omega, fun z => by omega, fun z => by omega, fun z => by omega, fun z => by omega, fun _ => h, fun z => by omega, fun z => by omega, fun z => by omega, fun z => by omega⟩
theorem vr_6 (q : w = 6) (h : r = (tk v).toInt) : vr_ b st wd wn tk L1 L2 v w r := ⟨fun z => by omega, fun z => by omega, fun z => by omega, fun z => by omega, fun z => by omega, fun z => by omega, fun _ => h, fun z => by omega, fun z => by omega, fun z => by omega⟩
theorem vr_7 (q : w = 7) (h : (L1 → r = 1) ∧ (¬ L1 → r = 0)) : vr_ b st wd wn tk L1 L2 v w r := ⟨fun z => by omega, fun z => by omega, fun z => by omega, fun z => by omega, fun z => by omega, fun z => by omega, fun z => by omega, fun _ => h, fun z => by omega, fun z => by omega⟩
theorem vr_8 (q : w = 8) (h : (L2 → r = 1) ∧ (¬ L2 → r = 0)) : vr_ b st wd wn tk L1 L2 v w r := ⟨fun z => by omega, fun z => by omega, fun z => by omega, fun z => by omega, fun z => by omega, fun z => by omega, fun z => by omega, fun z => by omega, fun _ => h, fun z => by omega⟩
theorem vr_9 (q : w < 0 ∨ 8 < w) (h : r = -1) : vr_ b st wd wn tk L1 L2 v w r := ⟨fun z => by omega, fun z => by omega, fun z => by omega, fun z => by omega, fun z => by omega, fun z => by omega, fun z => by omega, fun z => by omega, fun z => by omega, fun _ => h⟩
end VR
/-- how many verses have one of the kinds -/
def hc_ (f : Nat → Int32) (x : Int32) : Nat → Int
  | 0 => 0
  | n + 1 => hc_ f x n + (if (f n &&& x).toInt = 0 then 0 else 1)
theorem hc_rng (f : Nat → Int32) (x : Int32) : ∀ m : Nat, 0 ≤ hc_ f x m ∧ hc_ f x m ≤ (m : Int) := by
  intro m
  induction m with
  | zero => exact ⟨Int.le_refl _, Int.le_refl _⟩
  | succ n ih =>
    show 0 ≤ hc_ f x n + (if (f n &&& x).toInt = 0 then 0 else 1) ∧ hc_ f x n + (if (f n &&& x).toInt = 0 then 0 else 1) ≤ _
    split <;> omega
theorem hc_congr {f g : Nat → Int32} {x : Int32} : ∀ m : Nat, (∀ i, i < m → f i = g i) → hc_ f x m = hc_ g x m := by
  intro m
  induction m with
  | zero => intro _; rfl
  | succ n ih =>
    intro h
    show hc_ f x n + (if (f n &&& x).toInt = 0 then 0 else 1) = hc_ g x n + (if (g n &&& x).toInt = 0 then 0 else 1)
    rw [ih (fun i hi => h i (by omega)), h n (by omega)]
/-- what poetOf answers -/
def po_ (rk vs ps : Nat → Int) (n : Nat) (a w : Int) : Int := if 0 ≤ a ∧ a < (n : Int) then (if w = 0 then rk a.toNat else if w = 1 then vs a.toNat else if w = 2 then (if ps a.toNat = 0 then 0 else 1) else -1) else -1
theorem po_congr {rk vs ps rk' vs' ps' : Nat → Int} {n : Nat} {a w : Int} (h : ∀ i, i < n → rk i = rk' i ∧ vs i = vs' i ∧ ps i = ps' i) : po_ rk vs ps n a w = po_ rk' vs' ps' n a w := by
  unfold po_
  by_cases c : 0 ≤ a ∧ a < (n : Int)
  · obtain ⟨h1, h2, h3⟩ := h a.toNat (by omega)
    rw [h1, h2, h3]
  · rw [if_neg c, if_neg c]
section PP
variable {rk vs ps : Nat → Int} {n : Nat} {a w : Int}
theorem po_no (h : ¬ (0 ≤ a ∧ a < (n : Int))) : po_ rk vs ps n a w = -1 := if_neg h
theorem po_0 (h : 0 ≤ a ∧ a < (n : Int)) (q : w = 0) : po_ rk vs ps n a w = rk a.toNat := by
  unfold po_
  rw [if_pos h, if_pos q]
theorem po_1 (h : 0 ≤ a ∧ a < (n : Int)) (q : w = 1) : po_ rk vs ps n a w = vs a.toNat := by
  unfold po_
  rw [if_pos h, if_neg (by omega), if_pos q]
theorem po_2 (h : 0 ≤ a ∧ a < (n : Int)) (q : w = 2) : po_ rk vs ps n a w = (if ps a.toNat = 0 then 0 else 1) := by
  unfold po_
  rw [if_pos h, if_neg (by omega), if_neg (by omega), if_pos q]
theorem po_3 (h : 0 ≤ a ∧ a < (n : Int)) (q : ¬ w = 0 ∧ ¬ w = 1 ∧ ¬ w = 2) : po_ rk vs ps n a w = -1 := by
  unfold po_
  rw [if_pos h, if_neg q.1, if_neg q.2.1, if_neg q.2.2]
end PP
/-- what ruleOf answers -/
def ro_ (f0 f1 f2 f3 f4 : Nat → Int) (n : Nat) (a w : Int) : Int := if 0 ≤ a ∧ a < (n : Int) then (if w = 0 then f0 a.toNat else if w = 1 then f1 a.toNat else if w = 2 then f2 a.toNat else if w = 3 then f3 a.toNat else if w = 4 then f4 a.toNat else -1) else -1
theorem ro_congr {f0 f1 f2 f3 f4 g0 g1 g2 g3 g4 : Nat → Int} {n : Nat} {a w : Int} (h : ∀ i, i < n → f0 i = g0 i ∧ f1 i = g1 i ∧ f2 i = g2 i ∧ f3 i = g3 i ∧ f4 i = g4 i) : ro_ f0 f1 f2 f3 f4 n a w = ro_ g0 g1 g2 g3 g4 n a w := by
  unfold ro_
  by_cases c : 0 ≤ a ∧ a < (n : Int)
  · obtain ⟨h0, h1, h2, h3, h4⟩ := h a.toNat (by omega)
    rw [h0, h1, h2, h3, h4]
  · rw [if_neg c, if_neg c]
section RR
variable {f0 f1 f2 f3 f4 : Nat → Int} {n : Nat} {a w : Int}
theorem ro_no (h : ¬ (0 ≤ a ∧ a < (n : Int))) : ro_ f0 f1 f2 f3 f4 n a w = -1 := if_neg h
theorem ro_0 (h : 0 ≤ a ∧ a < (n : Int)) (q : w = 0) : ro_ f0 f1 f2 f3 f4 n a w = f0 a.toNat := by
  unfold ro_
  rw [if_pos h, if_pos q]
theorem ro_1 (h : 0 ≤ a ∧ a < (n : Int)) (q : w = 1) : ro_ f0 f1 f2 f3 f4 n a w = f1 a.toNat := by
  unfold ro_
  rw [if_pos h, if_neg (by omega), if_pos q]
theorem ro_2 (h : 0 ≤ a ∧ a < (n : Int)) (q : w = 2) : ro_ f0 f1 f2 f3 f4 n a w = f2 a.toNat := by
  unfold ro_
  rw [if_pos h, if_neg (by omega), if_neg (by omega), if_pos q]
theorem ro_3 (h : 0 ≤ a ∧ a < (n : Int)) (q : w = 3) : ro_ f0 f1 f2 f3 f4 n a w = f3 a.toNat := by
  unfold ro_
  rw [if_pos h, if_neg (by omega), if_neg (by omega), if_neg (by omega), if_pos q]
theorem ro_4 (h : 0 ≤ a ∧ a < (n : Int)) (q : w = 4) : ro_ f0 f1 f2 f3 f4 n a w = f4 a.toNat := by
  unfold ro_
  rw [if_pos h, if_neg (by omega), if_neg (by omega), if_neg (by omega), if_neg (by omega), if_pos q]
theorem ro_5 (h : 0 ≤ a ∧ a < (n : Int)) (q : w < 0 ∨ 4 < w) : ro_ f0 f1 f2 f3 f4 n a w = -1 := by
  unfold ro_
  rw [if_pos h, if_neg (by omega), if_neg (by omega), if_neg (by omega), if_neg (by omega), if_neg (by omega)]
end RR
section TO
variable {s : sg_S} {x1 x2 : Int32} {n m np : Nat}
theorem sx_isLinked {P D : Nat} (hp : x1.toInt = (P : Int)) (hd : x2.toInt = (D : Int)) (hP : P ≤ 48) (hD : D ≤ 2) (ht : ∀ i, i < 64 → -9 ≤ (s.2.2.1 23 i).toInt ∧ (s.2.2.1 23 i).toInt ≤ 9) : am_SpI 93 [.ref 28, .int x1, .int x2] s (bo_ (D < P ∧ ln_ (s.2.2.1 23) (s.2.2.1 30 (P - D)) (s.2.2.1 30 P) 8) s) := by
  refine wp_XSheet_isLinked_ok ?_
  unfold wp_XSheet_isLinked
  rw [hp, hd, Int.toNat_natCast]
  refine ⟨fun c _ _ _ _ => ?_, fun c => bo_0 (fun z => absurd z.1 (by omega))⟩
  have e : (x1 - x2).toInt.toNat = P - D := by
    rw [i32_sub (by omega) (by omega), hp, hd]
    omega
  rw [e]
  refine (sx_linked ht).mono (fun y s2 hy => ?_)
  obtain rfl := hy.eq
  exact ⟨fun c2 => bo_0 (fun z => hy.no c2 z.2), fun c2 => bo_1 ⟨by omega, hy.yes c2⟩⟩
theorem sx_VerseOf (hm : (s.1 28 2).toInt = (m : Int)) (h48 : m ≤ 48) (ht : ∀ i, i < 64 → -9 ≤ (s.2.2.1 23 i).toInt ∧ (s.2.2.1 23 i).toInt ≤ 9) : am_SpI 144 [.ref 0, .int x1, .int x2] s (fun r s2 => s2 = s ∧ (¬ (1 ≤ x1.toInt ∧ x1.toInt ≤ (m : Int)) → r.toInt = -1) ∧ ∀ v : Nat, x1.toInt = (v : Int) + 1 → v < m → vr_ (fun v => s.2.2.1 29 (v + 1)) (fun v => s.2.2.1 30 (v + 1)) (fun k => s.2.2.1 32 (k + 3)) (fun v => s.2.2.1 33 (v + 1)) (fun v => s.2.2.1 31 (v + 1)) (0 < v ∧ ln_ (s.2.2.1 23) (s.2.2.1 30 v) (s.2.2.1 30 (v + 1)) 8) (1 < v ∧ ln_ (s.2.2.1 23) (s.2.2.1 30 (v - 1)) (s.2.2.1 30 (v + 1)) 8) v x2.toInt r.toInt) := by
  have e0 : (Int32.ofInt 0).toInt = 0 := rfl
  have e1 : ¬ (Int32.ofInt 1).toInt = 0 := by decide
  have e2 : (Int32.ofInt 2).toInt = 2 := rfl
  have e3 : (Int32.ofInt 3).toInt = 3 := rfl
  refine wp_X_verseOf_ok ?_
  unfold wp_X_verseOf
  refine wp_XSheet_isTold_ok ?_
  unfold wp_XSheet_isTold
  rw [hm]
  refine ⟨fun c => ⟨fun _ => ⟨rfl, fun _ => rfl, fun v z1 z2 => by omega⟩, fun z => absurd e0 z⟩, fun c => ⟨fun d => ⟨fun _ => ⟨rfl, fun _ => rfl, fun v z1 z2 => by omega⟩, fun z => absurd e0 z⟩, fun d => ⟨fun z => absurd z e1, fun _ => ?_⟩⟩⟩
  obtain ⟨v, hv⟩ : ∃ v : Nat, x1.toInt = ((v + 1 : Nat) : Int) := ⟨x1.toInt.toNat - 1, by omega⟩
  have hvm : v < m := by omega
  refine (wp_XSheet_partOf_ok (Ψ := fun r s2 => s2 = s ∧ vr_ (fun v => s.2.2.1 29 (v + 1)) (fun v => s.2.2.1 30 (v + 1)) (fun k => s.2.2.1 32 (k + 3)) (fun v => s.2.2.1 33 (v + 1)) (fun v => s.2.2.1 31 (v + 1)) (0 < v ∧ ln_ (s.2.2.1 23) (s.2.2.1 30 v) (s.2.2.1 30 (v + 1)) 8) (1 < v ∧ ln_ (s.2.2.1 23) (s.2.2.1 30 (v - 1)) (s.2.2.1 30 (v + 1)) 8) v x2.toInt r.toInt) ?_).mono (fun r s2 h => ⟨h.1, fun z => absurd ⟨by omega, by omega⟩ z, fun v' z1 z2 => by
    obtain rfl : v' = v := by omega
    exact h.2⟩)
  have m3 : (x1 * Int32.ofInt 3).toInt = 3 * (v : Int) + 3 := by
    rw [i32_mul (by rw [e3]; omega) (by rw [e3]; omega), hv, e3]
    omega
  have ix : ∀ k : Nat, x2.toInt = ((k + 2 : Nat) : Int) → k ≤ 2 → (x1 * Int32.ofInt 3 + x2 - Int32.ofInt 2).toInt.toNat = 3 * v + k + 3 := fun k hk h2 => by
    have a : (x1 * Int32.ofInt 3 + x2).toInt = 3 * (v : Int) + 3 + ((k + 2 : Nat) : Int) := by rw [i32_add (by omega) (by omega), m3, hk]
    rw [i32_sub (by omega) (by omega), a, e2]
    omega
  unfold wp_XSheet_partOf
  have hvn : x1.toInt.toNat = v + 1 := by omega
  rw [hvn]
  refine ⟨fun q _ _ => ⟨rfl, vr_0 q rfl⟩, fun q _ _ => ⟨rfl, vr_1 q rfl⟩, fun q _ _ => ⟨rfl, vr_2 q ?_⟩, fun q _ _ => ⟨rfl, vr_3 q ?_⟩, fun q _ _ => ⟨rfl, vr_4 q ?_⟩, fun q _ _ => ⟨fun g => ⟨rfl, vr_5 q ⟨fun _ => rfl, fun z => absurd g z⟩⟩, fun g => ⟨rfl, vr_5 q ⟨fun z => absurd z g, fun _ => rfl⟩⟩⟩, fun q _ _ => ⟨rfl, vr_6 q rfl⟩, fun q => ?_, fun q => ?_, fun q => ⟨rfl, vr_9 q rfl⟩⟩
  · rw [ix 0 q (by omega)]
  · rw [ix 1 q (by omega)]
  · rw [ix 2 q (by omega)]
  · refine (sx_isLinked (P := v + 1) (D := 1) hv rfl (by omega) (by omega) ht).mono (fun y s2 hy => ?_)
    have hno := hy.no
    have hyes := hy.yes
    obtain rfl := hy.eq
    refine ⟨fun c2 => ⟨rfl, vr_7 q ⟨fun z => absurd ⟨by omega, z.2⟩ (hno c2), fun _ => rfl⟩⟩, fun c2 => ⟨rfl, vr_7 q ⟨fun _ => rfl, fun z => absurd ⟨?_, (hyes c2).2⟩ z⟩⟩⟩
    have := (hyes c2).1
    omega
  · refine (sx_isLinked (P := v + 1) (D := 2) hv rfl (by omega) (by omega) ht).mono (fun y s2 hy => ?_)
    have hno := hy.no
    have hyes := hy.yes
    obtain rfl := hy.eq
    have ev : v + 1 - 2 = v - 1 := by omega
    rw [ev] at hno hyes
    refine ⟨fun c2 => ⟨rfl, vr_8 q ⟨fun z => absurd ⟨by omega, z.2⟩ (hno c2), fun _ => rfl⟩⟩, fun c2 => ⟨rfl, vr_8 q ⟨fun _ => rfl, fun z => absurd ⟨?_, (hyes c2).2⟩ z⟩⟩⟩
    have := (hyes c2).1
    omega
theorem sm_VerseOf {K : Nat} (hK : K ≤ 8) (hk : (s.1 64 21).toInt = (K : Int)) (hm : (s.1 64 40).toInt = (m : Int)) (h48 : m ≤ 48) (ht : ∀ i, i < 64 → -9 ≤ (s.2.2.1 81 i).toInt ∧ (s.2.2.1 81 i).toInt ≤ 9) : am_SpI 209 [.ref 64, .int x1, .int x2] s (fun r s2 => s2 = s ∧ (¬ (1 ≤ x1.toInt ∧ x1.toInt ≤ (m : Int)) → r.toInt = -1) ∧ ∀ v : Nat, x1.toInt = (v : Int) + 1 → v < m → vr_ (s.2.2.1 83) (s.2.2.1 84) (s.2.2.1 85) (s.2.2.1 86) (s.2.2.1 87) (0 < v ∧ ln_ (s.2.2.1 81) (s.2.2.1 84 v) (s.2.2.1 84 (v - 1)) K) (1 < v ∧ ln_ (s.2.2.1 81) (s.2.2.1 84 v) (s.2.2.1 84 (v - 2)) K) v x2.toInt r.toInt) := by
  have e1 : (Int32.ofInt 1).toInt = 1 := rfl
  have e2 : (Int32.ofInt 2).toInt = 2 := rfl
  refine wp_M_verseOf_ok ?_
  unfold wp_M_verseOf
  refine sm_in.mono (fun y s1 hy => ?_)
  rw [e1, hm] at hy
  obtain rfl := hy.eq
  refine ⟨fun c => ⟨rfl, fun _ => rfl, fun v z1 z2 => absurd ⟨by omega, by omega⟩ (hy.no c)⟩, fun c => ?_⟩
  have hc := hy.yes c
  obtain ⟨v, hv⟩ : ∃ v : Nat, x1.toInt = (v : Int) + 1 := ⟨x1.toInt.toNat - 1, by omega⟩
  have hd : (x1 - Int32.ofInt 1).toInt = (v : Int) := by
    rw [i32_sub (by omega) (by omega), hv, e1]
    omega
  have hd1 : 0 < v → (x1 - Int32.ofInt 1 - Int32.ofInt 1).toInt = ((v - 1 : Nat) : Int) := fun _ => by
    rw [i32_sub (by omega) (by omega), hd, e1]
    omega
  have hd2 : 1 < v → (x1 - Int32.ofInt 1 - Int32.ofInt 2).toInt = ((v - 2 : Nat) : Int) := fun _ => by
    rw [i32_sub (by omega) (by omega), hd, e2]
    omega
  obtain ⟨-, -, -, w0, w1, w2⟩ := tm_ix (x := x1 - Int32.ofInt 1) (n := v) hd (by omega)
  have key : ∀ r : Int32, vr_ (s1.2.2.1 83) (s1.2.2.1 84) (s1.2.2.1 85) (s1.2.2.1 86) (s1.2.2.1 87) (0 < v ∧ ln_ (s1.2.2.1 81) (s1.2.2.1 84 v) (s1.2.2.1 84 (v - 1)) K) (1 < v ∧ ln_ (s1.2.2.1 81) (s1.2.2.1 84 v) (s1.2.2.1 84 (v - 2)) K) v x2.toInt r.toInt → s1 = s1 ∧ (¬ (1 ≤ x1.toInt ∧ x1.toInt ≤ (m : Int)) → r.toInt = -1) ∧ ∀ v : Nat, x1.toInt = (v : Int) + 1 → v < m → vr_ (s1.2.2.1 83) (s1.2.2.1 84) (s1.2.2.1 85) (s1.2.2.1 86) (s1.2.2.1 87) (0 < v ∧ ln_ (s1.2.2.1 81) (s1.2.2.1 84 v) (s1.2.2.1 84 (v - 1)) K) (1 < v ∧ ln_ (s1.2.2.1 81) (s1.2.2.1 84 v) (s1.2.2.1 84 (v - 2)) K) v x2.toInt r.toInt := fun r h => ⟨rfl, fun z => absurd hc z, fun v' z1 z2 => by
    obtain rfl : v' = v := by omega
    exact h⟩
  rw [w0, w1, w2, hd, Int.toNat_natCast, Int.toNat_natCast, Int.toNat_natCast, Int.toNat_natCast]
  refine ⟨fun q _ _ => key _ (vr_0 q rfl), fun q _ _ => key _ (vr_1 q rfl), fun q _ _ => key _ (vr_2 q rfl), fun q _ _ => key _ (vr_3 q rfl), fun q _ _ => key _ (vr_4 q rfl), fun q _ _ => ⟨fun g => key _ (vr_5 q ⟨fun _ => rfl, fun z => absurd g z⟩), fun g => key _ (vr_5 q ⟨fun z => absurd z g, fun _ => rfl⟩)⟩, fun q _ _ => key _ (vr_6 q rfl), fun q => ⟨fun g _ _ _ _ => ?_, fun g => key _ (vr_7 q ⟨fun z => absurd z.1 (by omega), fun _ => rfl⟩)⟩, fun q => ⟨fun g _ _ _ _ => ?_, fun g => key _ (vr_8 q ⟨fun z => absurd z.1 (by omega), fun _ => rfl⟩)⟩, fun q => key _ (vr_9 q rfl)⟩
  · rw [hd1 (by omega), Int.toNat_natCast]
    refine (sm_linked hK hk ht).mono (fun y2 s2 hy2 => ?_)
    have hno := hy2.no
    have hyes := hy2.yes
    obtain rfl := hy2.eq
    exact ⟨fun c2 => key _ (vr_7 q ⟨fun z => absurd z.2 (hno c2), fun _ => rfl⟩), fun c2 => key _ (vr_7 q ⟨fun _ => rfl, fun z => absurd ⟨by omega, hyes c2⟩ z⟩)⟩
  · rw [hd2 (by omega), Int.toNat_natCast]
    refine (sm_linked hK hk ht).mono (fun y2 s2 hy2 => ?_)
    have hno := hy2.no
    have hyes := hy2.yes
    obtain rfl := hy2.eq
    exact ⟨fun c2 => key _ (vr_8 q ⟨fun z => absurd z.2 (hno c2), fun _ => rfl⟩), fun c2 => key _ (vr_8 q ⟨fun _ => rfl, fun z => absurd ⟨by omega, hyes c2⟩ z⟩)⟩
theorem sx_PoetOf (hn : (s.1 24 0).toInt = (np : Int)) : am_SpI 145 [.ref 0, .int x1, .int x2] s (fun r s2 => s2 = s ∧ r.toInt = po_ (fun i => (s.2.2.1 25 i).toInt) (fun i => (s.2.2.1 26 i).toInt) (fun i => (s.2.2.1 27 i).toInt) np x1.toInt x2.toInt) := by
  refine wp_X_poetOf_ok ?_
  unfold wp_X_poetOf
  rw [hn]
  refine ⟨fun c => ⟨rfl, (po_no (by omega)).symm⟩, fun c => ⟨fun d => ⟨fun w _ _ => ⟨rfl, by rw [po_0 ⟨by omega, d⟩ w]⟩, fun w _ _ => ⟨rfl, by rw [po_1 ⟨by omega, d⟩ w]⟩, fun w _ _ => ⟨fun g => ⟨rfl, ?_⟩, fun g => ⟨rfl, ?_⟩⟩, fun w => ⟨rfl, (po_3 ⟨by omega, d⟩ (by omega)).symm⟩⟩, fun d => ⟨rfl, (po_no (by omega)).symm⟩⟩⟩
  · rw [po_2 ⟨by omega, d⟩ w, if_pos g]
    rfl
  · rw [po_2 ⟨by omega, d⟩ w, if_neg g]
    rfl
theorem sm_PoetOf (hn : (s.1 64 30).toInt = (np : Int)) (h12 : np ≤ 12) (hm : (s.1 64 40).toInt = (m : Int)) (h48 : m ≤ 48) : am_SpI 210 [.ref 64, .int x1, .int x2] s (fun r s2 => s2 = s ∧ r.toInt = po_ (fun i => (s.2.2.1 76 i).toInt) (fun i => tc_ (s.2.2.1 83) m (i : Int)) (fun i => (s.2.2.1 77 i).toInt) np x1.toInt x2.toInt) := by
  have z0 : (Int32.ofInt 0).toInt = 0 := rfl
  have z1 : (Int32.ofInt 1).toInt = 1 := rfl
  have e : (s.1 64 30 - Int32.ofInt 1).toInt = (np : Int) - 1 := by rw [i32_sub (by omega) (by omega), hn, z1]
  refine wp_M_poetOf_ok ?_
  unfold wp_M_poetOf
  refine sm_in.mono (fun y s1 hy => ?_)
  rw [z0, e] at hy
  obtain rfl := hy.eq
  refine ⟨fun c => ⟨rfl, (po_no (fun q => hy.no c (by omega))).symm⟩, fun c => ?_⟩
  have hc := hy.yes c
  have hin : 0 ≤ x1.toInt ∧ x1.toInt < (np : Int) := by omega
  refine ⟨fun w _ _ => ⟨rfl, by rw [po_0 hin w]⟩, fun w0 => ⟨fun w => (sm_told hm h48).mono (fun r s2 h => ⟨h.1, by rw [h.2, po_1 hin w, Int.toNat_of_nonneg hin.1]⟩), fun w1 => ⟨fun w _ _ => ⟨fun g => ⟨rfl, ?_⟩, fun g => ⟨rfl, ?_⟩⟩, fun w2 => ⟨rfl, (po_3 hin ⟨w0, w1, w2⟩).symm⟩⟩⟩⟩
  · rw [po_2 hin w, if_pos g]
    rfl
  · rw [po_2 hin w, if_neg g]
    rfl
theorem sx_howMany (hm : (s.1 28 2).toInt = (m : Int)) (h48 : m ≤ 48) : am_SpI 94 [.ref 28, .int x1] s (fun r s2 => s2 = s ∧ r.toInt = hc_ (fun v => s.2.2.1 30 (v + 1)) x1 m) := by
  refine wp_XSheet_howManyHave_ok (I4 := fun l2 l3 s1 => s1 = s ∧ ∃ k : Nat, l3.toInt = (k : Int) + 1 ∧ k ≤ m ∧ l2.toInt = hc_ (fun v => s.2.2.1 30 (v + 1)) x1 k) ?_ ⟨rfl, 0, rfl, Nat.zero_le _, rfl⟩
  intro l2 l3 s1 hI
  obtain ⟨rfl, k, h3, hkm, h2⟩ := hI
  have hr := hc_rng (fun v => s1.2.2.1 30 (v + 1)) x1 k
  have hi3 : k < m → (l3 + Int32.ofInt 1).toInt = ((k + 1 : Nat) : Int) + 1 := fun _ => by
    rw [i32_inc (c := 0) (by omega) (by omega), h3]
    omega
  have st : hc_ (fun v => s1.2.2.1 30 (v + 1)) x1 (k + 1) = hc_ (fun v => s1.2.2.1 30 (v + 1)) x1 k + (if (s1.2.2.1 30 (k + 1) &&& x1).toInt = 0 then 0 else 1) := rfl
  have h3n : l3.toInt.toNat = k + 1 := by omega
  unfold wp_XSheet_howManyHave_4
  rw [hm, h3n]
  refine ⟨fun c => ⟨rfl, by rw [h2, show k = m by omega]⟩, fun c _ _ => ⟨fun d => ⟨rfl, k + 1, hi3 (by omega), by omega, by rw [st, if_pos d, h2]; omega⟩, fun d => ⟨rfl, k + 1, hi3 (by omega), by omega, ?_⟩⟩⟩
  rw [st, if_neg d, i32_inc (c := 0) (by omega) (by omega), h2]
theorem sx_RuleOf (hn : (s.1 1 2).toInt = (n : Int)) (hm : (s.1 28 2).toInt = (m : Int)) (h48 : m ≤ 48) : am_SpI 146 [.ref 0, .int x1, .int x2] s (fun r s2 => s2 = s ∧ r.toInt = ro_ (fun i => (s.2.2.1 4 i).toInt) (fun i => (s.2.2.1 5 i).toInt) (fun i => (s.2.2.1 6 i).toInt) (fun i => (s.2.2.1 7 i).toInt) (fun i => hc_ (fun v => s.2.2.1 30 (v + 1)) (s.2.2.1 5 i) m) n x1.toInt x2.toInt) := by
  refine wp_X_ruleOf_ok ?_
  unfold wp_X_ruleOf
  rw [hn]
  exact ⟨fun c => ⟨rfl, (ro_no (by omega)).symm⟩, fun c => ⟨fun d => ⟨fun w _ _ => ⟨rfl, by rw [ro_0 ⟨by omega, d⟩ w]⟩, fun w _ _ => ⟨rfl, by rw [ro_1 ⟨by omega, d⟩ w]⟩, fun w _ _ => ⟨rfl, by rw [ro_2 ⟨by omega, d⟩ w]⟩, fun w _ _ => ⟨rfl, by rw [ro_3 ⟨by omega, d⟩ w]⟩, fun w _ _ => (sx_howMany hm h48).mono (fun r s2 h => ⟨h.1, by rw [h.2, ro_4 ⟨by omega, d⟩ w]⟩), fun w => ⟨rfl, by rw [ro_5 ⟨by omega, d⟩ w]; rfl⟩⟩, fun d => ⟨rfl, (ro_no (by omega)).symm⟩⟩⟩
theorem sm_RuleOf (hn : (s.1 64 23).toInt = (n : Int)) (h12 : n ≤ 12) (hm : (s.1 64 40).toInt = (m : Int)) (h48 : m ≤ 48) : am_SpI 211 [.ref 64, .int x1, .int x2] s (fun r s2 => s2 = s ∧ r.toInt = ro_ (fun i => (s.2.2.1 72 i).toInt) (fun i => (s.2.2.1 73 i).toInt) (fun i => (s.2.2.1 74 i).toInt) (fun i => (s.2.2.1 75 i).toInt) (fun i => hc_ (s.2.2.1 84) (s.2.2.1 73 i) m) n x1.toInt x2.toInt) := by
  have z0 : (Int32.ofInt 0).toInt = 0 := rfl
  have z1 : (Int32.ofInt 1).toInt = 1 := rfl
  have e : (s.1 64 23 - Int32.ofInt 1).toInt = (n : Int) - 1 := by rw [i32_sub (by omega) (by omega), hn, z1]
  refine wp_M_ruleOf_ok (I85 := fun l3 l4 s1 => s1 = s ∧ (0 ≤ x1.toInt ∧ x1.toInt < (n : Int)) ∧ x2.toInt = 4 ∧ ∃ k : Nat, l4.toInt = (k : Int) ∧ k ≤ m ∧ l3.toInt = hc_ (s.2.2.1 84) (s.2.2.1 73 x1.toInt.toNat) k) ?_ ?_
  · intro l3 l4 s1 hI
    obtain ⟨rfl, hin, w, k, h4, hkm, h3⟩ := hI
    have hr := hc_rng (s1.2.2.1 84) (s1.2.2.1 73 x1.toInt.toNat) k
    have hi4 : k < m → (l4 + Int32.ofInt 1).toInt = ((k + 1 : Nat) : Int) := fun _ => by
      rw [i32_inc (c := 0) (by omega) (by omega), h4]
      rfl
    have st : hc_ (s1.2.2.1 84) (s1.2.2.1 73 x1.toInt.toNat) (k + 1) = hc_ (s1.2.2.1 84) (s1.2.2.1 73 x1.toInt.toNat) k + (if (s1.2.2.1 84 k &&& s1.2.2.1 73 x1.toInt.toNat).toInt = 0 then 0 else 1) := rfl
    unfold wp_M_ruleOf_85
    rw [hm, h4, Int.toNat_natCast]
    refine ⟨fun c _ _ _ _ => ⟨fun d => ⟨rfl, hin, w, k + 1, hi4 (by omega), by omega, ?_⟩, fun d => ⟨rfl, hin, w, k + 1, hi4 (by omega), by omega, ?_⟩⟩, fun c => ⟨rfl, ?_⟩⟩
    · rw [st, if_pos d, i32_add (by omega) (by omega), h3, z0]
    · rw [st, if_neg d, i32_inc (c := 0) (by omega) (by omega), h3]
    · rw [ro_4 hin w, h3, show k = m by omega]
  · unfold wp_M_ruleOf
    refine sm_in.mono (fun y s1 hy => ?_)
    rw [z0, e] at hy
    obtain rfl := hy.eq
    refine ⟨fun c => ⟨rfl, (ro_no (fun q => hy.no c (by omega))).symm⟩, fun c => ?_⟩
    have hc := hy.yes c
    have hin : 0 ≤ x1.toInt ∧ x1.toInt < (n : Int) := by omega
    exact ⟨fun w _ _ => ⟨rfl, by rw [ro_0 hin w]⟩, fun w _ _ => ⟨rfl, by rw [ro_1 hin w]⟩, fun w _ _ => ⟨rfl, by rw [ro_2 hin w]⟩, fun w _ _ => ⟨rfl, by rw [ro_3 hin w]⟩, fun w => ⟨rfl, hin, w, 0, rfl, Nat.zero_le _, rfl⟩, fun w => ⟨rfl, by rw [ro_5 hin w]; rfl⟩⟩
/-- pass -/
theorem sx_Pass (hn : (s.1 24 0).toInt = (np : Int)) (h12 : np ≤ 12) : am_SpI 124 [.ref 0] s (fun r s2 => (xt_ s np = -1 → r.toInt = -1 ∧ s2 = s) ∧ (¬ xt_ s np = -1 → sg_fr [] [27] s s2 ∧ s2.2.2.1 27 = pw_ (s.2.2.1 27) np (xt_ s np).toNat ∧ r.toInt = xt_ s2 np)) := by
  refine wp_X_pass_ok ?_
  unfold wp_X_pass
  refine (sx_Turn hn h12).mono (fun t s1 h1 => ?_)
  obtain ⟨rfl, h1⟩ := h1
  have h1 : t.toInt = xt_ s1 np := h1
  have hx := xt_lt s1 np
  rw [h1]
  refine ⟨fun c => ⟨fun _ => ⟨rfl, rfl⟩, fun z => absurd c z⟩, fun c => (sx_letPass (p := (xt_ s1 np).toNat) hn h12 (by rw [h1]; omega)).mono (fun s2 h2 => ?_)⟩
  refine (sx_Turn (n := np) (by rw [h2.1.i rfl]; exact hn) h12).mono (fun r s3 h3 => ?_)
  obtain ⟨rfl, h3⟩ := h3
  exact ⟨fun z => absurd z c, fun _ => ⟨h2.1, h2.2, h3⟩⟩
theorem sm_Pass (hn : (s.1 64 30).toInt = (np : Int)) (h12 : np ≤ 12) (hm : (s.1 64 40).toInt = (m : Int)) (h48 : m ≤ 48) : am_SpI 171 [.ref 64] s (fun r s2 => (mt_ s np m = -1 → r.toInt = -1 ∧ s2 = s) ∧ (¬ mt_ s np m = -1 → sg_fr [] [77] s s2 ∧ s2.2.2.1 77 = pw_ (s.2.2.1 77) np (mt_ s np m).toNat ∧ r.toInt = mt_ s2 np m)) := by
  refine wp_M_pass_ok ?_
  unfold wp_M_pass
  refine (sm_Turn hn h12 hm h48).mono (fun t s1 h1 => ?_)
  obtain ⟨rfl, h1⟩ := h1
  have h1 : t.toInt = mt_ s1 np m := h1
  have hx := mt_lt s1 np m
  rw [h1]
  refine ⟨fun c => ⟨fun _ => ⟨rfl, rfl⟩, fun z => absurd c z⟩, fun c => (sm_passes (p := (mt_ s1 np m).toNat) hn h12 (by rw [h1]; omega)).mono (fun s2 h2 => ?_)⟩
  refine (sm_Turn (n := np) (m := m) (by rw [h2.1.i rfl]; exact hn) h12 (by rw [h2.1.i rfl]; exact hm) h48).mono (fun r s3 h3 => ?_)
  obtain ⟨rfl, h3⟩ := h3
  exact ⟨fun z => absurd z c, fun _ => ⟨h2.1, h2.2, h3⟩⟩
end TO
