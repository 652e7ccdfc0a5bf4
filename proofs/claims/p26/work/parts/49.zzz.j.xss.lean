/-! ===== ends: X's States, a table of slots (printed by wip/ab/gen_ss.py) ===== -/
/-- the home of a state -/
def hm_ (x1 x2 : Int64) : Int32 := (((((x1 * (Int64.ofInt (-7046029254386353131))) + (x2 * (Int64.ofInt (-4417276706812531889)))).toUInt64 >>> ((Int32.ofInt (40)).toInt64.toUInt64 &&& Int64.toUInt64 63)).toInt64) ^^^ ((((x1 * (Int64.ofInt (-7046029254386353131))) + (x2 * (Int64.ofInt (-4417276706812531889)))).toUInt64 >>> ((Int32.ofInt (20)).toInt64.toUInt64 &&& Int64.toUInt64 63)).toInt64)).toInt32
/-- old slots: none with a later stamp -/
def hs_ (F C : Nat) (s : sg_S) (σ : Int) : Prop := (s.1 F 4).toInt = σ ∧ (0 ≤ σ ∧ σ ≤ 30000) ∧ ∀ i, i < 1024 → 0 ≤ (s.2.2.1 C i).toInt ∧ (s.2.2.1 C i).toInt < 512 * (σ + 1)
/-- the table holds N states -/
def ht_ (F A B C : Nat) (s : sg_S) (σ : Int) (N : Nat) (lo hi : Nat → Int64) : Prop := ((s.1 F 2).toInt = (N : Int) ∧ N ≤ 400) ∧ hs_ F C s σ ∧ (∀ i, i < 1024 → 512 * σ ≤ (s.2.2.1 C i).toInt → (s.2.2.1 C i).toInt < 512 * σ + (N : Int)) ∧ (∀ i j, i < 1024 → j < 1024 → 512 * σ ≤ (s.2.2.1 C i).toInt → (s.2.2.1 C i).toInt = (s.2.2.1 C j).toInt → i = j) ∧ (∀ k, k < N → ∃ q, q < 1024 ∧ (s.2.2.1 C (hx_ (hm_ (lo k) (hi k)) q)).toInt = 512 * σ + (k : Int) ∧ ∀ q', q' < q → 512 * σ ≤ (s.2.2.1 C (hx_ (hm_ (lo k) (hi k)) q')).toInt) ∧ ∀ k, k < N → s.2.2.2.1 A k = lo k ∧ s.2.2.2.1 B k = hi k
/-- stamp and number in one -/
theorem y_st {x y : Int32} (h1 : 0 ≤ x.toInt) (h2 : x.toInt ≤ 30000) (h3 : 0 ≤ y.toInt) (h4 : y.toInt < 512) : ((x <<< (Int32.ofInt 9 &&& 31)) ||| y).toInt = 512 * x.toInt + y.toInt := by
  have a1 := y_nn h1
  have a2 := y_nn h3
  have hk : ((Int32.ofInt 9 &&& 31).toBitVec.smod 32).toNat = 9 := by decide
  have e1 : (x <<< (Int32.ofInt 9 &&& 31)).toBitVec.toNat = x.toBitVec.toNat <<< 9 := by
    rw [Int32.toBitVec_shiftLeft, BitVec.shiftLeft_eq', BitVec.toNat_shiftLeft, hk, Nat.mod_eq_of_lt]
    rw [Nat.shiftLeft_eq]
    omega
  have e2 : ((x <<< (Int32.ofInt 9 &&& 31)) ||| y).toBitVec.toNat = x.toBitVec.toNat <<< 9 + y.toBitVec.toNat := by
    rw [Int32.toBitVec_or, BitVec.toNat_or, e1]
    exact (Nat.shiftLeft_add_eq_or_of_lt (by omega) _).symm
  rw [Nat.shiftLeft_eq] at e2
  rw [y_of e2 (by omega)]
  omega
section SS
variable {s : sg_S} {x1 x2 : Int32} {σ : Int} {N : Nat} {lo hi : Nat → Int64} {y1 y2 : Int64}
theorem xs_clear_39 (h : hs_ 39 42 s σ) (hσ : σ < 30000) : am_SpV 96 [.ref 39] s (fun s2 => sg_fr [(39, 2), (39, 4)] [] s s2 ∧ ht_ 39 40 41 42 s2 (σ + 1) 0 (fun _ => 0) (fun _ => 0)) := by
  obtain ⟨h4, hr, hs⟩ := h
  refine wp_XStates_clear_39_ok ?_
  unfold wp_XStates_clear_39
  refine ⟨(sg_fr.rf.uI rfl).uI rfl, ⟨rfl, by omega⟩, ⟨?_, by omega, fun i hi => ?_⟩, fun i hi hc => ?_, fun i j hi hj hc _ => ?_, fun k hk => absurd hk (Nat.not_lt_zero k), fun k hk => absurd hk (Nat.not_lt_zero k)⟩
  · show (s.1 39 4 + Int32.ofInt 1).toInt = _
    rw [i32_inc (c := 0) (by omega) (by omega), h4]
  · have := hs i hi
    exact ⟨this.1, by have := this.2; show (s.2.2.1 42 i).toInt < _; omega⟩
  · have := (hs i hi).2
    have hc : 512 * (σ + 1) ≤ (s.2.2.1 42 i).toInt := hc
    omega
  · have := (hs i hi).2
    have hc : 512 * (σ + 1) ≤ (s.2.2.1 42 i).toInt := hc
    omega
theorem xs_slot_39 {i0 : Nat} (h : ht_ 39 40 41 42 s σ N lo hi) (h1 : x1.toInt = (i0 : Int)) (hi0 : i0 < 1024) (hfree : (s.2.2.1 42 i0).toInt < 512 * σ) (hpath : ∃ q, q < 1024 ∧ hx_ (hm_ y1 y2) q = i0 ∧ ∀ q', q' < q → 512 * σ ≤ (s.2.2.1 42 (hx_ (hm_ y1 y2) q')).toInt) : am_SpI 100 [.ref 39, .int x1, .long y1, .long y2] s (fun r s2 => (N = 400 → r.toInt = -4 ∧ s2 = s) ∧ (N < 400 → r.toInt = (N : Int) ∧ sg_fr [(39, 2)] [40, 41, 42] s s2 ∧ ht_ 39 40 41 42 s2 σ (N + 1) (fun k => if k = N then y1 else lo k) (fun k => if k = N then y2 else hi k))) := by
  obtain ⟨⟨h2, h400⟩, ⟨h4, hr, hs⟩, ho, hinj, hp, hv⟩ := h
  have z1 : (Int32.ofInt 1).toInt = 1 := rfl
  refine wp_XStates_layInSlot_39_ok ?_
  unfold wp_XStates_layInSlot_39
  refine ⟨fun c _ _ _ _ => ⟨fun z => by omega, fun _ => ?_⟩, fun c => ⟨fun _ => ⟨rfl, rfl⟩, fun z => absurd (show (s.1 39 2).toInt < 400 by omega) c⟩⟩
  have en : (s.1 39 2).toInt.toNat = N := by omega
  have ei : x1.toInt.toNat = i0 := by omega
  have hinc : (s.1 39 2 + Int32.ofInt 1).toInt = (N : Int) + 1 := by rw [i32_inc (c := 0) (by omega) (by omega), h2]
  have hval : ((s.1 39 4 <<< (Int32.ofInt 9 &&& 31)) ||| s.1 39 2).toInt = 512 * σ + (N : Int) := by rw [y_st (by omega) (by omega) (by omega) (by omega), h4, h2]
  rw [en, ei]
  generalize (s.1 39 4 <<< (Int32.ofInt 9 &&& 31)) ||| s.1 39 2 = V at hval
  have oC : ∀ i, (sg_uI (sg_uA (sg_uM (sg_uM s 40 N y1) 41 N y2) 42 i0 V) 39 2 (s.1 39 2 + Int32.ofInt 1)).2.2.1 42 i = if i = i0 then V else s.2.2.1 42 i := fun i => by
    show (if 42 = 42 ∧ i = i0 then V else s.2.2.1 42 i) = _
    simp
  have oA : ∀ k, (sg_uI (sg_uA (sg_uM (sg_uM s 40 N y1) 41 N y2) 42 i0 V) 39 2 (s.1 39 2 + Int32.ofInt 1)).2.2.2.1 40 k = if k = N then y1 else s.2.2.2.1 40 k := fun k => by
    show (if 40 = 41 ∧ k = N then y2 else if 40 = 40 ∧ k = N then y1 else s.2.2.2.1 40 k) = _
    simp
  have oB : ∀ k, (sg_uI (sg_uA (sg_uM (sg_uM s 40 N y1) 41 N y2) 42 i0 V) 39 2 (s.1 39 2 + Int32.ofInt 1)).2.2.2.1 41 k = if k = N then y2 else s.2.2.2.1 41 k := fun k => by
    show (if 41 = 41 ∧ k = N then y2 else if 41 = 40 ∧ k = N then y1 else s.2.2.2.1 41 k) = _
    simp
  refine ⟨by rw [i32_sub (by omega) (by omega), hinc, z1]; omega, (((sg_fr.rf.uM rfl).uM rfl).uA rfl).uI rfl, ⟨by show (s.1 39 2 + Int32.ofInt 1).toInt = ((N + 1 : Nat) : Int); rw [hinc]; omega, by omega⟩, ⟨h4, hr, fun i hi => ?_⟩, fun i hi hc => ?_, fun i j hi hj hc e => ?_, fun k hk => ?_, fun k hk => ?_⟩
  · rw [oC i]
    by_cases c2 : i = i0
    · rw [if_pos c2]; omega
    · rw [if_neg c2]; exact hs i hi
  · rw [oC i] at hc ⊢
    by_cases c2 : i = i0
    · rw [if_pos c2]; omega
    · rw [if_neg c2] at hc ⊢
      have := ho i hi hc
      omega
  · rw [oC i] at hc e
    rw [oC j] at e
    by_cases c2 : i = i0
    · by_cases c3 : j = i0
      · omega
      · rw [if_pos c2, if_neg c3] at e
        have := ho j hj (by omega)
        omega
    · rw [if_neg c2] at hc e
      by_cases c3 : j = i0
      · rw [if_pos c3] at e
        have := ho i hi hc
        omega
      · rw [if_neg c3] at e
        exact hinj i j hi hj hc e
  · by_cases c2 : k = N
    · obtain ⟨q, q1, q2, q3⟩ := hpath
      refine ⟨q, q1, ?_, fun q' hq' => ?_⟩
      · show ((sg_uI (sg_uA (sg_uM (sg_uM s 40 N y1) 41 N y2) 42 i0 V) 39 2 (s.1 39 2 + Int32.ofInt 1)).2.2.1 42 (hx_ (hm_ (if k = N then y1 else lo k) (if k = N then y2 else hi k)) q)).toInt = _
        rw [if_pos c2, if_pos c2, q2, oC i0, if_pos rfl, hval, c2]
      · show 512 * σ ≤ ((sg_uI (sg_uA (sg_uM (sg_uM s 40 N y1) 41 N y2) 42 i0 V) 39 2 (s.1 39 2 + Int32.ofInt 1)).2.2.1 42 (hx_ (hm_ (if k = N then y1 else lo k) (if k = N then y2 else hi k)) q')).toInt
        rw [if_pos c2, if_pos c2, oC]
        by_cases c3 : hx_ (hm_ y1 y2) q' = i0
        · rw [if_pos c3]; omega
        · rw [if_neg c3]; exact q3 q' hq'
    · obtain ⟨q, q1, q2, q3⟩ := hp k (by omega)
      refine ⟨q, q1, ?_, fun q' hq' => ?_⟩
      · show ((sg_uI (sg_uA (sg_uM (sg_uM s 40 N y1) 41 N y2) 42 i0 V) 39 2 (s.1 39 2 + Int32.ofInt 1)).2.2.1 42 (hx_ (hm_ (if k = N then y1 else lo k) (if k = N then y2 else hi k)) q)).toInt = _
        rw [if_neg c2, if_neg c2, oC, if_neg (fun z => by rw [z] at q2; omega)]
        exact q2
      · show 512 * σ ≤ ((sg_uI (sg_uA (sg_uM (sg_uM s 40 N y1) 41 N y2) 42 i0 V) 39 2 (s.1 39 2 + Int32.ofInt 1)).2.2.1 42 (hx_ (hm_ (if k = N then y1 else lo k) (if k = N then y2 else hi k)) q')).toInt
        rw [if_neg c2, if_neg c2, oC]
        by_cases c3 : hx_ (hm_ (lo k) (hi k)) q' = i0
        · rw [if_pos c3]; omega
        · rw [if_neg c3]; exact q3 q' hq'
  · rw [oA k, oB k]
    show (if k = N then y1 else _) = (if k = N then y1 else lo k) ∧ (if k = N then y2 else _) = (if k = N then y2 else hi k)
    by_cases c2 : k = N
    · rw [if_pos c2, if_pos c2, if_pos c2, if_pos c2]
      exact ⟨rfl, rfl⟩
    · rw [if_neg c2, if_neg c2, if_neg c2, if_neg c2]
      exact hv k (by omega)
/-- a state is laid down, or found -/
theorem xs_lay_39 (h : ht_ 39 40 41 42 s σ N lo hi) (hd : ∀ j k, j < k → k < N → ¬ (lo j = lo k ∧ hi j = hi k)) : am_SpI 99 [.ref 39, .long y1, .long y2] s (fun r s2 => (∀ k, k < N → lo k = y1 ∧ hi k = y2 → r.toInt = (k : Int) ∧ s2 = s) ∧ ((∀ k, k < N → ¬ (lo k = y1 ∧ hi k = y2)) → (N = 400 → r.toInt = -4 ∧ s2 = s) ∧ (N < 400 → r.toInt = (N : Int) ∧ sg_fr [(39, 2)] [40, 41, 42] s s2 ∧ ht_ 39 40 41 42 s2 σ (N + 1) (fun k => if k = N then y1 else lo k) (fun k => if k = N then y2 else hi k)))) := by
  obtain ⟨⟨h2, h400⟩, ⟨h4, hr, hs⟩, ho, hinj, hp, hv⟩ := id h
  refine wp_XStates_lay_39_ok (I30 := fun l7 l8 s1 => s1 = s ∧ l7 = hm_ y1 y2 ∧ ∃ q : Nat, l8.toInt = (q : Int) ∧ q ≤ 1024 ∧ ∀ r, r < q → 512 * σ ≤ (s.2.2.1 42 (hx_ (hm_ y1 y2) r)).toInt ∧ ∀ k : Nat, (s.2.2.1 42 (hx_ (hm_ y1 y2) r)).toInt = 512 * σ + (k : Int) → ¬ (lo k = y1 ∧ hi k = y2)) ?_ ⟨rfl, rfl, 0, rfl, by omega, fun r hr => absurd hr (Nat.not_lt_zero r)⟩
  intro l7 l8 s1 hI
  obtain ⟨rfl, rfl, q, h8, hq, hq2⟩ := hI
  unfold wp_XStates_lay_39_30
  by_cases c : q < 1024
  · have e8 : l8 = Int32.ofInt (q : Int) := rx_ofI h8
    have ix : ((hm_ y1 y2 + l8) &&& Int32.ofInt 1023).toInt = ((hx_ (hm_ y1 y2) q : Nat) : Int) := by rw [e8]; exact (hx_eq c).2
    have hlt := hx_lt (h := hm_ y1 y2) c
    have hsl := hs (hx_ (hm_ y1 y2) q) hlt
    rw [ix, Int.toNat_natCast]
    refine ⟨fun _ _ _ => ?_, fun c2 => absurd (show l8.toInt < 1024 by omega) c2⟩
    rw [y_s9 hsl.1, y_m511 hsl.1, h4]
    have hinc : (l8 + Int32.ofInt 1).toInt = ((q + 1 : Nat) : Int) := by
      rw [i32_inc (c := 0) (by omega) (by omega), h8]
      rfl
    refine ⟨fun c2 _ _ => ?_, fun c2 => ?_⟩
    · obtain ⟨k, hk⟩ : ∃ k : Nat, (s1.2.2.1 42 (hx_ (hm_ y1 y2) q)).toInt = 512 * σ + (k : Int) := ⟨((s1.2.2.1 42 (hx_ (hm_ y1 y2) q)).toInt - 512 * σ).toNat, by omega⟩
      have hkN : k < N := by
        have := ho _ hlt (by omega)
        omega
      have em : ((s1.2.2.1 42 (hx_ (hm_ y1 y2) q)).toInt % 512).toNat = k := by omega
      rw [em, (hv k hkN).1, (hv k hkN).2]
      have next : ¬ (lo k = y1 ∧ hi k = y2) → s1 = s1 ∧ hm_ y1 y2 = hm_ y1 y2 ∧ ∃ q : Nat, (l8 + Int32.ofInt 1).toInt = (q : Int) ∧ q ≤ 1024 ∧ ∀ r, r < q → 512 * σ ≤ (s1.2.2.1 42 (hx_ (hm_ y1 y2) r)).toInt ∧ ∀ k : Nat, (s1.2.2.1 42 (hx_ (hm_ y1 y2) r)).toInt = 512 * σ + (k : Int) → ¬ (lo k = y1 ∧ hi k = y2) := by
        intro hn
        refine ⟨rfl, rfl, q + 1, hinc, by omega, fun r hr => ?_⟩
        by_cases er : r = q
        · subst er
          refine ⟨by omega, fun k' hk' => ?_⟩
          obtain rfl : k' = k := by omega
          exact hn
        · exact hq2 r (by omega)
      refine ⟨fun c3 => ⟨fun c4 => ⟨fun k' hk' e => ?_, fun z => absurd ⟨c3, c4⟩ (z k hkN)⟩, fun c4 => next (fun z => c4 z.2)⟩, fun c3 => next (fun z => c3 z.1)⟩
      have ek : k' = k := by
        rcases Nat.lt_trichotomy k' k with c5 | c5 | c5
        · exact absurd ⟨e.1.trans c3.symm, e.2.trans c4.symm⟩ (hd k' k c5 hkN)
        · exact c5
        · exact absurd ⟨c3.trans e.1.symm, c4.trans e.2.symm⟩ (hd k k' c5 hk')
      rw [ek, y_m511 hsl.1]
      exact ⟨by omega, rfl⟩
    · have hfree : (s1.2.2.1 42 (hx_ (hm_ y1 y2) q)).toInt < 512 * σ := by omega
      have hnone : ∀ k, k < N → ¬ (lo k = y1 ∧ hi k = y2) := by
        intro k hk e
        obtain ⟨qk, q1, q2, q3⟩ := hp k hk
        rw [e.1, e.2] at q2 q3
        rcases Nat.lt_trichotomy qk q with c5 | c5 | c5
        · exact (hq2 qk c5).2 k q2 e
        · rw [c5] at q2
          omega
        · have := q3 q c5
          omega
      refine (xs_slot_39 (i0 := hx_ (hm_ y1 y2) q) h ix hlt hfree ⟨q, c, rfl, fun q' hq' => (hq2 q' hq').1⟩).mono (fun r s3 h3 => ?_)
      exact ⟨fun k hk e => absurd e (hnone k hk), fun _ => h3⟩
  · -- all slots hold a state: too many
    exfalso
    refine pg_hole 400 (fun i => ((s1.2.2.1 42 (hx_ (hm_ y1 y2) i)).toInt - 512 * σ).toNat) (fun i hi => ?_) (fun i j hi hj e => ?_)
    · show ((s1.2.2.1 42 (hx_ (hm_ y1 y2) i)).toInt - 512 * σ).toNat < 400
      have a := (hq2 i (by omega)).1
      have b := ho _ (hx_lt (h := hm_ y1 y2) (show i < 1024 by omega)) a
      omega
    · have e : ((s1.2.2.1 42 (hx_ (hm_ y1 y2) i)).toInt - 512 * σ).toNat = ((s1.2.2.1 42 (hx_ (hm_ y1 y2) j)).toInt - 512 * σ).toNat := e
      have a := (hq2 i (by omega)).1
      have b := (hq2 j (by omega)).1
      exact hx_inj (by omega) (by omega) (hinj _ _ (hx_lt (by omega)) (hx_lt (by omega)) a (by omega))
theorem xs_setOf_39 {k : Nat} (h1 : x1.toInt = (k : Int)) (hv : 0 ≤ (s.2.2.2.1 41 k).toInt) : am_SpI 101 [.ref 39, .int x1] s (fun r s2 => s2 = s ∧ r.toInt = (s.2.2.2.1 41 k).toInt / 4096 % 256) := by
  refine wp_XStates_setOf_39_ok ?_
  unfold wp_XStates_setOf_39
  have e1 : x1.toInt.toNat = k := by omega
  rw [e1]
  exact fun _ _ => ⟨rfl, x_dig (m := 12) (b := 8) hv (by decide) (by decide) (by decide)⟩
theorem xs_ahead_39 {k : Nat} (h1 : x1.toInt = (k : Int)) (hv : 0 ≤ (s.2.2.2.1 41 k).toInt) : am_SpI 102 [.ref 39, .int x1] s (fun r s2 => s2 = s ∧ r.toInt = (s.2.2.2.1 41 k).toInt / 1048576 % 256) := by
  refine wp_XStates_setAhead_39_ok ?_
  unfold wp_XStates_setAhead_39
  have e1 : x1.toInt.toNat = k := by omega
  rw [e1]
  exact fun _ _ => ⟨rfl, x_dig (m := 20) (b := 8) hv (by decide) (by decide) (by decide)⟩
theorem xs_number_39 {k i : Nat} (h1 : x1.toInt = (k : Int)) (h2 : x2.toInt = (i : Int)) (hi12 : i < 12) (hA : 0 ≤ (s.2.2.2.1 40 k).toInt) (hB : 0 ≤ (s.2.2.2.1 41 k).toInt) : am_SpI 103 [.ref 39, .int x1, .int x2] s (fun r s2 => s2 = s ∧ (i < 10 → r.toInt = (s.2.2.2.1 40 k).toInt / ((2 ^ (6 * i) : Nat) : Int) % 64) ∧ (¬ i < 10 → r.toInt = (s.2.2.2.1 41 k).toInt / ((2 ^ (6 * (i - 10)) : Nat) : Int) % 64)) := by
  refine wp_XStates_numberOf_39_ok ?_
  unfold wp_XStates_numberOf_39
  have e1 : x1.toInt.toNat = k := by omega
  have ex2 : x2 = Int32.ofInt (i : Int) := rx_ofI h2
  have k1 : ∀ i : Nat, i < 10 → ((Int32.ofInt (i : Int) * Int32.ofInt 6).toInt64.toUInt64 &&& Int64.toUInt64 63).toNat % 64 = 6 * i := by decide +kernel
  have k2 : ∀ i : Nat, i < 12 → ¬ i < 10 → (((Int32.ofInt (i : Int) - Int32.ofInt 10) * Int32.ofInt 6).toInt64.toUInt64 &&& Int64.toUInt64 63).toNat % 64 = 6 * (i - 10) := by decide +kernel
  rw [e1, h2]
  refine ⟨fun c _ _ => ⟨rfl, fun c2 => ?_, fun c2 => absurd (show i < 10 by omega) c2⟩, fun c _ _ => ⟨rfl, fun c2 => absurd (show (i : Int) < 10 by omega) c, fun c2 => ?_⟩⟩
  · rw [ex2]
    exact x_dig (b := 6) hA (k1 i c2) (by decide) (by decide)
  · rw [ex2]
    exact x_dig (b := 6) hB (k2 i hi12 c2) (by decide) (by decide)
theorem xs_clear_43 (h : hs_ 43 46 s σ) (hσ : σ < 30000) : am_SpV 96 [.ref 43] s (fun s2 => sg_fr [(43, 2), (43, 4)] [] s s2 ∧ ht_ 43 44 45 46 s2 (σ + 1) 0 (fun _ => 0) (fun _ => 0)) := by
  obtain ⟨h4, hr, hs⟩ := h
  refine wp_XStates_clear_43_ok ?_
  unfold wp_XStates_clear_43
  refine ⟨(sg_fr.rf.uI rfl).uI rfl, ⟨rfl, by omega⟩, ⟨?_, by omega, fun i hi => ?_⟩, fun i hi hc => ?_, fun i j hi hj hc _ => ?_, fun k hk => absurd hk (Nat.not_lt_zero k), fun k hk => absurd hk (Nat.not_lt_zero k)⟩
  · show (s.1 43 4 + Int32.ofInt 1).toInt = _
    rw [i32_inc (c := 0) (by omega) (by omega), h4]
  · have := hs i hi
    exact ⟨this.1, by have := this.2; show (s.2.2.1 46 i).toInt < _; omega⟩
  · have := (hs i hi).2
    have hc : 512 * (σ + 1) ≤ (s.2.2.1 46 i).toInt := hc
    omega
  · have := (hs i hi).2
    have hc : 512 * (σ + 1) ≤ (s.2.2.1 46 i).toInt := hc
    omega
theorem xs_slot_43 {i0 : Nat} (h : ht_ 43 44 45 46 s σ N lo hi) (h1 : x1.toInt = (i0 : Int)) (hi0 : i0 < 1024) (hfree : (s.2.2.1 46 i0).toInt < 512 * σ) (hpath : ∃ q, q < 1024 ∧ hx_ (hm_ y1 y2) q = i0 ∧ ∀ q', q' < q → 512 * σ ≤ (s.2.2.1 46 (hx_ (hm_ y1 y2) q')).toInt) : am_SpI 100 [.ref 43, .int x1, .long y1, .long y2] s (fun r s2 => (N = 400 → r.toInt = -4 ∧ s2 = s) ∧ (N < 400 → r.toInt = (N : Int) ∧ sg_fr [(43, 2)] [44, 45, 46] s s2 ∧ ht_ 43 44 45 46 s2 σ (N + 1) (fun k => if k = N then y1 else lo k) (fun k => if k = N then y2 else hi k))) := by
  obtain ⟨⟨h2, h400⟩, ⟨h4, hr, hs⟩, ho, hinj, hp, hv⟩ := h
  have z1 : (Int32.ofInt 1).toInt = 1 := rfl
  refine wp_XStates_layInSlot_43_ok ?_
  unfold wp_XStates_layInSlot_43
  refine ⟨fun c _ _ _ _ => ⟨fun z => by omega, fun _ => ?_⟩, fun c => ⟨fun _ => ⟨rfl, rfl⟩, fun z => absurd (show (s.1 43 2).toInt < 400 by omega) c⟩⟩
  have en : (s.1 43 2).toInt.toNat = N := by omega
  have ei : x1.toInt.toNat = i0 := by omega
  have hinc : (s.1 43 2 + Int32.ofInt 1).toInt = (N : Int) + 1 := by rw [i32_inc (c := 0) (by omega) (by omega), h2]
  have hval : ((s.1 43 4 <<< (Int32.ofInt 9 &&& 31)) ||| s.1 43 2).toInt = 512 * σ + (N : Int) := by rw [y_st (by omega) (by omega) (by omega) (by omega), h4, h2]
  rw [en, ei]
  generalize (s.1 43 4 <<< (Int32.ofInt 9 &&& 31)) ||| s.1 43 2 = V at hval
  have oC : ∀ i, (sg_uI (sg_uA (sg_uM (sg_uM s 44 N y1) 45 N y2) 46 i0 V) 43 2 (s.1 43 2 + Int32.ofInt 1)).2.2.1 46 i = if i = i0 then V else s.2.2.1 46 i := fun i => by
    show (if 46 = 46 ∧ i = i0 then V else s.2.2.1 46 i) = _
    simp
  have oA : ∀ k, (sg_uI (sg_uA (sg_uM (sg_uM s 44 N y1) 45 N y2) 46 i0 V) 43 2 (s.1 43 2 + Int32.ofInt 1)).2.2.2.1 44 k = if k = N then y1 else s.2.2.2.1 44 k := fun k => by
    show (if 44 = 45 ∧ k = N then y2 else if 44 = 44 ∧ k = N then y1 else s.2.2.2.1 44 k) = _
    simp
  have oB : ∀ k, (sg_uI (sg_uA (sg_uM (sg_uM s 44 N y1) 45 N y2) 46 i0 V) 43 2 (s.1 43 2 + Int32.ofInt 1)).2.2.2.1 45 k = if k = N then y2 else s.2.2.2.1 45 k := fun k => by
    show (if 45 = 45 ∧ k = N then y2 else if 45 = 44 ∧ k = N then y1 else s.2.2.2.1 45 k) = _
    simp
  refine ⟨by rw [i32_sub (by omega) (by omega), hinc, z1]; omega, (((sg_fr.rf.uM rfl).uM rfl).uA rfl).uI rfl, ⟨by show (s.1 43 2 + Int32.ofInt 1).toInt = ((N + 1 : Nat) : Int); rw [hinc]; omega, by omega⟩, ⟨h4, hr, fun i hi => ?_⟩, fun i hi hc => ?_, fun i j hi hj hc e => ?_, fun k hk => ?_, fun k hk => ?_⟩
  · rw [oC i]
    by_cases c2 : i = i0
    · rw [if_pos c2]; omega
    · rw [if_neg c2]; exact hs i hi
  · rw [oC i] at hc ⊢
    by_cases c2 : i = i0
    · rw [if_pos c2]; omega
    · rw [if_neg c2] at hc ⊢
      have := ho i hi hc
      omega
  · rw [oC i] at hc e
    rw [oC j] at e
    by_cases c2 : i = i0
    · by_cases c3 : j = i0
      · omega
      · rw [if_pos c2, if_neg c3] at e
        have := ho j hj (by omega)
        omega
    · rw [if_neg c2] at hc e
      by_cases c3 : j = i0
      · rw [if_pos c3] at e
        have := ho i hi hc
        omega
      · rw [if_neg c3] at e
        exact hinj i j hi hj hc e
  · by_cases c2 : k = N
    · obtain ⟨q, q1, q2, q3⟩ := hpath
      refine ⟨q, q1, ?_, fun q' hq' => ?_⟩
      · show ((sg_uI (sg_uA (sg_uM (sg_uM s 44 N y1) 45 N y2) 46 i0 V) 43 2 (s.1 43 2 + Int32.ofInt 1)).2.2.1 46 (hx_ (hm_ (if k = N then y1 else lo k) (if k = N then y2 else hi k)) q)).toInt = _
        rw [if_pos c2, if_pos c2, q2, oC i0, if_pos rfl, hval, c2]
      · show 512 * σ ≤ ((sg_uI (sg_uA (sg_uM (sg_uM s 44 N y1) 45 N y2) 46 i0 V) 43 2 (s.1 43 2 + Int32.ofInt 1)).2.2.1 46 (hx_ (hm_ (if k = N then y1 else lo k) (if k = N then y2 else hi k)) q')).toInt
        rw [if_pos c2, if_pos c2, oC]
        by_cases c3 : hx_ (hm_ y1 y2) q' = i0
        · rw [if_pos c3]; omega
        · rw [if_neg c3]; exact q3 q' hq'
    · obtain ⟨q, q1, q2, q3⟩ := hp k (by omega)
      refine ⟨q, q1, ?_, fun q' hq' => ?_⟩
      · show ((sg_uI (sg_uA (sg_uM (sg_uM s 44 N y1) 45 N y2) 46 i0 V) 43 2 (s.1 43 2 + Int32.ofInt 1)).2.2.1 46 (hx_ (hm_ (if k = N then y1 else lo k) (if k = N then y2 else hi k)) q)).toInt = _
        rw [if_neg c2, if_neg c2, oC, if_neg (fun z => by rw [z] at q2; omega)]
        exact q2
      · show 512 * σ ≤ ((sg_uI (sg_uA (sg_uM (sg_uM s 44 N y1) 45 N y2) 46 i0 V) 43 2 (s.1 43 2 + Int32.ofInt 1)).2.2.1 46 (hx_ (hm_ (if k = N then y1 else lo k) (if k = N then y2 else hi k)) q')).toInt
        rw [if_neg c2, if_neg c2, oC]
        by_cases c3 : hx_ (hm_ (lo k) (hi k)) q' = i0
        · rw [if_pos c3]; omega
        · rw [if_neg c3]; exact q3 q' hq'
  · rw [oA k, oB k]
    show (if k = N then y1 else _) = (if k = N then y1 else lo k) ∧ (if k = N then y2 else _) = (if k = N then y2 else hi k)
    by_cases c2 : k = N
    · rw [if_pos c2, if_pos c2, if_pos c2, if_pos c2]
      exact ⟨rfl, rfl⟩
    · rw [if_neg c2, if_neg c2, if_neg c2, if_neg c2]
      exact hv k (by omega)
/-- a state is laid down, or found -/
theorem xs_lay_43 (h : ht_ 43 44 45 46 s σ N lo hi) (hd : ∀ j k, j < k → k < N → ¬ (lo j = lo k ∧ hi j = hi k)) : am_SpI 99 [.ref 43, .long y1, .long y2] s (fun r s2 => (∀ k, k < N → lo k = y1 ∧ hi k = y2 → r.toInt = (k : Int) ∧ s2 = s) ∧ ((∀ k, k < N → ¬ (lo k = y1 ∧ hi k = y2)) → (N = 400 → r.toInt = -4 ∧ s2 = s) ∧ (N < 400 → r.toInt = (N : Int) ∧ sg_fr [(43, 2)] [44, 45, 46] s s2 ∧ ht_ 43 44 45 46 s2 σ (N + 1) (fun k => if k = N then y1 else lo k) (fun k => if k = N then y2 else hi k)))) := by
  obtain ⟨⟨h2, h400⟩, ⟨h4, hr, hs⟩, ho, hinj, hp, hv⟩ := id h
  refine wp_XStates_lay_43_ok (I30 := fun l7 l8 s1 => s1 = s ∧ l7 = hm_ y1 y2 ∧ ∃ q : Nat, l8.toInt = (q : Int) ∧ q ≤ 1024 ∧ ∀ r, r < q → 512 * σ ≤ (s.2.2.1 46 (hx_ (hm_ y1 y2) r)).toInt ∧ ∀ k : Nat, (s.2.2.1 46 (hx_ (hm_ y1 y2) r)).toInt = 512 * σ + (k : Int) → ¬ (lo k = y1 ∧ hi k = y2)) ?_ ⟨rfl, rfl, 0, rfl, by omega, fun r hr => absurd hr (Nat.not_lt_zero r)⟩
  intro l7 l8 s1 hI
  obtain ⟨rfl, rfl, q, h8, hq, hq2⟩ := hI
  unfold wp_XStates_lay_43_30
  by_cases c : q < 1024
  · have e8 : l8 = Int32.ofInt (q : Int) := rx_ofI h8
    have ix : ((hm_ y1 y2 + l8) &&& Int32.ofInt 1023).toInt = ((hx_ (hm_ y1 y2) q : Nat) : Int) := by rw [e8]; exact (hx_eq c).2
    have hlt := hx_lt (h := hm_ y1 y2) c
    have hsl := hs (hx_ (hm_ y1 y2) q) hlt
    rw [ix, Int.toNat_natCast]
    refine ⟨fun _ _ _ => ?_, fun c2 => absurd (show l8.toInt < 1024 by omega) c2⟩
    rw [y_s9 hsl.1, y_m511 hsl.1, h4]
    have hinc : (l8 + Int32.ofInt 1).toInt = ((q + 1 : Nat) : Int) := by
      rw [i32_inc (c := 0) (by omega) (by omega), h8]
      rfl
    refine ⟨fun c2 _ _ => ?_, fun c2 => ?_⟩
    · obtain ⟨k, hk⟩ : ∃ k : Nat, (s1.2.2.1 46 (hx_ (hm_ y1 y2) q)).toInt = 512 * σ + (k : Int) := ⟨((s1.2.2.1 46 (hx_ (hm_ y1 y2) q)).toInt - 512 * σ).toNat, by omega⟩
      have hkN : k < N := by
        have := ho _ hlt (by omega)
        omega
      have em : ((s1.2.2.1 46 (hx_ (hm_ y1 y2) q)).toInt % 512).toNat = k := by omega
      rw [em, (hv k hkN).1, (hv k hkN).2]
      have next : ¬ (lo k = y1 ∧ hi k = y2) → s1 = s1 ∧ hm_ y1 y2 = hm_ y1 y2 ∧ ∃ q : Nat, (l8 + Int32.ofInt 1).toInt = (q : Int) ∧ q ≤ 1024 ∧ ∀ r, r < q → 512 * σ ≤ (s1.2.2.1 46 (hx_ (hm_ y1 y2) r)).toInt ∧ ∀ k : Nat, (s1.2.2.1 46 (hx_ (hm_ y1 y2) r)).toInt = 512 * σ + (k : Int) → ¬ (lo k = y1 ∧ hi k = y2) := by
        intro hn
        refine ⟨rfl, rfl, q + 1, hinc, by omega, fun r hr => ?_⟩
        by_cases er : r = q
        · subst er
          refine ⟨by omega, fun k' hk' => ?_⟩
          obtain rfl : k' = k := by omega
          exact hn
        · exact hq2 r (by omega)
      refine ⟨fun c3 => ⟨fun c4 => ⟨fun k' hk' e => ?_, fun z => absurd ⟨c3, c4⟩ (z k hkN)⟩, fun c4 => next (fun z => c4 z.2)⟩, fun c3 => next (fun z => c3 z.1)⟩
      have ek : k' = k := by
        rcases Nat.lt_trichotomy k' k with c5 | c5 | c5
        · exact absurd ⟨e.1.trans c3.symm, e.2.trans c4.symm⟩ (hd k' k c5 hkN)
        · exact c5
        · exact absurd ⟨c3.trans e.1.symm, c4.trans e.2.symm⟩ (hd k k' c5 hk')
      rw [ek, y_m511 hsl.1]
      exact ⟨by omega, rfl⟩
    · have hfree : (s1.2.2.1 46 (hx_ (hm_ y1 y2) q)).toInt < 512 * σ := by omega
      have hnone : ∀ k, k < N → ¬ (lo k = y1 ∧ hi k = y2) := by
        intro k hk e
        obtain ⟨qk, q1, q2, q3⟩ := hp k hk
        rw [e.1, e.2] at q2 q3
        rcases Nat.lt_trichotomy qk q with c5 | c5 | c5
        · exact (hq2 qk c5).2 k q2 e
        · rw [c5] at q2
          omega
        · have := q3 q c5
          omega
      refine (xs_slot_43 (i0 := hx_ (hm_ y1 y2) q) h ix hlt hfree ⟨q, c, rfl, fun q' hq' => (hq2 q' hq').1⟩).mono (fun r s3 h3 => ?_)
      exact ⟨fun k hk e => absurd e (hnone k hk), fun _ => h3⟩
  · -- all slots hold a state: too many
    exfalso
    refine pg_hole 400 (fun i => ((s1.2.2.1 46 (hx_ (hm_ y1 y2) i)).toInt - 512 * σ).toNat) (fun i hi => ?_) (fun i j hi hj e => ?_)
    · show ((s1.2.2.1 46 (hx_ (hm_ y1 y2) i)).toInt - 512 * σ).toNat < 400
      have a := (hq2 i (by omega)).1
      have b := ho _ (hx_lt (h := hm_ y1 y2) (show i < 1024 by omega)) a
      omega
    · have e : ((s1.2.2.1 46 (hx_ (hm_ y1 y2) i)).toInt - 512 * σ).toNat = ((s1.2.2.1 46 (hx_ (hm_ y1 y2) j)).toInt - 512 * σ).toNat := e
      have a := (hq2 i (by omega)).1
      have b := (hq2 j (by omega)).1
      exact hx_inj (by omega) (by omega) (hinj _ _ (hx_lt (by omega)) (hx_lt (by omega)) a (by omega))
theorem xs_setOf_43 {k : Nat} (h1 : x1.toInt = (k : Int)) (hv : 0 ≤ (s.2.2.2.1 45 k).toInt) : am_SpI 101 [.ref 43, .int x1] s (fun r s2 => s2 = s ∧ r.toInt = (s.2.2.2.1 45 k).toInt / 4096 % 256) := by
  refine wp_XStates_setOf_43_ok ?_
  unfold wp_XStates_setOf_43
  have e1 : x1.toInt.toNat = k := by omega
  rw [e1]
  exact fun _ _ => ⟨rfl, x_dig (m := 12) (b := 8) hv (by decide) (by decide) (by decide)⟩
theorem xs_ahead_43 {k : Nat} (h1 : x1.toInt = (k : Int)) (hv : 0 ≤ (s.2.2.2.1 45 k).toInt) : am_SpI 102 [.ref 43, .int x1] s (fun r s2 => s2 = s ∧ r.toInt = (s.2.2.2.1 45 k).toInt / 1048576 % 256) := by
  refine wp_XStates_setAhead_43_ok ?_
  unfold wp_XStates_setAhead_43
  have e1 : x1.toInt.toNat = k := by omega
  rw [e1]
  exact fun _ _ => ⟨rfl, x_dig (m := 20) (b := 8) hv (by decide) (by decide) (by decide)⟩
theorem xs_number_43 {k i : Nat} (h1 : x1.toInt = (k : Int)) (h2 : x2.toInt = (i : Int)) (hi12 : i < 12) (hA : 0 ≤ (s.2.2.2.1 44 k).toInt) (hB : 0 ≤ (s.2.2.2.1 45 k).toInt) : am_SpI 103 [.ref 43, .int x1, .int x2] s (fun r s2 => s2 = s ∧ (i < 10 → r.toInt = (s.2.2.2.1 44 k).toInt / ((2 ^ (6 * i) : Nat) : Int) % 64) ∧ (¬ i < 10 → r.toInt = (s.2.2.2.1 45 k).toInt / ((2 ^ (6 * (i - 10)) : Nat) : Int) % 64)) := by
  refine wp_XStates_numberOf_43_ok ?_
  unfold wp_XStates_numberOf_43
  have e1 : x1.toInt.toNat = k := by omega
  have ex2 : x2 = Int32.ofInt (i : Int) := rx_ofI h2
  have k1 : ∀ i : Nat, i < 10 → ((Int32.ofInt (i : Int) * Int32.ofInt 6).toInt64.toUInt64 &&& Int64.toUInt64 63).toNat % 64 = 6 * i := by decide +kernel
  have k2 : ∀ i : Nat, i < 12 → ¬ i < 10 → (((Int32.ofInt (i : Int) - Int32.ofInt 10) * Int32.ofInt 6).toInt64.toUInt64 &&& Int64.toUInt64 63).toNat % 64 = 6 * (i - 10) := by decide +kernel
  rw [e1, h2]
  refine ⟨fun c _ _ => ⟨rfl, fun c2 => ?_, fun c2 => absurd (show i < 10 by omega) c2⟩, fun c _ _ => ⟨rfl, fun c2 => absurd (show (i : Int) < 10 by omega) c, fun c2 => ?_⟩⟩
  · rw [ex2]
    exact x_dig (b := 6) hA (k1 i c2) (by decide) (by decide)
  · rw [ex2]
    exact x_dig (b := 6) hB (k2 i hi12 c2) (by decide) (by decide)
end SS
theorem xs_clear {F : Nat} (hF : F = 39 ∨ F = 43) {s : sg_S} {σ : Int} (h : hs_ F (F + 3) s σ) (hσ : σ < 30000) : am_SpV 96 [.ref F] s (fun s2 => sg_fr [(F, 2), (F, 4)] [] s s2 ∧ ht_ F (F + 1) (F + 2) (F + 3) s2 (σ + 1) 0 (fun _ => 0) (fun _ => 0)) := by
  rcases hF with rfl | rfl
  · exact xs_clear_39 h hσ
  · exact xs_clear_43 h hσ
theorem xs_lay {F : Nat} (hF : F = 39 ∨ F = 43) {s : sg_S} {σ : Int} {N : Nat} {lo hi : Nat → Int64} {y1 y2 : Int64} (h : ht_ F (F + 1) (F + 2) (F + 3) s σ N lo hi) (hd : ∀ j k, j < k → k < N → ¬ (lo j = lo k ∧ hi j = hi k)) : am_SpI 99 [.ref F, .long y1, .long y2] s (fun r s2 => (∀ k, k < N → lo k = y1 ∧ hi k = y2 → r.toInt = (k : Int) ∧ s2 = s) ∧ ((∀ k, k < N → ¬ (lo k = y1 ∧ hi k = y2)) → (N = 400 → r.toInt = -4 ∧ s2 = s) ∧ (N < 400 → r.toInt = (N : Int) ∧ sg_fr [(F, 2)] [F + 1, F + 2, F + 3] s s2 ∧ ht_ F (F + 1) (F + 2) (F + 3) s2 σ (N + 1) (fun k => if k = N then y1 else lo k) (fun k => if k = N then y2 else hi k)))) := by
  rcases hF with rfl | rfl
  · exact xs_lay_39 h hd
  · exact xs_lay_43 h hd
theorem xs_setOf {F : Nat} (hF : F = 39 ∨ F = 43) {s : sg_S} {x1 : Int32} {k : Nat} (h1 : x1.toInt = (k : Int)) (hv : 0 ≤ (s.2.2.2.1 (F + 2) k).toInt) : am_SpI 101 [.ref F, .int x1] s (fun r s2 => s2 = s ∧ r.toInt = (s.2.2.2.1 (F + 2) k).toInt / 4096 % 256) := by
  rcases hF with rfl | rfl
  · exact xs_setOf_39 h1 hv
  · exact xs_setOf_43 h1 hv
theorem xs_ahead {F : Nat} (hF : F = 39 ∨ F = 43) {s : sg_S} {x1 : Int32} {k : Nat} (h1 : x1.toInt = (k : Int)) (hv : 0 ≤ (s.2.2.2.1 (F + 2) k).toInt) : am_SpI 102 [.ref F, .int x1] s (fun r s2 => s2 = s ∧ r.toInt = (s.2.2.2.1 (F + 2) k).toInt / 1048576 % 256) := by
  rcases hF with rfl | rfl
  · exact xs_ahead_39 h1 hv
  · exact xs_ahead_43 h1 hv
theorem xs_number {F : Nat} (hF : F = 39 ∨ F = 43) {s : sg_S} {x1 x2 : Int32} {k i : Nat} (h1 : x1.toInt = (k : Int)) (h2 : x2.toInt = (i : Int)) (hi12 : i < 12) (hA : 0 ≤ (s.2.2.2.1 (F + 1) k).toInt) (hB : 0 ≤ (s.2.2.2.1 (F + 2) k).toInt) : am_SpI 103 [.ref F, .int x1, .int x2] s (fun r s2 => s2 = s ∧ (i < 10 → r.toInt = (s.2.2.2.1 (F + 1) k).toInt / ((2 ^ (6 * i) : Nat) : Int) % 64) ∧ (¬ i < 10 → r.toInt = (s.2.2.2.1 (F + 2) k).toInt / ((2 ^ (6 * (i - 10)) : Nat) : Int) % 64)) := by
  rcases hF with rfl | rfl
  · exact xs_number_39 h1 h2 hi12 hA hB
  · exact xs_number_43 h1 h2 hi12 hA hB
