/-! ===== verse, breaks, back, worn: what they answer and leave ===== -/
def wc_ (w : Nat → Int32) : Nat → Int
  | 0 => 0
  | m + 1 => wc_ w m + (if (w m).toInt = 0 then 0 else 1)
theorem wc_rng (w : Nat → Int32) : ∀ m : Nat, 0 ≤ wc_ w m ∧ wc_ w m ≤ (m : Int) := by
  intro m
  induction m with
  | zero => exact ⟨Int.le_refl _, Int.le_refl _⟩
  | succ m ih =>
    show 0 ≤ wc_ w m + (if (w m).toInt = 0 then 0 else 1) ∧ wc_ w m + (if (w m).toInt = 0 then 0 else 1) ≤ ((m + 1 : Nat) : Int)
    split <;> omega
theorem wc_congr {w u : Nat → Int32} : ∀ m : Nat, (∀ v, v < m → w v = u v) → wc_ w m = wc_ u m := by
  intro m
  induction m with
  | zero => intro _; rfl
  | succ m ih =>
    intro h
    show wc_ w m + (if (w m).toInt = 0 then 0 else 1) = wc_ u m + (if (u m).toInt = 0 then 0 else 1)
    rw [ih (fun v hv => h v (by omega)), h m (by omega)]
/-- one more, one less: an element of the first m is changed -/
theorem wc_upd {w : Nat → Int32} {p : Nat} {v : Int32} : ∀ m : Nat, p < m → wc_ (fun i => if i = p then v else w i) m = wc_ w m - (if (w p).toInt = 0 then 0 else 1) + (if v.toInt = 0 then 0 else 1) := by
  intro m
  induction m with
  | zero => intro h; omega
  | succ m ih =>
    intro h
    show wc_ (fun i => if i = p then v else w i) m + (if (if m = p then v else w m).toInt = 0 then 0 else 1) = wc_ w m + (if (w m).toInt = 0 then 0 else 1) - (if (w p).toInt = 0 then 0 else 1) + (if v.toInt = 0 then 0 else 1)
    by_cases e : m = p
    · rw [if_pos e, wc_congr m (fun i hi => if_neg (show ¬ i = p by omega)), e]
      omega
    · rw [if_neg e, ih (by omega)]
      omega
theorem fb_cg {P Q : Nat → Prop} {R : Nat} {r : Int} (h : ∀ k, k < R → (P k ↔ Q k)) (h1 : fb_ P R r) : fb_ Q R r := by
  rcases h1 with ⟨a1, a2⟩ | ⟨i, a1, a2, a3, a4⟩
  · exact Or.inl ⟨a1, fun k hk z => a2 k hk ((h k hk).mpr z)⟩
  · exact Or.inr ⟨i, a1, a2, (h i a2).mp a3, fun k hk z => a4 k hk ((h k (by omega)).mpr z)⟩
section VE
variable {s : sg_S} {x1 x2 x3 x4 : Int32} {T : rp_T} {n m : Nat}
theorem sm_worns (hm : (s.1 64 40).toInt = (m : Int)) (h48 : m ≤ 48) : am_SpI 183 [.ref 64] s (fun r s2 => s2 = s ∧ r.toInt = wc_ (s.2.2.1 86) m) := by
  have z0 : (Int32.ofInt 0).toInt = 0 := rfl
  refine wp_M_worns_ok (I4 := fun l1 l2 s1 => s1 = s ∧ ∃ k : Nat, l2.toInt = (k : Int) ∧ k ≤ m ∧ l1.toInt = wc_ (s.2.2.1 86) k) ?_ ⟨rfl, 0, rfl, Nat.zero_le _, rfl⟩
  intro l1 l2 s1 hI
  obtain ⟨rfl, k, hk, hkm, e⟩ := hI
  have hr := wc_rng (s1.2.2.1 86) k
  have hst : wc_ (s1.2.2.1 86) (k + 1) = wc_ (s1.2.2.1 86) k + (if (s1.2.2.1 86 k).toInt = 0 then 0 else 1) := rfl
  unfold wp_M_worns_4
  refine ⟨fun c1 i1 i2 => ?_, fun c1 => ⟨rfl, by rw [e, show k = m by omega]⟩⟩
  have ek : l2.toInt.toNat = k := by omega
  have hinc : (l2 + Int32.ofInt 1).toInt = ((k + 1 : Nat) : Int) := by
    rw [i32_inc (c := 0) (by omega) (by omega), hk]
    rfl
  rw [ek]
  refine ⟨fun c2 => ⟨rfl, k + 1, hinc, by omega, ?_⟩, fun c2 => ⟨rfl, k + 1, hinc, by omega, ?_⟩⟩
  · rw [hst, if_pos c2, i32_add (by omega) (by omega), z0, e]
  · rw [hst, if_neg c2, i32_inc (c := 0) (by omega) (by omega), e]
/-- what X's look at the next verse needs -/
def vx_ok (T : rp_T) (s : sg_S) (n m : Nat) : Prop := rp_ok T ∧ rk_ T ∧ rx_RU T s ∧ ((s.1 18 1).toInt = (n : Int) ∧ n ≤ 100 ∧ (∀ i, i < n → 0 ≤ (s.2.2.1 20 i).toInt) ∧ ∀ i, i < n → 0 ≤ (s.2.2.1 19 i).toInt) ∧ (0 ≤ T.2.2.2.1 ∧ T.2.2.2.1 ≤ 48) ∧ (s.1 28 2).toInt = (m : Int) ∧ (∀ i, i < 64 → -9 ≤ (s.2.2.1 23 i).toInt ∧ (s.2.2.1 23 i).toInt ≤ 9) ∧ ∀ k, k < T.2.2.1 → (s.2.2.1 34 (12 * m + k)).toInt = nb_ (rp_rl T k) (fun v => s.2.2.1 30 (v + 1)) m
theorem sx_next1 (h : vx_ok T s n m) (hlt : (m : Int) < T.2.2.2.1) : am_SpI 133 [.ref 0, .int x1, .int x2, .int x3] s (fun r s2 => sg_fr [] [30, 32, 34] s s2 ∧ (s2.2.2.1 30 = fun i => if i = m + 1 then g3_ (s.2.2.1 19) (s.2.2.1 20) (s.2.2.1 21) n (s.1 18 0).toInt x1 x2 x3 else s.2.2.1 30 i) ∧ (s2.2.2.1 32 (3 * (m + 1)) = x1 ∧ s2.2.2.1 32 (3 * (m + 1) + 1) = x2 ∧ s2.2.2.1 32 (3 * (m + 1) + 2) = x3 ∧ ∀ i, i < 3 * (m + 1) → s2.2.2.1 32 i = s.2.2.1 32 i) ∧ (∀ k, k < T.2.2.1 → (s2.2.2.1 34 (12 * (m + 1) + k)).toInt = nb_ (rp_rl T k) (fun v => s2.2.2.1 30 (v + 1)) (m + 1)) ∧ (∀ i, i < 12 * (m + 1) → s2.2.2.1 34 i = s.2.2.1 34 i) ∧ fb_ (fun k => bx_ (s.2.2.1 23) (s2.2.2.1 32) (s2.2.2.1 30) (rp_rl T k) (nb_ (rp_rl T k) (fun v => s.2.2.1 30 (v + 1)) m) (m + 1) T.2.2.2.1) T.2.2.1 r.toInt) := by
  obtain ⟨hT, hk, hU, ⟨hn, h100, hy, hw⟩, hl, hm, ht, hnum⟩ := h
  have h12 := hT.2.2.1
  have z1 : (Int32.ofInt 1).toInt = 1 := rfl
  have hp : (s.1 28 2 + Int32.ofInt 1).toInt = ((m + 1 : Nat) : Int) := by
    rw [i32_inc (c := 0) (by omega) (by omega), hm]
    rfl
  refine wp_X_brokenByNext_ok ?_
  unfold wp_X_brokenByNext
  refine (sx_set3 hn h100 hy hw).mono (fun v s1 h1 => ?_)
  obtain ⟨rfl, hv⟩ := h1
  have hno : ∀ k, k < T.2.2.1 → no_ (rp_rl T k).1.toInt (rp_rl T k).2.2.1.toInt 48 (s1.2.2.1 34 (12 * (m + 1 - 1) + k)).toInt := by
    intro k hkR
    obtain ⟨r1, r2, r3⟩ := hk k hkR
    rw [Nat.add_sub_cancel, hnum k hkR]
    obtain ⟨a1, a2, a3, a4⟩ := nb_no (ρ := rp_rl T k) (sf := fun v => s1.2.2.1 30 (v + 1)) r2.1 m
    exact ⟨a1, fun c => by have := a2 c; omega, a3, a4⟩
  refine (sx_lay (p := m + 1) hU hk rfl h12 hp (by omega) (by omega) hno).mono (fun s2 h2 => ?_)
  obtain ⟨f, g30, g32, g34, g34b⟩ := h2
  have hU2 : rx_RU T s2 := hU.fr f (by decide) (by decide)
  have e30 : ∀ w, w < m → s2.2.2.1 30 (w + 1) = s1.2.2.1 30 (w + 1) := fun w hw => by
    rw [g30]
    exact if_neg (by omega)
  have enb : ∀ k, nb_ (rp_rl T k) (fun v => s2.2.2.1 30 (v + 1)) m = nb_ (rp_rl T k) (fun v => s1.2.2.1 30 (v + 1)) m := fun k => nb_congr m e30
  have e34 : ∀ k, k < T.2.2.1 → (s2.2.2.1 34 (12 * (m + 1 - 1) + k)).toInt = nb_ (rp_rl T k) (fun v => s1.2.2.1 30 (v + 1)) m := fun k hkR => by
    rw [g34b _ (by omega), Nat.add_sub_cancel, hnum k hkR]
  have hb : ∀ k, k < T.2.2.1 → 0 ≤ (s2.2.2.1 34 (12 * (m + 1 - 1) + k)).toInt ∧ (s2.2.2.1 34 (12 * (m + 1 - 1) + k)).toInt ≤ 48 := by
    intro k hkR
    obtain ⟨r1, r2, r3⟩ := hk k hkR
    rw [e34 k hkR]
    exact no_le r1.1 r2.2 (p := (m : Int)) (by omega) (by omega) (nb_no r2.1 m)
  have ht2 : ∀ i, i < 64 → -9 ≤ (s2.2.2.1 23 i).toInt ∧ (s2.2.2.1 23 i).toInt ≤ 9 := by
    rw [f.a rfl]
    exact ht
  refine (sx_first (p := m + 1) hU2 hk rfl h12 rfl hl hp (by omega) (by omega) ht2 hb).mono (fun r s3 h3 => ?_)
  obtain ⟨rfl, h3⟩ := h3
  refine ⟨f, by rw [g30, hv], g32, fun k hkR => ?_, g34b, ?_⟩
  · rw [g34 k hkR, Nat.add_sub_cancel, hnum k hkR]
    show _ = nx_ _ _ (nb_ (rp_rl T k) (fun v => s3.2.2.1 30 (v + 1)) m) (hb_ _ (s3.2.2.1 30 (m + 1)))
    rw [enb k]
    have : s3.2.2.1 30 (m + 1) = v := by
      rw [g30]
      exact if_pos rfl
    rw [this]
  · rw [f.a (b := 23) rfl] at h3
    exact fb_cg (fun k hkR => by rw [e34 k hkR]) h3
/-- breaks -/
theorem sx_Breaks (h : vx_ok T s n m) : am_SpI 134 [.ref 0, .int x1, .int x2, .int x3] s (fun r s2 => (¬ ((m : Int) < T.2.2.2.1 ∧ aw_ x1 x2 x3) → r.toInt = -2 ∧ s2 = s) ∧ ((m : Int) < T.2.2.2.1 ∧ aw_ x1 x2 x3 → (0 < (s.1 28 3).toInt → r.toInt = -9 ∧ s2 = s) ∧ (¬ 0 < (s.1 28 3).toInt → sg_fr [] [30, 32, 34] s s2 ∧ (∀ i, i ≤ m → s2.2.2.1 30 i = s.2.2.1 30 i) ∧ (∀ i, i < 3 * (m + 1) → s2.2.2.1 32 i = s.2.2.1 32 i) ∧ (∀ i, i < 12 * (m + 1) → s2.2.2.1 34 i = s.2.2.1 34 i) ∧ ∃ W F : Nat → Int32, (F = fun i => if i = m + 1 then g3_ (s.2.2.1 19) (s.2.2.1 20) (s.2.2.1 21) n (s.1 18 0).toInt x1 x2 x3 else s.2.2.1 30 i) ∧ (W (3 * (m + 1)) = x1 ∧ W (3 * (m + 1) + 1) = x2 ∧ W (3 * (m + 1) + 2) = x3 ∧ ∀ i, i < 3 * (m + 1) → W i = s.2.2.1 32 i) ∧ fb_ (fun k => bx_ (s.2.2.1 23) W F (rp_rl T k) (nb_ (rp_rl T k) (fun v => s.2.2.1 30 (v + 1)) m) (m + 1) T.2.2.2.1) T.2.2.1 r.toInt))) := by
  obtain ⟨hT, hk, hU, hbook, hl, hm, ht, hnum⟩ := id h
  have e13 : (s.1 1 3).toInt = T.2.2.2.1 := hU.2.2.2.1
  refine wp_X_breaks_ok ?_
  unfold wp_X_breaks
  rw [hm, e13]
  refine ⟨fun c => sx_words.mono (fun y s1 hy => ?_), fun c => ⟨fun _ => ⟨rfl, rfl⟩, fun z => absurd z.1 c⟩⟩
  obtain rfl := hy.eq
  refine ⟨fun d => ⟨fun _ => ⟨rfl, rfl⟩, fun z => absurd z.2 (hy.no d)⟩, fun d => ⟨fun e => ⟨fun z => absurd ⟨c, hy.yes d⟩ z, fun _ => ⟨fun _ => ⟨rfl, rfl⟩, fun z => absurd e z⟩⟩, fun e => (sx_next1 h c).mono (fun r s2 h2 => ?_)⟩⟩
  obtain ⟨f, g30, g32, g34, g34b, hfb⟩ := h2
  exact ⟨fun z => absurd ⟨c, hy.yes d⟩ z, fun _ => ⟨fun z => absurd z e, fun _ => ⟨f, fun i hi => by rw [g30]; exact if_neg (by omega), g32.2.2.2, g34b, s2.2.2.1 32, s2.2.2.1 30, g30, g32, hfb⟩⟩⟩
end VE
