/-! ===== calls ===== -/
def am_w (r : am_M) : List Cond := Cond.code (am_y r) (am_b r) (am_L r) (am_rt r) :: lw_good
def am_rm (d : Nat) (r : am_M) : Room := { frames := d, cells := (am_k r).1, slots := (am_k r).2, locals := 64 * d }
/-- what is given of the start and stays: the links of nest mates, the text, two statics -/
def am_X (G : am_G) (U : State) : Prop := (∀ w ∈ am_nest, va_Nw w U) ∧ (∃ tx, vk_R RX5 26 tx G.2.2 U) ∧ (∃ adV : Nat, vk_S 1 [69] [am_txt] (fun _ => G.2.2) (fun _ => adV) (am_A G) U U.heap) ∧ va_Z "java/lang/String" "COMPACT_STRINGS" "Z" (.int 1) (am_A G) U U.heap ∧ ∃ v, (v = Value.null ∨ ∃ q, v = Value.ref q) ∧ va_Z "jdk/internal/util/Preconditions" "SIOOBE_FORMATTER" "Ljava/util/function/BiFunction;" v (am_A G) U U.heap
theorem am_nest_link : ∀ w ∈ am_nest, ∃ a i x h, w = Cond.methodLinkNest a i x h := by
  intro w hw
  simp only [am_nest, List.mem_cons, List.not_mem_nil, or_false] at hw
  rcases hw with rfl | rfl | rfl | rfl | rfl | rfl <;> exact ⟨_, _, _, _, rfl⟩
theorem am_X.to {G : am_G} {s U : State} {H : Heap} {locs : List Loc} (h : am_X G s) (hS : va_S (am_A G) s.heap H locs) (hU : U.heap = H) (hW : s.WarmedH U.vm) : am_X G U := by
  subst hU
  obtain ⟨h1, ⟨tx, h2⟩, ⟨adV, h3⟩, h4, v, hv, h5⟩ := h
  refine ⟨fun w hw => ?_, ⟨tx, h2.warm hW⟩, ⟨adV, (h3.kept hS.2.1).moved hW.alike⟩, (h4.kept hS.2.1).moved hW.alike, v, hv, (h5.kept hS.2.1).moved hW.alike⟩
  obtain ⟨a, i, x, q, rfl⟩ := am_nest_link w hw
  exact va_Nw.warmM hW (h1 _ hw)
theorem am_X.calling {G : am_G} {U : State} (h : am_X G U) (g : JFrame) (mk : MethodId) (a : Array Value) : am_X G (U.calling g mk a) := by
  obtain ⟨h1, ⟨tx, h2⟩, ⟨adV, h3⟩, h4, v, hv, h5⟩ := h
  refine ⟨fun w hw => ?_, ⟨tx, vk_R.same (u := U) rfl h2⟩, ⟨adV, vk_S.moved (u := U) (U := U.calling g mk a) (Vm.Alike.refl U.vm) h3⟩, va_Z.moved (u := U) (U := U.calling g mk a) (Vm.Alike.refl U.vm) h4, v, hv, va_Z.moved (u := U) (U := U.calling g mk a) (Vm.Alike.refl U.vm) h5⟩
  obtain ⟨a, i, x, q, rfl⟩ := am_nest_link w hw
  exact va_Nw.same (u := U) rfl rfl (h1 _ hw)
def am_Pc (G : am_G) (cy dC : Nat → ClassId) (dI : Nat → Nat → Nat) (al : Bool) (h : am_H) (U : State) : Prop := va_P (dC, dI) am_cl (am_ws G cy h) U.heap ∧ va_K (dC, dI) am_cl (am_tys cy) U ∧ am_X G U ∧ G.1 ≤ U.heap.size ∧ (al = true → U.heap.size = G.1 + h.length)
def am_Q (G : am_G) (cy dC : Nat → ClassId) (dI : Nat → Nat → Nat) (v : Option Value) (h : am_H) : Array Value → State → Outcome → State → Prop := fun _ st oc t => oc = .returned (v.map (am_tv G)) ∧ va_P (dC, dI) am_cl (am_ws G cy h) t.heap ∧ va_F (am_A G) st t
theorem am_blind {G : am_G} {cy dC : Nat → ClassId} {dI : Nat → Nat → Nat} {al : Bool} {h : am_H} {av : List Value} : FrameBlind (va_Pc av (am_Pc G cy dC dI al h)) := fun a U g mk q => ⟨q.1, q.2.1, va_K.moved (u := U) (U := U.calling g mk a) (Vm.Alike.refl U.vm) q.2.2.1, q.2.2.2.1.calling g mk a, q.2.2.2.2.1, q.2.2.2.2.2⟩
/-- a call's contract, at depth d -/
def am_ok (l : Launch) (G : am_G) (cy dC : Nat → ClassId) (dI : Nat → Nat → Nat) (al : Bool) (call : am_CALL) (d : Nat) : Prop := ∀ (mi : Nat) (as : List Value) (h : am_H) (q : Option Value × am_H), call mi as h = some q → ∃ d' r, d = d' + 1 ∧ am_T[mi]? = some r ∧ Met l (am_y r) (am_w r) (am_rm d' r) (va_Pc (as.map (am_tv G)) (am_Pc G cy dC dI al h)) (am_Q G cy dC dI q.1 q.2) (am_k r).1 (am_k r).2 (am_A G)
theorem am_mok_inv {r : am_M} (h : am_mok r = true) : (∀ pc i, am_at r pc = some i → am_dec (am_b r) pc i = true) ∧ Cond.code (am_y r) (am_b r) (am_L r) (am_rt r) ∈ lw_good ∧ (am_i r = true → (am_y r).name = "<init>") ∧ am_R (am_o r) = (am_y r).cls ∧ plainName (am_y r).cls = true ∧ am_L r ≤ 40 := by
  unfold am_mok at h
  simp only [Bool.and_eq_true, Nat.ble_eq, decide_eq_true_eq] at h
  obtain ⟨⟨⟨⟨⟨h1, h2⟩, h3⟩, h4⟩, h5⟩, h6⟩ := h
  refine ⟨fun pc i hi => ?_, am_has_in h2, fun hi => ?_, h4, h5, h6⟩
  · unfold am_at at hi
    cases hb : Nat.blt pc (am_sz r) with
    | false => rw [hb] at hi; cases hi
    | true =>
      rw [hb] at hi
      simp only [cond_true] at hi
      have h7 := List.all_eq_true.mp h1 pc (List.mem_range.mpr (by simpa [Nat.blt_eq] using hb))
      rw [hi] at h7
      exact h7
  · rw [hi] at h3
    simpa using h3
theorem am_pop_inv {n : Nat} {st : List Value} {q : List Value × List Value} (h : am_pop n st = some q) : st = q.1.reverse ++ q.2 ∧ q.1.length = n := by
  unfold am_pop at h
  obtain ⟨h1, h2⟩ := am_cond_inv h
  subst h2
  rw [Nat.ble_eq] at h1
  simp [h1]
theorem am_yok_inv {y : MethodName} {n : Nat} (h : am_yok y n = true) : y.cls ≠ "java/lang/invoke/MethodHandle" ∧ y.cls ≠ "java/lang/invoke/VarHandle" ∧ (parseMethodDescriptor y.desc).map (fun d => d.parameters.length) = some n := by
  unfold am_yok at h
  simp only [Bool.and_eq_true, decide_eq_true_eq] at h
  exact ⟨h.1.1, h.1.2, h.2⟩
section AMC
variable {p : Program} {l : Launch} {e : Env} {R : Room} {s : State} {m : MethodId} {args : Array Value} {below : List Frame} {meth : Method} {c : Code} {H : Heap} {locs : List Loc} {cells slots : Nat} {Q : State → Prop} {cc : ByteArray} {G : am_G} {ls : Array Slot} {cy : Nat → ClassId} {dC : Nat → ClassId} {dI : Nat → Nat → Nat} {Ts : List Cond}
theorem am_goodw (hgd : ∀ w ∈ lw_good, w ∈ Ts) {r : am_M} (hr : am_mok r = true) : GoodIn Ts (am_w r) := by
  intro w hw
  have hw2 : w ∈ lw_good := by
    rcases List.mem_cons.mp hw with rfl | hw
    · exact (am_mok_inv hr).2.1
    · exact hw
  exact ⟨hgd w hw2, (am_good_in w hw2).2⟩
/-- behind a call -/
theorem am_callG {A0 : Nat → Prop} {H0 : Heap} {mc ms pc : Nat} {st0 rest : List Value} {Qa : State → Outcome → State → Prop} {free : Addr → Prop} (hr : va_Run p l e R s m args below meth c H locs cells slots mc ms (F0 m pc ls st0) rest Qa free) (hS : va_S A0 H0 H locs) (hf : ∀ q, free q → A0 q)
    (hq : ∀ (st₀ : State) (v : Option Value) (t : State), st₀.heap = H → Qa st₀ (.returned v) t → H.size ≤ t.heap.size ∧ ∀ q : Nat, q < H.size → ¬ A0 q → t.heap[q]? = H[q]?)
    (kk : ∀ (v : Option Value) (st₀ t : State) (locs1 : List Loc), st₀.heap = H → Qa st₀ (.returned v) t → va_S A0 H0 t.heap locs1 → W p l e R s m args below meth c t.heap locs1 (cells + mc) (slots + ms) Q (F0 m (pc + 3) ls (v.toList ++ rest))) : W p l e R s m args below meth c H locs cells slots Q (F0 m pc ls st0) := by
  intro T hT X
  obtain ⟨v, st₀, t, T', L, h0, X', hL, e1, e2, hqa, st⟩ := hr T hT X
  obtain ⟨hz, hk⟩ := hq st₀ v t h0 hqa
  obtain ⟨t2, a1, b1⟩ := kk v st₀ t (locs ++ L) h0 hqa ⟨Nat.le_trans hS.1 hz, fun q h1 h2 => by rw [hk q (Nat.lt_of_lt_of_le h1 hS.1) h2]; exact hS.2.1 q h1 h2, fun q hq => by
      rcases List.mem_append.mp hq with h | h
      · exact hS.2.2 q h
      · exact hf _ (hL q h)⟩ T' e1 X'
  exact ⟨t2, st t2 a1, b1⟩
theorem am_pre {al : Bool} {h : am_H} {nc n0 : Nat} (hX : am_X G s) (hK : va_K (dC, dI) am_cl (am_tys cy) s) (hG : G.1 ≤ s.heap.size) (h0 : al = true → s.heap.size = G.1 + n0 ∧ h.length = n0 + nc) (hP : va_P (dC, dI) am_cl (am_ws G cy h) H) (hS : va_S (am_A G) s.heap H locs) (hsz : H.size ≤ s.heap.size + nc) (U : State) (hU : U.heap = H) (hW : s.WarmedH U.vm) : am_Pc G cy dC dI al h U := by
  refine ⟨by rw [hU]; exact hP, va_K.moved hW.alike hK, hX.to hS hU hW, by rw [hU]; exact Nat.le_trans hG hS.1, fun ha => ?_⟩
  obtain ⟨h1, h2⟩ := h0 ha
  have h3 := am_low hP (Nat.le_trans hG hS.1)
  rw [hU]
  omega
/-- behind a call of one of ours -/
theorem am_after {al : Bool} {h : am_H} {n0 nc ns pc mc ms : Nat} {st0 rest : List Value} {q : Option Value × am_H} {a : Array Value} {lim : Nat × Nat} (hS : va_S (am_A G) s.heap H locs)
    (hr : va_Run p l e R s m args below meth c H locs nc ns mc ms (F0 m pc ls st0) (rest.map (am_tv G)) (am_Q G cy dC dI q.1 q.2 a) (am_A G))
    (k : ∀ (H1 : Heap) (locs1 : List Loc), va_P (dC, dI) am_cl (am_ws G cy q.2) H1 → va_S (am_A G) s.heap H1 locs1 → W p l e R s m args below meth c H1 locs1 (nc + mc) (ns + ms) Q (F0 m (pc + 3) ls ((q.1.toList ++ rest).map (am_tv G)))) : W p l e R s m args below meth c H locs nc ns Q (F0 m pc ls st0) := by
  refine am_callG hr hS (fun _ h => h) (fun st₀ v t h0 hq => ?_) (fun v st₀ t locs1 h0 hq hS1 => ?_)
  · obtain ⟨-, -, hz, hk⟩ := hq
    rw [h0] at hz hk
    exact ⟨hz, hk⟩
  · obtain ⟨hv, hP1, -⟩ := hq
    have hv2 : v = q.1.map (am_tv G) := Outcome.returned.inj hv
    subst hv2
    have k2 := k t.heap locs1 hP1 hS1
    have e1 : (q.1.toList ++ rest).map (am_tv G) = (q.1.map (am_tv G)).toList ++ rest.map (am_tv G) := by
      cases q.1 <;> simp
    rw [e1] at k2
    exact k2
end AMC
