/-! ===== the reference's goesOn ===== -/
theorem am_Wp.call {al : Bool} {d : Nat} {S : am_S} {r : am_M} {Φ : am_C → Prop} {pc : Nat} {lv : List (Option Value)} {st : List Value} {h h2 : am_H} {idx mi n pl : Nat} {as rest : List Value} {rv : Option Value} {r2 : am_M} (hdo : am_Do al d mi (.ref 64 :: as) h (rv, h2)) (hok : ab_hok ab_D0 h) (hok2 : ab_hok ab_D0 h2) (hi : am_at r pc = some (.invokevirtual idx)) (hinf : am_inf (am_o r) idx = some (0, mi, n, pl)) (hpop : am_pop n st = some (as, .ref 64 :: rest)) (hr2 : am_T[mi]? = some r2) (ho : am_o r2 = 12) (hk : am_k r2 = (0, 0)) (hrs : am_rsm rest = true) (kk : am_Wp al d S r Φ (pc + 3, lv, rv.toList ++ rest, h2, 0, 0)) : am_Wp al d S r Φ (pc, lv, st, h, 0, 0) := by
  obtain ⟨fs, f1, f2, -, -⟩ := ab_hok_obj hok am_d64 rfl
  refine am_Wp.go (am_Go.cV (fs := fs) hdo hi hinf hpop hr2 (by rw [ho]; exact f2) ?_ ?_ am_Go.rf) ?_
  · rw [hk, hrs]
    simp only [Nat.add_zero, ab_ble0, Bool.and_self]
  · rw [hk]
    show Nat.beq h2.length (h.length + 0) = true
    rw [hok.1, hok2.1]
    rfl
  · rw [hk]
    exact kk
theorem am_fr_get {mo : ab_Mo} {h h2 : am_H} {a : Nat} (hf : ab_fr mo h h2) (hm : mo.all (fun q => !Nat.beq q.1 a) = true) : h2[a]? = h[a]? := by
  refine hf.1 a (fun k hk => ?_)
  have := List.all_eq_true.mp hm _ hk
  simp only [Nat.beq_refl] at this
  cases this
theorem am_fr_cell {mo : ab_Mo} {h h2 : am_H} {k : Nat} (hok : ab_hok ab_D0 h) (hf : ab_fr mo h h2) (hm : ab_md mo 64 (k + 1) = false) : ab_cell h2 64 (k : Int) = ab_cell h 64 (k : Int) := by
  obtain ⟨fs, f1, -, -, -⟩ := ab_hok_obj hok am_d64 rfl
  obtain ⟨fs2, e1, e2⟩ := hf.2 64 k 12 fs (ab_md_not hm) f1
  rw [ab_cell_obj f1, ab_cell_obj e1, e2]
/-- over a call that leaves these cells -/
theorem am_vE.fr {mo mo2 : ab_Mo} {h0 h h2 : am_H} {len tys : Int} {M M2 L A Fx : Nat → Int32} (v : am_vE mo h0 h len tys M L A Fx) (hok2 : ab_hok ab_D0 h2) (hf : ab_fr mo2 h h2) (hM2 : h2[90]? = some (.inl (1, 49, .inl M2))) (hmo : mo2.all (fun q => ab_md mo q.1 q.2) = true) (hm : (mo2.all (fun q => !Nat.beq q.1 91) && mo2.all (fun q => !Nat.beq q.1 92) && mo2.all (fun q => !Nat.beq q.1 93) && mo2.all (fun q => !Nat.beq q.1 94) && mo2.all (fun q => !Nat.beq q.1 95) && !ab_md mo2 64 (24 + 1) && !ab_md mo2 64 (46 + 1)) = true) : am_vE mo h0 h2 len tys M2 L A Fx := by
  obtain ⟨hok, hfr, hlen, htys, hM, hL, hA, hF, ⟨Ft, hFt⟩, ⟨Ct, hCt⟩⟩ := id v
  simp only [Bool.and_eq_true, Bool.not_eq_true'] at hm
  obtain ⟨⟨⟨⟨⟨⟨a1, a2⟩, a3⟩, a4⟩, a5⟩, a6⟩, a7⟩ := hm
  refine ⟨hok2, hfr.tr (hf.le (fun q hq => ab_md_in (List.all_eq_true.mp hmo q hq))), (am_fr_cell hok hf a6).trans hlen, (am_fr_cell hok hf a7).trans htys, hM2, (am_fr_get hf a1).trans hL, (am_fr_get hf a2).trans hA, (am_fr_get hf a3).trans hF, ⟨Ft, (am_fr_get hf a4).trans hFt⟩, ⟨Ct, (am_fr_get hf a5).trans hCt⟩⟩
def am_moG : ab_Mo := [(64, 57), (82, 0), (89, 0), (90, 0), (91, 0)]
/-- one step of goesOn has led to the state to, or to none -/
def am_gs (M M2 : Nat → Int32) (p to : Int) : Prop := (∀ q, 0 ≤ q → q < p → am_m M2 q = am_m M q) ∧ (((-1 ≤ to ∧ to < am_m M p) ∧ am_m M2 p = am_m M p) ∨ (to = am_m M p ∧ am_m M2 p = am_m M p + 1))
set_option maxRecDepth 100000 in
theorem am_go66 {d : Nat} {h0 : am_H} {len tys : Int} {Fx A : Nat → Int32} {Φ : am_C → Prop} {L M : Nat → Int32} {h : am_H} {p k n t s : Int} {o5 o6 : Option Value} (hp : 1 ≤ p ∧ p ≤ 48) (v : am_vE am_moG h0 h len tys M L A Fx)
    (K0 : ∀ h lv4 lv5, ab_hok ab_D0 h → ab_fr am_moG h0 h → am_Wp false (d + 3) (0, fun _ => 0) am_r198 Φ (102, [some (.ref 64), some (.int (Int32.ofInt p)), some (.int (Int32.ofInt k)), some (.int (Int32.ofInt n)), some (.int (Int32.ofInt t)), lv4, lv5], [.int (Int32.ofInt (0))], h, 0, 0))
    (K : ∀ h M2 to o5, am_vE am_moG h0 h len tys M2 L A Fx → am_gs M M2 p to → am_Wp false (d + 3) (0, fun _ => 0) am_r198 Φ (103, [some (.ref 64), some (.int (Int32.ofInt (p))), some (.int (Int32.ofInt (k))), some (.int (Int32.ofInt (n))), some (.int (Int32.ofInt (t))), o5, some (.int (Int32.ofInt (to)))], [], h, 0, 0)) : am_Wp false (d + 3) (0, fun _ => 0) am_r198 Φ (66, [some (.ref 64), some (.int (Int32.ofInt (p))), some (.int (Int32.ofInt (k))), some (.int (Int32.ofInt (n))), some (.int (Int32.ofInt (t))), o5, o6], [.int (Int32.ofInt (s))], h, 0, 0) := by
  obtain ⟨hok, hfr, hlen, htys, hM, hL, hA, hF, ⟨Ft, hFt⟩, ⟨Ct, hCt⟩⟩ := id v
  obtain ⟨y, h4, d4, ok4, f4⟩ := am_u_broken (d := d) (x := Int32.ofInt s) hok hp
  have v4 := v.fr ok4 f4 ((am_fr_get f4 rfl).trans hM) rfl rfl
  have hm4 := am_m_r ok4 v4.2.2.2.2.1 (q := p) (by omega)
  have hy := ab_i32 y
  rw [← am_oio y] at d4
  refine am_Wp.bl 6 (y := (75, [some (.ref 64), some (.int (Int32.ofInt (p))), some (.int (Int32.ofInt (k))), some (.int (Int32.ofInt (n))), some (.int (Int32.ofInt (t))), some (.int (Int32.ofInt (s))), some (.int (Int32.ofInt (-1)))], [.int (Int32.ofInt (p)), .int (Int32.ofInt (s)), .ref 64], h, 0, 0)) (fun _ => rfl) ?_
  refine am_Wp.call d4 hok ok4 rfl rfl rfl rfl rfl rfl rfl ?_
  refine am_Wp.bl 1 (y := (79, [some (.ref 64), some (.int (Int32.ofInt (p))), some (.int (Int32.ofInt (k))), some (.int (Int32.ofInt (n))), some (.int (Int32.ofInt (t))), some (.int (Int32.ofInt (s))), some (.int (Int32.ofInt (-1)))], [.int (Int32.ofInt (-1)), .int (Int32.ofInt (y.toInt))], h4, 0, 0)) (fun _ => rfl) ?_
  refine am_Wp.ic ⟨by omega, by omega⟩ ⟨by omega, by omega⟩ rfl rfl (fun hc => ?_) (fun hc => ?_)
  · have hc : (¬ (y.toInt : Int) = -1) := hc
    exact K h4 M (-1) _ v4 ⟨fun _ _ _ => rfl, Or.inl ⟨by omega, rfl⟩⟩
  · have hc : ¬ (¬ (y.toInt : Int) = -1) := hc
    obtain ⟨h5, d5, ok5, f5⟩ := am_u_goesAlong (d := d + 2) (x := Int32.ofInt s) ok4
    have v5 := v4.fr ok5 f5 ((am_fr_get f5 rfl).trans v4.2.2.2.2.1) rfl rfl
    obtain ⟨to, h6, M2, d6, ok6, f6, hM6, hag, hto⟩ := am_u_finds (d := d + 2) ok5 v5.2.2.2.2.1 hp
    have v6 := v5.fr ok6 f6 hM6 rfl rfl
    have hm6 := am_m_r ok6 hM6 (q := p) (by omega)
    refine am_Wp.bl 2 (y := (85, [some (.ref 64), some (.int (Int32.ofInt (p))), some (.int (Int32.ofInt (k))), some (.int (Int32.ofInt (n))), some (.int (Int32.ofInt (t))), some (.int (Int32.ofInt (s))), some (.int (Int32.ofInt (-1)))], [.int (Int32.ofInt (s)), .ref 64], h4, 0, 0)) (fun _ => rfl) ?_
    refine am_Wp.call d5 ok4 ok5 rfl rfl rfl rfl rfl rfl rfl ?_
    refine am_Wp.bl 2 (y := (90, [some (.ref 64), some (.int (Int32.ofInt (p))), some (.int (Int32.ofInt (k))), some (.int (Int32.ofInt (n))), some (.int (Int32.ofInt (t))), some (.int (Int32.ofInt (s))), some (.int (Int32.ofInt (-1)))], [.int (Int32.ofInt (p)), .ref 64], h5, 0, 0)) (fun _ => rfl) ?_
    refine am_Wp.call d6 ok5 ok6 rfl rfl rfl rfl rfl rfl rfl ?_
    refine am_Wp.bl 3 (y := (98, [some (.ref 64), some (.int (Int32.ofInt (p))), some (.int (Int32.ofInt (k))), some (.int (Int32.ofInt (n))), some (.int (Int32.ofInt (t))), some (.int (Int32.ofInt (s))), some (.int (Int32.ofInt (to)))], [.int (Int32.ofInt (-1)), .int (Int32.ofInt (to))], h6, 0, 0)) (fun _ => rfl) ?_
    refine am_Wp.ic ⟨by omega, by omega⟩ ⟨by omega, by omega⟩ rfl rfl (fun hd => ?_) (fun hd => ?_)
    · have hd : (¬ (to : Int) = -1) := hd
      exact K h6 M2 to _ v6 ⟨hag, by omega⟩
    · have hd : ¬ (¬ (to : Int) = -1) := hd
      refine am_Wp.bl 1 (y := (102, [some (.ref 64), some (.int (Int32.ofInt (p))), some (.int (Int32.ofInt (k))), some (.int (Int32.ofInt (n))), some (.int (Int32.ofInt (t))), some (.int (Int32.ofInt (s))), some (.int (Int32.ofInt (to)))], [.int (Int32.ofInt (0))], h6, 0, 0)) (fun _ => rfl) ?_
      exact K0 h6 _ _ v6.1 v6.2.1
/-- what goesOn has laid down of its row up to t -/
def am_gI (M0 L0 M L : Nat → Int32) (p k t : Int) : Prop := (∀ q, 0 ≤ q → q < p → am_m M q = am_m M0 q) ∧ am_m M0 p ≤ am_m M p ∧ (∀ j : Nat, (j : Int) < (400 * (p - 1) + k) * 16 → L j = L0 j) ∧ (∀ t', 0 ≤ t' → t' < t → am_ld L p k t' < am_m M p) ∧ ∀ j, am_m M0 p ≤ j → j < am_m M p → ∃ t', 0 ≤ t' ∧ t' < t ∧ am_ld L p k t' = j
theorem am_ld_self {L : Nat → Int32} {w : Int32} {p k t : Int} : am_ld (upd L (((((400) * ((p) - (1))) + (k)) * (16)) + (t)).toNat w) p k t = w.toInt := by
  unfold am_ld upd
  rw [if_pos rfl]
theorem am_ld_ne {L : Nat → Int32} {w : Int32} {p k t p' k' t' : Int} (h : 0 ≤ (400 * (p - 1) + k) * 16 + t ∧ 0 ≤ (400 * (p' - 1) + k') * 16 + t' ∧ ¬ (400 * (p' - 1) + k') * 16 + t' = (400 * (p - 1) + k) * 16 + t) : am_ld (upd L (((((400) * ((p) - (1))) + (k)) * (16)) + (t)).toNat w) p' k' t' = am_ld L p' k' t' := by
  unfold am_ld upd
  rw [if_neg (by omega)]
theorem am_gI.step {M0 L0 M L M2 : Nat → Int32} {p k t to : Int} (hp : 1 ≤ p) (hk : 0 ≤ k) (ht : 0 ≤ t) (hto : -2147483648 ≤ to ∧ to ≤ 2147483647) (hI : am_gI M0 L0 M L p k t) (hs : am_gs M M2 p to) : am_gI M0 L0 M2 (upd L (((((400) * ((p) - (1))) + (k)) * (16)) + (t)).toNat (Int32.ofInt to)) p k (t + 1) := by
  obtain ⟨a1, a2, a3, a4, a5⟩ := hI
  obtain ⟨b1, b2⟩ := hs
  have e := am_oi hto.1 hto.2
  refine ⟨fun q q1 q2 => by rw [b1 q q1 q2, a1 q q1 q2], by omega, fun j hj => ?_, fun t' t1 t2 => ?_, fun j j1 j2 => ?_⟩
  · rw [← a3 j hj]
    unfold upd
    rw [if_neg (by omega)]
  · by_cases q : t' = t
    · subst q
      rw [am_ld_self, e]
      omega
    · rw [am_ld_ne (by omega)]
      have := a4 t' t1 (by omega)
      omega
  · by_cases q : j < am_m M p
    · obtain ⟨t', c1, c2, c3⟩ := a5 j j1 q
      exact ⟨t', c1, by omega, by rw [am_ld_ne (by omega)]; exact c3⟩
    · exact ⟨t, ht, by omega, by rw [am_ld_self, e]; omega⟩
set_option maxRecDepth 100000 in
theorem am_goL {d : Nat} {h0 : am_H} {len tys : Int} {Fx A : Nat → Int32} {Φ : am_C → Prop} {M0 L0 : Nat → Int32} {p k : Int} (hty : 0 ≤ tys ∧ tys ≤ 16) (hp : 1 ≤ p ∧ p ≤ 48) (hk : 0 ≤ k ∧ k < 400)
    (K0 : ∀ h t lv4 lv5, ab_hok ab_D0 h → ab_fr am_moG h0 h → am_Wp false (d + 3) (0, fun _ => 0) am_r198 Φ (102, [some (.ref 64), some (.int (Int32.ofInt p)), some (.int (Int32.ofInt k)), some (.int (Int32.ofInt (am_np Fx tys p))), some (.int (Int32.ofInt t)), lv4, lv5], [.int (Int32.ofInt (0))], h, 0, 0))
    (K1 : ∀ h M L o5 o6, am_vE am_moG h0 h len tys M L A Fx → am_gI M0 L0 M L p k (am_np Fx tys p) → am_Wp false (d + 3) (0, fun _ => 0) am_r198 Φ (132, [some (.ref 64), some (.int (Int32.ofInt (p))), some (.int (Int32.ofInt (k))), some (.int (Int32.ofInt (am_np Fx tys p))), some (.int (Int32.ofInt (am_np Fx tys p))), o5, o6], [.int (Int32.ofInt (1))], h, 0, 0)) :
    ∀ (n : Nat) (t : Int) (h : am_H) (M L : Nat → Int32) (o5 o6 : Option Value), am_np Fx tys p - t < (n : Int) → 0 ≤ t → t ≤ am_np Fx tys p → am_gI M0 L0 M L p k t → am_vE am_moG h0 h len tys M L A Fx → am_Wp false (d + 3) (0, fun _ => 0) am_r198 Φ (23, [some (.ref 64), some (.int (Int32.ofInt (p))), some (.int (Int32.ofInt (k))), some (.int (Int32.ofInt (am_np Fx tys p))), some (.int (Int32.ofInt (t))), o5, o6], [], h, 0, 0) := by
  have hnr := am_np_r (h := h0) (Fx := Fx) hty p
  intro n
  induction n with
  | zero => intro t h M L o5 o6 hn h1 h2; omega
  | succ n ih =>
    intro t h M L o5 o6 hn h1 h2 hI v
    obtain ⟨hok, hfr, hlen, htys, hM, hL, hA, hF, ⟨Ft, hFt⟩, ⟨Ct, hCt⟩⟩ := id v
    have hfx := am_fx_r hok hF hp
    refine am_Wp.bl 2 (y := (26, [some (.ref 64), some (.int (Int32.ofInt (p))), some (.int (Int32.ofInt (k))), some (.int (Int32.ofInt (am_np Fx tys p))), some (.int (Int32.ofInt (t))), o5, o6], [.int (Int32.ofInt (am_np Fx tys p)), .int (Int32.ofInt (t))], h, 0, 0)) (fun _ => rfl) ?_
    refine am_Wp.ic ⟨by omega, by omega⟩ ⟨by omega, by omega⟩ rfl rfl (fun hc => ?_) (fun hc => ?_)
    · have hc : (am_np Fx tys p ≤ (t : Int)) := hc
      refine am_Wp.bl 1 (y := (132, [some (.ref 64), some (.int (Int32.ofInt (p))), some (.int (Int32.ofInt (k))), some (.int (Int32.ofInt (am_np Fx tys p))), some (.int (Int32.ofInt (t))), o5, o6], [.int (Int32.ofInt (1))], h, 0, 0)) (fun _ => rfl) ?_
      obtain rfl : t = am_np Fx tys p := by omega
      exact K1 h M L o5 o6 v hI
    · have hc : ¬ (am_np Fx tys p ≤ (t : Int)) := hc
      obtain ⟨h3, d3, ok3, f3⟩ := am_u_takes (d := d + 2) (a := p - 1) (b := k) hok (by omega) (by omega)
      have v3 := v.fr ok3 f3 ((am_fr_get f3 rfl).trans hM) rfl rfl
      obtain ⟨Ty, hTy⟩ := am_arr_of (a := 88) ok3 rfl rfl rfl
      obtain ⟨Se, hSe⟩ := am_arr_of (a := 84) ok3 rfl rfl rfl
      refine am_Wp.bl 5 (y := (34, [some (.ref 64), some (.int (Int32.ofInt (p))), some (.int (Int32.ofInt (k))), some (.int (Int32.ofInt (am_np Fx tys p))), some (.int (Int32.ofInt (t))), o5, o6], [.int (Int32.ofInt (k)), .int ((Int32.ofInt (p)) - (Int32.ofInt (1))), .ref 64], h, 0, 0)) (fun _ => rfl) ?_
      simp only [am_oa, am_om, am_os]
      refine am_Wp.call d3 hok ok3 rfl rfl rfl rfl rfl rfl rfl ?_
      refine am_Wp.bl 1 (y := (38, [some (.ref 64), some (.int (Int32.ofInt (p))), some (.int (Int32.ofInt (k))), some (.int (Int32.ofInt (am_np Fx tys p))), some (.int (Int32.ofInt (t))), o5, o6], [.ref 64], h3, 0, 0)) (fun _ => rfl) ?_
      refine am_mg106 rfl rfl ok3 ?_
      refine am_Wp.bl 3 (y := (44, [some (.ref 64), some (.int (Int32.ofInt (p))), some (.int (Int32.ofInt (k))), some (.int (Int32.ofInt (am_np Fx tys p))), some (.int (Int32.ofInt (t))), o5, o6], [.int ((Int32.ofInt (p)) - (Int32.ofInt (1))), .ref 93], h3, 0, 0)) (fun _ => rfl) ?_
      simp only [am_oa, am_om, am_os]
      refine am_Wp.ba (w := am_fx Fx p) v3.2.2.2.2.2.2.2.1 (by omega) (by omega) (am_oio _).symm rfl rfl (by decide) ?_
      refine am_Wp.i0 ⟨by omega, by omega⟩ rfl rfl (fun hf => ?_) (fun hf => ?_)
      · have hf : ((am_fx Fx p : Int) = 0) := hf
        refine am_Wp.bl 1 (y := (60, [some (.ref 64), some (.int (Int32.ofInt (p))), some (.int (Int32.ofInt (k))), some (.int (Int32.ofInt (am_np Fx tys p))), some (.int (Int32.ofInt (t))), o5, o6], [.ref 64], h3, 0, 0)) (fun _ => rfl) ?_
        refine am_mg89 rfl rfl ok3 ?_
        refine am_Wp.bl 1 (y := (65, [some (.ref 64), some (.int (Int32.ofInt (p))), some (.int (Int32.ofInt (k))), some (.int (Int32.ofInt (am_np Fx tys p))), some (.int (Int32.ofInt (t))), o5, o6], [.int (Int32.ofInt (t)), .ref 88], h3, 0, 0)) (fun _ => rfl) ?_
        refine am_Wp.ia (w := (Ty (t).toNat).toInt) hTy (by omega) (by omega) (am_oio _).symm rfl rfl (by decide) ?_
        refine am_go66 hp v3 (fun h5 l4 l5 ok5 f5 => K0 h5 t l4 l5 ok5 f5) (fun h5 M2 to o5' v5 hgs => ?_)
        have hm5 := am_m_r v5.1 v5.2.2.2.2.1 (q := p) (by omega)
        have hto : -1 ≤ to ∧ to ≤ 399 := by unfold am_gs at hgs; omega
        refine am_Wp.bl 1 (y := (104, [some (.ref 64), some (.int (Int32.ofInt (p))), some (.int (Int32.ofInt (k))), some (.int (Int32.ofInt (am_np Fx tys p))), some (.int (Int32.ofInt (t))), o5', some (.int (Int32.ofInt (to)))], [.ref 64], h5, 0, 0)) (fun _ => rfl) ?_
        refine am_mg100 rfl rfl v5.1 ?_
        refine am_Wp.bl 12 (y := (124, [some (.ref 64), some (.int (Int32.ofInt (p))), some (.int (Int32.ofInt (k))), some (.int (Int32.ofInt (am_np Fx tys p))), some (.int (Int32.ofInt (t))), o5', some (.int (Int32.ofInt (to)))], [.int (Int32.ofInt (to)), .int (((((Int32.ofInt (400)) * ((Int32.ofInt (p)) - (Int32.ofInt (1)))) + (Int32.ofInt (k))) * (Int32.ofInt (16))) + (Int32.ofInt (t))), .ref 91], h5, 0, 0)) (fun _ => rfl) ?_
        simp only [am_oa, am_om, am_os]
        refine am_Wp.is v5.2.2.2.2.2.1 (by omega) (by omega) rfl rfl (by decide) ?_
        have v6 := am_vE.sL (z := ((((400) * ((p) - (1))) + (k)) * (16)) + (t)) (w := Int32.ofInt (to)) v5 ⟨by rw [am_oi (by omega) (by omega)]; omega, by rw [am_oi (by omega) (by omega)]; omega⟩ rfl
        generalize h5.set 91 (.inl (1, 307200, .inl (upd L (((((400) * ((p) - (1))) + (k)) * (16)) + (t)).toNat (Int32.ofInt (to))))) = h6 at v6 ⊢
        refine am_Wp.bl 2 (y := (23, [some (.ref 64), some (.int (Int32.ofInt (p))), some (.int (Int32.ofInt (k))), some (.int (Int32.ofInt (am_np Fx tys p))), some (.int ((Int32.ofInt (t)) + Int32.ofInt (1))), o5', some (.int (Int32.ofInt (to)))], [], h6, 0, 0)) (fun _ => rfl) ?_
        simp only [am_oa, am_om, am_os]
        exact ih ((t) + (1)) h6 _ _ _ _ (by omega) (by omega) (by omega) (am_gI.step (by omega) (by omega) (by omega) ⟨by omega, by omega⟩ hI hgs) v6
      · have hf : ¬ ((am_fx Fx p : Int) = 0) := hf
        refine am_Wp.bl 1 (y := (49, [some (.ref 64), some (.int (Int32.ofInt (p))), some (.int (Int32.ofInt (k))), some (.int (Int32.ofInt (am_np Fx tys p))), some (.int (Int32.ofInt (t))), o5, o6], [.ref 64], h3, 0, 0)) (fun _ => rfl) ?_
        refine am_mg77 rfl rfl ok3 ?_
        refine am_Wp.bl 3 (y := (55, [some (.ref 64), some (.int (Int32.ofInt (p))), some (.int (Int32.ofInt (k))), some (.int (Int32.ofInt (am_np Fx tys p))), some (.int (Int32.ofInt (t))), o5, o6], [.int ((Int32.ofInt (p)) - (Int32.ofInt (1))), .ref 84], h3, 0, 0)) (fun _ => rfl) ?_
        simp only [am_oa, am_om, am_os]
        refine am_Wp.ia (w := (Se ((p) - (1)).toNat).toInt) hSe (by omega) (by omega) (am_oio _).symm rfl rfl (by decide) ?_
        refine am_Wp.bl 1 (y := (66, [some (.ref 64), some (.int (Int32.ofInt (p))), some (.int (Int32.ofInt (k))), some (.int (Int32.ofInt (am_np Fx tys p))), some (.int (Int32.ofInt (t))), o5, o6], [.int (Int32.ofInt ((Se ((p) - (1)).toNat).toInt))], h3, 0, 0)) (fun _ => rfl) ?_
        refine am_go66 hp v3 (fun h5 l4 l5 ok5 f5 => K0 h5 t l4 l5 ok5 f5) (fun h5 M2 to o5' v5 hgs => ?_)
        have hm5 := am_m_r v5.1 v5.2.2.2.2.1 (q := p) (by omega)
        have hto : -1 ≤ to ∧ to ≤ 399 := by unfold am_gs at hgs; omega
        refine am_Wp.bl 1 (y := (104, [some (.ref 64), some (.int (Int32.ofInt (p))), some (.int (Int32.ofInt (k))), some (.int (Int32.ofInt (am_np Fx tys p))), some (.int (Int32.ofInt (t))), o5', some (.int (Int32.ofInt (to)))], [.ref 64], h5, 0, 0)) (fun _ => rfl) ?_
        refine am_mg100 rfl rfl v5.1 ?_
        refine am_Wp.bl 12 (y := (124, [some (.ref 64), some (.int (Int32.ofInt (p))), some (.int (Int32.ofInt (k))), some (.int (Int32.ofInt (am_np Fx tys p))), some (.int (Int32.ofInt (t))), o5', some (.int (Int32.ofInt (to)))], [.int (Int32.ofInt (to)), .int (((((Int32.ofInt (400)) * ((Int32.ofInt (p)) - (Int32.ofInt (1)))) + (Int32.ofInt (k))) * (Int32.ofInt (16))) + (Int32.ofInt (t))), .ref 91], h5, 0, 0)) (fun _ => rfl) ?_
        simp only [am_oa, am_om, am_os]
        refine am_Wp.is v5.2.2.2.2.2.1 (by omega) (by omega) rfl rfl (by decide) ?_
        have v6 := am_vE.sL (z := ((((400) * ((p) - (1))) + (k)) * (16)) + (t)) (w := Int32.ofInt (to)) v5 ⟨by rw [am_oi (by omega) (by omega)]; omega, by rw [am_oi (by omega) (by omega)]; omega⟩ rfl
        generalize h5.set 91 (.inl (1, 307200, .inl (upd L (((((400) * ((p) - (1))) + (k)) * (16)) + (t)).toNat (Int32.ofInt (to))))) = h6 at v6 ⊢
        refine am_Wp.bl 2 (y := (23, [some (.ref 64), some (.int (Int32.ofInt (p))), some (.int (Int32.ofInt (k))), some (.int (Int32.ofInt (am_np Fx tys p))), some (.int ((Int32.ofInt (t)) + Int32.ofInt (1))), o5', some (.int (Int32.ofInt (to)))], [], h6, 0, 0)) (fun _ => rfl) ?_
        simp only [am_oa, am_om, am_os]
        exact ih ((t) + (1)) h6 _ _ _ _ (by omega) (by omega) (by omega) (am_gI.step (by omega) (by omega) (by omega) ⟨by omega, by omega⟩ hI hgs) v6
set_option maxRecDepth 100000 in
theorem am_goE {d : Nat} {h : am_H} {len tys : Int} {M0 L0 A Fx : Nat → Int32} {p k : Int} (hty : 0 ≤ tys ∧ tys ≤ 16) (hp : 1 ≤ p ∧ p ≤ 48) (hk : 0 ≤ k ∧ k < 400) (v : am_vE am_moG h h len tys M0 L0 A Fx) :
    ∃ (x : Int) (h2 : am_H), am_Do false (d + 4) 198 [.ref 64, .int (Int32.ofInt p), .int (Int32.ofInt k)] h (some (.int (Int32.ofInt x)), h2) ∧ ((x = 0 ∧ ab_hok ab_D0 h2 ∧ ab_fr am_moG h h2) ∨ (x = 1 ∧ ∃ M L, am_vE am_moG h h2 len tys M L A Fx ∧ am_gI M0 L0 M L p k (am_np Fx tys p))) := by
  obtain ⟨hok, hfr, hlen, htys, hM, hL, hA, hF, ⟨Ft, hFt⟩, ⟨Ct, hCt⟩⟩ := id v
  have hfx := am_fx_r hok hF hp
  have hnr := am_np_r (h := h) (Fx := Fx) hty p
  have key : am_Wp false (d + 3) (0, fun _ => 0) am_r198 (fun y => (y.1 = 102 ∨ y.1 = 132) ∧ ∃ x, y.2.2.1 = [.int (Int32.ofInt x)] ∧ ((x = 0 ∧ ab_hok ab_D0 y.2.2.2.1 ∧ ab_fr am_moG h y.2.2.2.1) ∨ (x = 1 ∧ ∃ M L, am_vE am_moG h y.2.2.2.1 len tys M L A Fx ∧ am_gI M0 L0 M L p k (am_np Fx tys p)))) (0, [some (.ref 64), some (.int (Int32.ofInt p)), some (.int (Int32.ofInt k)), none, none, none, none], [], h, 0, 0) := by
    refine am_Wp.bl 1 (y := (1, [some (.ref 64), some (.int (Int32.ofInt (p))), some (.int (Int32.ofInt (k))), none, none, none, none], [.ref 64], h, 0, 0)) (fun _ => rfl) ?_
    refine am_mg106 rfl rfl hok ?_
    refine am_Wp.bl 3 (y := (7, [some (.ref 64), some (.int (Int32.ofInt (p))), some (.int (Int32.ofInt (k))), none, none, none, none], [.int ((Int32.ofInt (p)) - (Int32.ofInt (1))), .ref 93], h, 0, 0)) (fun _ => rfl) ?_
    simp only [am_oa, am_om, am_os]
    refine am_Wp.ba (w := am_fx Fx p) hF (by omega) (by omega) (am_oio _).symm rfl rfl (by decide) ?_
    refine am_Wp.i0 ⟨by omega, by omega⟩ rfl rfl (fun hf => ?_) (fun hf => ?_)
    · have hf : ((am_fx Fx p : Int) = 0) := hf
      have hnp : am_np Fx tys p = tys := if_pos hf
      refine am_Wp.bl 1 (y := (16, [some (.ref 64), some (.int (Int32.ofInt (p))), some (.int (Int32.ofInt (k))), none, none, none, none], [.ref 64], h, 0, 0)) (fun _ => rfl) ?_
      refine am_mi278 rfl rfl hok htys ?_
      refine am_Wp.bl 3 (y := (23, [some (.ref 64), some (.int (Int32.ofInt (p))), some (.int (Int32.ofInt (k))), some (.int (Int32.ofInt (tys))), some (.int (Int32.ofInt (0))), none, none], [], h, 0, 0)) (fun _ => rfl) ?_
      rw [show Int32.ofInt (tys) = Int32.ofInt (am_np Fx tys p) by rw [hnp]]
      exact am_goL (M0 := M0) (L0 := L0) hty hp hk (fun h2 t l4 l5 ok2 f2 => am_Wp.en ⟨Or.inl rfl, 0, rfl, Or.inl ⟨rfl, ok2, f2⟩⟩) (fun h2 M L o5 o6 v2 hI => am_Wp.en ⟨Or.inr rfl, 1, rfl, Or.inr ⟨rfl, M, L, v2, hI⟩⟩) ((am_np Fx tys p).toNat + 1) 0 h M0 L0 _ _ (by omega) (by omega) (by omega) ⟨fun _ _ _ => rfl, Int.le_refl _, fun _ _ => rfl, fun t' a1 a2 => by omega, fun j a1 a2 => by omega⟩ v
    · have hf : ¬ ((am_fx Fx p : Int) = 0) := hf
      have hnp : am_np Fx tys p = 1 := if_neg hf
      refine am_Wp.bl 5 (y := (23, [some (.ref 64), some (.int (Int32.ofInt (p))), some (.int (Int32.ofInt (k))), some (.int (Int32.ofInt (1))), some (.int (Int32.ofInt (0))), none, none], [], h, 0, 0)) (fun _ => rfl) ?_
      rw [show Int32.ofInt (1) = Int32.ofInt (am_np Fx tys p) by rw [hnp]]
      exact am_goL (M0 := M0) (L0 := L0) hty hp hk (fun h2 t l4 l5 ok2 f2 => am_Wp.en ⟨Or.inl rfl, 0, rfl, Or.inl ⟨rfl, ok2, f2⟩⟩) (fun h2 M L o5 o6 v2 hI => am_Wp.en ⟨Or.inr rfl, 1, rfl, Or.inr ⟨rfl, M, L, v2, hI⟩⟩) ((am_np Fx tys p).toNat + 1) 0 h M0 L0 _ _ (by omega) (by omega) (by omega) ⟨fun _ _ _ => rfl, Int.le_refl _, fun _ _ => rfl, fun t' a1 a2 => by omega, fun j a1 a2 => by omega⟩ v
  obtain ⟨y, g1, g2, x, g3, g4⟩ := key
  obtain ⟨pc, lv, st, h2, nc, ns⟩ := y
  simp only at g2 g3 g4
  subst g3
  refine ⟨x, h2, ?_, g4⟩
  have hx : x = 0 ∨ x = 1 := by
    rcases g4 with q | q
    · exact Or.inl q.1
    · exact Or.inr q.1
  rcases g2 with rfl | rfl
  · refine am_Do.of (r := am_r198) (i := .ireturn) rfl rfl g1 rfl rfl ?_
    rcases hx with rfl | rfl <;> rfl
  · refine am_Do.of (r := am_r198) (i := .ireturn) rfl rfl g1 rfl rfl ?_
    rcases hx with rfl | rfl <;> rfl
