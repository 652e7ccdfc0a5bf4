/-! ===== the reference's ends ===== -/
def am_moE : ab_Mo := [(64, 56), (64, 57), (64, 58), (82, 0), (89, 0), (90, 0), (91, 0), (92, 0), (93, 0), (94, 0), (95, 0)]
def am_lay (tys : Int) (M L Fx : Nat → Int32) (p n : Int) : Prop := (∀ k t, 0 ≤ k → k < n → 0 ≤ t → t < am_np Fx tys p → am_ld L p k t < am_m M p) ∧ ∀ j, 0 ≤ j → j < am_m M p → ∃ k t, (0 ≤ k ∧ k < n) ∧ (0 ≤ t ∧ t < am_np Fx tys p) ∧ am_ld L p k t = j
def am_lays (tys : Int) (M L Fx : Nat → Int32) (n : Int) : Prop := am_m M 0 = 1 ∧ ∀ q, 1 ≤ q → q ≤ n → am_lay tys M L Fx q (am_m M (q - 1))
theorem am_ld_ag {L L2 : Nat → Int32} {p k t n : Int} (h : ∀ j : Nat, (j : Int) < n → L2 j = L j) (h0 : 0 ≤ (400 * (p - 1) + k) * 16 + t) (h1 : (400 * (p - 1) + k) * 16 + t < n) : am_ld L2 p k t = am_ld L p k t := by
  unfold am_ld
  rw [h _ (by omega)]
theorem am_lays.keep {tys : Int} {M L Fx M2 L2 Fx2 : Nat → Int32} {n : Int} (hl : am_lays tys M L Fx n) (hty : 0 ≤ tys ∧ tys ≤ 16) (hn : 0 ≤ n) (hm : ∀ q, 0 ≤ q → q ≤ n → am_m M2 q = am_m M q) (hmr : ∀ q, 0 ≤ q → q ≤ n → 0 ≤ am_m M q ∧ am_m M q ≤ 400) (hL : ∀ j : Nat, (j : Int) < 6400 * n → L2 j = L j) (hF : ∀ q, 1 ≤ q → q ≤ n → am_fx Fx2 q = am_fx Fx q) : am_lays tys M2 L2 Fx2 n := by
  refine ⟨by rw [hm 0 (by omega) hn]; exact hl.1, fun q q1 q2 => ?_⟩
  have e1 : am_np Fx2 tys q = am_np Fx tys q := by
    unfold am_np
    rw [hF q q1 q2]
  have hnr := am_np_r (h := []) (Fx := Fx) hty q
  have hr := hmr (q - 1) (by omega) (by omega)
  obtain ⟨a1, a2⟩ := hl.2 q q1 q2
  unfold am_lay
  rw [e1, hm q (by omega) q2, hm (q - 1) (by omega) (by omega)]
  refine ⟨fun k t k1 k2 t1 t2 => ?_, fun j j1 j2 => ?_⟩
  · rw [am_ld_ag hL (by omega) (by omega)]
    exact a1 k t k1 k2 t1 t2
  · obtain ⟨k, t, b1, b2, b3⟩ := a2 j j1 j2
    exact ⟨k, t, b1, b2, by rw [am_ld_ag hL (by omega) (by omega)]; exact b3⟩
theorem am_lay.step {tys : Int} {M0 L0 M L Fx : Nat → Int32} {p k : Int} (hty : 0 ≤ tys ∧ tys ≤ 16) (hp : 1 ≤ p) (hk : 0 ≤ k ∧ k < 400) (hl : am_lay tys M0 L0 Fx p k) (hI : am_gI M0 L0 M L p k (am_np Fx tys p)) : am_lay tys M L Fx p (k + 1) := by
  obtain ⟨a1, a2⟩ := hl
  obtain ⟨b1, b2, b3, b4, b5⟩ := hI
  have hnr := am_np_r (h := []) (Fx := Fx) hty p
  refine ⟨fun k' t k1 k2 t1 t2 => ?_, fun j j1 j2 => ?_⟩
  · by_cases q : k' = k
    · subst q
      exact b4 t t1 t2
    · rw [am_ld_ag b3 (by omega) (by omega)]
      have := a1 k' t k1 (by omega) t1 t2
      omega
  · by_cases q : j < am_m M0 p
    · obtain ⟨k', t, c1, c2, c3⟩ := a2 j j1 q
      exact ⟨k', t, by omega, c2, by rw [am_ld_ag b3 (by omega) (by omega)]; exact c3⟩
    · obtain ⟨t, c1, c2, c3⟩ := b5 j (by omega) j2
      exact ⟨k, t, by omega, by omega, c3⟩
theorem am_vE.re {mo mo2 : ab_Mo} {h0 h h2 : am_H} {len tys : Int} {M M2 L L2 A A2 Fx Fx2 : Nat → Int32} (v : am_vE mo h0 h len tys M L A Fx) (v2 : am_vE mo2 h h2 len tys M2 L2 A2 Fx2) (hmo : mo2.all (fun q => ab_md mo q.1 q.2) = true) : am_vE mo h0 h2 len tys M2 L2 A2 Fx2 := ⟨v2.1, v.2.1.tr (v2.2.1.le (fun q hq => ab_md_in (List.all_eq_true.mp hmo q hq))), v2.2.2⟩
theorem am_vE.at {mo mo2 : ab_Mo} {h0 h : am_H} {len tys : Int} {M L A Fx : Nat → Int32} (v : am_vE mo h0 h len tys M L A Fx) : am_vE mo2 h h len tys M L A Fx := ⟨v.1, ab_fr.rf, v.2.2⟩
/-- an array that stands elsewhere -/
theorem am_vE.st {mo : ab_Mo} {h0 h : am_H} {len tys : Int} {M L A Fx f : Nat → Int32} (v : am_vE mo h0 h len tys M L A Fx) {z : Nat} {w : Int32} (hf : h[89]? = some (.inl (1, 274400, .inl f))) (hmo : ab_md mo 89 0 = true) : am_vE mo h0 (h.set 89 (.inl (1, 274400, .inl (upd f z w)))) len tys M L A Fx := by
  have hok2 := am_aset (z := z) (w := w) v.1 (lo := -2147483648) (hi := 2147483647) (m := 511) rfl (by decide) hf ⟨(ab_i32 w).1, (ab_i32 w).2, by show w.toInt % 512 ≤ 511; omega⟩
  exact v.fr hok2 (ab_fr_arr (mo := [(89, 0)]) rfl hf) ((List.getElem?_set_ne (by decide)).trans v.2.2.2.2.1) (by simp only [List.all_cons, List.all_nil, Bool.and_true]; exact hmo) rfl
set_option maxRecDepth 100000 in
theorem am_en1 {d : Nat} {h0 : am_H} {len tys : Int} {A : Nat → Int32} {Φ : am_C → Prop} {M L Fx : Nat → Int32}
    (K : ∀ h, am_vE am_moE h0 h len tys M L A Fx → am_Wp false (d + 4) (0, fun _ => 0) am_r197 Φ (47, [some (.ref 64), some (.int (Int32.ofInt (14))), none], [], h, 0, 0)) :
    ∀ (n : Nat) (i : Int) (h : am_H), 14 - i < (n : Int) → 0 ≤ i → i ≤ 14 → am_vE am_moE h0 h len tys M L A Fx → am_Wp false (d + 4) (0, fun _ => 0) am_r197 Φ (23, [some (.ref 64), some (.int (Int32.ofInt (i))), none], [], h, 0, 0) := by
  intro n
  induction n with
  | zero => intro i h hn h1 h2; omega
  | succ n ih =>
    intro i h hn h1 h2 v
    obtain ⟨hok, hfr, hlen, htys, hM, hL, hA, hF, ⟨Ft, hFt⟩, ⟨Ct, hCt⟩⟩ := id v
    refine am_Wp.bl 2 (y := (26, [some (.ref 64), some (.int (Int32.ofInt (i))), none], [.int (Int32.ofInt (14)), .int (Int32.ofInt (i))], h, 0, 0)) (fun _ => rfl) ?_
    refine am_Wp.ic ⟨by omega, by omega⟩ ⟨by omega, by omega⟩ rfl rfl (fun hc => ?_) (fun hc => ?_)
    · have hc : (14 ≤ (i : Int)) := hc
      obtain rfl : i = 14 := by omega
      exact K h v
    · have hc : ¬ (14 ≤ (i : Int)) := hc
      obtain ⟨St, hSt⟩ := am_arr_of (a := 89) hok rfl rfl rfl
      obtain ⟨Al, hAl⟩ := am_arr_of (a := 82) hok rfl rfl rfl
      refine am_Wp.bl 1 (y := (30, [some (.ref 64), some (.int (Int32.ofInt (i))), none], [.ref 64], h, 0, 0)) (fun _ => rfl) ?_
      refine am_mg93 rfl rfl hok ?_
      refine am_Wp.bl 2 (y := (35, [some (.ref 64), some (.int (Int32.ofInt (i))), none], [.ref 64, .int (Int32.ofInt (i)), .ref 89], h, 0, 0)) (fun _ => rfl) ?_
      refine am_mg71 rfl rfl hok ?_
      refine am_Wp.bl 1 (y := (39, [some (.ref 64), some (.int (Int32.ofInt (i))), none], [.int (Int32.ofInt (i)), .ref 82, .int (Int32.ofInt (i)), .ref 89], h, 0, 0)) (fun _ => rfl) ?_
      refine am_Wp.ia (w := (Al (i).toNat).toInt) hAl (by omega) (by omega) (am_oio _).symm rfl rfl (by decide) ?_
      refine am_Wp.is hSt (by omega) (by omega) rfl rfl (by decide) ?_
      have v2 := v.st (z := (i).toNat) (w := Int32.ofInt ((Al (i).toNat).toInt)) hSt rfl
      generalize h.set 89 (.inl (1, 274400, .inl (upd St (i).toNat (Int32.ofInt ((Al (i).toNat).toInt))))) = h2 at v2 ⊢
      refine am_Wp.bl 2 (y := (23, [some (.ref 64), some (.int ((Int32.ofInt (i)) + Int32.ofInt (1))), none], [], h2, 0, 0)) (fun _ => rfl) ?_
      simp only [am_oa, am_om, am_os]
      exact ih ((i) + (1)) h2 (by omega) (by omega) (by omega) v2
set_option maxRecDepth 100000 in
theorem am_en3 {d : Nat} {h0 : am_H} {len tys : Int} {A : Nat → Int32} {Φ : am_C → Prop} {Fx : Nat → Int32} {p : Int} (hty : 0 ≤ tys ∧ tys ≤ 16) (hp : 1 ≤ p ∧ p ≤ 48)
    (K4 : ∀ h l1 l2, ab_hok ab_D0 h → ab_fr am_moE h0 h → am_Wp false (d + 4) (0, fun _ => 0) am_r197 Φ (121, [some (.ref 64), l1, l2], [.int (Int32.ofInt (-4))], h, 0, 0))
    (K : ∀ h M L, am_vE am_moE h0 h len tys M L A Fx → am_lays tys M L Fx (p - 1) → am_lay tys M L Fx p (am_m M (p - 1)) → am_Wp false (d + 4) (0, fun _ => 0) am_r197 Φ (128, [some (.ref 64), some (.int (Int32.ofInt (p))), some (.int (Int32.ofInt (am_m M (p - 1))))], [], h, 0, 0)) :
    ∀ (n : Nat) (k : Int) (h : am_H) (M L : Nat → Int32), am_m M (p - 1) - k < (n : Int) → 0 ≤ k → k ≤ am_m M (p - 1) → am_lays tys M L Fx (p - 1) → am_lay tys M L Fx p k → am_vE am_moE h0 h len tys M L A Fx → am_Wp false (d + 4) (0, fun _ => 0) am_r197 Φ (98, [some (.ref 64), some (.int (Int32.ofInt (p))), some (.int (Int32.ofInt (k)))], [], h, 0, 0) := by
  intro n
  induction n with
  | zero => intro k h M L hn h1 h2; omega
  | succ n ih =>
    intro k h M L hn h1 h2 hls hly v
    obtain ⟨hok, hfr, hlen, htys, hM, hL, hA, hF, ⟨Ft, hFt⟩, ⟨Ct, hCt⟩⟩ := id v
    have hm1 := am_m_r hok hM (q := p - 1) (by omega)
    refine am_Wp.bl 2 (y := (100, [some (.ref 64), some (.int (Int32.ofInt (p))), some (.int (Int32.ofInt (k)))], [.ref 64, .int (Int32.ofInt (k))], h, 0, 0)) (fun _ => rfl) ?_
    refine am_mg96 rfl rfl hok ?_
    refine am_Wp.bl 3 (y := (106, [some (.ref 64), some (.int (Int32.ofInt (p))), some (.int (Int32.ofInt (k)))], [.int ((Int32.ofInt (p)) - (Int32.ofInt (1))), .ref 90, .int (Int32.ofInt (k))], h, 0, 0)) (fun _ => rfl) ?_
    simp only [am_oa, am_om, am_os]
    refine am_Wp.ia (w := am_m M (p - 1)) hM (by omega) (by omega) (am_oio _).symm rfl rfl (by decide) ?_
    refine am_Wp.ic ⟨by omega, by omega⟩ ⟨by omega, by omega⟩ rfl rfl (fun hc => ?_) (fun hc => ?_)
    · have hc : (am_m M (p - 1) ≤ (k : Int)) := hc
      obtain rfl : k = am_m M (p - 1) := by omega
      exact K h M L v hls hly
    · have hc : ¬ (am_m M (p - 1) ≤ (k : Int)) := hc
      obtain ⟨x, h2, d2, hx⟩ := am_goE (d := d) (p := p) (k := k) hty hp (by omega) (v.at (mo2 := am_moG))
      have ok2 : ab_hok ab_D0 h2 := by
        rcases hx with ⟨-, q, -⟩ | ⟨-, M2, L2, q, -⟩
        · exact q
        · exact q.1
      have hxr : x = 0 ∨ x = 1 := by
        rcases hx with q | q
        · exact Or.inl q.1
        · exact Or.inr q.1
      refine am_Wp.bl 3 (y := (113, [some (.ref 64), some (.int (Int32.ofInt (p))), some (.int (Int32.ofInt (k)))], [.int (Int32.ofInt (k)), .int (Int32.ofInt (p)), .ref 64], h, 0, 0)) (fun _ => rfl) ?_
      refine am_Wp.call d2 hok ok2 rfl rfl rfl rfl rfl rfl rfl ?_
      refine am_Wp.i0 ⟨by omega, by omega⟩ rfl rfl (fun hd => ?_) (fun hd => ?_)
      · have hd : (¬ (x : Int) = 0) := hd
        rcases hx with ⟨q1, q2, q3⟩ | ⟨q1, M2, L2, v2, hI⟩
        · omega
        refine am_Wp.bl 2 (y := (98, [some (.ref 64), some (.int (Int32.ofInt (p))), some (.int ((Int32.ofInt (k)) + Int32.ofInt (1)))], [], h2, 0, 0)) (fun _ => rfl) ?_
        simp only [am_oa, am_om, am_os]
        have v3 := v.re v2 rfl
        have hMr := fun q (q1 : 0 ≤ q) (q2 : q ≤ p - 1) => am_m_r hok hM (q := q) (by omega)
        have e1 : am_m M2 (p - 1) = am_m M (p - 1) := hI.1 (p - 1) (by omega) (by omega)
        refine ih ((k) + (1)) h2 M2 L2 (by omega) (by omega) (by omega) (hls.keep hty (by omega) (fun q q1 q2 => hI.1 q q1 (by omega)) hMr (fun j hj => hI.2.2.1 j (by omega)) (fun _ _ _ => rfl)) (am_lay.step hty (by omega) (by omega) hly hI) v3
      · have hd : ¬ (¬ (x : Int) = 0) := hd
        refine am_Wp.bl 1 (y := (121, [some (.ref 64), some (.int (Int32.ofInt (p))), some (.int (Int32.ofInt (k)))], [.int (Int32.ofInt (-4))], h2, 0, 0)) (fun _ => rfl) ?_
        rcases hx with ⟨q1, q2, q3⟩ | ⟨q1, M2, L2, v2, hI⟩
        · exact K4 h2 _ _ ok2 (hfr.tr (q3.le (fun q hq => ab_md_in (List.all_eq_true.mp (show am_moG.all (fun q => ab_md am_moE q.1 q.2) = true from rfl) q hq))))
        · omega
set_option maxRecDepth 100000 in
theorem am_en2 {d : Nat} {h0 : am_H} {len tys : Int} {A : Nat → Int32} {Φ : am_C → Prop} (hty : 0 ≤ tys ∧ tys ≤ 16) (hl : 0 ≤ len ∧ len ≤ 48)
    (K4 : ∀ h l1 l2, ab_hok ab_D0 h → ab_fr am_moE h0 h → am_Wp false (d + 4) (0, fun _ => 0) am_r197 Φ (121, [some (.ref 64), l1, l2], [.int (Int32.ofInt (-4))], h, 0, 0))
    (K : ∀ h M L Fx o2, am_vE am_moE h0 h len tys M L A Fx → am_lays tys M L Fx len → am_Wp false (d + 4) (0, fun _ => 0) am_r197 Φ (134, [some (.ref 64), some (.int (Int32.ofInt ((len + 1)))), o2], [], h, 0, 0)) :
    ∀ (n : Nat) (p : Int) (h : am_H) (M L Fx : Nat → Int32) (o2 : Option Value), len + 1 - p < (n : Int) → 1 ≤ p → p ≤ len + 1 → am_lays tys M L Fx (p - 1) → am_vE am_moE h0 h len tys M L A Fx → am_Wp false (d + 4) (0, fun _ => 0) am_r197 Φ (49, [some (.ref 64), some (.int (Int32.ofInt (p))), o2], [], h, 0, 0) := by
  intro n
  induction n with
  | zero => intro p h M L Fx o2 hn h1 h2; omega
  | succ n ih =>
    intro p h M L Fx o2 hn h1 h2 hls v
    obtain ⟨hok, hfr, hlen, htys, hM, hL, hA, hF, ⟨Ft, hFt⟩, ⟨Ct, hCt⟩⟩ := id v
    refine am_Wp.bl 2 (y := (51, [some (.ref 64), some (.int (Int32.ofInt (p))), o2], [.ref 64, .int (Int32.ofInt (p))], h, 0, 0)) (fun _ => rfl) ?_
    refine am_mi33 rfl rfl hok hlen ?_
    refine am_Wp.ic ⟨by omega, by omega⟩ ⟨by omega, by omega⟩ rfl rfl (fun hc => ?_) (fun hc => ?_)
    · have hc : (len < (p : Int)) := hc
      obtain rfl : p = len + 1 := by omega
      exact K h M L Fx o2 v (by rw [show (len : Int) = len + 1 - 1 by omega]; exact hls)
    · have hc : ¬ (len < (p : Int)) := hc
      refine am_Wp.bl 1 (y := (58, [some (.ref 64), some (.int (Int32.ofInt (p))), o2], [.ref 64], h, 0, 0)) (fun _ => rfl) ?_
      refine am_mg96 rfl rfl hok ?_
      refine am_Wp.bl 2 (y := (63, [some (.ref 64), some (.int (Int32.ofInt (p))), o2], [.int (Int32.ofInt (0)), .int (Int32.ofInt (p)), .ref 90], h, 0, 0)) (fun _ => rfl) ?_
      refine am_Wp.is hM (by omega) (by omega) rfl rfl (by decide) ?_
      have v2 := am_vE.sM (z := p) (w := Int32.ofInt (0)) v ⟨by decide, by decide⟩ rfl
      generalize h.set 90 (.inl (1, 49, .inl (upd M (p).toNat (Int32.ofInt (0))))) = h2 at v2 ⊢
      have hMr := fun q (q1 : 0 ≤ q) (q2 : q ≤ p - 1) => am_m_r hok hM (q := q) (by omega)
      have hup : ∀ q, 0 ≤ q → q ≤ p - 1 → am_m (upd M (p).toNat (Int32.ofInt (0))) q = am_m M q := fun q q1 q2 => by
        unfold am_m upd
        rw [if_neg (by omega)]
      have hp0 : am_m (upd M (p).toNat (Int32.ofInt (0))) p = 0 := by
        unfold am_m upd
        rw [if_pos rfl]
        rfl
      generalize upd M (p).toNat (Int32.ofInt (0)) = M2 at v2 hup hp0 ⊢
      have hls2 : am_lays tys M2 L Fx (p - 1) := hls.keep hty (by omega) hup hMr (fun _ _ => rfl) (fun _ _ _ => rfl)
      obtain ⟨xv, hver0, hv1, hv2⟩ := am_fld_int (k := 40) (lo := 0) (hi := 48) v2.1 am_d64 rfl rfl
      have hver : ab_cell h2 64 ((40 : Nat) : Int) = some (.int (Int32.ofInt xv.toInt)) := by
        rw [am_oio]
        exact hver0
      obtain ⟨Wo, hWo⟩ := am_arr_of (a := 86) v2.1 rfl rfl rfl
      have hw1 := am_arng v2.1 (lo := 0) (hi := 1) (m := 511) rfl hWo ((p) - (1)).toNat (by omega)
      have hw2 : 0 ≤ (Wo ((p) - (1)).toNat).toInt ∧ (Wo ((p) - (1)).toNat).toInt ≤ 1 := ⟨hw1.1, hw1.2.1⟩
      have K95 : ∀ b, 0 ≤ b ∧ b ≤ 1 → am_Wp false (d + 4) (0, fun _ => 0) am_r197 Φ (95, [some (.ref 64), some (.int (Int32.ofInt (p))), o2], [.int (Int32.ofInt (b)), .int (Int32.ofInt ((p) - (1))), .ref 93], h2, 0, 0) := by
        intro b hb
        refine am_Wp.bs v2.2.2.2.2.2.2.2.1 (by omega) (by omega) ⟨by rw [am_oi (by omega) (by omega)]; omega, by rw [am_oi (by omega) (by omega)]; omega⟩ rfl rfl (by decide) ?_
        have v3 := am_vE.sF (z := (p) - (1)) (w := Int32.ofInt (b)) v2 ⟨by rw [am_oi (by omega) (by omega)]; omega, by rw [am_oi (by omega) (by omega)]; omega⟩ rfl
        generalize h2.set 93 (.inl (4, 48, .inl (upd Fx ((p) - (1)).toNat (Int32.ofInt (b))))) = h3 at v3 ⊢
        refine am_Wp.bl 2 (y := (98, [some (.ref 64), some (.int (Int32.ofInt (p))), some (.int (Int32.ofInt (0)))], [], h3, 0, 0)) (fun _ => rfl) ?_
        have hFk : ∀ q, 1 ≤ q → q ≤ p - 1 → am_fx (upd Fx ((p) - (1)).toNat (Int32.ofInt (b))) q = am_fx Fx q := fun q q1 q2 => by
          unfold am_fx upd
          rw [if_neg (by omega)]
        generalize upd Fx ((p) - (1)).toNat (Int32.ofInt (b)) = Fx2 at v3 hFk ⊢
        have hMr2 := fun q (q1 : 0 ≤ q) (q2 : q ≤ p - 1) => am_m_r v2.1 v2.2.2.2.2.1 (q := q) (by omega)
        have hls3 : am_lays tys M2 L Fx2 (p - 1) := hls2.keep hty (by omega) (fun _ _ _ => rfl) hMr2 (fun _ _ => rfl) hFk
        have hm0 := hMr2 (p - 1) (by omega) (by omega)
        refine am_en3 hty (by omega) K4 (fun h4 M4 L4 v4 hl4 hly4 => ?_) ((am_m M2 (p - 1)).toNat + 1) 0 h3 M2 L (by omega) (by omega) (by omega) hls3 ⟨fun k t k1 k2 => by omega, fun j j1 j2 => by omega⟩ v3
        refine am_Wp.bl 2 (y := (49, [some (.ref 64), some (.int ((Int32.ofInt (p)) + Int32.ofInt (1))), some (.int (Int32.ofInt (am_m M4 (p - 1))))], [], h4, 0, 0)) (fun _ => rfl) ?_
        simp only [am_oa, am_om, am_os]
        refine ih ((p) + (1)) h4 M4 L4 Fx2 _ (by omega) (by omega) (by omega) ⟨hl4.1, fun q q1 q2 => ?_⟩ v4
        by_cases hq : q = p
        · subst hq
          exact hly4
        · exact hl4.2 q q1 (by omega)
      refine am_Wp.bl 1 (y := (65, [some (.ref 64), some (.int (Int32.ofInt (p))), o2], [.ref 64], h2, 0, 0)) (fun _ => rfl) ?_
      refine am_mg106 rfl rfl v2.1 ?_
      refine am_Wp.bl 5 (y := (73, [some (.ref 64), some (.int (Int32.ofInt (p))), o2], [.ref 64, .int (Int32.ofInt (p)), .int ((Int32.ofInt (p)) - (Int32.ofInt (1))), .ref 93], h2, 0, 0)) (fun _ => rfl) ?_
      simp only [am_oa, am_om, am_os]
      refine am_mi275 rfl rfl v2.1 hver ?_
      refine am_Wp.ic ⟨by omega, by omega⟩ ⟨by omega, by omega⟩ rfl rfl (fun hd => ?_) (fun hd => ?_)
      · have hd : (xv.toInt < (p : Int)) := hd
        refine am_Wp.bl 1 (y := (95, [some (.ref 64), some (.int (Int32.ofInt (p))), o2], [.int (Int32.ofInt (0)), .int (Int32.ofInt ((p) - (1))), .ref 93], h2, 0, 0)) (fun _ => rfl) ?_
        exact K95 0 (by omega)
      · have hd : ¬ (xv.toInt < (p : Int)) := hd
        refine am_Wp.bl 1 (y := (80, [some (.ref 64), some (.int (Int32.ofInt (p))), o2], [.ref 64, .int (Int32.ofInt ((p) - (1))), .ref 93], h2, 0, 0)) (fun _ => rfl) ?_
        refine am_mg83 rfl rfl v2.1 ?_
        refine am_Wp.bl 3 (y := (86, [some (.ref 64), some (.int (Int32.ofInt (p))), o2], [.int ((Int32.ofInt (p)) - (Int32.ofInt (1))), .ref 86, .int (Int32.ofInt ((p) - (1))), .ref 93], h2, 0, 0)) (fun _ => rfl) ?_
        simp only [am_oa, am_om, am_os]
        refine am_Wp.ba (w := (Wo ((p) - (1)).toNat).toInt) hWo (by omega) (by omega) (am_oio _).symm rfl rfl (by decide) ?_
        refine am_Wp.i0 ⟨by omega, by omega⟩ rfl rfl (fun he => ?_) (fun he => ?_)
        · have he : (¬ ((Wo ((p) - (1)).toNat).toInt : Int) = 0) := he
          refine am_Wp.bl 1 (y := (95, [some (.ref 64), some (.int (Int32.ofInt (p))), o2], [.int (Int32.ofInt (0)), .int (Int32.ofInt ((p) - (1))), .ref 93], h2, 0, 0)) (fun _ => rfl) ?_
          exact K95 0 (by omega)
        · have he : ¬ (¬ ((Wo ((p) - (1)).toNat).toInt : Int) = 0) := he
          refine am_Wp.bl 2 (y := (95, [some (.ref 64), some (.int (Int32.ofInt (p))), o2], [.int (Int32.ofInt (1)), .int (Int32.ofInt ((p) - (1))), .ref 93], h2, 0, 0)) (fun _ => rfl) ?_
          exact K95 1 (by omega)
set_option maxRecDepth 100000 in
theorem am_enE {d : Nat} {h : am_H} (hok0 : ab_hok ab_D0 h) : ∃ (x : Int) (h2 : am_H), am_Do false (d + 5) 197 [.ref 64] h (some (.int (Int32.ofInt x)), h2) ∧ ab_hok ab_D0 h2 ∧ ab_fr am_moE h h2 := by
  obtain ⟨xl, hl0, hl1, hl2⟩ := am_fld_int (k := 24) (lo := 0) (hi := 48) hok0 am_d64 rfl rfl
  obtain ⟨xt, ht0, ht1, ht2⟩ := am_fld_int (k := 46) (lo := 0) (hi := 16) hok0 am_d64 rfl rfl
  obtain ⟨M, hM0⟩ := am_arr_of (a := 90) hok0 rfl rfl rfl
  obtain ⟨L, hL0⟩ := am_arr_of (a := 91) hok0 rfl rfl rfl
  obtain ⟨A, hA0⟩ := am_arr_of (a := 92) hok0 rfl rfl rfl
  obtain ⟨Fx, hF0⟩ := am_arr_of (a := 93) hok0 rfl rfl rfl
  rw [← am_oio xl] at hl0
  rw [← am_oio xt] at ht0
  generalize xl.toInt = len at hl0 hl1 hl2
  generalize xt.toInt = tys at ht0 ht1 ht2
  have hl : 0 ≤ len ∧ len ≤ 48 := ⟨hl1, hl2⟩
  have hty : 0 ≤ tys ∧ tys ≤ 16 := ⟨ht1, ht2⟩
  have v : am_vE am_moE h h len tys M L A Fx := ⟨hok0, ab_fr.rf, hl0, ht0, hM0, hL0, hA0, hF0, am_arr_of (a := 94) hok0 rfl rfl rfl, am_arr_of (a := 95) hok0 rfl rfl rfl⟩
  obtain ⟨hok, hfr, hlen, htys, hM, hL, hA, hF, ⟨Ft, hFt⟩, ⟨Ct, hCt⟩⟩ := id v
  have key : am_Wp false (d + 4) (0, fun _ => 0) am_r197 (fun y => (y.1 = 121 ∨ y.1 = 147 ∨ y.1 = 166) ∧ ∃ x, y.2.2.1 = [.int (Int32.ofInt x)] ∧ ab_hok ab_D0 y.2.2.2.1 ∧ ab_fr am_moE h y.2.2.2.1) (0, [some (.ref 64), none, none], [], h, 0, 0) := by
    refine am_Wp.bl 2 (y := (2, [some (.ref 64), none, none], [.int (Int32.ofInt (0)), .ref 64], h, 0, 0)) (fun _ => rfl) ?_
    refine am_Wp.pi (D := ab_D0) (c := 12) (k := 55) rfl rfl hok am_d64 rfl rfl ⟨by decide, by decide⟩ (by decide) (Or.inr ⟨rfl, by decide, by decide⟩) (fun h1 ok1 f1 c1 e1 => ?_)
    have v1 := v.fr ok1 f1 ((e1 90 (by decide)).trans hM) rfl rfl
    refine am_Wp.bl 2 (y := (7, [some (.ref 64), none, none], [.int (Int32.ofInt (1)), .ref 64], h1, 0, 0)) (fun _ => rfl) ?_
    refine am_Wp.pi (D := ab_D0) (c := 12) (k := 56) rfl rfl ok1 am_d64 rfl rfl ⟨by decide, by decide⟩ (by decide) (Or.inl rfl) (fun h2 ok2 f2 c2 e2 => ?_)
    have v2 := v1.fr ok2 f2 ((e2 90 (by decide)).trans v1.2.2.2.2.1) rfl rfl
    refine am_Wp.bl 1 (y := (11, [some (.ref 64), none, none], [.ref 64], h2, 0, 0)) (fun _ => rfl) ?_
    refine am_mg96 rfl rfl ok2 ?_
    refine am_Wp.bl 2 (y := (16, [some (.ref 64), none, none], [.int (Int32.ofInt (1)), .int (Int32.ofInt (0)), .ref 90], h2, 0, 0)) (fun _ => rfl) ?_
    refine am_Wp.is v2.2.2.2.2.1 (by omega) (by omega) rfl rfl (by decide) ?_
    have v3 := am_vE.sM (z := 0) (w := Int32.ofInt (1)) v2 ⟨by decide, by decide⟩ rfl
    generalize h2.set 90 (.inl (1, 49, .inl (upd M (0 : Int).toNat (Int32.ofInt (1))))) = h3 at v3 ⊢
    obtain ⟨h4, d4, ok4, f4⟩ := am_u_alongNothing (d := d + 3) v3.1
    have v4 := v3.fr ok4 f4 ((am_fr_get f4 rfl).trans v3.2.2.2.2.1) rfl rfl
    refine am_Wp.bl 1 (y := (18, [some (.ref 64), none, none], [.ref 64], h3, 0, 0)) (fun _ => rfl) ?_
    refine am_Wp.call d4 v3.1 ok4 rfl rfl rfl rfl rfl rfl rfl ?_
    refine am_Wp.bl 2 (y := (23, [some (.ref 64), some (.int (Int32.ofInt (0))), none], [], h4, 0, 0)) (fun _ => rfl) ?_
    have hm0 : am_m (upd M (0 : Int).toNat (Int32.ofInt (1))) 0 = 1 := rfl
    generalize upd M (0 : Int).toNat (Int32.ofInt (1)) = M1 at v4 hm0
    refine am_en1 (fun h5 v5 => ?_) 15 0 h4 (by omega) (by omega) (by omega) v4
    refine am_Wp.bl 2 (y := (49, [some (.ref 64), some (.int (Int32.ofInt (1))), none], [], h5, 0, 0)) (fun _ => rfl) ?_
    refine am_en2 hty hl (fun h6 l1 l2 ok6 f6 => am_Wp.en ⟨Or.inl rfl, _, rfl, ok6, f6⟩) (fun h6 M6 L6 Fx6 o2 v6 hl6 => ?_) (len.toNat + 1) 1 h5 M1 L Fx _ (by omega) (by omega) (by omega) ⟨hm0, fun q q1 q2 => by omega⟩ v5
    have hm6 := am_m_r v6.1 v6.2.2.2.2.1 (q := len) hl
    refine am_Wp.bl 1 (y := (135, [some (.ref 64), some (.int (Int32.ofInt ((len + 1)))), o2], [.ref 64], h6, 0, 0)) (fun _ => rfl) ?_
    refine am_mg96 rfl rfl v6.1 ?_
    refine am_Wp.bl 1 (y := (139, [some (.ref 64), some (.int (Int32.ofInt ((len + 1)))), o2], [.ref 64, .ref 90], h6, 0, 0)) (fun _ => rfl) ?_
    refine am_mi33 rfl rfl v6.1 v6.2.2.1 ?_
    refine am_Wp.ia (w := am_m M6 len) v6.2.2.2.2.1 (by omega) (by omega) (am_oio _).symm rfl rfl (by decide) ?_
    refine am_Wp.i0 ⟨by omega, by omega⟩ rfl rfl (fun hz => ?_) (fun hz => ?_)
    · have hz : (¬ (am_m M6 len : Int) = 0) := hz
      obtain ⟨h7, A7, d7, v7⟩ := am_lb (al := false) (d := d + 3) ⟨hl, hty, hl6.1, fun p k t p1 p2 k1 k2 t1 t2 => (hl6.2 p p1 p2).1 k t k1 k2 t1 t2, fun p j p1 p2 j1 j2 => (hl6.2 p p1 p2).2 j j1 j2⟩ (by omega) (v6.at (mo2 := am_moL))
      have v8 := v6.re v7 rfl
      refine am_Wp.bl 1 (y := (149, [some (.ref 64), some (.int (Int32.ofInt ((len + 1)))), o2], [.ref 64], h6, 0, 0)) (fun _ => rfl) ?_
      refine am_Wp.call d7 v6.1 v7.1 rfl rfl rfl rfl rfl rfl rfl ?_
      refine am_Wp.bl 2 (y := (154, [some (.ref 64), some (.int (Int32.ofInt ((len + 1)))), o2], [.int (Int32.ofInt (1)), .ref 64], h7, 0, 0)) (fun _ => rfl) ?_
      refine am_Wp.pi (D := ab_D0) (c := 12) (k := 55) rfl rfl v7.1 am_d64 rfl rfl ⟨by decide, by decide⟩ (by decide) (Or.inr ⟨rfl, by decide, by decide⟩) (fun h8 ok8 f8 c8 e8 => ?_)
      have v9 := v8.fr ok8 f8 ((e8 90 (by decide)).trans v8.2.2.2.2.1) rfl rfl
      refine am_Wp.bl 2 (y := (159, [some (.ref 64), some (.int (Int32.ofInt ((len + 1)))), o2], [.ref 64, .ref 64], h8, 0, 0)) (fun _ => rfl) ?_
      refine am_mi33 rfl rfl ok8 v9.2.2.1 ?_
      refine am_Wp.pi (D := ab_D0) (c := 12) (k := 57) rfl rfl ok8 am_d64 rfl rfl ⟨by rw [am_oi (by omega) (by omega)]; show (0 : Int) ≤ len; omega, by rw [am_oi (by omega) (by omega)]; show len ≤ (48 : Int); omega⟩ (by decide) (Or.inl rfl) (fun h9 ok9 f9 c9 e9 => ?_)
      refine am_Wp.bl 1 (y := (166, [some (.ref 64), some (.int (Int32.ofInt ((len + 1)))), o2], [.int (Int32.ofInt (1))], h9, 0, 0)) (fun _ => rfl) ?_
      exact am_Wp.en ⟨Or.inr (Or.inr rfl), _, rfl, ok9, v9.2.1.tr (f9.le (fun q hq => ab_md_in (List.all_eq_true.mp (show [(64, 58)].all (fun q => ab_md am_moE q.1 q.2) = true from rfl) q hq)))⟩
    · have hz : ¬ (¬ (am_m M6 len : Int) = 0) := hz
      refine am_Wp.bl 1 (y := (147, [some (.ref 64), some (.int (Int32.ofInt ((len + 1)))), o2], [.int (Int32.ofInt (0))], h6, 0, 0)) (fun _ => rfl) ?_
      exact am_Wp.en ⟨Or.inr (Or.inl rfl), _, rfl, v6.1, v6.2.1⟩
  obtain ⟨y, g1, g2, x, g3, g4, g5⟩ := key
  obtain ⟨pc, lv, st, h2, nc, ns⟩ := y
  simp only at g2 g3 g4 g5
  subst g3
  refine ⟨x, h2, ?_, g4, g5⟩
  rcases g2 with rfl | rfl | rfl
  · exact am_Do.of (r := am_r197) (i := .ireturn) rfl rfl g1 rfl rfl rfl
  · exact am_Do.of (r := am_r197) (i := .ireturn) rfl rfl g1 rfl rfl rfl
  · exact am_Do.of (r := am_r197) (i := .ireturn) rfl rfl g1 rfl rfl rfl
