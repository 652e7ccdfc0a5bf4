/-! ===== the reference's looksBack: all states behind the last place live ===== -/
theorem am_lb1 (al : Bool) (d : Nat) (mo : ab_Mo) (h0 : am_H) (len tys : Int) (M L Fx : Nat → Int32) (Φ : am_C → Prop) (hl : 0 ≤ len ∧ len ≤ 48) (hmo : ab_md mo 92 0 = true) (hm : am_m M len ≤ 400)
    (K : ∀ h A, am_vE mo h0 h len tys M L A Fx → (∀ j, 0 ≤ j → j < am_m M len → am_a A len j = 1) → am_Wp al d (0, fun _ => 0) am_r201 Φ (37, [some (.ref 64), some (.int (Int32.ofInt (am_m M len))), none, none, none, none], [], h, 0, 0)) :
    ∀ (n : Nat) (k : Int) (h : am_H) (A : Nat → Int32), am_m M len - k < (n : Int) → 0 ≤ k → k ≤ am_m M len → (∀ j, 0 ≤ j → j < k → am_a A len j = 1) → am_vE mo h0 h len tys M L A Fx → am_Wp al d (0, fun _ => 0) am_r201 Φ (2, [some (.ref 64), some (.int (Int32.ofInt (k))), none, none, none, none], [], h, 0, 0) := by
  intro n
  induction n with
  | zero => intro k h A hn h1 h2; omega
  | succ n ih =>
    intro k h A hn h1 h2 hj v
    obtain ⟨hok, hfr, hlen, htys, hM, hL, hA, hF, ⟨Ft, hFt⟩, ⟨Ct, hCt⟩⟩ := id v
    refine am_Wp.bl 2 (y := (4, [some (.ref 64), some (.int (Int32.ofInt (k))), none, none, none, none], [.ref 64, .int (Int32.ofInt (k))], h, 0, 0)) (fun _ => rfl) ?_
    refine am_mg96 rfl rfl hok ?_
    refine am_Wp.bl 1 (y := (8, [some (.ref 64), some (.int (Int32.ofInt (k))), none, none, none, none], [.ref 64, .ref 90, .int (Int32.ofInt (k))], h, 0, 0)) (fun _ => rfl) ?_
    refine am_mi33 rfl rfl hok hlen ?_
    refine am_Wp.ia (w := am_m M len) hM (by omega) (by omega) (am_oio _).symm rfl rfl (by decide) ?_
    refine am_Wp.ic ⟨by omega, by omega⟩ ⟨by omega, by omega⟩ rfl rfl (fun hc => ?_) (fun hc => ?_)
    · have hc : (am_m M len ≤ (k : Int)) := hc
      have hk : k = am_m M len := by omega
      subst hk
      exact K h A v (fun j a b => hj j a b)
    · have hc : ¬ (am_m M len ≤ (k : Int)) := hc
      refine am_Wp.bl 1 (y := (16, [some (.ref 64), some (.int (Int32.ofInt (k))), none, none, none, none], [.ref 64], h, 0, 0)) (fun _ => rfl) ?_
      refine am_mg103 rfl rfl hok ?_
      refine am_Wp.bl 2 (y := (23, [some (.ref 64), some (.int (Int32.ofInt (k))), none, none, none, none], [.ref 64, .int (Int32.ofInt (400)), .ref 92], h, 0, 0)) (fun _ => rfl) ?_
      refine am_mi33 rfl rfl hok hlen ?_
      refine am_Wp.bl 4 (y := (30, [some (.ref 64), some (.int (Int32.ofInt (k))), none, none, none, none], [.int (Int32.ofInt (1)), .int (((Int32.ofInt (400)) * (Int32.ofInt (len))) + (Int32.ofInt (k))), .ref 92], h, 0, 0)) (fun _ => rfl) ?_
      simp only [am_oa, am_om, am_os]
      refine am_Wp.bs hA (by omega) (by omega) ⟨by decide, by decide⟩ rfl rfl (by decide) ?_
      have v2 := am_vE.sA (z := ((400) * (len)) + (k)) (w := Int32.ofInt (1)) v ⟨by decide, by decide⟩ hmo
      generalize h.set 92 (.inl (4, 19600, .inl (upd A (((400) * (len)) + (k)).toNat (Int32.ofInt (1))))) = h2 at v2 ⊢
      refine am_Wp.bl 2 (y := (2, [some (.ref 64), some (.int ((Int32.ofInt (k)) + Int32.ofInt (1))), none, none, none, none], [], h2, 0, 0)) (fun _ => rfl) ?_
      simp only [am_oa, am_om, am_os]
      refine ih ((k) + (1)) h2 _ (by omega) (by omega) (by omega) (fun j a b => ?_) v2
      exact am_a_upd1 (len := len) (by omega) (by omega) (by omega) (fun c => hj j a (by omega))
