/-! ===== liking on the fresh pair, in the small machine ===== -/
set_option maxHeartbeats 20000000 in
set_option maxRecDepth 100000 in
theorem am_lk0 : am_Do true 18 148 [.ref 0, .int 0, .int 0] am_h0 (some (.int 0), am_h0) := by
  have hd1 : am_Do true 17 72 [.ref 1, .int 0] am_h0 (some (.int 1), am_h0) := by
    refine am_Do.of (r := am_r72) (y := (19, [some (.ref 1), some (.int 0)], [.int 1], am_h0, 0, 0)) rfl rfl ?_ rfl rfl rfl
    refine am_Go.bl 10 (y := (19, [some (.ref 1), some (.int 0)], [.int 1], am_h0, 0, 0)) (fun _ => rfl) ?_
    exact am_Go.rf
  have hd2 : am_Do true 17 72 [.ref 1, .int 0] am_h0 (some (.int 1), am_h0) := by
    refine am_Do.of (r := am_r72) (y := (19, [some (.ref 1), some (.int 0)], [.int 1], am_h0, 0, 0)) rfl rfl ?_ rfl rfl rfl
    refine am_Go.bl 10 (y := (19, [some (.ref 1), some (.int 0)], [.int 1], am_h0, 0, 0)) (fun _ => rfl) ?_
    exact am_Go.rf
  have hd3 : am_Do true 17 117 [.ref 22, .int 0, .int 0] am_h0 (some (.int 0), am_h0) := by
    refine am_Do.of (r := am_r117) (y := (69, [some (.ref 22), some (.int 0), some (.int 0), some (.int 0), some (.int 8), some (.int 0)], [.int 0], am_h0, 0, 0)) rfl rfl ?_ rfl rfl rfl
    refine am_Go.bl 10 (y := (17, [some (.ref 22), some (.int 0), some (.int 0), some (.int 0), some (.int 0), some (.int 0)], [.int 0], am_h0, 0, 0)) (fun _ => rfl) ?_
    refine am_Go.bl 10 (y := (5, [some (.ref 22), some (.int 0), some (.int 0), some (.int 0), some (.int 1), some (.int 0)], [], am_h0, 0, 0)) (fun _ => rfl) ?_
    refine am_Go.bl 10 (y := (25, [some (.ref 22), some (.int 0), some (.int 0), some (.int 0), some (.int 1), some (.int 0)], [.int 1, .int 0], am_h0, 0, 0)) (fun _ => rfl) ?_
    refine am_Go.bl 10 (y := (13, [some (.ref 22), some (.int 0), some (.int 0), some (.int 0), some (.int 2), some (.int 0)], [.int 0], am_h0, 0, 0)) (fun _ => rfl) ?_
    refine am_Go.bl 10 (y := (62, [some (.ref 22), some (.int 0), some (.int 0), some (.int 0), some (.int 2), some (.int 0)], [], am_h0, 0, 0)) (fun _ => rfl) ?_
    refine am_Go.bl 10 (y := (22, [some (.ref 22), some (.int 0), some (.int 0), some (.int 0), some (.int 3), some (.int 0)], [], am_h0, 0, 0)) (fun _ => rfl) ?_
    refine am_Go.bl 10 (y := (9, [some (.ref 22), some (.int 0), some (.int 0), some (.int 0), some (.int 4), some (.int 0)], [.int 8, .int 4], am_h0, 0, 0)) (fun _ => rfl) ?_
    refine am_Go.bl 10 (y := (27, [some (.ref 22), some (.int 0), some (.int 0), some (.int 0), some (.int 4), some (.int 0)], [.int 1, .int 0], am_h0, 0, 0)) (fun _ => rfl) ?_
    refine am_Go.bl 10 (y := (17, [some (.ref 22), some (.int 0), some (.int 0), some (.int 0), some (.int 5), some (.int 0)], [.int 0], am_h0, 0, 0)) (fun _ => rfl) ?_
    refine am_Go.bl 10 (y := (5, [some (.ref 22), some (.int 0), some (.int 0), some (.int 0), some (.int 6), some (.int 0)], [], am_h0, 0, 0)) (fun _ => rfl) ?_
    refine am_Go.bl 10 (y := (25, [some (.ref 22), some (.int 0), some (.int 0), some (.int 0), some (.int 6), some (.int 0)], [.int 6, .int 0], am_h0, 0, 0)) (fun _ => rfl) ?_
    refine am_Go.bl 10 (y := (13, [some (.ref 22), some (.int 0), some (.int 0), some (.int 0), some (.int 7), some (.int 0)], [.int 0], am_h0, 0, 0)) (fun _ => rfl) ?_
    refine am_Go.bl 10 (y := (62, [some (.ref 22), some (.int 0), some (.int 0), some (.int 0), some (.int 7), some (.int 0)], [], am_h0, 0, 0)) (fun _ => rfl) ?_
    refine am_Go.bl 6 (y := (69, [some (.ref 22), some (.int 0), some (.int 0), some (.int 0), some (.int 8), some (.int 0)], [.int 0], am_h0, 0, 0)) (fun _ => rfl) ?_
    exact am_Go.rf
  have hd4 : am_Do true 18 148 [.ref 0, .int 0, .int 0] am_h0 (some (.int 0), am_h0) := by
    refine am_Do.of (r := am_r148) (y := (41, [some (.ref 0), some (.int 0), some (.int 0)], [.int 0], am_h0, 0, 0)) rfl rfl ?_ rfl rfl rfl
    refine am_Go.bl 3 (y := (5, [some (.ref 0), some (.int 0), some (.int 0)], [.int 0, .ref 1], am_h0, 0, 0)) (fun _ => rfl) ?_
    refine am_Go.cV hd1 rfl rfl rfl rfl rfl rfl rfl ?_
    refine am_Go.bl 4 (y := (16, [some (.ref 0), some (.int 0), some (.int 0)], [.int 0, .ref 1], am_h0, 0, 0)) (fun _ => rfl) ?_
    refine am_Go.cV hd2 rfl rfl rfl rfl rfl rfl rfl ?_
    refine am_Go.bl 5 (y := (38, [some (.ref 0), some (.int 0), some (.int 0)], [.int 0, .int 0, .ref 22], am_h0, 0, 0)) (fun _ => rfl) ?_
    refine am_Go.cV hd3 rfl rfl rfl rfl rfl rfl rfl ?_
    exact am_Go.rf
  exact hd4
set_option maxHeartbeats 20000000 in
set_option maxRecDepth 100000 in
theorem am_lkta (a b : Int32) (hz : ¬ a.toInt = 0) : am_Go true 17 (0, fun _ => 0) am_r148 (0, [some (.ref 0), some (.int a), some (.int b)], [], am_h0, 0, 0) (22, [some (.ref 0), some (.int a), some (.int b)], [], am_h0, 0, 0) := by
  cases hb1 : am_cmp .lt (a) 0 with
  | false =>
    have hf1 := (am_clt_f (y := 0) (k := (0)) rfl).mp hb1
    have hb2 : am_cmp .ge (a) 1 = true := (am_cge_t (k := (1)) rfl).mpr (by omega)
    have hd1 : am_Do true 17 72 [.ref 1, .int (a)] am_h0 (some (.int 0), am_h0) := by
      refine am_Do.of (r := am_r72) (y := (19, [some (.ref 1), some (.int (a))], [.int 0], am_h0, 0, 0)) rfl rfl ?_ rfl rfl rfl
      refine am_Go.bl 2 (y := (bif am_cmp .lt (a) 0 then 18 else 4, [some (.ref 1), some (.int (a))], [], am_h0, 0, 0)) (fun _ => rfl) ?_
      refine am_Go.brF hb1 ?_
      refine am_Go.bl 6 (y := (bif am_cmp .ge (a) 1 then 18 else 14, [some (.ref 1), some (.int (a))], [], am_h0, 0, 0)) (fun _ => rfl) ?_
      refine am_Go.brT hb2 ?_
      refine am_Go.bl 1 (y := (19, [some (.ref 1), some (.int (a))], [.int 0], am_h0, 0, 0)) (fun _ => rfl) ?_
      exact am_Go.rf
    have hg2 : am_Go true 17 (0, fun _ => 0) am_r148 (0, [some (.ref 0), some (.int (a)), some (.int (b))], [], am_h0, 0, 0) (22, [some (.ref 0), some (.int (a)), some (.int (b))], [], am_h0, 0, 0) := by
      refine am_Go.bl 3 (y := (5, [some (.ref 0), some (.int (a)), some (.int (b))], [.int (a), .ref 1], am_h0, 0, 0)) (fun _ => rfl) ?_
      refine am_Go.cV hd1 rfl rfl rfl rfl rfl rfl rfl ?_
      refine am_Go.bl 1 (y := (22, [some (.ref 0), some (.int (a)), some (.int (b))], [], am_h0, 0, 0)) (fun _ => rfl) ?_
      exact am_Go.rf
    exact hg2
  | true =>
    have hf1 := (am_clt_t (y := 0) (k := (0)) rfl).mp hb1
    have hd1 : am_Do true 17 72 [.ref 1, .int (a)] am_h0 (some (.int 0), am_h0) := by
      refine am_Do.of (r := am_r72) (y := (19, [some (.ref 1), some (.int (a))], [.int 0], am_h0, 0, 0)) rfl rfl ?_ rfl rfl rfl
      refine am_Go.bl 2 (y := (bif am_cmp .lt (a) 0 then 18 else 4, [some (.ref 1), some (.int (a))], [], am_h0, 0, 0)) (fun _ => rfl) ?_
      refine am_Go.brT hb1 ?_
      refine am_Go.bl 1 (y := (19, [some (.ref 1), some (.int (a))], [.int 0], am_h0, 0, 0)) (fun _ => rfl) ?_
      exact am_Go.rf
    have hg2 : am_Go true 17 (0, fun _ => 0) am_r148 (0, [some (.ref 0), some (.int (a)), some (.int (b))], [], am_h0, 0, 0) (22, [some (.ref 0), some (.int (a)), some (.int (b))], [], am_h0, 0, 0) := by
      refine am_Go.bl 3 (y := (5, [some (.ref 0), some (.int (a)), some (.int (b))], [.int (a), .ref 1], am_h0, 0, 0)) (fun _ => rfl) ?_
      refine am_Go.cV hd1 rfl rfl rfl rfl rfl rfl rfl ?_
      refine am_Go.bl 1 (y := (22, [some (.ref 0), some (.int (a)), some (.int (b))], [], am_h0, 0, 0)) (fun _ => rfl) ?_
      exact am_Go.rf
    exact hg2
set_option maxHeartbeats 20000000 in
set_option maxRecDepth 100000 in
theorem am_lktb (a b : Int32) (ha : a.toInt = 0) (hz : ¬ b.toInt = 0) : am_Go true 17 (0, fun _ => 0) am_r148 (0, [some (.ref 0), some (.int a), some (.int b)], [], am_h0, 0, 0) (22, [some (.ref 0), some (.int a), some (.int b)], [], am_h0, 0, 0) := by
  cases hb3 : am_cmp .lt (b) 0 with
  | false =>
    have hb1 : am_cmp .lt (a) 0 = false := (am_clt_f (k := (0)) rfl).mpr (by omega)
    have hb2 : am_cmp .ge (a) 1 = false := (am_cge_f (k := (1)) rfl).mpr (by omega)
    have hd1 : am_Do true 17 72 [.ref 1, .int (a)] am_h0 (some (.int 1), am_h0) := by
      refine am_Do.of (r := am_r72) (y := (19, [some (.ref 1), some (.int (a))], [.int 1], am_h0, 0, 0)) rfl rfl ?_ rfl rfl rfl
      refine am_Go.bl 2 (y := (bif am_cmp .lt (a) 0 then 18 else 4, [some (.ref 1), some (.int (a))], [], am_h0, 0, 0)) (fun _ => rfl) ?_
      refine am_Go.brF hb1 ?_
      refine am_Go.bl 6 (y := (bif am_cmp .ge (a) 1 then 18 else 14, [some (.ref 1), some (.int (a))], [], am_h0, 0, 0)) (fun _ => rfl) ?_
      refine am_Go.brF hb2 ?_
      refine am_Go.bl 2 (y := (19, [some (.ref 1), some (.int (a))], [.int 1], am_h0, 0, 0)) (fun _ => rfl) ?_
      exact am_Go.rf
    have hf3 := (am_clt_f (y := 0) (k := (0)) rfl).mp hb3
    have hb4 : am_cmp .ge (b) 1 = true := (am_cge_t (k := (1)) rfl).mpr (by omega)
    have hd2 : am_Do true 17 72 [.ref 1, .int (b)] am_h0 (some (.int 0), am_h0) := by
      refine am_Do.of (r := am_r72) (y := (19, [some (.ref 1), some (.int (b))], [.int 0], am_h0, 0, 0)) rfl rfl ?_ rfl rfl rfl
      refine am_Go.bl 2 (y := (bif am_cmp .lt (b) 0 then 18 else 4, [some (.ref 1), some (.int (b))], [], am_h0, 0, 0)) (fun _ => rfl) ?_
      refine am_Go.brF hb3 ?_
      refine am_Go.bl 6 (y := (bif am_cmp .ge (b) 1 then 18 else 14, [some (.ref 1), some (.int (b))], [], am_h0, 0, 0)) (fun _ => rfl) ?_
      refine am_Go.brT hb4 ?_
      refine am_Go.bl 1 (y := (19, [some (.ref 1), some (.int (b))], [.int 0], am_h0, 0, 0)) (fun _ => rfl) ?_
      exact am_Go.rf
    have hg3 : am_Go true 17 (0, fun _ => 0) am_r148 (0, [some (.ref 0), some (.int (a)), some (.int (b))], [], am_h0, 0, 0) (22, [some (.ref 0), some (.int (a)), some (.int (b))], [], am_h0, 0, 0) := by
      refine am_Go.bl 3 (y := (5, [some (.ref 0), some (.int (a)), some (.int (b))], [.int (a), .ref 1], am_h0, 0, 0)) (fun _ => rfl) ?_
      refine am_Go.cV hd1 rfl rfl rfl rfl rfl rfl rfl ?_
      refine am_Go.bl 4 (y := (16, [some (.ref 0), some (.int (a)), some (.int (b))], [.int (b), .ref 1], am_h0, 0, 0)) (fun _ => rfl) ?_
      refine am_Go.cV hd2 rfl rfl rfl rfl rfl rfl rfl ?_
      refine am_Go.bl 1 (y := (22, [some (.ref 0), some (.int (a)), some (.int (b))], [], am_h0, 0, 0)) (fun _ => rfl) ?_
      exact am_Go.rf
    exact hg3
  | true =>
    have hb1 : am_cmp .lt (a) 0 = false := (am_clt_f (k := (0)) rfl).mpr (by omega)
    have hb2 : am_cmp .ge (a) 1 = false := (am_cge_f (k := (1)) rfl).mpr (by omega)
    have hd1 : am_Do true 17 72 [.ref 1, .int (a)] am_h0 (some (.int 1), am_h0) := by
      refine am_Do.of (r := am_r72) (y := (19, [some (.ref 1), some (.int (a))], [.int 1], am_h0, 0, 0)) rfl rfl ?_ rfl rfl rfl
      refine am_Go.bl 2 (y := (bif am_cmp .lt (a) 0 then 18 else 4, [some (.ref 1), some (.int (a))], [], am_h0, 0, 0)) (fun _ => rfl) ?_
      refine am_Go.brF hb1 ?_
      refine am_Go.bl 6 (y := (bif am_cmp .ge (a) 1 then 18 else 14, [some (.ref 1), some (.int (a))], [], am_h0, 0, 0)) (fun _ => rfl) ?_
      refine am_Go.brF hb2 ?_
      refine am_Go.bl 2 (y := (19, [some (.ref 1), some (.int (a))], [.int 1], am_h0, 0, 0)) (fun _ => rfl) ?_
      exact am_Go.rf
    have hf3 := (am_clt_t (y := 0) (k := (0)) rfl).mp hb3
    have hd2 : am_Do true 17 72 [.ref 1, .int (b)] am_h0 (some (.int 0), am_h0) := by
      refine am_Do.of (r := am_r72) (y := (19, [some (.ref 1), some (.int (b))], [.int 0], am_h0, 0, 0)) rfl rfl ?_ rfl rfl rfl
      refine am_Go.bl 2 (y := (bif am_cmp .lt (b) 0 then 18 else 4, [some (.ref 1), some (.int (b))], [], am_h0, 0, 0)) (fun _ => rfl) ?_
      refine am_Go.brT hb3 ?_
      refine am_Go.bl 1 (y := (19, [some (.ref 1), some (.int (b))], [.int 0], am_h0, 0, 0)) (fun _ => rfl) ?_
      exact am_Go.rf
    have hg3 : am_Go true 17 (0, fun _ => 0) am_r148 (0, [some (.ref 0), some (.int (a)), some (.int (b))], [], am_h0, 0, 0) (22, [some (.ref 0), some (.int (a)), some (.int (b))], [], am_h0, 0, 0) := by
      refine am_Go.bl 3 (y := (5, [some (.ref 0), some (.int (a)), some (.int (b))], [.int (a), .ref 1], am_h0, 0, 0)) (fun _ => rfl) ?_
      refine am_Go.cV hd1 rfl rfl rfl rfl rfl rfl rfl ?_
      refine am_Go.bl 4 (y := (16, [some (.ref 0), some (.int (a)), some (.int (b))], [.int (b), .ref 1], am_h0, 0, 0)) (fun _ => rfl) ?_
      refine am_Go.cV hd2 rfl rfl rfl rfl rfl rfl rfl ?_
      refine am_Go.bl 1 (y := (22, [some (.ref 0), some (.int (a)), some (.int (b))], [], am_h0, 0, 0)) (fun _ => rfl) ?_
      exact am_Go.rf
    exact hg3
set_option maxHeartbeats 20000000 in
set_option maxRecDepth 100000 in
theorem am_ml0 : ∃ h2, am_Do false 19 180 [.ref 64, .int 0, .int 0] (am_h0.set 100 (.inl (2, 1, .inr (.inl (vp_updL (fun _ => 0) 0 0))))) (some (.int 0), h2) ∧ h2.length = 101 ∧ (∃ fs, am_obj h2 64 12 = some fs) ∧ am_Do false 19 150 [.ref 64] h2 (some (.int 0), h2) ∧ am_arl h2 100 2 = some (1, vp_updL (fun _ => 0) 0 0) := by
  have hd1 : am_Do false 17 169 [.int 0, .int 0, .int 0] (am_h0.set 100 (.inl (2, 1, .inr (.inl (vp_updL (fun _ => 0) 0 0))))) (some (.int 1), (am_h0.set 100 (.inl (2, 1, .inr (.inl (vp_updL (fun _ => 0) 0 0)))))) := by
    refine am_Do.of (r := am_r169) (y := (15, [some (.int 0), some (.int 0), some (.int 0)], [.int 1], (am_h0.set 100 (.inl (2, 1, .inr (.inl (vp_updL (fun _ => 0) 0 0))))), 0, 0)) rfl rfl ?_ rfl rfl rfl
    refine am_Go.bl 8 (y := (15, [some (.int 0), some (.int 0), some (.int 0)], [.int 1], (am_h0.set 100 (.inl (2, 1, .inr (.inl (vp_updL (fun _ => 0) 0 0))))), 0, 0)) (fun _ => rfl) ?_
    exact am_Go.rf
  have hd2 : am_Do false 18 176 [.ref 64, .int 0] (am_h0.set 100 (.inl (2, 1, .inr (.inl (vp_updL (fun _ => 0) 0 0))))) (some (.int 1), (am_h0.set 100 (.inl (2, 1, .inr (.inl (vp_updL (fun _ => 0) 0 0)))))) := by
    refine am_Do.of (r := am_r176) (y := (13, [some (.ref 64), some (.int 0)], [.int 1], (am_h0.set 100 (.inl (2, 1, .inr (.inl (vp_updL (fun _ => 0) 0 0))))), 0, 0)) rfl rfl ?_ rfl rfl rfl
    refine am_Go.bl 8 (y := (10, [some (.ref 64), some (.int 0)], [.int 0, .int 0, .int 0], (am_h0.set 100 (.inl (2, 1, .inr (.inl (vp_updL (fun _ => 0) 0 0))))), 0, 0)) (fun _ => rfl) ?_
    refine am_Go.cS hd1 rfl rfl rfl rfl rfl rfl ?_
    exact am_Go.rf
  have hd3 : am_Do false 17 169 [.int 0, .int 0, .int 0] (am_h0.set 100 (.inl (2, 1, .inr (.inl (vp_updL (fun _ => 0) 0 0))))) (some (.int 1), (am_h0.set 100 (.inl (2, 1, .inr (.inl (vp_updL (fun _ => 0) 0 0)))))) := by
    refine am_Do.of (r := am_r169) (y := (15, [some (.int 0), some (.int 0), some (.int 0)], [.int 1], (am_h0.set 100 (.inl (2, 1, .inr (.inl (vp_updL (fun _ => 0) 0 0))))), 0, 0)) rfl rfl ?_ rfl rfl rfl
    refine am_Go.bl 8 (y := (15, [some (.int 0), some (.int 0), some (.int 0)], [.int 1], (am_h0.set 100 (.inl (2, 1, .inr (.inl (vp_updL (fun _ => 0) 0 0))))), 0, 0)) (fun _ => rfl) ?_
    exact am_Go.rf
  have hd4 : am_Do false 18 176 [.ref 64, .int 0] (am_h0.set 100 (.inl (2, 1, .inr (.inl (vp_updL (fun _ => 0) 0 0))))) (some (.int 1), (am_h0.set 100 (.inl (2, 1, .inr (.inl (vp_updL (fun _ => 0) 0 0)))))) := by
    refine am_Do.of (r := am_r176) (y := (13, [some (.ref 64), some (.int 0)], [.int 1], (am_h0.set 100 (.inl (2, 1, .inr (.inl (vp_updL (fun _ => 0) 0 0))))), 0, 0)) rfl rfl ?_ rfl rfl rfl
    refine am_Go.bl 8 (y := (10, [some (.ref 64), some (.int 0)], [.int 0, .int 0, .int 0], (am_h0.set 100 (.inl (2, 1, .inr (.inl (vp_updL (fun _ => 0) 0 0))))), 0, 0)) (fun _ => rfl) ?_
    refine am_Go.cS hd3 rfl rfl rfl rfl rfl rfl ?_
    exact am_Go.rf
  have hd5 : am_Do false 18 181 [.ref 64, .int 0, .int 0] ((am_h0.set 100 (.inl (2, 1, .inr (.inl (vp_updL (fun _ => 0) 0 0))))).set 64 (.inr (12, [.int 0, .ref 65, .int 0, .int 0, .int 0, .int 0, .int 0, .int 0, .long 0, .int 0, .int 0, .int 0, .int 0, .int 0, .ref 66, .ref 67, .int 0, .ref 68, .ref 69, .ref 70, .ref 71, .int 0, .int 0, .int 0, .int 36, .int 99, .ref 72, .ref 73, .ref 74, .ref 75, .int 0, .ref 76, .ref 77, .int 0, .int 0, .ref 78, .ref 79, .ref 80, .ref 81, .ref 82, .int 0, .ref 83, .ref 84, .ref 85, .ref 86, .ref 87, .int 0, .ref 88, .ref 89, .ref 90, .ref 91, .ref 92, .ref 93, .ref 94, .ref 95, .int 0, .int 0, .int 0, .int 0, .ref 96, .int 0, .int 0, .ref 97, .ref 98, .ref 99]))) (some (.int 0), ((am_h0.set 100 (.inl (2, 1, .inr (.inl (vp_updL (fun _ => 0) 0 0))))).set 64 (.inr (12, [.int 0, .ref 65, .int 0, .int 0, .int 0, .int 0, .int 0, .int 0, .long 0, .int 0, .int 0, .int 0, .int 0, .int 0, .ref 66, .ref 67, .int 0, .ref 68, .ref 69, .ref 70, .ref 71, .int 0, .int 0, .int 0, .int 36, .int 99, .ref 72, .ref 73, .ref 74, .ref 75, .int 0, .ref 76, .ref 77, .int 0, .int 0, .ref 78, .ref 79, .ref 80, .ref 81, .ref 82, .int 0, .ref 83, .ref 84, .ref 85, .ref 86, .ref 87, .int 0, .ref 88, .ref 89, .ref 90, .ref 91, .ref 92, .ref 93, .ref 94, .ref 95, .int 0, .int 0, .int 0, .int 0, .ref 96, .int 0, .int 0, .ref 97, .ref 98, .ref 99])))) := by
    refine am_Do.of (r := am_r181) (y := (79, [some (.ref 64), some (.int 0), some (.int 0), some (.int 0), some (.int 0), none], [.int 0], ((am_h0.set 100 (.inl (2, 1, .inr (.inl (vp_updL (fun _ => 0) 0 0))))).set 64 (.inr (12, [.int 0, .ref 65, .int 0, .int 0, .int 0, .int 0, .int 0, .int 0, .long 0, .int 0, .int 0, .int 0, .int 0, .int 0, .ref 66, .ref 67, .int 0, .ref 68, .ref 69, .ref 70, .ref 71, .int 0, .int 0, .int 0, .int 36, .int 99, .ref 72, .ref 73, .ref 74, .ref 75, .int 0, .ref 76, .ref 77, .int 0, .int 0, .ref 78, .ref 79, .ref 80, .ref 81, .ref 82, .int 0, .ref 83, .ref 84, .ref 85, .ref 86, .ref 87, .int 0, .ref 88, .ref 89, .ref 90, .ref 91, .ref 92, .ref 93, .ref 94, .ref 95, .int 0, .int 0, .int 0, .int 0, .ref 96, .int 0, .int 0, .ref 97, .ref 98, .ref 99]))), 0, 0)) rfl rfl ?_ rfl rfl rfl
    refine am_Go.bl 9 (y := (79, [some (.ref 64), some (.int 0), some (.int 0), some (.int 0), some (.int 0), none], [.int 0], ((am_h0.set 100 (.inl (2, 1, .inr (.inl (vp_updL (fun _ => 0) 0 0))))).set 64 (.inr (12, [.int 0, .ref 65, .int 0, .int 0, .int 0, .int 0, .int 0, .int 0, .long 0, .int 0, .int 0, .int 0, .int 0, .int 0, .ref 66, .ref 67, .int 0, .ref 68, .ref 69, .ref 70, .ref 71, .int 0, .int 0, .int 0, .int 36, .int 99, .ref 72, .ref 73, .ref 74, .ref 75, .int 0, .ref 76, .ref 77, .int 0, .int 0, .ref 78, .ref 79, .ref 80, .ref 81, .ref 82, .int 0, .ref 83, .ref 84, .ref 85, .ref 86, .ref 87, .int 0, .ref 88, .ref 89, .ref 90, .ref 91, .ref 92, .ref 93, .ref 94, .ref 95, .int 0, .int 0, .int 0, .int 0, .ref 96, .int 0, .int 0, .ref 97, .ref 98, .ref 99]))), 0, 0)) (fun _ => rfl) ?_
    exact am_Go.rf
  have hd6 : am_Do false 19 180 [.ref 64, .int 0, .int 0] (am_h0.set 100 (.inl (2, 1, .inr (.inl (vp_updL (fun _ => 0) 0 0))))) (some (.int 0), ((am_h0.set 100 (.inl (2, 1, .inr (.inl (vp_updL (fun _ => 0) 0 0))))).set 64 (.inr (12, [.int 0, .ref 65, .int 0, .int 0, .int 0, .int 0, .int 0, .int 0, .long 0, .int 0, .int 0, .int 0, .int 0, .int 0, .ref 66, .ref 67, .int 0, .ref 68, .ref 69, .ref 70, .ref 71, .int 0, .int 0, .int 0, .int 36, .int 99, .ref 72, .ref 73, .ref 74, .ref 75, .int 0, .ref 76, .ref 77, .int 0, .int 0, .ref 78, .ref 79, .ref 80, .ref 81, .ref 82, .int 0, .ref 83, .ref 84, .ref 85, .ref 86, .ref 87, .int 0, .ref 88, .ref 89, .ref 90, .ref 91, .ref 92, .ref 93, .ref 94, .ref 95, .int 0, .int 0, .int 0, .int 0, .ref 96, .int 0, .int 0, .ref 97, .ref 98, .ref 99])))) := by
    refine am_Do.of (r := am_r180) (y := (42, [some (.ref 64), some (.int 0), some (.int 0)], [.int 0], ((am_h0.set 100 (.inl (2, 1, .inr (.inl (vp_updL (fun _ => 0) 0 0))))).set 64 (.inr (12, [.int 0, .ref 65, .int 0, .int 0, .int 0, .int 0, .int 0, .int 0, .long 0, .int 0, .int 0, .int 0, .int 0, .int 0, .ref 66, .ref 67, .int 0, .ref 68, .ref 69, .ref 70, .ref 71, .int 0, .int 0, .int 0, .int 36, .int 99, .ref 72, .ref 73, .ref 74, .ref 75, .int 0, .ref 76, .ref 77, .int 0, .int 0, .ref 78, .ref 79, .ref 80, .ref 81, .ref 82, .int 0, .ref 83, .ref 84, .ref 85, .ref 86, .ref 87, .int 0, .ref 88, .ref 89, .ref 90, .ref 91, .ref 92, .ref 93, .ref 94, .ref 95, .int 0, .int 0, .int 0, .int 0, .ref 96, .int 0, .int 0, .ref 97, .ref 98, .ref 99]))), 0, 0)) rfl rfl ?_ rfl rfl rfl
    refine am_Go.bl 3 (y := (3, [some (.ref 64), some (.int 0), some (.int 0)], [.int 0, .ref 64, .ref 64], (am_h0.set 100 (.inl (2, 1, .inr (.inl (vp_updL (fun _ => 0) 0 0))))), 0, 0)) (fun _ => rfl) ?_
    refine am_Go.cV hd2 rfl rfl rfl rfl rfl rfl rfl ?_
    refine am_Go.bl 3 (y := (11, [some (.ref 64), some (.int 0), some (.int 0)], [.int 0, .ref 64, .ref 64], (am_h0.set 100 (.inl (2, 1, .inr (.inl (vp_updL (fun _ => 0) 0 0))))), 0, 0)) (fun _ => rfl) ?_
    refine am_Go.cV hd4 rfl rfl rfl rfl rfl rfl rfl ?_
    refine am_Go.bl 10 (y := (35, [some (.ref 64), some (.int 0), some (.int 0)], [.int 0, .int 0, .ref 64], ((am_h0.set 100 (.inl (2, 1, .inr (.inl (vp_updL (fun _ => 0) 0 0))))).set 64 (.inr (12, [.int 0, .ref 65, .int 0, .int 0, .int 0, .int 0, .int 0, .int 0, .long 0, .int 0, .int 0, .int 0, .int 0, .int 0, .ref 66, .ref 67, .int 0, .ref 68, .ref 69, .ref 70, .ref 71, .int 0, .int 0, .int 0, .int 36, .int 99, .ref 72, .ref 73, .ref 74, .ref 75, .int 0, .ref 76, .ref 77, .int 0, .int 0, .ref 78, .ref 79, .ref 80, .ref 81, .ref 82, .int 0, .ref 83, .ref 84, .ref 85, .ref 86, .ref 87, .int 0, .ref 88, .ref 89, .ref 90, .ref 91, .ref 92, .ref 93, .ref 94, .ref 95, .int 0, .int 0, .int 0, .int 0, .ref 96, .int 0, .int 0, .ref 97, .ref 98, .ref 99]))), 0, 0)) (fun _ => rfl) ?_
    refine am_Go.cV hd5 rfl rfl rfl rfl rfl rfl rfl ?_
    refine am_Go.bl 1 (y := (42, [some (.ref 64), some (.int 0), some (.int 0)], [.int 0], ((am_h0.set 100 (.inl (2, 1, .inr (.inl (vp_updL (fun _ => 0) 0 0))))).set 64 (.inr (12, [.int 0, .ref 65, .int 0, .int 0, .int 0, .int 0, .int 0, .int 0, .long 0, .int 0, .int 0, .int 0, .int 0, .int 0, .ref 66, .ref 67, .int 0, .ref 68, .ref 69, .ref 70, .ref 71, .int 0, .int 0, .int 0, .int 36, .int 99, .ref 72, .ref 73, .ref 74, .ref 75, .int 0, .ref 76, .ref 77, .int 0, .int 0, .ref 78, .ref 79, .ref 80, .ref 81, .ref 82, .int 0, .ref 83, .ref 84, .ref 85, .ref 86, .ref 87, .int 0, .ref 88, .ref 89, .ref 90, .ref 91, .ref 92, .ref 93, .ref 94, .ref 95, .int 0, .int 0, .int 0, .int 0, .ref 96, .int 0, .int 0, .ref 97, .ref 98, .ref 99]))), 0, 0)) (fun _ => rfl) ?_
    exact am_Go.rf
  have hd7 : am_Do false 19 150 [.ref 64] ((am_h0.set 100 (.inl (2, 1, .inr (.inl (vp_updL (fun _ => 0) 0 0))))).set 64 (.inr (12, [.int 0, .ref 65, .int 0, .int 0, .int 0, .int 0, .int 0, .int 0, .long 0, .int 0, .int 0, .int 0, .int 0, .int 0, .ref 66, .ref 67, .int 0, .ref 68, .ref 69, .ref 70, .ref 71, .int 0, .int 0, .int 0, .int 36, .int 99, .ref 72, .ref 73, .ref 74, .ref 75, .int 0, .ref 76, .ref 77, .int 0, .int 0, .ref 78, .ref 79, .ref 80, .ref 81, .ref 82, .int 0, .ref 83, .ref 84, .ref 85, .ref 86, .ref 87, .int 0, .ref 88, .ref 89, .ref 90, .ref 91, .ref 92, .ref 93, .ref 94, .ref 95, .int 0, .int 0, .int 0, .int 0, .ref 96, .int 0, .int 0, .ref 97, .ref 98, .ref 99]))) (some (.int 0), ((am_h0.set 100 (.inl (2, 1, .inr (.inl (vp_updL (fun _ => 0) 0 0))))).set 64 (.inr (12, [.int 0, .ref 65, .int 0, .int 0, .int 0, .int 0, .int 0, .int 0, .long 0, .int 0, .int 0, .int 0, .int 0, .int 0, .ref 66, .ref 67, .int 0, .ref 68, .ref 69, .ref 70, .ref 71, .int 0, .int 0, .int 0, .int 36, .int 99, .ref 72, .ref 73, .ref 74, .ref 75, .int 0, .ref 76, .ref 77, .int 0, .int 0, .ref 78, .ref 79, .ref 80, .ref 81, .ref 82, .int 0, .ref 83, .ref 84, .ref 85, .ref 86, .ref 87, .int 0, .ref 88, .ref 89, .ref 90, .ref 91, .ref 92, .ref 93, .ref 94, .ref 95, .int 0, .int 0, .int 0, .int 0, .ref 96, .int 0, .int 0, .ref 97, .ref 98, .ref 99])))) := by
    refine am_Do.of (r := am_r150) (y := (4, [some (.ref 64)], [.int 0], ((am_h0.set 100 (.inl (2, 1, .inr (.inl (vp_updL (fun _ => 0) 0 0))))).set 64 (.inr (12, [.int 0, .ref 65, .int 0, .int 0, .int 0, .int 0, .int 0, .int 0, .long 0, .int 0, .int 0, .int 0, .int 0, .int 0, .ref 66, .ref 67, .int 0, .ref 68, .ref 69, .ref 70, .ref 71, .int 0, .int 0, .int 0, .int 36, .int 99, .ref 72, .ref 73, .ref 74, .ref 75, .int 0, .ref 76, .ref 77, .int 0, .int 0, .ref 78, .ref 79, .ref 80, .ref 81, .ref 82, .int 0, .ref 83, .ref 84, .ref 85, .ref 86, .ref 87, .int 0, .ref 88, .ref 89, .ref 90, .ref 91, .ref 92, .ref 93, .ref 94, .ref 95, .int 0, .int 0, .int 0, .int 0, .ref 96, .int 0, .int 0, .ref 97, .ref 98, .ref 99]))), 0, 0)) rfl rfl ?_ rfl rfl rfl
    refine am_Go.bl 2 (y := (4, [some (.ref 64)], [.int 0], ((am_h0.set 100 (.inl (2, 1, .inr (.inl (vp_updL (fun _ => 0) 0 0))))).set 64 (.inr (12, [.int 0, .ref 65, .int 0, .int 0, .int 0, .int 0, .int 0, .int 0, .long 0, .int 0, .int 0, .int 0, .int 0, .int 0, .ref 66, .ref 67, .int 0, .ref 68, .ref 69, .ref 70, .ref 71, .int 0, .int 0, .int 0, .int 36, .int 99, .ref 72, .ref 73, .ref 74, .ref 75, .int 0, .ref 76, .ref 77, .int 0, .int 0, .ref 78, .ref 79, .ref 80, .ref 81, .ref 82, .int 0, .ref 83, .ref 84, .ref 85, .ref 86, .ref 87, .int 0, .ref 88, .ref 89, .ref 90, .ref 91, .ref 92, .ref 93, .ref 94, .ref 95, .int 0, .int 0, .int 0, .int 0, .ref 96, .int 0, .int 0, .ref 97, .ref 98, .ref 99]))), 0, 0)) (fun _ => rfl) ?_
    exact am_Go.rf
  exact ⟨_, hd6, rfl, ⟨_, rfl⟩, hd7, rfl⟩
set_option maxHeartbeats 20000000 in
set_option maxRecDepth 100000 in
theorem am_mlta (a b : Int32) (hz : ¬ a.toInt = 0) : ∃ h2, am_Do false 19 180 [.ref 64, .int a, .int b] am_h0 (some (.int 0), h2) ∧ h2.length = 101 ∧ (∃ fs, am_obj h2 64 12 = some fs) ∧ am_Do false 19 150 [.ref 64] h2 (some (.int 1), h2) := by
  cases hb1 : am_cmp .lt (a) 0 with
  | false =>
    have hf1 := (am_clt_f (y := 0) (k := (0)) rfl).mp hb1
    have hb2 : am_cmp .gt (a) 0 = true := (am_cgt_t (k := (0)) rfl).mpr (by omega)
    have hd1 : am_Do false 17 169 [.int (a), .int 0, .int 0] am_h0 (some (.int 0), am_h0) := by
      refine am_Do.of (r := am_r169) (y := (15, [some (.int (a)), some (.int 0), some (.int 0)], [.int 0], am_h0, 0, 0)) rfl rfl ?_ rfl rfl rfl
      refine am_Go.bl 3 (y := (bif am_cmp .lt (a) 0 then 14 else 5, [some (.int (a)), some (.int 0), some (.int 0)], [], am_h0, 0, 0)) (fun _ => rfl) ?_
      refine am_Go.brF hb1 ?_
      refine am_Go.bl 3 (y := (bif am_cmp .gt (a) 0 then 14 else 10, [some (.int (a)), some (.int 0), some (.int 0)], [], am_h0, 0, 0)) (fun _ => rfl) ?_
      refine am_Go.brT hb2 ?_
      refine am_Go.bl 1 (y := (15, [some (.int (a)), some (.int 0), some (.int 0)], [.int 0], am_h0, 0, 0)) (fun _ => rfl) ?_
      exact am_Go.rf
    have hd2 : am_Do false 18 176 [.ref 64, .int (a)] am_h0 (some (.int 0), am_h0) := by
      refine am_Do.of (r := am_r176) (y := (13, [some (.ref 64), some (.int (a))], [.int 0], am_h0, 0, 0)) rfl rfl ?_ rfl rfl rfl
      refine am_Go.bl 8 (y := (10, [some (.ref 64), some (.int (a))], [.int 0, .int 0, .int (a)], am_h0, 0, 0)) (fun _ => rfl) ?_
      refine am_Go.cS hd1 rfl rfl rfl rfl rfl rfl ?_
      exact am_Go.rf
    have hd3 : am_Do false 19 180 [.ref 64, .int (a), .int (b)] am_h0 (some (.int 0), (am_h0.set 64 (.inr (12, [.int 1, .ref 65, .int 0, .int 0, .int 0, .int 0, .int 0, .int 0, .long 0, .int 0, .int 0, .int 0, .int 0, .int 0, .ref 66, .ref 67, .int 0, .ref 68, .ref 69, .ref 70, .ref 71, .int 0, .int 0, .int 0, .int 36, .int 99, .ref 72, .ref 73, .ref 74, .ref 75, .int 0, .ref 76, .ref 77, .int 0, .int 0, .ref 78, .ref 79, .ref 80, .ref 81, .ref 82, .int 0, .ref 83, .ref 84, .ref 85, .ref 86, .ref 87, .int 0, .ref 88, .ref 89, .ref 90, .ref 91, .ref 92, .ref 93, .ref 94, .ref 95, .int 0, .int 0, .int 0, .int 0, .ref 96, .int 0, .int 0, .ref 97, .ref 98, .ref 99])))) := by
      refine am_Do.of (r := am_r180) (y := (42, [some (.ref 64), some (.int (a)), some (.int (b))], [.int 0], (am_h0.set 64 (.inr (12, [.int 1, .ref 65, .int 0, .int 0, .int 0, .int 0, .int 0, .int 0, .long 0, .int 0, .int 0, .int 0, .int 0, .int 0, .ref 66, .ref 67, .int 0, .ref 68, .ref 69, .ref 70, .ref 71, .int 0, .int 0, .int 0, .int 36, .int 99, .ref 72, .ref 73, .ref 74, .ref 75, .int 0, .ref 76, .ref 77, .int 0, .int 0, .ref 78, .ref 79, .ref 80, .ref 81, .ref 82, .int 0, .ref 83, .ref 84, .ref 85, .ref 86, .ref 87, .int 0, .ref 88, .ref 89, .ref 90, .ref 91, .ref 92, .ref 93, .ref 94, .ref 95, .int 0, .int 0, .int 0, .int 0, .ref 96, .int 0, .int 0, .ref 97, .ref 98, .ref 99]))), 0, 0)) rfl rfl ?_ rfl rfl rfl
      refine am_Go.bl 3 (y := (3, [some (.ref 64), some (.int (a)), some (.int (b))], [.int (a), .ref 64, .ref 64], am_h0, 0, 0)) (fun _ => rfl) ?_
      refine am_Go.cV hd2 rfl rfl rfl rfl rfl rfl rfl ?_
      refine am_Go.bl 7 (y := (42, [some (.ref 64), some (.int (a)), some (.int (b))], [.int 0], (am_h0.set 64 (.inr (12, [.int 1, .ref 65, .int 0, .int 0, .int 0, .int 0, .int 0, .int 0, .long 0, .int 0, .int 0, .int 0, .int 0, .int 0, .ref 66, .ref 67, .int 0, .ref 68, .ref 69, .ref 70, .ref 71, .int 0, .int 0, .int 0, .int 36, .int 99, .ref 72, .ref 73, .ref 74, .ref 75, .int 0, .ref 76, .ref 77, .int 0, .int 0, .ref 78, .ref 79, .ref 80, .ref 81, .ref 82, .int 0, .ref 83, .ref 84, .ref 85, .ref 86, .ref 87, .int 0, .ref 88, .ref 89, .ref 90, .ref 91, .ref 92, .ref 93, .ref 94, .ref 95, .int 0, .int 0, .int 0, .int 0, .ref 96, .int 0, .int 0, .ref 97, .ref 98, .ref 99]))), 0, 0)) (fun _ => rfl) ?_
      exact am_Go.rf
    have hd4 : am_Do false 19 150 [.ref 64] (am_h0.set 64 (.inr (12, [.int 1, .ref 65, .int 0, .int 0, .int 0, .int 0, .int 0, .int 0, .long 0, .int 0, .int 0, .int 0, .int 0, .int 0, .ref 66, .ref 67, .int 0, .ref 68, .ref 69, .ref 70, .ref 71, .int 0, .int 0, .int 0, .int 36, .int 99, .ref 72, .ref 73, .ref 74, .ref 75, .int 0, .ref 76, .ref 77, .int 0, .int 0, .ref 78, .ref 79, .ref 80, .ref 81, .ref 82, .int 0, .ref 83, .ref 84, .ref 85, .ref 86, .ref 87, .int 0, .ref 88, .ref 89, .ref 90, .ref 91, .ref 92, .ref 93, .ref 94, .ref 95, .int 0, .int 0, .int 0, .int 0, .ref 96, .int 0, .int 0, .ref 97, .ref 98, .ref 99]))) (some (.int 1), (am_h0.set 64 (.inr (12, [.int 1, .ref 65, .int 0, .int 0, .int 0, .int 0, .int 0, .int 0, .long 0, .int 0, .int 0, .int 0, .int 0, .int 0, .ref 66, .ref 67, .int 0, .ref 68, .ref 69, .ref 70, .ref 71, .int 0, .int 0, .int 0, .int 36, .int 99, .ref 72, .ref 73, .ref 74, .ref 75, .int 0, .ref 76, .ref 77, .int 0, .int 0, .ref 78, .ref 79, .ref 80, .ref 81, .ref 82, .int 0, .ref 83, .ref 84, .ref 85, .ref 86, .ref 87, .int 0, .ref 88, .ref 89, .ref 90, .ref 91, .ref 92, .ref 93, .ref 94, .ref 95, .int 0, .int 0, .int 0, .int 0, .ref 96, .int 0, .int 0, .ref 97, .ref 98, .ref 99])))) := by
      refine am_Do.of (r := am_r150) (y := (4, [some (.ref 64)], [.int 1], (am_h0.set 64 (.inr (12, [.int 1, .ref 65, .int 0, .int 0, .int 0, .int 0, .int 0, .int 0, .long 0, .int 0, .int 0, .int 0, .int 0, .int 0, .ref 66, .ref 67, .int 0, .ref 68, .ref 69, .ref 70, .ref 71, .int 0, .int 0, .int 0, .int 36, .int 99, .ref 72, .ref 73, .ref 74, .ref 75, .int 0, .ref 76, .ref 77, .int 0, .int 0, .ref 78, .ref 79, .ref 80, .ref 81, .ref 82, .int 0, .ref 83, .ref 84, .ref 85, .ref 86, .ref 87, .int 0, .ref 88, .ref 89, .ref 90, .ref 91, .ref 92, .ref 93, .ref 94, .ref 95, .int 0, .int 0, .int 0, .int 0, .ref 96, .int 0, .int 0, .ref 97, .ref 98, .ref 99]))), 0, 0)) rfl rfl ?_ rfl rfl rfl
      refine am_Go.bl 2 (y := (4, [some (.ref 64)], [.int 1], (am_h0.set 64 (.inr (12, [.int 1, .ref 65, .int 0, .int 0, .int 0, .int 0, .int 0, .int 0, .long 0, .int 0, .int 0, .int 0, .int 0, .int 0, .ref 66, .ref 67, .int 0, .ref 68, .ref 69, .ref 70, .ref 71, .int 0, .int 0, .int 0, .int 36, .int 99, .ref 72, .ref 73, .ref 74, .ref 75, .int 0, .ref 76, .ref 77, .int 0, .int 0, .ref 78, .ref 79, .ref 80, .ref 81, .ref 82, .int 0, .ref 83, .ref 84, .ref 85, .ref 86, .ref 87, .int 0, .ref 88, .ref 89, .ref 90, .ref 91, .ref 92, .ref 93, .ref 94, .ref 95, .int 0, .int 0, .int 0, .int 0, .ref 96, .int 0, .int 0, .ref 97, .ref 98, .ref 99]))), 0, 0)) (fun _ => rfl) ?_
      exact am_Go.rf
    exact ⟨_, hd3, rfl, ⟨_, rfl⟩, hd4⟩
  | true =>
    have hf1 := (am_clt_t (y := 0) (k := (0)) rfl).mp hb1
    have hd1 : am_Do false 17 169 [.int (a), .int 0, .int 0] am_h0 (some (.int 0), am_h0) := by
      refine am_Do.of (r := am_r169) (y := (15, [some (.int (a)), some (.int 0), some (.int 0)], [.int 0], am_h0, 0, 0)) rfl rfl ?_ rfl rfl rfl
      refine am_Go.bl 3 (y := (bif am_cmp .lt (a) 0 then 14 else 5, [some (.int (a)), some (.int 0), some (.int 0)], [], am_h0, 0, 0)) (fun _ => rfl) ?_
      refine am_Go.brT hb1 ?_
      refine am_Go.bl 1 (y := (15, [some (.int (a)), some (.int 0), some (.int 0)], [.int 0], am_h0, 0, 0)) (fun _ => rfl) ?_
      exact am_Go.rf
    have hd2 : am_Do false 18 176 [.ref 64, .int (a)] am_h0 (some (.int 0), am_h0) := by
      refine am_Do.of (r := am_r176) (y := (13, [some (.ref 64), some (.int (a))], [.int 0], am_h0, 0, 0)) rfl rfl ?_ rfl rfl rfl
      refine am_Go.bl 8 (y := (10, [some (.ref 64), some (.int (a))], [.int 0, .int 0, .int (a)], am_h0, 0, 0)) (fun _ => rfl) ?_
      refine am_Go.cS hd1 rfl rfl rfl rfl rfl rfl ?_
      exact am_Go.rf
    have hd3 : am_Do false 19 180 [.ref 64, .int (a), .int (b)] am_h0 (some (.int 0), (am_h0.set 64 (.inr (12, [.int 1, .ref 65, .int 0, .int 0, .int 0, .int 0, .int 0, .int 0, .long 0, .int 0, .int 0, .int 0, .int 0, .int 0, .ref 66, .ref 67, .int 0, .ref 68, .ref 69, .ref 70, .ref 71, .int 0, .int 0, .int 0, .int 36, .int 99, .ref 72, .ref 73, .ref 74, .ref 75, .int 0, .ref 76, .ref 77, .int 0, .int 0, .ref 78, .ref 79, .ref 80, .ref 81, .ref 82, .int 0, .ref 83, .ref 84, .ref 85, .ref 86, .ref 87, .int 0, .ref 88, .ref 89, .ref 90, .ref 91, .ref 92, .ref 93, .ref 94, .ref 95, .int 0, .int 0, .int 0, .int 0, .ref 96, .int 0, .int 0, .ref 97, .ref 98, .ref 99])))) := by
      refine am_Do.of (r := am_r180) (y := (42, [some (.ref 64), some (.int (a)), some (.int (b))], [.int 0], (am_h0.set 64 (.inr (12, [.int 1, .ref 65, .int 0, .int 0, .int 0, .int 0, .int 0, .int 0, .long 0, .int 0, .int 0, .int 0, .int 0, .int 0, .ref 66, .ref 67, .int 0, .ref 68, .ref 69, .ref 70, .ref 71, .int 0, .int 0, .int 0, .int 36, .int 99, .ref 72, .ref 73, .ref 74, .ref 75, .int 0, .ref 76, .ref 77, .int 0, .int 0, .ref 78, .ref 79, .ref 80, .ref 81, .ref 82, .int 0, .ref 83, .ref 84, .ref 85, .ref 86, .ref 87, .int 0, .ref 88, .ref 89, .ref 90, .ref 91, .ref 92, .ref 93, .ref 94, .ref 95, .int 0, .int 0, .int 0, .int 0, .ref 96, .int 0, .int 0, .ref 97, .ref 98, .ref 99]))), 0, 0)) rfl rfl ?_ rfl rfl rfl
      refine am_Go.bl 3 (y := (3, [some (.ref 64), some (.int (a)), some (.int (b))], [.int (a), .ref 64, .ref 64], am_h0, 0, 0)) (fun _ => rfl) ?_
      refine am_Go.cV hd2 rfl rfl rfl rfl rfl rfl rfl ?_
      refine am_Go.bl 7 (y := (42, [some (.ref 64), some (.int (a)), some (.int (b))], [.int 0], (am_h0.set 64 (.inr (12, [.int 1, .ref 65, .int 0, .int 0, .int 0, .int 0, .int 0, .int 0, .long 0, .int 0, .int 0, .int 0, .int 0, .int 0, .ref 66, .ref 67, .int 0, .ref 68, .ref 69, .ref 70, .ref 71, .int 0, .int 0, .int 0, .int 36, .int 99, .ref 72, .ref 73, .ref 74, .ref 75, .int 0, .ref 76, .ref 77, .int 0, .int 0, .ref 78, .ref 79, .ref 80, .ref 81, .ref 82, .int 0, .ref 83, .ref 84, .ref 85, .ref 86, .ref 87, .int 0, .ref 88, .ref 89, .ref 90, .ref 91, .ref 92, .ref 93, .ref 94, .ref 95, .int 0, .int 0, .int 0, .int 0, .ref 96, .int 0, .int 0, .ref 97, .ref 98, .ref 99]))), 0, 0)) (fun _ => rfl) ?_
      exact am_Go.rf
    have hd4 : am_Do false 19 150 [.ref 64] (am_h0.set 64 (.inr (12, [.int 1, .ref 65, .int 0, .int 0, .int 0, .int 0, .int 0, .int 0, .long 0, .int 0, .int 0, .int 0, .int 0, .int 0, .ref 66, .ref 67, .int 0, .ref 68, .ref 69, .ref 70, .ref 71, .int 0, .int 0, .int 0, .int 36, .int 99, .ref 72, .ref 73, .ref 74, .ref 75, .int 0, .ref 76, .ref 77, .int 0, .int 0, .ref 78, .ref 79, .ref 80, .ref 81, .ref 82, .int 0, .ref 83, .ref 84, .ref 85, .ref 86, .ref 87, .int 0, .ref 88, .ref 89, .ref 90, .ref 91, .ref 92, .ref 93, .ref 94, .ref 95, .int 0, .int 0, .int 0, .int 0, .ref 96, .int 0, .int 0, .ref 97, .ref 98, .ref 99]))) (some (.int 1), (am_h0.set 64 (.inr (12, [.int 1, .ref 65, .int 0, .int 0, .int 0, .int 0, .int 0, .int 0, .long 0, .int 0, .int 0, .int 0, .int 0, .int 0, .ref 66, .ref 67, .int 0, .ref 68, .ref 69, .ref 70, .ref 71, .int 0, .int 0, .int 0, .int 36, .int 99, .ref 72, .ref 73, .ref 74, .ref 75, .int 0, .ref 76, .ref 77, .int 0, .int 0, .ref 78, .ref 79, .ref 80, .ref 81, .ref 82, .int 0, .ref 83, .ref 84, .ref 85, .ref 86, .ref 87, .int 0, .ref 88, .ref 89, .ref 90, .ref 91, .ref 92, .ref 93, .ref 94, .ref 95, .int 0, .int 0, .int 0, .int 0, .ref 96, .int 0, .int 0, .ref 97, .ref 98, .ref 99])))) := by
      refine am_Do.of (r := am_r150) (y := (4, [some (.ref 64)], [.int 1], (am_h0.set 64 (.inr (12, [.int 1, .ref 65, .int 0, .int 0, .int 0, .int 0, .int 0, .int 0, .long 0, .int 0, .int 0, .int 0, .int 0, .int 0, .ref 66, .ref 67, .int 0, .ref 68, .ref 69, .ref 70, .ref 71, .int 0, .int 0, .int 0, .int 36, .int 99, .ref 72, .ref 73, .ref 74, .ref 75, .int 0, .ref 76, .ref 77, .int 0, .int 0, .ref 78, .ref 79, .ref 80, .ref 81, .ref 82, .int 0, .ref 83, .ref 84, .ref 85, .ref 86, .ref 87, .int 0, .ref 88, .ref 89, .ref 90, .ref 91, .ref 92, .ref 93, .ref 94, .ref 95, .int 0, .int 0, .int 0, .int 0, .ref 96, .int 0, .int 0, .ref 97, .ref 98, .ref 99]))), 0, 0)) rfl rfl ?_ rfl rfl rfl
      refine am_Go.bl 2 (y := (4, [some (.ref 64)], [.int 1], (am_h0.set 64 (.inr (12, [.int 1, .ref 65, .int 0, .int 0, .int 0, .int 0, .int 0, .int 0, .long 0, .int 0, .int 0, .int 0, .int 0, .int 0, .ref 66, .ref 67, .int 0, .ref 68, .ref 69, .ref 70, .ref 71, .int 0, .int 0, .int 0, .int 36, .int 99, .ref 72, .ref 73, .ref 74, .ref 75, .int 0, .ref 76, .ref 77, .int 0, .int 0, .ref 78, .ref 79, .ref 80, .ref 81, .ref 82, .int 0, .ref 83, .ref 84, .ref 85, .ref 86, .ref 87, .int 0, .ref 88, .ref 89, .ref 90, .ref 91, .ref 92, .ref 93, .ref 94, .ref 95, .int 0, .int 0, .int 0, .int 0, .ref 96, .int 0, .int 0, .ref 97, .ref 98, .ref 99]))), 0, 0)) (fun _ => rfl) ?_
      exact am_Go.rf
    exact ⟨_, hd3, rfl, ⟨_, rfl⟩, hd4⟩
set_option maxHeartbeats 20000000 in
set_option maxRecDepth 100000 in
theorem am_mltb (a b : Int32) (ha : a.toInt = 0) (hz : ¬ b.toInt = 0) : ∃ h2, am_Do false 19 180 [.ref 64, .int a, .int b] am_h0 (some (.int 0), h2) ∧ h2.length = 101 ∧ (∃ fs, am_obj h2 64 12 = some fs) ∧ am_Do false 19 150 [.ref 64] h2 (some (.int 1), h2) := by
  cases hb3 : am_cmp .lt (b) 0 with
  | false =>
    have hb1 : am_cmp .lt (a) 0 = false := (am_clt_f (k := (0)) rfl).mpr (by omega)
    have hb2 : am_cmp .gt (a) 0 = false := (am_cgt_f (k := (0)) rfl).mpr (by omega)
    have hd1 : am_Do false 17 169 [.int (a), .int 0, .int 0] am_h0 (some (.int 1), am_h0) := by
      refine am_Do.of (r := am_r169) (y := (15, [some (.int (a)), some (.int 0), some (.int 0)], [.int 1], am_h0, 0, 0)) rfl rfl ?_ rfl rfl rfl
      refine am_Go.bl 3 (y := (bif am_cmp .lt (a) 0 then 14 else 5, [some (.int (a)), some (.int 0), some (.int 0)], [], am_h0, 0, 0)) (fun _ => rfl) ?_
      refine am_Go.brF hb1 ?_
      refine am_Go.bl 3 (y := (bif am_cmp .gt (a) 0 then 14 else 10, [some (.int (a)), some (.int 0), some (.int 0)], [], am_h0, 0, 0)) (fun _ => rfl) ?_
      refine am_Go.brF hb2 ?_
      refine am_Go.bl 2 (y := (15, [some (.int (a)), some (.int 0), some (.int 0)], [.int 1], am_h0, 0, 0)) (fun _ => rfl) ?_
      exact am_Go.rf
    have hd2 : am_Do false 18 176 [.ref 64, .int (a)] am_h0 (some (.int 1), am_h0) := by
      refine am_Do.of (r := am_r176) (y := (13, [some (.ref 64), some (.int (a))], [.int 1], am_h0, 0, 0)) rfl rfl ?_ rfl rfl rfl
      refine am_Go.bl 8 (y := (10, [some (.ref 64), some (.int (a))], [.int 0, .int 0, .int (a)], am_h0, 0, 0)) (fun _ => rfl) ?_
      refine am_Go.cS hd1 rfl rfl rfl rfl rfl rfl ?_
      exact am_Go.rf
    have hf3 := (am_clt_f (y := 0) (k := (0)) rfl).mp hb3
    have hb4 : am_cmp .gt (b) 0 = true := (am_cgt_t (k := (0)) rfl).mpr (by omega)
    have hd3 : am_Do false 17 169 [.int (b), .int 0, .int 0] am_h0 (some (.int 0), am_h0) := by
      refine am_Do.of (r := am_r169) (y := (15, [some (.int (b)), some (.int 0), some (.int 0)], [.int 0], am_h0, 0, 0)) rfl rfl ?_ rfl rfl rfl
      refine am_Go.bl 3 (y := (bif am_cmp .lt (b) 0 then 14 else 5, [some (.int (b)), some (.int 0), some (.int 0)], [], am_h0, 0, 0)) (fun _ => rfl) ?_
      refine am_Go.brF hb3 ?_
      refine am_Go.bl 3 (y := (bif am_cmp .gt (b) 0 then 14 else 10, [some (.int (b)), some (.int 0), some (.int 0)], [], am_h0, 0, 0)) (fun _ => rfl) ?_
      refine am_Go.brT hb4 ?_
      refine am_Go.bl 1 (y := (15, [some (.int (b)), some (.int 0), some (.int 0)], [.int 0], am_h0, 0, 0)) (fun _ => rfl) ?_
      exact am_Go.rf
    have hd4 : am_Do false 18 176 [.ref 64, .int (b)] am_h0 (some (.int 0), am_h0) := by
      refine am_Do.of (r := am_r176) (y := (13, [some (.ref 64), some (.int (b))], [.int 0], am_h0, 0, 0)) rfl rfl ?_ rfl rfl rfl
      refine am_Go.bl 8 (y := (10, [some (.ref 64), some (.int (b))], [.int 0, .int 0, .int (b)], am_h0, 0, 0)) (fun _ => rfl) ?_
      refine am_Go.cS hd3 rfl rfl rfl rfl rfl rfl ?_
      exact am_Go.rf
    have hd5 : am_Do false 19 180 [.ref 64, .int (a), .int (b)] am_h0 (some (.int 0), (am_h0.set 64 (.inr (12, [.int 1, .ref 65, .int 0, .int 0, .int 0, .int 0, .int 0, .int 0, .long 0, .int 0, .int 0, .int 0, .int 0, .int 0, .ref 66, .ref 67, .int 0, .ref 68, .ref 69, .ref 70, .ref 71, .int 0, .int 0, .int 0, .int 36, .int 99, .ref 72, .ref 73, .ref 74, .ref 75, .int 0, .ref 76, .ref 77, .int 0, .int 0, .ref 78, .ref 79, .ref 80, .ref 81, .ref 82, .int 0, .ref 83, .ref 84, .ref 85, .ref 86, .ref 87, .int 0, .ref 88, .ref 89, .ref 90, .ref 91, .ref 92, .ref 93, .ref 94, .ref 95, .int 0, .int 0, .int 0, .int 0, .ref 96, .int 0, .int 0, .ref 97, .ref 98, .ref 99])))) := by
      refine am_Do.of (r := am_r180) (y := (42, [some (.ref 64), some (.int (a)), some (.int (b))], [.int 0], (am_h0.set 64 (.inr (12, [.int 1, .ref 65, .int 0, .int 0, .int 0, .int 0, .int 0, .int 0, .long 0, .int 0, .int 0, .int 0, .int 0, .int 0, .ref 66, .ref 67, .int 0, .ref 68, .ref 69, .ref 70, .ref 71, .int 0, .int 0, .int 0, .int 36, .int 99, .ref 72, .ref 73, .ref 74, .ref 75, .int 0, .ref 76, .ref 77, .int 0, .int 0, .ref 78, .ref 79, .ref 80, .ref 81, .ref 82, .int 0, .ref 83, .ref 84, .ref 85, .ref 86, .ref 87, .int 0, .ref 88, .ref 89, .ref 90, .ref 91, .ref 92, .ref 93, .ref 94, .ref 95, .int 0, .int 0, .int 0, .int 0, .ref 96, .int 0, .int 0, .ref 97, .ref 98, .ref 99]))), 0, 0)) rfl rfl ?_ rfl rfl rfl
      refine am_Go.bl 3 (y := (3, [some (.ref 64), some (.int (a)), some (.int (b))], [.int (a), .ref 64, .ref 64], am_h0, 0, 0)) (fun _ => rfl) ?_
      refine am_Go.cV hd2 rfl rfl rfl rfl rfl rfl rfl ?_
      refine am_Go.bl 3 (y := (11, [some (.ref 64), some (.int (a)), some (.int (b))], [.int (b), .ref 64, .ref 64], am_h0, 0, 0)) (fun _ => rfl) ?_
      refine am_Go.cV hd4 rfl rfl rfl rfl rfl rfl rfl ?_
      refine am_Go.bl 7 (y := (42, [some (.ref 64), some (.int (a)), some (.int (b))], [.int 0], (am_h0.set 64 (.inr (12, [.int 1, .ref 65, .int 0, .int 0, .int 0, .int 0, .int 0, .int 0, .long 0, .int 0, .int 0, .int 0, .int 0, .int 0, .ref 66, .ref 67, .int 0, .ref 68, .ref 69, .ref 70, .ref 71, .int 0, .int 0, .int 0, .int 36, .int 99, .ref 72, .ref 73, .ref 74, .ref 75, .int 0, .ref 76, .ref 77, .int 0, .int 0, .ref 78, .ref 79, .ref 80, .ref 81, .ref 82, .int 0, .ref 83, .ref 84, .ref 85, .ref 86, .ref 87, .int 0, .ref 88, .ref 89, .ref 90, .ref 91, .ref 92, .ref 93, .ref 94, .ref 95, .int 0, .int 0, .int 0, .int 0, .ref 96, .int 0, .int 0, .ref 97, .ref 98, .ref 99]))), 0, 0)) (fun _ => rfl) ?_
      exact am_Go.rf
    have hd6 : am_Do false 19 150 [.ref 64] (am_h0.set 64 (.inr (12, [.int 1, .ref 65, .int 0, .int 0, .int 0, .int 0, .int 0, .int 0, .long 0, .int 0, .int 0, .int 0, .int 0, .int 0, .ref 66, .ref 67, .int 0, .ref 68, .ref 69, .ref 70, .ref 71, .int 0, .int 0, .int 0, .int 36, .int 99, .ref 72, .ref 73, .ref 74, .ref 75, .int 0, .ref 76, .ref 77, .int 0, .int 0, .ref 78, .ref 79, .ref 80, .ref 81, .ref 82, .int 0, .ref 83, .ref 84, .ref 85, .ref 86, .ref 87, .int 0, .ref 88, .ref 89, .ref 90, .ref 91, .ref 92, .ref 93, .ref 94, .ref 95, .int 0, .int 0, .int 0, .int 0, .ref 96, .int 0, .int 0, .ref 97, .ref 98, .ref 99]))) (some (.int 1), (am_h0.set 64 (.inr (12, [.int 1, .ref 65, .int 0, .int 0, .int 0, .int 0, .int 0, .int 0, .long 0, .int 0, .int 0, .int 0, .int 0, .int 0, .ref 66, .ref 67, .int 0, .ref 68, .ref 69, .ref 70, .ref 71, .int 0, .int 0, .int 0, .int 36, .int 99, .ref 72, .ref 73, .ref 74, .ref 75, .int 0, .ref 76, .ref 77, .int 0, .int 0, .ref 78, .ref 79, .ref 80, .ref 81, .ref 82, .int 0, .ref 83, .ref 84, .ref 85, .ref 86, .ref 87, .int 0, .ref 88, .ref 89, .ref 90, .ref 91, .ref 92, .ref 93, .ref 94, .ref 95, .int 0, .int 0, .int 0, .int 0, .ref 96, .int 0, .int 0, .ref 97, .ref 98, .ref 99])))) := by
      refine am_Do.of (r := am_r150) (y := (4, [some (.ref 64)], [.int 1], (am_h0.set 64 (.inr (12, [.int 1, .ref 65, .int 0, .int 0, .int 0, .int 0, .int 0, .int 0, .long 0, .int 0, .int 0, .int 0, .int 0, .int 0, .ref 66, .ref 67, .int 0, .ref 68, .ref 69, .ref 70, .ref 71, .int 0, .int 0, .int 0, .int 36, .int 99, .ref 72, .ref 73, .ref 74, .ref 75, .int 0, .ref 76, .ref 77, .int 0, .int 0, .ref 78, .ref 79, .ref 80, .ref 81, .ref 82, .int 0, .ref 83, .ref 84, .ref 85, .ref 86, .ref 87, .int 0, .ref 88, .ref 89, .ref 90, .ref 91, .ref 92, .ref 93, .ref 94, .ref 95, .int 0, .int 0, .int 0, .int 0, .ref 96, .int 0, .int 0, .ref 97, .ref 98, .ref 99]))), 0, 0)) rfl rfl ?_ rfl rfl rfl
      refine am_Go.bl 2 (y := (4, [some (.ref 64)], [.int 1], (am_h0.set 64 (.inr (12, [.int 1, .ref 65, .int 0, .int 0, .int 0, .int 0, .int 0, .int 0, .long 0, .int 0, .int 0, .int 0, .int 0, .int 0, .ref 66, .ref 67, .int 0, .ref 68, .ref 69, .ref 70, .ref 71, .int 0, .int 0, .int 0, .int 36, .int 99, .ref 72, .ref 73, .ref 74, .ref 75, .int 0, .ref 76, .ref 77, .int 0, .int 0, .ref 78, .ref 79, .ref 80, .ref 81, .ref 82, .int 0, .ref 83, .ref 84, .ref 85, .ref 86, .ref 87, .int 0, .ref 88, .ref 89, .ref 90, .ref 91, .ref 92, .ref 93, .ref 94, .ref 95, .int 0, .int 0, .int 0, .int 0, .ref 96, .int 0, .int 0, .ref 97, .ref 98, .ref 99]))), 0, 0)) (fun _ => rfl) ?_
      exact am_Go.rf
    exact ⟨_, hd5, rfl, ⟨_, rfl⟩, hd6⟩
  | true =>
    have hb1 : am_cmp .lt (a) 0 = false := (am_clt_f (k := (0)) rfl).mpr (by omega)
    have hb2 : am_cmp .gt (a) 0 = false := (am_cgt_f (k := (0)) rfl).mpr (by omega)
    have hd1 : am_Do false 17 169 [.int (a), .int 0, .int 0] am_h0 (some (.int 1), am_h0) := by
      refine am_Do.of (r := am_r169) (y := (15, [some (.int (a)), some (.int 0), some (.int 0)], [.int 1], am_h0, 0, 0)) rfl rfl ?_ rfl rfl rfl
      refine am_Go.bl 3 (y := (bif am_cmp .lt (a) 0 then 14 else 5, [some (.int (a)), some (.int 0), some (.int 0)], [], am_h0, 0, 0)) (fun _ => rfl) ?_
      refine am_Go.brF hb1 ?_
      refine am_Go.bl 3 (y := (bif am_cmp .gt (a) 0 then 14 else 10, [some (.int (a)), some (.int 0), some (.int 0)], [], am_h0, 0, 0)) (fun _ => rfl) ?_
      refine am_Go.brF hb2 ?_
      refine am_Go.bl 2 (y := (15, [some (.int (a)), some (.int 0), some (.int 0)], [.int 1], am_h0, 0, 0)) (fun _ => rfl) ?_
      exact am_Go.rf
    have hd2 : am_Do false 18 176 [.ref 64, .int (a)] am_h0 (some (.int 1), am_h0) := by
      refine am_Do.of (r := am_r176) (y := (13, [some (.ref 64), some (.int (a))], [.int 1], am_h0, 0, 0)) rfl rfl ?_ rfl rfl rfl
      refine am_Go.bl 8 (y := (10, [some (.ref 64), some (.int (a))], [.int 0, .int 0, .int (a)], am_h0, 0, 0)) (fun _ => rfl) ?_
      refine am_Go.cS hd1 rfl rfl rfl rfl rfl rfl ?_
      exact am_Go.rf
    have hf3 := (am_clt_t (y := 0) (k := (0)) rfl).mp hb3
    have hd3 : am_Do false 17 169 [.int (b), .int 0, .int 0] am_h0 (some (.int 0), am_h0) := by
      refine am_Do.of (r := am_r169) (y := (15, [some (.int (b)), some (.int 0), some (.int 0)], [.int 0], am_h0, 0, 0)) rfl rfl ?_ rfl rfl rfl
      refine am_Go.bl 3 (y := (bif am_cmp .lt (b) 0 then 14 else 5, [some (.int (b)), some (.int 0), some (.int 0)], [], am_h0, 0, 0)) (fun _ => rfl) ?_
      refine am_Go.brT hb3 ?_
      refine am_Go.bl 1 (y := (15, [some (.int (b)), some (.int 0), some (.int 0)], [.int 0], am_h0, 0, 0)) (fun _ => rfl) ?_
      exact am_Go.rf
    have hd4 : am_Do false 18 176 [.ref 64, .int (b)] am_h0 (some (.int 0), am_h0) := by
      refine am_Do.of (r := am_r176) (y := (13, [some (.ref 64), some (.int (b))], [.int 0], am_h0, 0, 0)) rfl rfl ?_ rfl rfl rfl
      refine am_Go.bl 8 (y := (10, [some (.ref 64), some (.int (b))], [.int 0, .int 0, .int (b)], am_h0, 0, 0)) (fun _ => rfl) ?_
      refine am_Go.cS hd3 rfl rfl rfl rfl rfl rfl ?_
      exact am_Go.rf
    have hd5 : am_Do false 19 180 [.ref 64, .int (a), .int (b)] am_h0 (some (.int 0), (am_h0.set 64 (.inr (12, [.int 1, .ref 65, .int 0, .int 0, .int 0, .int 0, .int 0, .int 0, .long 0, .int 0, .int 0, .int 0, .int 0, .int 0, .ref 66, .ref 67, .int 0, .ref 68, .ref 69, .ref 70, .ref 71, .int 0, .int 0, .int 0, .int 36, .int 99, .ref 72, .ref 73, .ref 74, .ref 75, .int 0, .ref 76, .ref 77, .int 0, .int 0, .ref 78, .ref 79, .ref 80, .ref 81, .ref 82, .int 0, .ref 83, .ref 84, .ref 85, .ref 86, .ref 87, .int 0, .ref 88, .ref 89, .ref 90, .ref 91, .ref 92, .ref 93, .ref 94, .ref 95, .int 0, .int 0, .int 0, .int 0, .ref 96, .int 0, .int 0, .ref 97, .ref 98, .ref 99])))) := by
      refine am_Do.of (r := am_r180) (y := (42, [some (.ref 64), some (.int (a)), some (.int (b))], [.int 0], (am_h0.set 64 (.inr (12, [.int 1, .ref 65, .int 0, .int 0, .int 0, .int 0, .int 0, .int 0, .long 0, .int 0, .int 0, .int 0, .int 0, .int 0, .ref 66, .ref 67, .int 0, .ref 68, .ref 69, .ref 70, .ref 71, .int 0, .int 0, .int 0, .int 36, .int 99, .ref 72, .ref 73, .ref 74, .ref 75, .int 0, .ref 76, .ref 77, .int 0, .int 0, .ref 78, .ref 79, .ref 80, .ref 81, .ref 82, .int 0, .ref 83, .ref 84, .ref 85, .ref 86, .ref 87, .int 0, .ref 88, .ref 89, .ref 90, .ref 91, .ref 92, .ref 93, .ref 94, .ref 95, .int 0, .int 0, .int 0, .int 0, .ref 96, .int 0, .int 0, .ref 97, .ref 98, .ref 99]))), 0, 0)) rfl rfl ?_ rfl rfl rfl
      refine am_Go.bl 3 (y := (3, [some (.ref 64), some (.int (a)), some (.int (b))], [.int (a), .ref 64, .ref 64], am_h0, 0, 0)) (fun _ => rfl) ?_
      refine am_Go.cV hd2 rfl rfl rfl rfl rfl rfl rfl ?_
      refine am_Go.bl 3 (y := (11, [some (.ref 64), some (.int (a)), some (.int (b))], [.int (b), .ref 64, .ref 64], am_h0, 0, 0)) (fun _ => rfl) ?_
      refine am_Go.cV hd4 rfl rfl rfl rfl rfl rfl rfl ?_
      refine am_Go.bl 7 (y := (42, [some (.ref 64), some (.int (a)), some (.int (b))], [.int 0], (am_h0.set 64 (.inr (12, [.int 1, .ref 65, .int 0, .int 0, .int 0, .int 0, .int 0, .int 0, .long 0, .int 0, .int 0, .int 0, .int 0, .int 0, .ref 66, .ref 67, .int 0, .ref 68, .ref 69, .ref 70, .ref 71, .int 0, .int 0, .int 0, .int 36, .int 99, .ref 72, .ref 73, .ref 74, .ref 75, .int 0, .ref 76, .ref 77, .int 0, .int 0, .ref 78, .ref 79, .ref 80, .ref 81, .ref 82, .int 0, .ref 83, .ref 84, .ref 85, .ref 86, .ref 87, .int 0, .ref 88, .ref 89, .ref 90, .ref 91, .ref 92, .ref 93, .ref 94, .ref 95, .int 0, .int 0, .int 0, .int 0, .ref 96, .int 0, .int 0, .ref 97, .ref 98, .ref 99]))), 0, 0)) (fun _ => rfl) ?_
      exact am_Go.rf
    have hd6 : am_Do false 19 150 [.ref 64] (am_h0.set 64 (.inr (12, [.int 1, .ref 65, .int 0, .int 0, .int 0, .int 0, .int 0, .int 0, .long 0, .int 0, .int 0, .int 0, .int 0, .int 0, .ref 66, .ref 67, .int 0, .ref 68, .ref 69, .ref 70, .ref 71, .int 0, .int 0, .int 0, .int 36, .int 99, .ref 72, .ref 73, .ref 74, .ref 75, .int 0, .ref 76, .ref 77, .int 0, .int 0, .ref 78, .ref 79, .ref 80, .ref 81, .ref 82, .int 0, .ref 83, .ref 84, .ref 85, .ref 86, .ref 87, .int 0, .ref 88, .ref 89, .ref 90, .ref 91, .ref 92, .ref 93, .ref 94, .ref 95, .int 0, .int 0, .int 0, .int 0, .ref 96, .int 0, .int 0, .ref 97, .ref 98, .ref 99]))) (some (.int 1), (am_h0.set 64 (.inr (12, [.int 1, .ref 65, .int 0, .int 0, .int 0, .int 0, .int 0, .int 0, .long 0, .int 0, .int 0, .int 0, .int 0, .int 0, .ref 66, .ref 67, .int 0, .ref 68, .ref 69, .ref 70, .ref 71, .int 0, .int 0, .int 0, .int 36, .int 99, .ref 72, .ref 73, .ref 74, .ref 75, .int 0, .ref 76, .ref 77, .int 0, .int 0, .ref 78, .ref 79, .ref 80, .ref 81, .ref 82, .int 0, .ref 83, .ref 84, .ref 85, .ref 86, .ref 87, .int 0, .ref 88, .ref 89, .ref 90, .ref 91, .ref 92, .ref 93, .ref 94, .ref 95, .int 0, .int 0, .int 0, .int 0, .ref 96, .int 0, .int 0, .ref 97, .ref 98, .ref 99])))) := by
      refine am_Do.of (r := am_r150) (y := (4, [some (.ref 64)], [.int 1], (am_h0.set 64 (.inr (12, [.int 1, .ref 65, .int 0, .int 0, .int 0, .int 0, .int 0, .int 0, .long 0, .int 0, .int 0, .int 0, .int 0, .int 0, .ref 66, .ref 67, .int 0, .ref 68, .ref 69, .ref 70, .ref 71, .int 0, .int 0, .int 0, .int 36, .int 99, .ref 72, .ref 73, .ref 74, .ref 75, .int 0, .ref 76, .ref 77, .int 0, .int 0, .ref 78, .ref 79, .ref 80, .ref 81, .ref 82, .int 0, .ref 83, .ref 84, .ref 85, .ref 86, .ref 87, .int 0, .ref 88, .ref 89, .ref 90, .ref 91, .ref 92, .ref 93, .ref 94, .ref 95, .int 0, .int 0, .int 0, .int 0, .ref 96, .int 0, .int 0, .ref 97, .ref 98, .ref 99]))), 0, 0)) rfl rfl ?_ rfl rfl rfl
      refine am_Go.bl 2 (y := (4, [some (.ref 64)], [.int 1], (am_h0.set 64 (.inr (12, [.int 1, .ref 65, .int 0, .int 0, .int 0, .int 0, .int 0, .int 0, .long 0, .int 0, .int 0, .int 0, .int 0, .int 0, .ref 66, .ref 67, .int 0, .ref 68, .ref 69, .ref 70, .ref 71, .int 0, .int 0, .int 0, .int 36, .int 99, .ref 72, .ref 73, .ref 74, .ref 75, .int 0, .ref 76, .ref 77, .int 0, .int 0, .ref 78, .ref 79, .ref 80, .ref 81, .ref 82, .int 0, .ref 83, .ref 84, .ref 85, .ref 86, .ref 87, .int 0, .ref 88, .ref 89, .ref 90, .ref 91, .ref 92, .ref 93, .ref 94, .ref 95, .int 0, .int 0, .int 0, .int 0, .ref 96, .int 0, .int 0, .ref 97, .ref 98, .ref 99]))), 0, 0)) (fun _ => rfl) ?_
      exact am_Go.rf
    exact ⟨_, hd5, rfl, ⟨_, rfl⟩, hd6⟩
