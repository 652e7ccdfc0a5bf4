set_option maxRecDepth 100000 in
theorem am_p_poet (a : Int32) : am_PairOK 122 168 [.int a] := by
  cases hb1 : am_cmp .lt (a) 0 with
  | false =>
    cases hb2 : am_cmp .le (a) 99 with
    | false =>
      have hf1 := (am_clt_f (y := 0) (k := (0)) rfl).mp hb1
      have hf2 := (am_cle_f (y := 99) (k := (99)) rfl).mp hb2
      have hd1 : am_Do true 19 122 [.ref 0, .int (a)] am_h0 (some (.int (-1)), am_h0) := by
        refine am_Do.of (r := am_r122) (y := (22, [some (.ref 0), some (.int (a))], [.int (-1)], am_h0, 0, 0)) rfl rfl ?_ rfl rfl rfl
        refine am_Go.bl 2 (y := (bif am_cmp .lt (a) 0 then 10 else 4, [some (.ref 0), some (.int (a))], [], am_h0, 0, 0)) (fun _ => rfl) ?_
        refine am_Go.brF hb1 ?_
        refine am_Go.bl 3 (y := (bif am_cmp .le (a) 99 then 14 else 10, [some (.ref 0), some (.int (a))], [], am_h0, 0, 0)) (fun _ => rfl) ?_
        refine am_Go.brF hb2 ?_
        refine am_Go.bl 2 (y := (22, [some (.ref 0), some (.int (a))], [.int (-1)], am_h0, 0, 0)) (fun _ => rfl) ?_
        exact am_Go.rf
      have hb3 : am_cmp .lt (a) 0 = false := (am_clt_f (k := (0)) rfl).mpr (by omega)
      have hb4 : am_cmp .gt (a) 99 = true := (am_cgt_t (k := (99)) rfl).mpr (by omega)
      have hd2 : am_Do true 18 169 [.int (a), .int 0, .int 99] am_h0 (some (.int 0), am_h0) := by
        refine am_Do.of (r := am_r169) (y := (15, [some (.int (a)), some (.int 0), some (.int 99)], [.int 0], am_h0, 0, 0)) rfl rfl ?_ rfl rfl rfl
        refine am_Go.bl 3 (y := (bif am_cmp .lt (a) 0 then 14 else 5, [some (.int (a)), some (.int 0), some (.int 99)], [], am_h0, 0, 0)) (fun _ => rfl) ?_
        refine am_Go.brF hb3 ?_
        refine am_Go.bl 3 (y := (bif am_cmp .gt (a) 99 then 14 else 10, [some (.int (a)), some (.int 0), some (.int 99)], [], am_h0, 0, 0)) (fun _ => rfl) ?_
        refine am_Go.brT hb4 ?_
        refine am_Go.bl 1 (y := (15, [some (.int (a)), some (.int 0), some (.int 99)], [.int 0], am_h0, 0, 0)) (fun _ => rfl) ?_
        exact am_Go.rf
      have hd3 : am_Do true 19 168 [.ref 64, .int (a)] am_h0 (some (.int (-1)), am_h0) := by
        refine am_Do.of (r := am_r168) (y := (20, [some (.ref 64), some (.int (a))], [.int (-1)], am_h0, 0, 0)) rfl rfl ?_ rfl rfl rfl
        refine am_Go.bl 3 (y := (4, [some (.ref 64), some (.int (a))], [.int 99, .int 0, .int (a)], am_h0, 0, 0)) (fun _ => rfl) ?_
        refine am_Go.cS hd2 rfl rfl rfl rfl rfl rfl ?_
        refine am_Go.bl 2 (y := (20, [some (.ref 64), some (.int (a))], [.int (-1)], am_h0, 0, 0)) (fun _ => rfl) ?_
        exact am_Go.rf
      exact ⟨_, _, _, hd1, ⟨_, rfl⟩, rfl, hd3, rfl⟩
    | true =>
      have hf1 := (am_clt_f (y := 0) (k := (0)) rfl).mp hb1
      have hf2 := (am_cle_t (y := 99) (k := (99)) rfl).mp hb2
      have hd1 : am_Do true 18 36 [.ref 24, .int (a)] am_h0 (some (.int 0), ((am_h0.set 25 (.inl (1, 12, .inl (upd (am_ctI am_hM 25) 0 (a))))).set 24 (.inr (4, [.int 1, .ref 25, .ref 26, .ref 27])))) := by
        refine am_Do.of (r := am_r36) (y := (37, [some (.ref 24), some (.int (a))], [.int 0], ((am_h0.set 25 (.inl (1, 12, .inl (upd (am_ctI am_hM 25) 0 (a))))).set 24 (.inr (4, [.int 1, .ref 25, .ref 26, .ref 27]))), 0, 0)) rfl rfl ?_ rfl rfl rfl
        refine am_Go.bl 20 (y := (37, [some (.ref 24), some (.int (a))], [.int 0], ((am_h0.set 25 (.inl (1, 12, .inl (upd (am_ctI am_hM 25) 0 (a))))).set 24 (.inr (4, [.int 1, .ref 25, .ref 26, .ref 27]))), 0, 0)) (fun _ => rfl) ?_
        exact am_Go.rf
      have hd2 : am_Do true 19 122 [.ref 0, .int (a)] am_h0 (some (.int 0), ((am_h0.set 25 (.inl (1, 12, .inl (upd (am_ctI am_hM 25) 0 (a))))).set 24 (.inr (4, [.int 1, .ref 25, .ref 26, .ref 27])))) := by
        refine am_Do.of (r := am_r122) (y := (22, [some (.ref 0), some (.int (a))], [.int 0], ((am_h0.set 25 (.inl (1, 12, .inl (upd (am_ctI am_hM 25) 0 (a))))).set 24 (.inr (4, [.int 1, .ref 25, .ref 26, .ref 27]))), 0, 0)) rfl rfl ?_ rfl rfl rfl
        refine am_Go.bl 2 (y := (bif am_cmp .lt (a) 0 then 10 else 4, [some (.ref 0), some (.int (a))], [], am_h0, 0, 0)) (fun _ => rfl) ?_
        refine am_Go.brF hb1 ?_
        refine am_Go.bl 3 (y := (bif am_cmp .le (a) 99 then 14 else 10, [some (.ref 0), some (.int (a))], [], am_h0, 0, 0)) (fun _ => rfl) ?_
        refine am_Go.brT hb2 ?_
        refine am_Go.bl 3 (y := (19, [some (.ref 0), some (.int (a))], [.int (a), .ref 24], am_h0, 0, 0)) (fun _ => rfl) ?_
        refine am_Go.cV hd1 rfl rfl rfl rfl rfl rfl rfl ?_
        exact am_Go.rf
      have hb3 : am_cmp .lt (a) 0 = false := (am_clt_f (k := (0)) rfl).mpr (by omega)
      have hb4 : am_cmp .gt (a) 99 = false := (am_cgt_f (k := (99)) rfl).mpr (by omega)
      have hd3 : am_Do true 18 169 [.int (a), .int 0, .int 99] ((am_h0.set 25 (.inl (1, 12, .inl (upd (am_ctI am_hM 25) 0 (a))))).set 24 (.inr (4, [.int 1, .ref 25, .ref 26, .ref 27]))) (some (.int 1), ((am_h0.set 25 (.inl (1, 12, .inl (upd (am_ctI am_hM 25) 0 (a))))).set 24 (.inr (4, [.int 1, .ref 25, .ref 26, .ref 27])))) := by
        refine am_Do.of (r := am_r169) (y := (15, [some (.int (a)), some (.int 0), some (.int 99)], [.int 1], ((am_h0.set 25 (.inl (1, 12, .inl (upd (am_ctI am_hM 25) 0 (a))))).set 24 (.inr (4, [.int 1, .ref 25, .ref 26, .ref 27]))), 0, 0)) rfl rfl ?_ rfl rfl rfl
        refine am_Go.bl 3 (y := (bif am_cmp .lt (a) 0 then 14 else 5, [some (.int (a)), some (.int 0), some (.int 99)], [], ((am_h0.set 25 (.inl (1, 12, .inl (upd (am_ctI am_hM 25) 0 (a))))).set 24 (.inr (4, [.int 1, .ref 25, .ref 26, .ref 27]))), 0, 0)) (fun _ => rfl) ?_
        refine am_Go.brF hb3 ?_
        refine am_Go.bl 3 (y := (bif am_cmp .gt (a) 99 then 14 else 10, [some (.int (a)), some (.int 0), some (.int 99)], [], ((am_h0.set 25 (.inl (1, 12, .inl (upd (am_ctI am_hM 25) 0 (a))))).set 24 (.inr (4, [.int 1, .ref 25, .ref 26, .ref 27]))), 0, 0)) (fun _ => rfl) ?_
        refine am_Go.brF hb4 ?_
        refine am_Go.bl 2 (y := (15, [some (.int (a)), some (.int 0), some (.int 99)], [.int 1], ((am_h0.set 25 (.inl (1, 12, .inl (upd (am_ctI am_hM 25) 0 (a))))).set 24 (.inr (4, [.int 1, .ref 25, .ref 26, .ref 27]))), 0, 0)) (fun _ => rfl) ?_
        exact am_Go.rf
      have hd4 : am_Do true 19 168 [.ref 64, .int (a)] ((am_h0.set 25 (.inl (1, 12, .inl (upd (am_ctI am_hM 25) 0 (a))))).set 24 (.inr (4, [.int 1, .ref 25, .ref 26, .ref 27]))) (some (.int 0), (((((am_h0.set 25 (.inl (1, 12, .inl (upd (am_ctI am_hM 25) 0 (a))))).set 24 (.inr (4, [.int 1, .ref 25, .ref 26, .ref 27]))).set 76 (.inl (1, 12, .inl (upd (am_ctI am_hM 76) 0 (a))))).set 77 (.inl (4, 12, .inl (upd (am_ctI am_hM 77) 0 (vp_nar .boolean 0))))).set 64 (.inr (12, [.int 0, .ref 65, .int 0, .int 0, .int 0, .int 0, .int 0, .int 0, .long 0, .int 0, .int 0, .int 0, .int 0, .int 0, .ref 66, .ref 67, .int 0, .ref 68, .ref 69, .ref 70, .ref 71, .int 0, .int 0, .int 0, .int 36, .int 99, .ref 72, .ref 73, .ref 74, .ref 75, .int 1, .ref 76, .ref 77, .int 0, .int 0, .ref 78, .ref 79, .ref 80, .ref 81, .ref 82, .int 0, .ref 83, .ref 84, .ref 85, .ref 86, .ref 87, .int 0, .ref 88, .ref 89, .ref 90, .ref 91, .ref 92, .ref 93, .ref 94, .ref 95, .int 0, .int 0, .int 0, .int 0, .ref 96, .int 0, .int 0, .ref 97, .ref 98, .ref 99])))) := by
        refine am_Do.of (r := am_r168) (y := (57, [some (.ref 64), some (.int (a))], [.int 0], (((((am_h0.set 25 (.inl (1, 12, .inl (upd (am_ctI am_hM 25) 0 (a))))).set 24 (.inr (4, [.int 1, .ref 25, .ref 26, .ref 27]))).set 76 (.inl (1, 12, .inl (upd (am_ctI am_hM 76) 0 (a))))).set 77 (.inl (4, 12, .inl (upd (am_ctI am_hM 77) 0 (vp_nar .boolean 0))))).set 64 (.inr (12, [.int 0, .ref 65, .int 0, .int 0, .int 0, .int 0, .int 0, .int 0, .long 0, .int 0, .int 0, .int 0, .int 0, .int 0, .ref 66, .ref 67, .int 0, .ref 68, .ref 69, .ref 70, .ref 71, .int 0, .int 0, .int 0, .int 36, .int 99, .ref 72, .ref 73, .ref 74, .ref 75, .int 1, .ref 76, .ref 77, .int 0, .int 0, .ref 78, .ref 79, .ref 80, .ref 81, .ref 82, .int 0, .ref 83, .ref 84, .ref 85, .ref 86, .ref 87, .int 0, .ref 88, .ref 89, .ref 90, .ref 91, .ref 92, .ref 93, .ref 94, .ref 95, .int 0, .int 0, .int 0, .int 0, .ref 96, .int 0, .int 0, .ref 97, .ref 98, .ref 99]))), 0, 0)) rfl rfl ?_ rfl rfl rfl
        refine am_Go.bl 3 (y := (4, [some (.ref 64), some (.int (a))], [.int 99, .int 0, .int (a)], ((am_h0.set 25 (.inl (1, 12, .inl (upd (am_ctI am_hM 25) 0 (a))))).set 24 (.inr (4, [.int 1, .ref 25, .ref 26, .ref 27]))), 0, 0)) (fun _ => rfl) ?_
        refine am_Go.cS hd3 rfl rfl rfl rfl rfl rfl ?_
        refine am_Go.bl 27 (y := (57, [some (.ref 64), some (.int (a))], [.int 0], (((((am_h0.set 25 (.inl (1, 12, .inl (upd (am_ctI am_hM 25) 0 (a))))).set 24 (.inr (4, [.int 1, .ref 25, .ref 26, .ref 27]))).set 76 (.inl (1, 12, .inl (upd (am_ctI am_hM 76) 0 (a))))).set 77 (.inl (4, 12, .inl (upd (am_ctI am_hM 77) 0 (vp_nar .boolean 0))))).set 64 (.inr (12, [.int 0, .ref 65, .int 0, .int 0, .int 0, .int 0, .int 0, .int 0, .long 0, .int 0, .int 0, .int 0, .int 0, .int 0, .ref 66, .ref 67, .int 0, .ref 68, .ref 69, .ref 70, .ref 71, .int 0, .int 0, .int 0, .int 36, .int 99, .ref 72, .ref 73, .ref 74, .ref 75, .int 1, .ref 76, .ref 77, .int 0, .int 0, .ref 78, .ref 79, .ref 80, .ref 81, .ref 82, .int 0, .ref 83, .ref 84, .ref 85, .ref 86, .ref 87, .int 0, .ref 88, .ref 89, .ref 90, .ref 91, .ref 92, .ref 93, .ref 94, .ref 95, .int 0, .int 0, .int 0, .int 0, .ref 96, .int 0, .int 0, .ref 97, .ref 98, .ref 99]))), 0, 0)) (fun _ => rfl) ?_
        exact am_Go.rf
      exact ⟨_, _, _, hd2, ⟨_, rfl⟩, rfl, hd4, rfl⟩
  | true =>
    have hf1 := (am_clt_t (y := 0) (k := (0)) rfl).mp hb1
    have hd1 : am_Do true 19 122 [.ref 0, .int (a)] am_h0 (some (.int (-1)), am_h0) := by
      refine am_Do.of (r := am_r122) (y := (22, [some (.ref 0), some (.int (a))], [.int (-1)], am_h0, 0, 0)) rfl rfl ?_ rfl rfl rfl
      refine am_Go.bl 2 (y := (bif am_cmp .lt (a) 0 then 10 else 4, [some (.ref 0), some (.int (a))], [], am_h0, 0, 0)) (fun _ => rfl) ?_
      refine am_Go.brT hb1 ?_
      refine am_Go.bl 2 (y := (22, [some (.ref 0), some (.int (a))], [.int (-1)], am_h0, 0, 0)) (fun _ => rfl) ?_
      exact am_Go.rf
    have hb2 : am_cmp .lt (a) 0 = true := (am_clt_t (k := (0)) rfl).mpr (by omega)
    have hd2 : am_Do true 18 169 [.int (a), .int 0, .int 99] am_h0 (some (.int 0), am_h0) := by
      refine am_Do.of (r := am_r169) (y := (15, [some (.int (a)), some (.int 0), some (.int 99)], [.int 0], am_h0, 0, 0)) rfl rfl ?_ rfl rfl rfl
      refine am_Go.bl 3 (y := (bif am_cmp .lt (a) 0 then 14 else 5, [some (.int (a)), some (.int 0), some (.int 99)], [], am_h0, 0, 0)) (fun _ => rfl) ?_
      refine am_Go.brT hb2 ?_
      refine am_Go.bl 1 (y := (15, [some (.int (a)), some (.int 0), some (.int 99)], [.int 0], am_h0, 0, 0)) (fun _ => rfl) ?_
      exact am_Go.rf
    have hd3 : am_Do true 19 168 [.ref 64, .int (a)] am_h0 (some (.int (-1)), am_h0) := by
      refine am_Do.of (r := am_r168) (y := (20, [some (.ref 64), some (.int (a))], [.int (-1)], am_h0, 0, 0)) rfl rfl ?_ rfl rfl rfl
      refine am_Go.bl 3 (y := (4, [some (.ref 64), some (.int (a))], [.int 99, .int 0, .int (a)], am_h0, 0, 0)) (fun _ => rfl) ?_
      refine am_Go.cS hd2 rfl rfl rfl rfl rfl rfl ?_
      refine am_Go.bl 2 (y := (20, [some (.ref 64), some (.int (a))], [.int (-1)], am_h0, 0, 0)) (fun _ => rfl) ?_
      exact am_Go.rf
    exact ⟨_, _, _, hd1, ⟨_, rfl⟩, rfl, hd3, rfl⟩
