set_option maxHeartbeats 20000000 in
set_option maxRecDepth 100000 in
theorem am_p_poet (a : Int32) : am_PairOK 122 168 [.int a] := by
  cases hb1 : am_cmp .lt (a) 0 with
  | false =>
    cases hb2 : am_cmp .le (a) 99 with
    | false =>
      have hf1 := (am_clt_f (y := 0) (k := (0)) rfl).mp hb1
      have hf2 := (am_cle_f (y := 99) (k := (99)) rfl).mp hb2
      have hd1 : am_Do true 19 122 [.ref 0, .int (a)] am_h0 (some (.int (-1)), am_h0) := by
        refine am_Do.of (r := am_r122) (y := (22, [some (.ref 0), some (.int (a))], [.int (-1)], am_h0, 0, 0)) rfl rfl ?_ rfl rfl rfl
        refine am_Go.bl 2 (y := (bif am_cmp .lt (a) 0 then 10 else 4, [some (.ref 0), some (.int (a))], [], am_h0, 0, 0)) (fun _ => rfl) ?_
        refine am_Go.brF hb1 ?_
        refine am_Go.bl 3 (y := (bif am_cmp .le (a) 99 then 14 else 10, [some (.ref 0), some (.int (a))], [], am_h0, 0, 0)) (fun _ => rfl) ?_
        refine am_Go.brF hb2 ?_
        refine am_Go.bl 2 (y := (22, [some (.ref 0), some (.int (a))], [.int (-1)], am_h0, 0, 0)) (fun _ => rfl) ?_
        exact am_Go.rf
      have hb3 : am_cmp .lt (a) 0 = false := (am_clt_f (k := (0)) rfl).mpr (by omega)
      have hb4 : am_cmp .gt (a) 99 = true := (am_cgt_t (k := (99)) rfl).mpr (by omega)
      have hd2 : am_Do true 18 169 [.int (a), .int 0, .int 99] am_h0 (some (.int 0), am_h0) := by
        refine am_Do.of (r := am_r169) (y := (15, [some (.int (a)), some (.int 0), some (.int 99)], [.int 0], am_h0, 0, 0)) rfl rfl ?_ rfl rfl rfl
        refine am_Go.bl 3 (y := (bif am_cmp .lt (a) 0 then 14 else 5, [some (.int (a)), some (.int 0), some (.int 99)], [], am_h0, 0, 0)) (fun _ => rfl) ?_
        refine am_Go.brF hb3 ?_
        refine am_Go.bl 3 (y := (bif am_cmp .gt (a) 99 then 14 else 10, [some (.int (a)), some (.int 0), some (.int 99)], [], am_h0, 0, 0)) (fun _ => rfl) ?_
        refine am_Go.brT hb4 ?_
        refine am_Go.bl 1 (y := (15, [some (.int (a)), some (.int 0), some (.int 99)], [.int 0], am_h0, 0, 0)) (fun _ => rfl) ?_
        exact am_Go.rf
      have hd3 : am_Do true 19 168 [.ref 64, .int (a)] am_h0 (some (.int (-1)), am_h0) := by
        refine am_Do.of (r := am_r168) (y := (20, [some (.ref 64), some (.int (a))], [.int (-1)], am_h0, 0, 0)) rfl rfl ?_ rfl rfl rfl
        refine am_Go.bl 3 (y := (4, [some (.ref 64), some (.int (a))], [.int 99, .int 0, .int (a)], am_h0, 0, 0)) (fun _ => rfl) ?_
        refine am_Go.cS hd2 rfl rfl rfl rfl rfl rfl ?_
        refine am_Go.bl 2 (y := (20, [some (.ref 64), some (.int (a))], [.int (-1)], am_h0, 0, 0)) (fun _ => rfl) ?_
        exact am_Go.rf
      exact ⟨_, _, _, hd1, ⟨_, rfl⟩, rfl, hd3, rfl⟩
    | true =>
      have hf1 := (am_clt_f (y := 0) (k := (0)) rfl).mp hb1
      have hf2 := (am_cle_t (y := 99) (k := (99)) rfl).mp hb2
      have hd1 : am_Do true 18 36 [.ref 24, .int (a)] am_h0 (some (.int 0), ((am_h0.set 25 (.inl (1, 12, .inl (upd (am_ctI am_hM 25) 0 (a))))).set 24 (.inr (4, [.int 1, .ref 25, .ref 26, .ref 27])))) := by
        refine am_Do.of (r := am_r36) (y := (37, [some (.ref 24), some (.int (a))], [.int 0], ((am_h0.set 25 (.inl (1, 12, .inl (upd (am_ctI am_hM 25) 0 (a))))).set 24 (.inr (4, [.int 1, .ref 25, .ref 26, .ref 27]))), 0, 0)) rfl rfl ?_ rfl rfl rfl
        refine am_Go.bl 10 (y := (21, [some (.ref 24), some (.int (a))], [], (am_h0.set 25 (.inl (1, 12, .inl (upd (am_ctI am_hM 25) 0 (a))))), 0, 0)) (fun _ => rfl) ?_
        refine am_Go.bl 10 (y := (37, [some (.ref 24), some (.int (a))], [.int 0], ((am_h0.set 25 (.inl (1, 12, .inl (upd (am_ctI am_hM 25) 0 (a))))).set 24 (.inr (4, [.int 1, .ref 25, .ref 26, .ref 27]))), 0, 0)) (fun _ => rfl) ?_
        exact am_Go.rf
      have hd2 : am_Do true 19 122 [.ref 0, .int (a)] am_h0 (some (.int 0), ((am_h0.set 25 (.inl (1, 12, .inl (upd (am_ctI am_hM 25) 0 (a))))).set 24 (.inr (4, [.int 1, .ref 25, .ref 26, .ref 27])))) := by
        refine am_Do.of (r := am_r122) (y := (22, [some (.ref 0), some (.int (a))], [.int 0], ((am_h0.set 25 (.inl (1, 12, .inl (upd (am_ctI am_hM 25) 0 (a))))).set 24 (.inr (4, [.int 1, .ref 25, .ref 26, .ref 27]))), 0, 0)) rfl rfl ?_ rfl rfl rfl
        refine am_Go.bl 2 (y := (bif am_cmp .lt (a) 0 then 10 else 4, [some (.ref 0), some (.int (a))], [], am_h0, 0, 0)) (fun _ => rfl) ?_
        refine am_Go.brF hb1 ?_
        refine am_Go.bl 3 (y := (bif am_cmp .le (a) 99 then 14 else 10, [some (.ref 0), some (.int (a))], [], am_h0, 0, 0)) (fun _ => rfl) ?_
        refine am_Go.brT hb2 ?_
        refine am_Go.bl 3 (y := (19, [some (.ref 0), some (.int (a))], [.int (a), .ref 24], am_h0, 0, 0)) (fun _ => rfl) ?_
        refine am_Go.cV hd1 rfl rfl rfl rfl rfl rfl rfl ?_
        exact am_Go.rf
      have hb3 : am_cmp .lt (a) 0 = false := (am_clt_f (k := (0)) rfl).mpr (by omega)
      have hb4 : am_cmp .gt (a) 99 = false := (am_cgt_f (k := (99)) rfl).mpr (by omega)
      have hd3 : am_Do true 18 169 [.int (a), .int 0, .int 99] ((am_h0.set 25 (.inl (1, 12, .inl (upd (am_ctI am_hM 25) 0 (a))))).set 24 (.inr (4, [.int 1, .ref 25, .ref 26, .ref 27]))) (some (.int 1), ((am_h0.set 25 (.inl (1, 12, .inl (upd (am_ctI am_hM 25) 0 (a))))).set 24 (.inr (4, [.int 1, .ref 25, .ref 26, .ref 27])))) := by
        refine am_Do.of (r := am_r169) (y := (15, [some (.int (a)), some (.int 0), some (.int 99)], [.int 1], ((am_h0.set 25 (.inl (1, 12, .inl (upd (am_ctI am_hM 25) 0 (a))))).set 24 (.inr (4, [.int 1, .ref 25, .ref 26, .ref 27]))), 0, 0)) rfl rfl ?_ rfl rfl rfl
        refine am_Go.bl 3 (y := (bif am_cmp .lt (a) 0 then 14 else 5, [some (.int (a)), some (.int 0), some (.int 99)], [], ((am_h0.set 25 (.inl (1, 12, .inl (upd (am_ctI am_hM 25) 0 (a))))).set 24 (.inr (4, [.int 1, .ref 25, .ref 26, .ref 27]))), 0, 0)) (fun _ => rfl) ?_
        refine am_Go.brF hb3 ?_
        refine am_Go.bl 3 (y := (bif am_cmp .gt (a) 99 then 14 else 10, [some (.int (a)), some (.int 0), some (.int 99)], [], ((am_h0.set 25 (.inl (1, 12, .inl (upd (am_ctI am_hM 25) 0 (a))))).set 24 (.inr (4, [.int 1, .ref 25, .ref 26, .ref 27]))), 0, 0)) (fun _ => rfl) ?_
        refine am_Go.brF hb4 ?_
        refine am_Go.bl 2 (y := (15, [some (.int (a)), some (.int 0), some (.int 99)], [.int 1], ((am_h0.set 25 (.inl (1, 12, .inl (upd (am_ctI am_hM 25) 0 (a))))).set 24 (.inr (4, [.int 1, .ref 25, .ref 26, .ref 27]))), 0, 0)) (fun _ => rfl) ?_
        exact am_Go.rf
      have hd4 : am_Do true 19 168 [.ref 64, .int (a)] ((am_h0.set 25 (.inl (1, 12, .inl (upd (am_ctI am_hM 25) 0 (a))))).set 24 (.inr (4, [.int 1, .ref 25, .ref 26, .ref 27]))) (some (.int 0), (((((am_h0.set 25 (.inl (1, 12, .inl (upd (am_ctI am_hM 25) 0 (a))))).set 24 (.inr (4, [.int 1, .ref 25, .ref 26, .ref 27]))).set 76 (.inl (1, 12, .inl (upd (am_ctI am_hM 76) 0 (a))))).set 77 (.inl (4, 12, .inl (upd (am_ctI am_hM 77) 0 (vp_nar .boolean 0))))).set 64 (.inr (12, [.int 0, .ref 65, .int 0, .int 0, .int 0, .int 0, .int 0, .int 0, .long 0, .int 0, .int 0, .int 0, .int 0, .int 0, .ref 66, .ref 67, .int 0, .ref 68, .ref 69, .ref 70, .ref 71, .int 0, .int 0, .int 0, .int 36, .int 99, .ref 72, .ref 73, .ref 74, .ref 75, .int 1, .ref 76, .ref 77, .int 0, .int 0, .ref 78, .ref 79, .ref 80, .ref 81, .ref 82, .int 0, .ref 83, .ref 84, .ref 85, .ref 86, .ref 87, .int 0, .ref 88, .ref 89, .ref 90, .ref 91, .ref 92, .ref 93, .ref 94, .ref 95, .int 0, .int 0, .int 0, .int 0, .ref 96, .int 0, .int 0, .ref 97, .ref 98, .ref 99])))) := by
        refine am_Do.of (r := am_r168) (y := (57, [some (.ref 64), some (.int (a))], [.int 0], (((((am_h0.set 25 (.inl (1, 12, .inl (upd (am_ctI am_hM 25) 0 (a))))).set 24 (.inr (4, [.int 1, .ref 25, .ref 26, .ref 27]))).set 76 (.inl (1, 12, .inl (upd (am_ctI am_hM 76) 0 (a))))).set 77 (.inl (4, 12, .inl (upd (am_ctI am_hM 77) 0 (vp_nar .boolean 0))))).set 64 (.inr (12, [.int 0, .ref 65, .int 0, .int 0, .int 0, .int 0, .int 0, .int 0, .long 0, .int 0, .int 0, .int 0, .int 0, .int 0, .ref 66, .ref 67, .int 0, .ref 68, .ref 69, .ref 70, .ref 71, .int 0, .int 0, .int 0, .int 36, .int 99, .ref 72, .ref 73, .ref 74, .ref 75, .int 1, .ref 76, .ref 77, .int 0, .int 0, .ref 78, .ref 79, .ref 80, .ref 81, .ref 82, .int 0, .ref 83, .ref 84, .ref 85, .ref 86, .ref 87, .int 0, .ref 88, .ref 89, .ref 90, .ref 91, .ref 92, .ref 93, .ref 94, .ref 95, .int 0, .int 0, .int 0, .int 0, .ref 96, .int 0, .int 0, .ref 97, .ref 98, .ref 99]))), 0, 0)) rfl rfl ?_ rfl rfl rfl
        refine am_Go.bl 3 (y := (4, [some (.ref 64), some (.int (a))], [.int 99, .int 0, .int (a)], ((am_h0.set 25 (.inl (1, 12, .inl (upd (am_ctI am_hM 25) 0 (a))))).set 24 (.inr (4, [.int 1, .ref 25, .ref 26, .ref 27]))), 0, 0)) (fun _ => rfl) ?_
        refine am_Go.cS hd3 rfl rfl rfl rfl rfl rfl ?_
        refine am_Go.bl 10 (y := (30, [some (.ref 64), some (.int (a))], [.int (a), .int 0, .ref 76], ((am_h0.set 25 (.inl (1, 12, .inl (upd (am_ctI am_hM 25) 0 (a))))).set 24 (.inr (4, [.int 1, .ref 25, .ref 26, .ref 27]))), 0, 0)) (fun _ => rfl) ?_
        refine am_Go.bl 10 (y := (46, [some (.ref 64), some (.int (a))], [.int 0, .ref 64], ((((am_h0.set 25 (.inl (1, 12, .inl (upd (am_ctI am_hM 25) 0 (a))))).set 24 (.inr (4, [.int 1, .ref 25, .ref 26, .ref 27]))).set 76 (.inl (1, 12, .inl (upd (am_ctI am_hM 76) 0 (a))))).set 77 (.inl (4, 12, .inl (upd (am_ctI am_hM 77) 0 (vp_nar .boolean 0))))), 0, 0)) (fun _ => rfl) ?_
        refine am_Go.bl 7 (y := (57, [some (.ref 64), some (.int (a))], [.int 0], (((((am_h0.set 25 (.inl (1, 12, .inl (upd (am_ctI am_hM 25) 0 (a))))).set 24 (.inr (4, [.int 1, .ref 25, .ref 26, .ref 27]))).set 76 (.inl (1, 12, .inl (upd (am_ctI am_hM 76) 0 (a))))).set 77 (.inl (4, 12, .inl (upd (am_ctI am_hM 77) 0 (vp_nar .boolean 0))))).set 64 (.inr (12, [.int 0, .ref 65, .int 0, .int 0, .int 0, .int 0, .int 0, .int 0, .long 0, .int 0, .int 0, .int 0, .int 0, .int 0, .ref 66, .ref 67, .int 0, .ref 68, .ref 69, .ref 70, .ref 71, .int 0, .int 0, .int 0, .int 36, .int 99, .ref 72, .ref 73, .ref 74, .ref 75, .int 1, .ref 76, .ref 77, .int 0, .int 0, .ref 78, .ref 79, .ref 80, .ref 81, .ref 82, .int 0, .ref 83, .ref 84, .ref 85, .ref 86, .ref 87, .int 0, .ref 88, .ref 89, .ref 90, .ref 91, .ref 92, .ref 93, .ref 94, .ref 95, .int 0, .int 0, .int 0, .int 0, .ref 96, .int 0, .int 0, .ref 97, .ref 98, .ref 99]))), 0, 0)) (fun _ => rfl) ?_
        exact am_Go.rf
      exact ⟨_, _, _, hd2, ⟨_, rfl⟩, rfl, hd4, rfl⟩
  | true =>
    have hf1 := (am_clt_t (y := 0) (k := (0)) rfl).mp hb1
    have hd1 : am_Do true 19 122 [.ref 0, .int (a)] am_h0 (some (.int (-1)), am_h0) := by
      refine am_Do.of (r := am_r122) (y := (22, [some (.ref 0), some (.int (a))], [.int (-1)], am_h0, 0, 0)) rfl rfl ?_ rfl rfl rfl
      refine am_Go.bl 2 (y := (bif am_cmp .lt (a) 0 then 10 else 4, [some (.ref 0), some (.int (a))], [], am_h0, 0, 0)) (fun _ => rfl) ?_
      refine am_Go.brT hb1 ?_
      refine am_Go.bl 2 (y := (22, [some (.ref 0), some (.int (a))], [.int (-1)], am_h0, 0, 0)) (fun _ => rfl) ?_
      exact am_Go.rf
    have hb2 : am_cmp .lt (a) 0 = true := (am_clt_t (k := (0)) rfl).mpr (by omega)
    have hd2 : am_Do true 18 169 [.int (a), .int 0, .int 99] am_h0 (some (.int 0), am_h0) := by
      refine am_Do.of (r := am_r169) (y := (15, [some (.int (a)), some (.int 0), some (.int 99)], [.int 0], am_h0, 0, 0)) rfl rfl ?_ rfl rfl rfl
      refine am_Go.bl 3 (y := (bif am_cmp .lt (a) 0 then 14 else 5, [some (.int (a)), some (.int 0), some (.int 99)], [], am_h0, 0, 0)) (fun _ => rfl) ?_
      refine am_Go.brT hb2 ?_
      refine am_Go.bl 1 (y := (15, [some (.int (a)), some (.int 0), some (.int 99)], [.int 0], am_h0, 0, 0)) (fun _ => rfl) ?_
      exact am_Go.rf
    have hd3 : am_Do true 19 168 [.ref 64, .int (a)] am_h0 (some (.int (-1)), am_h0) := by
      refine am_Do.of (r := am_r168) (y := (20, [some (.ref 64), some (.int (a))], [.int (-1)], am_h0, 0, 0)) rfl rfl ?_ rfl rfl rfl
      refine am_Go.bl 3 (y := (4, [some (.ref 64), some (.int (a))], [.int 99, .int 0, .int (a)], am_h0, 0, 0)) (fun _ => rfl) ?_
      refine am_Go.cS hd2 rfl rfl rfl rfl rfl rfl ?_
      refine am_Go.bl 2 (y := (20, [some (.ref 64), some (.int (a))], [.int (-1)], am_h0, 0, 0)) (fun _ => rfl) ?_
      exact am_Go.rf
    exact ⟨_, _, _, hd1, ⟨_, rfl⟩, rfl, hd3, rfl⟩
set_option maxHeartbeats 20000000 in
set_option maxRecDepth 100000 in
theorem am_p_year (a : Int32) : am_PairOK 125 174 [.int a] := by
  cases hb1 : am_cmp .lt (a) 0 with
  | false =>
    cases hb2 : am_cmp .gt (a) 9999 with
    | false =>
      have hf1 := (am_clt_f (y := 0) (k := (0)) rfl).mp hb1
      have hf2 := (am_cgt_f (y := 9999) (k := (9999)) rfl).mp hb2
      have hd1 : am_Do true 18 126 [.int (a)] am_h0 (some (.int 1), am_h0) := by
        refine am_Do.of (r := am_r126) (y := (16, [some (.int (a))], [.int 1], am_h0, 0, 0)) rfl rfl ?_ rfl rfl rfl
        refine am_Go.bl 2 (y := (bif am_cmp .lt (a) 0 then 15 else 4, [some (.int (a))], [], am_h0, 0, 0)) (fun _ => rfl) ?_
        refine am_Go.brF hb1 ?_
        refine am_Go.bl 3 (y := (bif am_cmp .gt (a) 9999 then 15 else 11, [some (.int (a))], [], am_h0, 0, 0)) (fun _ => rfl) ?_
        refine am_Go.brF hb2 ?_
        refine am_Go.bl 2 (y := (16, [some (.int (a))], [.int 1], am_h0, 0, 0)) (fun _ => rfl) ?_
        exact am_Go.rf
      have hd2 : am_Do true 19 125 [.ref 0, .int (a)] am_h0 (some (.int 1), (am_h0.set 18 (.inr (0, [.int (a), .int 0, .ref 19, .ref 20, .ref 21])))) := by
        refine am_Do.of (r := am_r125) (y := (18, [some (.ref 0), some (.int (a))], [.int 1], (am_h0.set 18 (.inr (0, [.int (a), .int 0, .ref 19, .ref 20, .ref 21]))), 0, 0)) rfl rfl ?_ rfl rfl rfl
        refine am_Go.bl 1 (y := (1, [some (.ref 0), some (.int (a))], [.int (a)], am_h0, 0, 0)) (fun _ => rfl) ?_
        refine am_Go.cS hd1 rfl rfl rfl rfl rfl rfl ?_
        refine am_Go.bl 6 (y := (18, [some (.ref 0), some (.int (a))], [.int 1], (am_h0.set 18 (.inr (0, [.int (a), .int 0, .ref 19, .ref 20, .ref 21]))), 0, 0)) (fun _ => rfl) ?_
        exact am_Go.rf
      have hb3 : am_cmp .lt (a) 0 = false := (am_clt_f (k := (0)) rfl).mpr (by omega)
      have hb4 : am_cmp .gt (a) 9999 = false := (am_cgt_f (k := (9999)) rfl).mpr (by omega)
      have hd3 : am_Do true 18 169 [.int (a), .int 0, .int 9999] (am_h0.set 18 (.inr (0, [.int (a), .int 0, .ref 19, .ref 20, .ref 21]))) (some (.int 1), (am_h0.set 18 (.inr (0, [.int (a), .int 0, .ref 19, .ref 20, .ref 21])))) := by
        refine am_Do.of (r := am_r169) (y := (15, [some (.int (a)), some (.int 0), some (.int 9999)], [.int 1], (am_h0.set 18 (.inr (0, [.int (a), .int 0, .ref 19, .ref 20, .ref 21]))), 0, 0)) rfl rfl ?_ rfl rfl rfl
        refine am_Go.bl 3 (y := (bif am_cmp .lt (a) 0 then 14 else 5, [some (.int (a)), some (.int 0), some (.int 9999)], [], (am_h0.set 18 (.inr (0, [.int (a), .int 0, .ref 19, .ref 20, .ref 21]))), 0, 0)) (fun _ => rfl) ?_
        refine am_Go.brF hb3 ?_
        refine am_Go.bl 3 (y := (bif am_cmp .gt (a) 9999 then 14 else 10, [some (.int (a)), some (.int 0), some (.int 9999)], [], (am_h0.set 18 (.inr (0, [.int (a), .int 0, .ref 19, .ref 20, .ref 21]))), 0, 0)) (fun _ => rfl) ?_
        refine am_Go.brF hb4 ?_
        refine am_Go.bl 2 (y := (15, [some (.int (a)), some (.int 0), some (.int 9999)], [.int 1], (am_h0.set 18 (.inr (0, [.int (a), .int 0, .ref 19, .ref 20, .ref 21]))), 0, 0)) (fun _ => rfl) ?_
        exact am_Go.rf
      have hd4 : am_Do true 19 174 [.ref 64, .int (a)] (am_h0.set 18 (.inr (0, [.int (a), .int 0, .ref 19, .ref 20, .ref 21]))) (some (.int 1), ((am_h0.set 18 (.inr (0, [.int (a), .int 0, .ref 19, .ref 20, .ref 21]))).set 64 (.inr (12, [.int 0, .ref 65, .int 0, .int 0, .int 0, .int 0, .int 0, .int 0, .long 0, .int 0, .int 0, .int 0, .int 0, .int 0, .ref 66, .ref 67, .int 0, .ref 68, .ref 69, .ref 70, .ref 71, .int 0, .int 0, .int 0, .int 36, .int 99, .ref 72, .ref 73, .ref 74, .ref 75, .int 0, .ref 76, .ref 77, .int (a), .int 0, .ref 78, .ref 79, .ref 80, .ref 81, .ref 82, .int 0, .ref 83, .ref 84, .ref 85, .ref 86, .ref 87, .int 0, .ref 88, .ref 89, .ref 90, .ref 91, .ref 92, .ref 93, .ref 94, .ref 95, .int 0, .int 0, .int 0, .int 0, .ref 96, .int 0, .int 0, .ref 97, .ref 98, .ref 99])))) := by
        refine am_Do.of (r := am_r174) (y := (19, [some (.ref 64), some (.int (a))], [.int 1], ((am_h0.set 18 (.inr (0, [.int (a), .int 0, .ref 19, .ref 20, .ref 21]))).set 64 (.inr (12, [.int 0, .ref 65, .int 0, .int 0, .int 0, .int 0, .int 0, .int 0, .long 0, .int 0, .int 0, .int 0, .int 0, .int 0, .ref 66, .ref 67, .int 0, .ref 68, .ref 69, .ref 70, .ref 71, .int 0, .int 0, .int 0, .int 36, .int 99, .ref 72, .ref 73, .ref 74, .ref 75, .int 0, .ref 76, .ref 77, .int (a), .int 0, .ref 78, .ref 79, .ref 80, .ref 81, .ref 82, .int 0, .ref 83, .ref 84, .ref 85, .ref 86, .ref 87, .int 0, .ref 88, .ref 89, .ref 90, .ref 91, .ref 92, .ref 93, .ref 94, .ref 95, .int 0, .int 0, .int 0, .int 0, .ref 96, .int 0, .int 0, .ref 97, .ref 98, .ref 99]))), 0, 0)) rfl rfl ?_ rfl rfl rfl
        refine am_Go.bl 3 (y := (5, [some (.ref 64), some (.int (a))], [.int 9999, .int 0, .int (a)], (am_h0.set 18 (.inr (0, [.int (a), .int 0, .ref 19, .ref 20, .ref 21]))), 0, 0)) (fun _ => rfl) ?_
        refine am_Go.cS hd3 rfl rfl rfl rfl rfl rfl ?_
        refine am_Go.bl 5 (y := (19, [some (.ref 64), some (.int (a))], [.int 1], ((am_h0.set 18 (.inr (0, [.int (a), .int 0, .ref 19, .ref 20, .ref 21]))).set 64 (.inr (12, [.int 0, .ref 65, .int 0, .int 0, .int 0, .int 0, .int 0, .int 0, .long 0, .int 0, .int 0, .int 0, .int 0, .int 0, .ref 66, .ref 67, .int 0, .ref 68, .ref 69, .ref 70, .ref 71, .int 0, .int 0, .int 0, .int 36, .int 99, .ref 72, .ref 73, .ref 74, .ref 75, .int 0, .ref 76, .ref 77, .int (a), .int 0, .ref 78, .ref 79, .ref 80, .ref 81, .ref 82, .int 0, .ref 83, .ref 84, .ref 85, .ref 86, .ref 87, .int 0, .ref 88, .ref 89, .ref 90, .ref 91, .ref 92, .ref 93, .ref 94, .ref 95, .int 0, .int 0, .int 0, .int 0, .ref 96, .int 0, .int 0, .ref 97, .ref 98, .ref 99]))), 0, 0)) (fun _ => rfl) ?_
        exact am_Go.rf
      exact ⟨_, _, _, hd2, ⟨_, rfl⟩, rfl, hd4, rfl⟩
    | true =>
      have hf1 := (am_clt_f (y := 0) (k := (0)) rfl).mp hb1
      have hf2 := (am_cgt_t (y := 9999) (k := (9999)) rfl).mp hb2
      have hd1 : am_Do true 18 126 [.int (a)] am_h0 (some (.int 0), am_h0) := by
        refine am_Do.of (r := am_r126) (y := (16, [some (.int (a))], [.int 0], am_h0, 0, 0)) rfl rfl ?_ rfl rfl rfl
        refine am_Go.bl 2 (y := (bif am_cmp .lt (a) 0 then 15 else 4, [some (.int (a))], [], am_h0, 0, 0)) (fun _ => rfl) ?_
        refine am_Go.brF hb1 ?_
        refine am_Go.bl 3 (y := (bif am_cmp .gt (a) 9999 then 15 else 11, [some (.int (a))], [], am_h0, 0, 0)) (fun _ => rfl) ?_
        refine am_Go.brT hb2 ?_
        refine am_Go.bl 1 (y := (16, [some (.int (a))], [.int 0], am_h0, 0, 0)) (fun _ => rfl) ?_
        exact am_Go.rf
      have hd2 : am_Do true 19 125 [.ref 0, .int (a)] am_h0 (some (.int 0), am_h0) := by
        refine am_Do.of (r := am_r125) (y := (8, [some (.ref 0), some (.int (a))], [.int 0], am_h0, 0, 0)) rfl rfl ?_ rfl rfl rfl
        refine am_Go.bl 1 (y := (1, [some (.ref 0), some (.int (a))], [.int (a)], am_h0, 0, 0)) (fun _ => rfl) ?_
        refine am_Go.cS hd1 rfl rfl rfl rfl rfl rfl ?_
        refine am_Go.bl 2 (y := (8, [some (.ref 0), some (.int (a))], [.int 0], am_h0, 0, 0)) (fun _ => rfl) ?_
        exact am_Go.rf
      have hb3 : am_cmp .lt (a) 0 = false := (am_clt_f (k := (0)) rfl).mpr (by omega)
      have hb4 : am_cmp .gt (a) 9999 = true := (am_cgt_t (k := (9999)) rfl).mpr (by omega)
      have hd3 : am_Do true 18 169 [.int (a), .int 0, .int 9999] am_h0 (some (.int 0), am_h0) := by
        refine am_Do.of (r := am_r169) (y := (15, [some (.int (a)), some (.int 0), some (.int 9999)], [.int 0], am_h0, 0, 0)) rfl rfl ?_ rfl rfl rfl
        refine am_Go.bl 3 (y := (bif am_cmp .lt (a) 0 then 14 else 5, [some (.int (a)), some (.int 0), some (.int 9999)], [], am_h0, 0, 0)) (fun _ => rfl) ?_
        refine am_Go.brF hb3 ?_
        refine am_Go.bl 3 (y := (bif am_cmp .gt (a) 9999 then 14 else 10, [some (.int (a)), some (.int 0), some (.int 9999)], [], am_h0, 0, 0)) (fun _ => rfl) ?_
        refine am_Go.brT hb4 ?_
        refine am_Go.bl 1 (y := (15, [some (.int (a)), some (.int 0), some (.int 9999)], [.int 0], am_h0, 0, 0)) (fun _ => rfl) ?_
        exact am_Go.rf
      have hd4 : am_Do true 19 174 [.ref 64, .int (a)] am_h0 (some (.int 0), am_h0) := by
        refine am_Do.of (r := am_r174) (y := (12, [some (.ref 64), some (.int (a))], [.int 0], am_h0, 0, 0)) rfl rfl ?_ rfl rfl rfl
        refine am_Go.bl 3 (y := (5, [some (.ref 64), some (.int (a))], [.int 9999, .int 0, .int (a)], am_h0, 0, 0)) (fun _ => rfl) ?_
        refine am_Go.cS hd3 rfl rfl rfl rfl rfl rfl ?_
        refine am_Go.bl 2 (y := (12, [some (.ref 64), some (.int (a))], [.int 0], am_h0, 0, 0)) (fun _ => rfl) ?_
        exact am_Go.rf
      exact ⟨_, _, _, hd2, ⟨_, rfl⟩, rfl, hd4, rfl⟩
  | true =>
    have hf1 := (am_clt_t (y := 0) (k := (0)) rfl).mp hb1
    have hd1 : am_Do true 18 126 [.int (a)] am_h0 (some (.int 0), am_h0) := by
      refine am_Do.of (r := am_r126) (y := (16, [some (.int (a))], [.int 0], am_h0, 0, 0)) rfl rfl ?_ rfl rfl rfl
      refine am_Go.bl 2 (y := (bif am_cmp .lt (a) 0 then 15 else 4, [some (.int (a))], [], am_h0, 0, 0)) (fun _ => rfl) ?_
      refine am_Go.brT hb1 ?_
      refine am_Go.bl 1 (y := (16, [some (.int (a))], [.int 0], am_h0, 0, 0)) (fun _ => rfl) ?_
      exact am_Go.rf
    have hd2 : am_Do true 19 125 [.ref 0, .int (a)] am_h0 (some (.int 0), am_h0) := by
      refine am_Do.of (r := am_r125) (y := (8, [some (.ref 0), some (.int (a))], [.int 0], am_h0, 0, 0)) rfl rfl ?_ rfl rfl rfl
      refine am_Go.bl 1 (y := (1, [some (.ref 0), some (.int (a))], [.int (a)], am_h0, 0, 0)) (fun _ => rfl) ?_
      refine am_Go.cS hd1 rfl rfl rfl rfl rfl rfl ?_
      refine am_Go.bl 2 (y := (8, [some (.ref 0), some (.int (a))], [.int 0], am_h0, 0, 0)) (fun _ => rfl) ?_
      exact am_Go.rf
    have hb2 : am_cmp .lt (a) 0 = true := (am_clt_t (k := (0)) rfl).mpr (by omega)
    have hd3 : am_Do true 18 169 [.int (a), .int 0, .int 9999] am_h0 (some (.int 0), am_h0) := by
      refine am_Do.of (r := am_r169) (y := (15, [some (.int (a)), some (.int 0), some (.int 9999)], [.int 0], am_h0, 0, 0)) rfl rfl ?_ rfl rfl rfl
      refine am_Go.bl 3 (y := (bif am_cmp .lt (a) 0 then 14 else 5, [some (.int (a)), some (.int 0), some (.int 9999)], [], am_h0, 0, 0)) (fun _ => rfl) ?_
      refine am_Go.brT hb2 ?_
      refine am_Go.bl 1 (y := (15, [some (.int (a)), some (.int 0), some (.int 9999)], [.int 0], am_h0, 0, 0)) (fun _ => rfl) ?_
      exact am_Go.rf
    have hd4 : am_Do true 19 174 [.ref 64, .int (a)] am_h0 (some (.int 0), am_h0) := by
      refine am_Do.of (r := am_r174) (y := (12, [some (.ref 64), some (.int (a))], [.int 0], am_h0, 0, 0)) rfl rfl ?_ rfl rfl rfl
      refine am_Go.bl 3 (y := (5, [some (.ref 64), some (.int (a))], [.int 9999, .int 0, .int (a)], am_h0, 0, 0)) (fun _ => rfl) ?_
      refine am_Go.cS hd3 rfl rfl rfl rfl rfl rfl ?_
      refine am_Go.bl 2 (y := (12, [some (.ref 64), some (.int (a))], [.int 0], am_h0, 0, 0)) (fun _ => rfl) ?_
      exact am_Go.rf
    exact ⟨_, _, _, hd2, ⟨_, rfl⟩, rfl, hd4, rfl⟩
set_option maxHeartbeats 20000000 in
set_option maxRecDepth 100000 in
theorem am_p_entry (a b c : Int32) : am_PairOK 127 175 [.int a, .int b, .int c] := by
  cases hb1 : am_cmp .lt (a) 0 with
  | false =>
    cases hb2 : am_cmp .ge (a) 30 with
    | false =>
      cases hb3 : am_cmp .lt (b) 0 with
      | false =>
        cases hb4 : am_cmp .gt (b) 9999 with
        | false =>
          cases hb5 : am_cmp .lt (c) 0 with
          | false =>
            cases hb6 : am_cmp .ge (c) 1 with
            | false =>
              have hf1 := (am_clt_f (y := 0) (k := (0)) rfl).mp hb1
              have hf2 := (am_cge_f (y := 30) (k := (30)) rfl).mp hb2
              have hd1 : am_Do true 18 128 [.int (a)] am_h0 (some (.int 1), am_h0) := by
                refine am_Do.of (r := am_r128) (y := (15, [some (.int (a))], [.int 1], am_h0, 0, 0)) rfl rfl ?_ rfl rfl rfl
                refine am_Go.bl 2 (y := (bif am_cmp .lt (a) 0 then 14 else 4, [some (.int (a))], [], am_h0, 0, 0)) (fun _ => rfl) ?_
                refine am_Go.brF hb1 ?_
                refine am_Go.bl 3 (y := (bif am_cmp .ge (a) 30 then 14 else 10, [some (.int (a))], [], am_h0, 0, 0)) (fun _ => rfl) ?_
                refine am_Go.brF hb2 ?_
                refine am_Go.bl 2 (y := (15, [some (.int (a))], [.int 1], am_h0, 0, 0)) (fun _ => rfl) ?_
                exact am_Go.rf
              have hf3 := (am_clt_f (y := 0) (k := (0)) rfl).mp hb3
              have hf4 := (am_cgt_f (y := 9999) (k := (9999)) rfl).mp hb4
              have hd2 : am_Do true 18 126 [.int (b)] am_h0 (some (.int 1), am_h0) := by
                refine am_Do.of (r := am_r126) (y := (16, [some (.int (b))], [.int 1], am_h0, 0, 0)) rfl rfl ?_ rfl rfl rfl
                refine am_Go.bl 2 (y := (bif am_cmp .lt (b) 0 then 15 else 4, [some (.int (b))], [], am_h0, 0, 0)) (fun _ => rfl) ?_
                refine am_Go.brF hb3 ?_
                refine am_Go.bl 3 (y := (bif am_cmp .gt (b) 9999 then 15 else 11, [some (.int (b))], [], am_h0, 0, 0)) (fun _ => rfl) ?_
                refine am_Go.brF hb4 ?_
                refine am_Go.bl 2 (y := (16, [some (.int (b))], [.int 1], am_h0, 0, 0)) (fun _ => rfl) ?_
                exact am_Go.rf
              have hf5 := (am_clt_f (y := 0) (k := (0)) rfl).mp hb5
              have hf6 := (am_cge_f (y := 1) (k := (1)) rfl).mp hb6
              have hd3 : am_Do true 18 72 [.ref 1, .int (c)] am_h0 (some (.int 1), am_h0) := by
                refine am_Do.of (r := am_r72) (y := (19, [some (.ref 1), some (.int (c))], [.int 1], am_h0, 0, 0)) rfl rfl ?_ rfl rfl rfl
                refine am_Go.bl 2 (y := (bif am_cmp .lt (c) 0 then 18 else 4, [some (.ref 1), some (.int (c))], [], am_h0, 0, 0)) (fun _ => rfl) ?_
                refine am_Go.brF hb5 ?_
                refine am_Go.bl 6 (y := (bif am_cmp .ge (c) 1 then 18 else 14, [some (.ref 1), some (.int (c))], [], am_h0, 0, 0)) (fun _ => rfl) ?_
                refine am_Go.brF hb6 ?_
                refine am_Go.bl 2 (y := (19, [some (.ref 1), some (.int (c))], [.int 1], am_h0, 0, 0)) (fun _ => rfl) ?_
                exact am_Go.rf
              have hd4 : am_Do true 18 2 [.ref 18, .int (a), .int (b), .int (c)] am_h0 (some (.int 1), ((((am_h0.set 19 (.inl (1, 100, .inl (upd (am_ctI am_hM 19) 0 (a))))).set 20 (.inl (1, 100, .inl (upd (am_ctI am_hM 20) 0 (b))))).set 21 (.inl (1, 100, .inl (upd (am_ctI am_hM 21) 0 (c))))).set 18 (.inr (0, [.int 0, .int 1, .ref 19, .ref 20, .ref 21])))) := by
                refine am_Do.of (r := am_r2) (y := (108, [some (.ref 18), some (.int (a)), some (.int (b)), some (.int (c)), some (.int 0)], [.int 1], ((((am_h0.set 19 (.inl (1, 100, .inl (upd (am_ctI am_hM 19) 0 (a))))).set 20 (.inl (1, 100, .inl (upd (am_ctI am_hM 20) 0 (b))))).set 21 (.inl (1, 100, .inl (upd (am_ctI am_hM 21) 0 (c))))).set 18 (.inr (0, [.int 0, .int 1, .ref 19, .ref 20, .ref 21]))), 0, 0)) rfl rfl ?_ rfl rfl rfl
                refine am_Go.bl 10 (y := (64, [some (.ref 18), some (.int (a)), some (.int (b)), some (.int (c)), some (.int 0)], [], am_h0, 0, 0)) (fun _ => rfl) ?_
                refine am_Go.bl 10 (y := (82, [some (.ref 18), some (.int (a)), some (.int (b)), some (.int (c)), some (.int 0)], [.int 0, .ref 20], (am_h0.set 19 (.inl (1, 100, .inl (upd (am_ctI am_hM 19) 0 (a))))), 0, 0)) (fun _ => rfl) ?_
                refine am_Go.bl 10 (y := (96, [some (.ref 18), some (.int (a)), some (.int (b)), some (.int (c)), some (.int 0)], [.ref 18, .ref 18], (((am_h0.set 19 (.inl (1, 100, .inl (upd (am_ctI am_hM 19) 0 (a))))).set 20 (.inl (1, 100, .inl (upd (am_ctI am_hM 20) 0 (b))))).set 21 (.inl (1, 100, .inl (upd (am_ctI am_hM 21) 0 (c))))), 0, 0)) (fun _ => rfl) ?_
                refine am_Go.bl 6 (y := (108, [some (.ref 18), some (.int (a)), some (.int (b)), some (.int (c)), some (.int 0)], [.int 1], ((((am_h0.set 19 (.inl (1, 100, .inl (upd (am_ctI am_hM 19) 0 (a))))).set 20 (.inl (1, 100, .inl (upd (am_ctI am_hM 20) 0 (b))))).set 21 (.inl (1, 100, .inl (upd (am_ctI am_hM 21) 0 (c))))).set 18 (.inr (0, [.int 0, .int 1, .ref 19, .ref 20, .ref 21]))), 0, 0)) (fun _ => rfl) ?_
                exact am_Go.rf
              have hd5 : am_Do true 19 127 [.ref 0, .int (a), .int (b), .int (c)] am_h0 (some (.int 1), ((((am_h0.set 19 (.inl (1, 100, .inl (upd (am_ctI am_hM 19) 0 (a))))).set 20 (.inl (1, 100, .inl (upd (am_ctI am_hM 20) 0 (b))))).set 21 (.inl (1, 100, .inl (upd (am_ctI am_hM 21) 0 (c))))).set 18 (.inr (0, [.int 0, .int 1, .ref 19, .ref 20, .ref 21])))) := by
                refine am_Do.of (r := am_r127) (y := (37, [some (.ref 0), some (.int (a)), some (.int (b)), some (.int (c))], [.int 1], ((((am_h0.set 19 (.inl (1, 100, .inl (upd (am_ctI am_hM 19) 0 (a))))).set 20 (.inl (1, 100, .inl (upd (am_ctI am_hM 20) 0 (b))))).set 21 (.inl (1, 100, .inl (upd (am_ctI am_hM 21) 0 (c))))).set 18 (.inr (0, [.int 0, .int 1, .ref 19, .ref 20, .ref 21]))), 0, 0)) rfl rfl ?_ rfl rfl rfl
                refine am_Go.bl 1 (y := (1, [some (.ref 0), some (.int (a)), some (.int (b)), some (.int (c))], [.int (a)], am_h0, 0, 0)) (fun _ => rfl) ?_
                refine am_Go.cS hd1 rfl rfl rfl rfl rfl rfl ?_
                refine am_Go.bl 2 (y := (8, [some (.ref 0), some (.int (a)), some (.int (b)), some (.int (c))], [.int (b)], am_h0, 0, 0)) (fun _ => rfl) ?_
                refine am_Go.cS hd2 rfl rfl rfl rfl rfl rfl ?_
                refine am_Go.bl 4 (y := (19, [some (.ref 0), some (.int (a)), some (.int (b)), some (.int (c))], [.int (c), .ref 1], am_h0, 0, 0)) (fun _ => rfl) ?_
                refine am_Go.cV hd3 rfl rfl rfl rfl rfl rfl rfl ?_
                refine am_Go.bl 6 (y := (34, [some (.ref 0), some (.int (a)), some (.int (b)), some (.int (c))], [.int (c), .int (b), .int (a), .ref 18], am_h0, 0, 0)) (fun _ => rfl) ?_
                refine am_Go.cV hd4 rfl rfl rfl rfl rfl rfl rfl ?_
                exact am_Go.rf
              have hb7 : am_cmp .lt (a) 0 = false := (am_clt_f (k := (0)) rfl).mpr (by omega)
              have hb8 : am_cmp .gt (a) 29 = false := (am_cgt_f (k := (29)) rfl).mpr (by omega)
              have hd6 : am_Do true 18 169 [.int (a), .int 0, .int 29] ((((am_h0.set 19 (.inl (1, 100, .inl (upd (am_ctI am_hM 19) 0 (a))))).set 20 (.inl (1, 100, .inl (upd (am_ctI am_hM 20) 0 (b))))).set 21 (.inl (1, 100, .inl (upd (am_ctI am_hM 21) 0 (c))))).set 18 (.inr (0, [.int 0, .int 1, .ref 19, .ref 20, .ref 21]))) (some (.int 1), ((((am_h0.set 19 (.inl (1, 100, .inl (upd (am_ctI am_hM 19) 0 (a))))).set 20 (.inl (1, 100, .inl (upd (am_ctI am_hM 20) 0 (b))))).set 21 (.inl (1, 100, .inl (upd (am_ctI am_hM 21) 0 (c))))).set 18 (.inr (0, [.int 0, .int 1, .ref 19, .ref 20, .ref 21])))) := by
                refine am_Do.of (r := am_r169) (y := (15, [some (.int (a)), some (.int 0), some (.int 29)], [.int 1], ((((am_h0.set 19 (.inl (1, 100, .inl (upd (am_ctI am_hM 19) 0 (a))))).set 20 (.inl (1, 100, .inl (upd (am_ctI am_hM 20) 0 (b))))).set 21 (.inl (1, 100, .inl (upd (am_ctI am_hM 21) 0 (c))))).set 18 (.inr (0, [.int 0, .int 1, .ref 19, .ref 20, .ref 21]))), 0, 0)) rfl rfl ?_ rfl rfl rfl
                refine am_Go.bl 3 (y := (bif am_cmp .lt (a) 0 then 14 else 5, [some (.int (a)), some (.int 0), some (.int 29)], [], ((((am_h0.set 19 (.inl (1, 100, .inl (upd (am_ctI am_hM 19) 0 (a))))).set 20 (.inl (1, 100, .inl (upd (am_ctI am_hM 20) 0 (b))))).set 21 (.inl (1, 100, .inl (upd (am_ctI am_hM 21) 0 (c))))).set 18 (.inr (0, [.int 0, .int 1, .ref 19, .ref 20, .ref 21]))), 0, 0)) (fun _ => rfl) ?_
                refine am_Go.brF hb7 ?_
                refine am_Go.bl 3 (y := (bif am_cmp .gt (a) 29 then 14 else 10, [some (.int (a)), some (.int 0), some (.int 29)], [], ((((am_h0.set 19 (.inl (1, 100, .inl (upd (am_ctI am_hM 19) 0 (a))))).set 20 (.inl (1, 100, .inl (upd (am_ctI am_hM 20) 0 (b))))).set 21 (.inl (1, 100, .inl (upd (am_ctI am_hM 21) 0 (c))))).set 18 (.inr (0, [.int 0, .int 1, .ref 19, .ref 20, .ref 21]))), 0, 0)) (fun _ => rfl) ?_
                refine am_Go.brF hb8 ?_
                refine am_Go.bl 2 (y := (15, [some (.int (a)), some (.int 0), some (.int 29)], [.int 1], ((((am_h0.set 19 (.inl (1, 100, .inl (upd (am_ctI am_hM 19) 0 (a))))).set 20 (.inl (1, 100, .inl (upd (am_ctI am_hM 20) 0 (b))))).set 21 (.inl (1, 100, .inl (upd (am_ctI am_hM 21) 0 (c))))).set 18 (.inr (0, [.int 0, .int 1, .ref 19, .ref 20, .ref 21]))), 0, 0)) (fun _ => rfl) ?_
                exact am_Go.rf
              have hb9 : am_cmp .lt (b) 0 = false := (am_clt_f (k := (0)) rfl).mpr (by omega)
              have hb10 : am_cmp .gt (b) 9999 = false := (am_cgt_f (k := (9999)) rfl).mpr (by omega)
              have hd7 : am_Do true 18 169 [.int (b), .int 0, .int 9999] ((((am_h0.set 19 (.inl (1, 100, .inl (upd (am_ctI am_hM 19) 0 (a))))).set 20 (.inl (1, 100, .inl (upd (am_ctI am_hM 20) 0 (b))))).set 21 (.inl (1, 100, .inl (upd (am_ctI am_hM 21) 0 (c))))).set 18 (.inr (0, [.int 0, .int 1, .ref 19, .ref 20, .ref 21]))) (some (.int 1), ((((am_h0.set 19 (.inl (1, 100, .inl (upd (am_ctI am_hM 19) 0 (a))))).set 20 (.inl (1, 100, .inl (upd (am_ctI am_hM 20) 0 (b))))).set 21 (.inl (1, 100, .inl (upd (am_ctI am_hM 21) 0 (c))))).set 18 (.inr (0, [.int 0, .int 1, .ref 19, .ref 20, .ref 21])))) := by
                refine am_Do.of (r := am_r169) (y := (15, [some (.int (b)), some (.int 0), some (.int 9999)], [.int 1], ((((am_h0.set 19 (.inl (1, 100, .inl (upd (am_ctI am_hM 19) 0 (a))))).set 20 (.inl (1, 100, .inl (upd (am_ctI am_hM 20) 0 (b))))).set 21 (.inl (1, 100, .inl (upd (am_ctI am_hM 21) 0 (c))))).set 18 (.inr (0, [.int 0, .int 1, .ref 19, .ref 20, .ref 21]))), 0, 0)) rfl rfl ?_ rfl rfl rfl
                refine am_Go.bl 3 (y := (bif am_cmp .lt (b) 0 then 14 else 5, [some (.int (b)), some (.int 0), some (.int 9999)], [], ((((am_h0.set 19 (.inl (1, 100, .inl (upd (am_ctI am_hM 19) 0 (a))))).set 20 (.inl (1, 100, .inl (upd (am_ctI am_hM 20) 0 (b))))).set 21 (.inl (1, 100, .inl (upd (am_ctI am_hM 21) 0 (c))))).set 18 (.inr (0, [.int 0, .int 1, .ref 19, .ref 20, .ref 21]))), 0, 0)) (fun _ => rfl) ?_
                refine am_Go.brF hb9 ?_
                refine am_Go.bl 3 (y := (bif am_cmp .gt (b) 9999 then 14 else 10, [some (.int (b)), some (.int 0), some (.int 9999)], [], ((((am_h0.set 19 (.inl (1, 100, .inl (upd (am_ctI am_hM 19) 0 (a))))).set 20 (.inl (1, 100, .inl (upd (am_ctI am_hM 20) 0 (b))))).set 21 (.inl (1, 100, .inl (upd (am_ctI am_hM 21) 0 (c))))).set 18 (.inr (0, [.int 0, .int 1, .ref 19, .ref 20, .ref 21]))), 0, 0)) (fun _ => rfl) ?_
                refine am_Go.brF hb10 ?_
                refine am_Go.bl 2 (y := (15, [some (.int (b)), some (.int 0), some (.int 9999)], [.int 1], ((((am_h0.set 19 (.inl (1, 100, .inl (upd (am_ctI am_hM 19) 0 (a))))).set 20 (.inl (1, 100, .inl (upd (am_ctI am_hM 20) 0 (b))))).set 21 (.inl (1, 100, .inl (upd (am_ctI am_hM 21) 0 (c))))).set 18 (.inr (0, [.int 0, .int 1, .ref 19, .ref 20, .ref 21]))), 0, 0)) (fun _ => rfl) ?_
                exact am_Go.rf
              have hb11 : am_cmp .lt (c) 0 = false := (am_clt_f (k := (0)) rfl).mpr (by omega)
              have hb12 : am_cmp .gt (c) 0 = false := (am_cgt_f (k := (0)) rfl).mpr (by omega)
              have hd8 : am_Do true 17 169 [.int (c), .int 0, .int 0] ((((am_h0.set 19 (.inl (1, 100, .inl (upd (am_ctI am_hM 19) 0 (a))))).set 20 (.inl (1, 100, .inl (upd (am_ctI am_hM 20) 0 (b))))).set 21 (.inl (1, 100, .inl (upd (am_ctI am_hM 21) 0 (c))))).set 18 (.inr (0, [.int 0, .int 1, .ref 19, .ref 20, .ref 21]))) (some (.int 1), ((((am_h0.set 19 (.inl (1, 100, .inl (upd (am_ctI am_hM 19) 0 (a))))).set 20 (.inl (1, 100, .inl (upd (am_ctI am_hM 20) 0 (b))))).set 21 (.inl (1, 100, .inl (upd (am_ctI am_hM 21) 0 (c))))).set 18 (.inr (0, [.int 0, .int 1, .ref 19, .ref 20, .ref 21])))) := by
                refine am_Do.of (r := am_r169) (y := (15, [some (.int (c)), some (.int 0), some (.int 0)], [.int 1], ((((am_h0.set 19 (.inl (1, 100, .inl (upd (am_ctI am_hM 19) 0 (a))))).set 20 (.inl (1, 100, .inl (upd (am_ctI am_hM 20) 0 (b))))).set 21 (.inl (1, 100, .inl (upd (am_ctI am_hM 21) 0 (c))))).set 18 (.inr (0, [.int 0, .int 1, .ref 19, .ref 20, .ref 21]))), 0, 0)) rfl rfl ?_ rfl rfl rfl
                refine am_Go.bl 3 (y := (bif am_cmp .lt (c) 0 then 14 else 5, [some (.int (c)), some (.int 0), some (.int 0)], [], ((((am_h0.set 19 (.inl (1, 100, .inl (upd (am_ctI am_hM 19) 0 (a))))).set 20 (.inl (1, 100, .inl (upd (am_ctI am_hM 20) 0 (b))))).set 21 (.inl (1, 100, .inl (upd (am_ctI am_hM 21) 0 (c))))).set 18 (.inr (0, [.int 0, .int 1, .ref 19, .ref 20, .ref 21]))), 0, 0)) (fun _ => rfl) ?_
                refine am_Go.brF hb11 ?_
                refine am_Go.bl 3 (y := (bif am_cmp .gt (c) 0 then 14 else 10, [some (.int (c)), some (.int 0), some (.int 0)], [], ((((am_h0.set 19 (.inl (1, 100, .inl (upd (am_ctI am_hM 19) 0 (a))))).set 20 (.inl (1, 100, .inl (upd (am_ctI am_hM 20) 0 (b))))).set 21 (.inl (1, 100, .inl (upd (am_ctI am_hM 21) 0 (c))))).set 18 (.inr (0, [.int 0, .int 1, .ref 19, .ref 20, .ref 21]))), 0, 0)) (fun _ => rfl) ?_
                refine am_Go.brF hb12 ?_
                refine am_Go.bl 2 (y := (15, [some (.int (c)), some (.int 0), some (.int 0)], [.int 1], ((((am_h0.set 19 (.inl (1, 100, .inl (upd (am_ctI am_hM 19) 0 (a))))).set 20 (.inl (1, 100, .inl (upd (am_ctI am_hM 20) 0 (b))))).set 21 (.inl (1, 100, .inl (upd (am_ctI am_hM 21) 0 (c))))).set 18 (.inr (0, [.int 0, .int 1, .ref 19, .ref 20, .ref 21]))), 0, 0)) (fun _ => rfl) ?_
                exact am_Go.rf
              have hd9 : am_Do true 18 176 [.ref 64, .int (c)] ((((am_h0.set 19 (.inl (1, 100, .inl (upd (am_ctI am_hM 19) 0 (a))))).set 20 (.inl (1, 100, .inl (upd (am_ctI am_hM 20) 0 (b))))).set 21 (.inl (1, 100, .inl (upd (am_ctI am_hM 21) 0 (c))))).set 18 (.inr (0, [.int 0, .int 1, .ref 19, .ref 20, .ref 21]))) (some (.int 1), ((((am_h0.set 19 (.inl (1, 100, .inl (upd (am_ctI am_hM 19) 0 (a))))).set 20 (.inl (1, 100, .inl (upd (am_ctI am_hM 20) 0 (b))))).set 21 (.inl (1, 100, .inl (upd (am_ctI am_hM 21) 0 (c))))).set 18 (.inr (0, [.int 0, .int 1, .ref 19, .ref 20, .ref 21])))) := by
                refine am_Do.of (r := am_r176) (y := (13, [some (.ref 64), some (.int (c))], [.int 1], ((((am_h0.set 19 (.inl (1, 100, .inl (upd (am_ctI am_hM 19) 0 (a))))).set 20 (.inl (1, 100, .inl (upd (am_ctI am_hM 20) 0 (b))))).set 21 (.inl (1, 100, .inl (upd (am_ctI am_hM 21) 0 (c))))).set 18 (.inr (0, [.int 0, .int 1, .ref 19, .ref 20, .ref 21]))), 0, 0)) rfl rfl ?_ rfl rfl rfl
                refine am_Go.bl 8 (y := (10, [some (.ref 64), some (.int (c))], [.int 0, .int 0, .int (c)], ((((am_h0.set 19 (.inl (1, 100, .inl (upd (am_ctI am_hM 19) 0 (a))))).set 20 (.inl (1, 100, .inl (upd (am_ctI am_hM 20) 0 (b))))).set 21 (.inl (1, 100, .inl (upd (am_ctI am_hM 21) 0 (c))))).set 18 (.inr (0, [.int 0, .int 1, .ref 19, .ref 20, .ref 21]))), 0, 0)) (fun _ => rfl) ?_
                refine am_Go.cS hd8 rfl rfl rfl rfl rfl rfl ?_
                exact am_Go.rf
              have hd10 : am_Do true 19 175 [.ref 64, .int (a), .int (b), .int (c)] ((((am_h0.set 19 (.inl (1, 100, .inl (upd (am_ctI am_hM 19) 0 (a))))).set 20 (.inl (1, 100, .inl (upd (am_ctI am_hM 20) 0 (b))))).set 21 (.inl (1, 100, .inl (upd (am_ctI am_hM 21) 0 (c))))).set 18 (.inr (0, [.int 0, .int 1, .ref 19, .ref 20, .ref 21]))) (some (.int 1), ((((((((am_h0.set 19 (.inl (1, 100, .inl (upd (am_ctI am_hM 19) 0 (a))))).set 20 (.inl (1, 100, .inl (upd (am_ctI am_hM 20) 0 (b))))).set 21 (.inl (1, 100, .inl (upd (am_ctI am_hM 21) 0 (c))))).set 18 (.inr (0, [.int 0, .int 1, .ref 19, .ref 20, .ref 21]))).set 78 (.inl (1, 100, .inl (upd (am_ctI am_hM 78) 0 (a))))).set 79 (.inl (1, 100, .inl (upd (am_ctI am_hM 79) 0 (b))))).set 80 (.inl (1, 100, .inl (upd (am_ctI am_hM 80) 0 (c))))).set 64 (.inr (12, [.int 0, .ref 65, .int 0, .int 0, .int 0, .int 0, .int 0, .int 0, .long 0, .int 0, .int 0, .int 0, .int 0, .int 0, .ref 66, .ref 67, .int 0, .ref 68, .ref 69, .ref 70, .ref 71, .int 0, .int 0, .int 0, .int 36, .int 99, .ref 72, .ref 73, .ref 74, .ref 75, .int 0, .ref 76, .ref 77, .int 0, .int 1, .ref 78, .ref 79, .ref 80, .ref 81, .ref 82, .int 0, .ref 83, .ref 84, .ref 85, .ref 86, .ref 87, .int 0, .ref 88, .ref 89, .ref 90, .ref 91, .ref 92, .ref 93, .ref 94, .ref 95, .int 0, .int 0, .int 0, .int 0, .ref 96, .int 0, .int 0, .ref 97, .ref 98, .ref 99])))) := by
                refine am_Do.of (r := am_r175) (y := (142, [some (.ref 64), some (.int (a)), some (.int (b)), some (.int (c)), some (.int 0)], [.int 1], ((((((((am_h0.set 19 (.inl (1, 100, .inl (upd (am_ctI am_hM 19) 0 (a))))).set 20 (.inl (1, 100, .inl (upd (am_ctI am_hM 20) 0 (b))))).set 21 (.inl (1, 100, .inl (upd (am_ctI am_hM 21) 0 (c))))).set 18 (.inr (0, [.int 0, .int 1, .ref 19, .ref 20, .ref 21]))).set 78 (.inl (1, 100, .inl (upd (am_ctI am_hM 78) 0 (a))))).set 79 (.inl (1, 100, .inl (upd (am_ctI am_hM 79) 0 (b))))).set 80 (.inl (1, 100, .inl (upd (am_ctI am_hM 80) 0 (c))))).set 64 (.inr (12, [.int 0, .ref 65, .int 0, .int 0, .int 0, .int 0, .int 0, .int 0, .long 0, .int 0, .int 0, .int 0, .int 0, .int 0, .ref 66, .ref 67, .int 0, .ref 68, .ref 69, .ref 70, .ref 71, .int 0, .int 0, .int 0, .int 36, .int 99, .ref 72, .ref 73, .ref 74, .ref 75, .int 0, .ref 76, .ref 77, .int 0, .int 1, .ref 78, .ref 79, .ref 80, .ref 81, .ref 82, .int 0, .ref 83, .ref 84, .ref 85, .ref 86, .ref 87, .int 0, .ref 88, .ref 89, .ref 90, .ref 91, .ref 92, .ref 93, .ref 94, .ref 95, .int 0, .int 0, .int 0, .int 0, .ref 96, .int 0, .int 0, .ref 97, .ref 98, .ref 99]))), 0, 0)) rfl rfl ?_ rfl rfl rfl
                refine am_Go.bl 3 (y := (4, [some (.ref 64), some (.int (a)), some (.int (b)), some (.int (c)), none], [.int 29, .int 0, .int (a)], ((((am_h0.set 19 (.inl (1, 100, .inl (upd (am_ctI am_hM 19) 0 (a))))).set 20 (.inl (1, 100, .inl (upd (am_ctI am_hM 20) 0 (b))))).set 21 (.inl (1, 100, .inl (upd (am_ctI am_hM 21) 0 (c))))).set 18 (.inr (0, [.int 0, .int 1, .ref 19, .ref 20, .ref 21]))), 0, 0)) (fun _ => rfl) ?_
                refine am_Go.cS hd6 rfl rfl rfl rfl rfl rfl ?_
                refine am_Go.bl 4 (y := (15, [some (.ref 64), some (.int (a)), some (.int (b)), some (.int (c)), none], [.int 9999, .int 0, .int (b)], ((((am_h0.set 19 (.inl (1, 100, .inl (upd (am_ctI am_hM 19) 0 (a))))).set 20 (.inl (1, 100, .inl (upd (am_ctI am_hM 20) 0 (b))))).set 21 (.inl (1, 100, .inl (upd (am_ctI am_hM 21) 0 (c))))).set 18 (.inr (0, [.int 0, .int 1, .ref 19, .ref 20, .ref 21]))), 0, 0)) (fun _ => rfl) ?_
                refine am_Go.cS hd7 rfl rfl rfl rfl rfl rfl ?_
                refine am_Go.bl 3 (y := (23, [some (.ref 64), some (.int (a)), some (.int (b)), some (.int (c)), none], [.int (c), .ref 64], ((((am_h0.set 19 (.inl (1, 100, .inl (upd (am_ctI am_hM 19) 0 (a))))).set 20 (.inl (1, 100, .inl (upd (am_ctI am_hM 20) 0 (b))))).set 21 (.inl (1, 100, .inl (upd (am_ctI am_hM 21) 0 (c))))).set 18 (.inr (0, [.int 0, .int 1, .ref 19, .ref 20, .ref 21]))), 0, 0)) (fun _ => rfl) ?_
                refine am_Go.cV hd9 rfl rfl rfl rfl rfl rfl rfl ?_
                refine am_Go.bl 10 (y := (93, [some (.ref 64), some (.int (a)), some (.int (b)), some (.int (c)), some (.int 0)], [.int 100, .int 0], ((((am_h0.set 19 (.inl (1, 100, .inl (upd (am_ctI am_hM 19) 0 (a))))).set 20 (.inl (1, 100, .inl (upd (am_ctI am_hM 20) 0 (b))))).set 21 (.inl (1, 100, .inl (upd (am_ctI am_hM 21) 0 (c))))).set 18 (.inr (0, [.int 0, .int 1, .ref 19, .ref 20, .ref 21]))), 0, 0)) (fun _ => rfl) ?_
                refine am_Go.bl 10 (y := (113, [some (.ref 64), some (.int (a)), some (.int (b)), some (.int (c)), some (.int 0)], [.ref 64, .ref 79], (((((am_h0.set 19 (.inl (1, 100, .inl (upd (am_ctI am_hM 19) 0 (a))))).set 20 (.inl (1, 100, .inl (upd (am_ctI am_hM 20) 0 (b))))).set 21 (.inl (1, 100, .inl (upd (am_ctI am_hM 21) 0 (c))))).set 18 (.inr (0, [.int 0, .int 1, .ref 19, .ref 20, .ref 21]))).set 78 (.inl (1, 100, .inl (upd (am_ctI am_hM 78) 0 (a))))), 0, 0)) (fun _ => rfl) ?_
                refine am_Go.bl 10 (y := (129, [some (.ref 64), some (.int (a)), some (.int (b)), some (.int (c)), some (.int 0)], [.ref 64], (((((((am_h0.set 19 (.inl (1, 100, .inl (upd (am_ctI am_hM 19) 0 (a))))).set 20 (.inl (1, 100, .inl (upd (am_ctI am_hM 20) 0 (b))))).set 21 (.inl (1, 100, .inl (upd (am_ctI am_hM 21) 0 (c))))).set 18 (.inr (0, [.int 0, .int 1, .ref 19, .ref 20, .ref 21]))).set 78 (.inl (1, 100, .inl (upd (am_ctI am_hM 78) 0 (a))))).set 79 (.inl (1, 100, .inl (upd (am_ctI am_hM 79) 0 (b))))).set 80 (.inl (1, 100, .inl (upd (am_ctI am_hM 80) 0 (c))))), 0, 0)) (fun _ => rfl) ?_
                refine am_Go.bl 7 (y := (142, [some (.ref 64), some (.int (a)), some (.int (b)), some (.int (c)), some (.int 0)], [.int 1], ((((((((am_h0.set 19 (.inl (1, 100, .inl (upd (am_ctI am_hM 19) 0 (a))))).set 20 (.inl (1, 100, .inl (upd (am_ctI am_hM 20) 0 (b))))).set 21 (.inl (1, 100, .inl (upd (am_ctI am_hM 21) 0 (c))))).set 18 (.inr (0, [.int 0, .int 1, .ref 19, .ref 20, .ref 21]))).set 78 (.inl (1, 100, .inl (upd (am_ctI am_hM 78) 0 (a))))).set 79 (.inl (1, 100, .inl (upd (am_ctI am_hM 79) 0 (b))))).set 80 (.inl (1, 100, .inl (upd (am_ctI am_hM 80) 0 (c))))).set 64 (.inr (12, [.int 0, .ref 65, .int 0, .int 0, .int 0, .int 0, .int 0, .int 0, .long 0, .int 0, .int 0, .int 0, .int 0, .int 0, .ref 66, .ref 67, .int 0, .ref 68, .ref 69, .ref 70, .ref 71, .int 0, .int 0, .int 0, .int 36, .int 99, .ref 72, .ref 73, .ref 74, .ref 75, .int 0, .ref 76, .ref 77, .int 0, .int 1, .ref 78, .ref 79, .ref 80, .ref 81, .ref 82, .int 0, .ref 83, .ref 84, .ref 85, .ref 86, .ref 87, .int 0, .ref 88, .ref 89, .ref 90, .ref 91, .ref 92, .ref 93, .ref 94, .ref 95, .int 0, .int 0, .int 0, .int 0, .ref 96, .int 0, .int 0, .ref 97, .ref 98, .ref 99]))), 0, 0)) (fun _ => rfl) ?_
                exact am_Go.rf
              exact ⟨_, _, _, hd5, ⟨_, rfl⟩, rfl, hd10, rfl⟩
            | true =>
              have hf1 := (am_clt_f (y := 0) (k := (0)) rfl).mp hb1
              have hf2 := (am_cge_f (y := 30) (k := (30)) rfl).mp hb2
              have hd1 : am_Do true 18 128 [.int (a)] am_h0 (some (.int 1), am_h0) := by
                refine am_Do.of (r := am_r128) (y := (15, [some (.int (a))], [.int 1], am_h0, 0, 0)) rfl rfl ?_ rfl rfl rfl
                refine am_Go.bl 2 (y := (bif am_cmp .lt (a) 0 then 14 else 4, [some (.int (a))], [], am_h0, 0, 0)) (fun _ => rfl) ?_
                refine am_Go.brF hb1 ?_
                refine am_Go.bl 3 (y := (bif am_cmp .ge (a) 30 then 14 else 10, [some (.int (a))], [], am_h0, 0, 0)) (fun _ => rfl) ?_
                refine am_Go.brF hb2 ?_
                refine am_Go.bl 2 (y := (15, [some (.int (a))], [.int 1], am_h0, 0, 0)) (fun _ => rfl) ?_
                exact am_Go.rf
              have hf3 := (am_clt_f (y := 0) (k := (0)) rfl).mp hb3
              have hf4 := (am_cgt_f (y := 9999) (k := (9999)) rfl).mp hb4
              have hd2 : am_Do true 18 126 [.int (b)] am_h0 (some (.int 1), am_h0) := by
                refine am_Do.of (r := am_r126) (y := (16, [some (.int (b))], [.int 1], am_h0, 0, 0)) rfl rfl ?_ rfl rfl rfl
                refine am_Go.bl 2 (y := (bif am_cmp .lt (b) 0 then 15 else 4, [some (.int (b))], [], am_h0, 0, 0)) (fun _ => rfl) ?_
                refine am_Go.brF hb3 ?_
                refine am_Go.bl 3 (y := (bif am_cmp .gt (b) 9999 then 15 else 11, [some (.int (b))], [], am_h0, 0, 0)) (fun _ => rfl) ?_
                refine am_Go.brF hb4 ?_
                refine am_Go.bl 2 (y := (16, [some (.int (b))], [.int 1], am_h0, 0, 0)) (fun _ => rfl) ?_
                exact am_Go.rf
              have hf5 := (am_clt_f (y := 0) (k := (0)) rfl).mp hb5
              have hf6 := (am_cge_t (y := 1) (k := (1)) rfl).mp hb6
              have hd3 : am_Do true 18 72 [.ref 1, .int (c)] am_h0 (some (.int 0), am_h0) := by
                refine am_Do.of (r := am_r72) (y := (19, [some (.ref 1), some (.int (c))], [.int 0], am_h0, 0, 0)) rfl rfl ?_ rfl rfl rfl
                refine am_Go.bl 2 (y := (bif am_cmp .lt (c) 0 then 18 else 4, [some (.ref 1), some (.int (c))], [], am_h0, 0, 0)) (fun _ => rfl) ?_
                refine am_Go.brF hb5 ?_
                refine am_Go.bl 6 (y := (bif am_cmp .ge (c) 1 then 18 else 14, [some (.ref 1), some (.int (c))], [], am_h0, 0, 0)) (fun _ => rfl) ?_
                refine am_Go.brT hb6 ?_
                refine am_Go.bl 1 (y := (19, [some (.ref 1), some (.int (c))], [.int 0], am_h0, 0, 0)) (fun _ => rfl) ?_
                exact am_Go.rf
              have hd4 : am_Do true 19 127 [.ref 0, .int (a), .int (b), .int (c)] am_h0 (some (.int (-1)), am_h0) := by
                refine am_Do.of (r := am_r127) (y := (26, [some (.ref 0), some (.int (a)), some (.int (b)), some (.int (c))], [.int (-1)], am_h0, 0, 0)) rfl rfl ?_ rfl rfl rfl
                refine am_Go.bl 1 (y := (1, [some (.ref 0), some (.int (a)), some (.int (b)), some (.int (c))], [.int (a)], am_h0, 0, 0)) (fun _ => rfl) ?_
                refine am_Go.cS hd1 rfl rfl rfl rfl rfl rfl ?_
                refine am_Go.bl 2 (y := (8, [some (.ref 0), some (.int (a)), some (.int (b)), some (.int (c))], [.int (b)], am_h0, 0, 0)) (fun _ => rfl) ?_
                refine am_Go.cS hd2 rfl rfl rfl rfl rfl rfl ?_
                refine am_Go.bl 4 (y := (19, [some (.ref 0), some (.int (a)), some (.int (b)), some (.int (c))], [.int (c), .ref 1], am_h0, 0, 0)) (fun _ => rfl) ?_
                refine am_Go.cV hd3 rfl rfl rfl rfl rfl rfl rfl ?_
                refine am_Go.bl 2 (y := (26, [some (.ref 0), some (.int (a)), some (.int (b)), some (.int (c))], [.int (-1)], am_h0, 0, 0)) (fun _ => rfl) ?_
                exact am_Go.rf
              have hb7 : am_cmp .lt (a) 0 = false := (am_clt_f (k := (0)) rfl).mpr (by omega)
              have hb8 : am_cmp .gt (a) 29 = false := (am_cgt_f (k := (29)) rfl).mpr (by omega)
              have hd5 : am_Do true 18 169 [.int (a), .int 0, .int 29] am_h0 (some (.int 1), am_h0) := by
                refine am_Do.of (r := am_r169) (y := (15, [some (.int (a)), some (.int 0), some (.int 29)], [.int 1], am_h0, 0, 0)) rfl rfl ?_ rfl rfl rfl
                refine am_Go.bl 3 (y := (bif am_cmp .lt (a) 0 then 14 else 5, [some (.int (a)), some (.int 0), some (.int 29)], [], am_h0, 0, 0)) (fun _ => rfl) ?_
                refine am_Go.brF hb7 ?_
                refine am_Go.bl 3 (y := (bif am_cmp .gt (a) 29 then 14 else 10, [some (.int (a)), some (.int 0), some (.int 29)], [], am_h0, 0, 0)) (fun _ => rfl) ?_
                refine am_Go.brF hb8 ?_
                refine am_Go.bl 2 (y := (15, [some (.int (a)), some (.int 0), some (.int 29)], [.int 1], am_h0, 0, 0)) (fun _ => rfl) ?_
                exact am_Go.rf
              have hb9 : am_cmp .lt (b) 0 = false := (am_clt_f (k := (0)) rfl).mpr (by omega)
              have hb10 : am_cmp .gt (b) 9999 = false := (am_cgt_f (k := (9999)) rfl).mpr (by omega)
              have hd6 : am_Do true 18 169 [.int (b), .int 0, .int 9999] am_h0 (some (.int 1), am_h0) := by
                refine am_Do.of (r := am_r169) (y := (15, [some (.int (b)), some (.int 0), some (.int 9999)], [.int 1], am_h0, 0, 0)) rfl rfl ?_ rfl rfl rfl
                refine am_Go.bl 3 (y := (bif am_cmp .lt (b) 0 then 14 else 5, [some (.int (b)), some (.int 0), some (.int 9999)], [], am_h0, 0, 0)) (fun _ => rfl) ?_
                refine am_Go.brF hb9 ?_
                refine am_Go.bl 3 (y := (bif am_cmp .gt (b) 9999 then 14 else 10, [some (.int (b)), some (.int 0), some (.int 9999)], [], am_h0, 0, 0)) (fun _ => rfl) ?_
                refine am_Go.brF hb10 ?_
                refine am_Go.bl 2 (y := (15, [some (.int (b)), some (.int 0), some (.int 9999)], [.int 1], am_h0, 0, 0)) (fun _ => rfl) ?_
                exact am_Go.rf
              have hb11 : am_cmp .lt (c) 0 = false := (am_clt_f (k := (0)) rfl).mpr (by omega)
              have hb12 : am_cmp .gt (c) 0 = true := (am_cgt_t (k := (0)) rfl).mpr (by omega)
              have hd7 : am_Do true 17 169 [.int (c), .int 0, .int 0] am_h0 (some (.int 0), am_h0) := by
                refine am_Do.of (r := am_r169) (y := (15, [some (.int (c)), some (.int 0), some (.int 0)], [.int 0], am_h0, 0, 0)) rfl rfl ?_ rfl rfl rfl
                refine am_Go.bl 3 (y := (bif am_cmp .lt (c) 0 then 14 else 5, [some (.int (c)), some (.int 0), some (.int 0)], [], am_h0, 0, 0)) (fun _ => rfl) ?_
                refine am_Go.brF hb11 ?_
                refine am_Go.bl 3 (y := (bif am_cmp .gt (c) 0 then 14 else 10, [some (.int (c)), some (.int 0), some (.int 0)], [], am_h0, 0, 0)) (fun _ => rfl) ?_
                refine am_Go.brT hb12 ?_
                refine am_Go.bl 1 (y := (15, [some (.int (c)), some (.int 0), some (.int 0)], [.int 0], am_h0, 0, 0)) (fun _ => rfl) ?_
                exact am_Go.rf
              have hd8 : am_Do true 18 176 [.ref 64, .int (c)] am_h0 (some (.int 0), am_h0) := by
                refine am_Do.of (r := am_r176) (y := (13, [some (.ref 64), some (.int (c))], [.int 0], am_h0, 0, 0)) rfl rfl ?_ rfl rfl rfl
                refine am_Go.bl 8 (y := (10, [some (.ref 64), some (.int (c))], [.int 0, .int 0, .int (c)], am_h0, 0, 0)) (fun _ => rfl) ?_
                refine am_Go.cS hd7 rfl rfl rfl rfl rfl rfl ?_
                exact am_Go.rf
              have hd9 : am_Do true 19 175 [.ref 64, .int (a), .int (b), .int (c)] am_h0 (some (.int (-1)), am_h0) := by
                refine am_Do.of (r := am_r175) (y := (30, [some (.ref 64), some (.int (a)), some (.int (b)), some (.int (c)), none], [.int (-1)], am_h0, 0, 0)) rfl rfl ?_ rfl rfl rfl
                refine am_Go.bl 3 (y := (4, [some (.ref 64), some (.int (a)), some (.int (b)), some (.int (c)), none], [.int 29, .int 0, .int (a)], am_h0, 0, 0)) (fun _ => rfl) ?_
                refine am_Go.cS hd5 rfl rfl rfl rfl rfl rfl ?_
                refine am_Go.bl 4 (y := (15, [some (.ref 64), some (.int (a)), some (.int (b)), some (.int (c)), none], [.int 9999, .int 0, .int (b)], am_h0, 0, 0)) (fun _ => rfl) ?_
                refine am_Go.cS hd6 rfl rfl rfl rfl rfl rfl ?_
                refine am_Go.bl 3 (y := (23, [some (.ref 64), some (.int (a)), some (.int (b)), some (.int (c)), none], [.int (c), .ref 64], am_h0, 0, 0)) (fun _ => rfl) ?_
                refine am_Go.cV hd8 rfl rfl rfl rfl rfl rfl rfl ?_
                refine am_Go.bl 2 (y := (30, [some (.ref 64), some (.int (a)), some (.int (b)), some (.int (c)), none], [.int (-1)], am_h0, 0, 0)) (fun _ => rfl) ?_
                exact am_Go.rf
              exact ⟨_, _, _, hd4, ⟨_, rfl⟩, rfl, hd9, rfl⟩
          | true =>
            have hf1 := (am_clt_f (y := 0) (k := (0)) rfl).mp hb1
            have hf2 := (am_cge_f (y := 30) (k := (30)) rfl).mp hb2
            have hd1 : am_Do true 18 128 [.int (a)] am_h0 (some (.int 1), am_h0) := by
              refine am_Do.of (r := am_r128) (y := (15, [some (.int (a))], [.int 1], am_h0, 0, 0)) rfl rfl ?_ rfl rfl rfl
              refine am_Go.bl 2 (y := (bif am_cmp .lt (a) 0 then 14 else 4, [some (.int (a))], [], am_h0, 0, 0)) (fun _ => rfl) ?_
              refine am_Go.brF hb1 ?_
              refine am_Go.bl 3 (y := (bif am_cmp .ge (a) 30 then 14 else 10, [some (.int (a))], [], am_h0, 0, 0)) (fun _ => rfl) ?_
              refine am_Go.brF hb2 ?_
              refine am_Go.bl 2 (y := (15, [some (.int (a))], [.int 1], am_h0, 0, 0)) (fun _ => rfl) ?_
              exact am_Go.rf
            have hf3 := (am_clt_f (y := 0) (k := (0)) rfl).mp hb3
            have hf4 := (am_cgt_f (y := 9999) (k := (9999)) rfl).mp hb4
            have hd2 : am_Do true 18 126 [.int (b)] am_h0 (some (.int 1), am_h0) := by
              refine am_Do.of (r := am_r126) (y := (16, [some (.int (b))], [.int 1], am_h0, 0, 0)) rfl rfl ?_ rfl rfl rfl
              refine am_Go.bl 2 (y := (bif am_cmp .lt (b) 0 then 15 else 4, [some (.int (b))], [], am_h0, 0, 0)) (fun _ => rfl) ?_
              refine am_Go.brF hb3 ?_
              refine am_Go.bl 3 (y := (bif am_cmp .gt (b) 9999 then 15 else 11, [some (.int (b))], [], am_h0, 0, 0)) (fun _ => rfl) ?_
              refine am_Go.brF hb4 ?_
              refine am_Go.bl 2 (y := (16, [some (.int (b))], [.int 1], am_h0, 0, 0)) (fun _ => rfl) ?_
              exact am_Go.rf
            have hf5 := (am_clt_t (y := 0) (k := (0)) rfl).mp hb5
            have hd3 : am_Do true 18 72 [.ref 1, .int (c)] am_h0 (some (.int 0), am_h0) := by
              refine am_Do.of (r := am_r72) (y := (19, [some (.ref 1), some (.int (c))], [.int 0], am_h0, 0, 0)) rfl rfl ?_ rfl rfl rfl
              refine am_Go.bl 2 (y := (bif am_cmp .lt (c) 0 then 18 else 4, [some (.ref 1), some (.int (c))], [], am_h0, 0, 0)) (fun _ => rfl) ?_
              refine am_Go.brT hb5 ?_
              refine am_Go.bl 1 (y := (19, [some (.ref 1), some (.int (c))], [.int 0], am_h0, 0, 0)) (fun _ => rfl) ?_
              exact am_Go.rf
            have hd4 : am_Do true 19 127 [.ref 0, .int (a), .int (b), .int (c)] am_h0 (some (.int (-1)), am_h0) := by
              refine am_Do.of (r := am_r127) (y := (26, [some (.ref 0), some (.int (a)), some (.int (b)), some (.int (c))], [.int (-1)], am_h0, 0, 0)) rfl rfl ?_ rfl rfl rfl
              refine am_Go.bl 1 (y := (1, [some (.ref 0), some (.int (a)), some (.int (b)), some (.int (c))], [.int (a)], am_h0, 0, 0)) (fun _ => rfl) ?_
              refine am_Go.cS hd1 rfl rfl rfl rfl rfl rfl ?_
              refine am_Go.bl 2 (y := (8, [some (.ref 0), some (.int (a)), some (.int (b)), some (.int (c))], [.int (b)], am_h0, 0, 0)) (fun _ => rfl) ?_
              refine am_Go.cS hd2 rfl rfl rfl rfl rfl rfl ?_
              refine am_Go.bl 4 (y := (19, [some (.ref 0), some (.int (a)), some (.int (b)), some (.int (c))], [.int (c), .ref 1], am_h0, 0, 0)) (fun _ => rfl) ?_
              refine am_Go.cV hd3 rfl rfl rfl rfl rfl rfl rfl ?_
              refine am_Go.bl 2 (y := (26, [some (.ref 0), some (.int (a)), some (.int (b)), some (.int (c))], [.int (-1)], am_h0, 0, 0)) (fun _ => rfl) ?_
              exact am_Go.rf
            have hb6 : am_cmp .lt (a) 0 = false := (am_clt_f (k := (0)) rfl).mpr (by omega)
            have hb7 : am_cmp .gt (a) 29 = false := (am_cgt_f (k := (29)) rfl).mpr (by omega)
            have hd5 : am_Do true 18 169 [.int (a), .int 0, .int 29] am_h0 (some (.int 1), am_h0) := by
              refine am_Do.of (r := am_r169) (y := (15, [some (.int (a)), some (.int 0), some (.int 29)], [.int 1], am_h0, 0, 0)) rfl rfl ?_ rfl rfl rfl
              refine am_Go.bl 3 (y := (bif am_cmp .lt (a) 0 then 14 else 5, [some (.int (a)), some (.int 0), some (.int 29)], [], am_h0, 0, 0)) (fun _ => rfl) ?_
              refine am_Go.brF hb6 ?_
              refine am_Go.bl 3 (y := (bif am_cmp .gt (a) 29 then 14 else 10, [some (.int (a)), some (.int 0), some (.int 29)], [], am_h0, 0, 0)) (fun _ => rfl) ?_
              refine am_Go.brF hb7 ?_
              refine am_Go.bl 2 (y := (15, [some (.int (a)), some (.int 0), some (.int 29)], [.int 1], am_h0, 0, 0)) (fun _ => rfl) ?_
              exact am_Go.rf
            have hb8 : am_cmp .lt (b) 0 = false := (am_clt_f (k := (0)) rfl).mpr (by omega)
            have hb9 : am_cmp .gt (b) 9999 = false := (am_cgt_f (k := (9999)) rfl).mpr (by omega)
            have hd6 : am_Do true 18 169 [.int (b), .int 0, .int 9999] am_h0 (some (.int 1), am_h0) := by
              refine am_Do.of (r := am_r169) (y := (15, [some (.int (b)), some (.int 0), some (.int 9999)], [.int 1], am_h0, 0, 0)) rfl rfl ?_ rfl rfl rfl
              refine am_Go.bl 3 (y := (bif am_cmp .lt (b) 0 then 14 else 5, [some (.int (b)), some (.int 0), some (.int 9999)], [], am_h0, 0, 0)) (fun _ => rfl) ?_
              refine am_Go.brF hb8 ?_
              refine am_Go.bl 3 (y := (bif am_cmp .gt (b) 9999 then 14 else 10, [some (.int (b)), some (.int 0), some (.int 9999)], [], am_h0, 0, 0)) (fun _ => rfl) ?_
              refine am_Go.brF hb9 ?_
              refine am_Go.bl 2 (y := (15, [some (.int (b)), some (.int 0), some (.int 9999)], [.int 1], am_h0, 0, 0)) (fun _ => rfl) ?_
              exact am_Go.rf
            have hb10 : am_cmp .lt (c) 0 = true := (am_clt_t (k := (0)) rfl).mpr (by omega)
            have hd7 : am_Do true 17 169 [.int (c), .int 0, .int 0] am_h0 (some (.int 0), am_h0) := by
              refine am_Do.of (r := am_r169) (y := (15, [some (.int (c)), some (.int 0), some (.int 0)], [.int 0], am_h0, 0, 0)) rfl rfl ?_ rfl rfl rfl
              refine am_Go.bl 3 (y := (bif am_cmp .lt (c) 0 then 14 else 5, [some (.int (c)), some (.int 0), some (.int 0)], [], am_h0, 0, 0)) (fun _ => rfl) ?_
              refine am_Go.brT hb10 ?_
              refine am_Go.bl 1 (y := (15, [some (.int (c)), some (.int 0), some (.int 0)], [.int 0], am_h0, 0, 0)) (fun _ => rfl) ?_
              exact am_Go.rf
            have hd8 : am_Do true 18 176 [.ref 64, .int (c)] am_h0 (some (.int 0), am_h0) := by
              refine am_Do.of (r := am_r176) (y := (13, [some (.ref 64), some (.int (c))], [.int 0], am_h0, 0, 0)) rfl rfl ?_ rfl rfl rfl
              refine am_Go.bl 8 (y := (10, [some (.ref 64), some (.int (c))], [.int 0, .int 0, .int (c)], am_h0, 0, 0)) (fun _ => rfl) ?_
              refine am_Go.cS hd7 rfl rfl rfl rfl rfl rfl ?_
              exact am_Go.rf
            have hd9 : am_Do true 19 175 [.ref 64, .int (a), .int (b), .int (c)] am_h0 (some (.int (-1)), am_h0) := by
              refine am_Do.of (r := am_r175) (y := (30, [some (.ref 64), some (.int (a)), some (.int (b)), some (.int (c)), none], [.int (-1)], am_h0, 0, 0)) rfl rfl ?_ rfl rfl rfl
              refine am_Go.bl 3 (y := (4, [some (.ref 64), some (.int (a)), some (.int (b)), some (.int (c)), none], [.int 29, .int 0, .int (a)], am_h0, 0, 0)) (fun _ => rfl) ?_
              refine am_Go.cS hd5 rfl rfl rfl rfl rfl rfl ?_
              refine am_Go.bl 4 (y := (15, [some (.ref 64), some (.int (a)), some (.int (b)), some (.int (c)), none], [.int 9999, .int 0, .int (b)], am_h0, 0, 0)) (fun _ => rfl) ?_
              refine am_Go.cS hd6 rfl rfl rfl rfl rfl rfl ?_
              refine am_Go.bl 3 (y := (23, [some (.ref 64), some (.int (a)), some (.int (b)), some (.int (c)), none], [.int (c), .ref 64], am_h0, 0, 0)) (fun _ => rfl) ?_
              refine am_Go.cV hd8 rfl rfl rfl rfl rfl rfl rfl ?_
              refine am_Go.bl 2 (y := (30, [some (.ref 64), some (.int (a)), some (.int (b)), some (.int (c)), none], [.int (-1)], am_h0, 0, 0)) (fun _ => rfl) ?_
              exact am_Go.rf
            exact ⟨_, _, _, hd4, ⟨_, rfl⟩, rfl, hd9, rfl⟩
        | true =>
          have hf1 := (am_clt_f (y := 0) (k := (0)) rfl).mp hb1
          have hf2 := (am_cge_f (y := 30) (k := (30)) rfl).mp hb2
          have hd1 : am_Do true 18 128 [.int (a)] am_h0 (some (.int 1), am_h0) := by
            refine am_Do.of (r := am_r128) (y := (15, [some (.int (a))], [.int 1], am_h0, 0, 0)) rfl rfl ?_ rfl rfl rfl
            refine am_Go.bl 2 (y := (bif am_cmp .lt (a) 0 then 14 else 4, [some (.int (a))], [], am_h0, 0, 0)) (fun _ => rfl) ?_
            refine am_Go.brF hb1 ?_
            refine am_Go.bl 3 (y := (bif am_cmp .ge (a) 30 then 14 else 10, [some (.int (a))], [], am_h0, 0, 0)) (fun _ => rfl) ?_
            refine am_Go.brF hb2 ?_
            refine am_Go.bl 2 (y := (15, [some (.int (a))], [.int 1], am_h0, 0, 0)) (fun _ => rfl) ?_
            exact am_Go.rf
          have hf3 := (am_clt_f (y := 0) (k := (0)) rfl).mp hb3
          have hf4 := (am_cgt_t (y := 9999) (k := (9999)) rfl).mp hb4
          have hd2 : am_Do true 18 126 [.int (b)] am_h0 (some (.int 0), am_h0) := by
            refine am_Do.of (r := am_r126) (y := (16, [some (.int (b))], [.int 0], am_h0, 0, 0)) rfl rfl ?_ rfl rfl rfl
            refine am_Go.bl 2 (y := (bif am_cmp .lt (b) 0 then 15 else 4, [some (.int (b))], [], am_h0, 0, 0)) (fun _ => rfl) ?_
            refine am_Go.brF hb3 ?_
            refine am_Go.bl 3 (y := (bif am_cmp .gt (b) 9999 then 15 else 11, [some (.int (b))], [], am_h0, 0, 0)) (fun _ => rfl) ?_
            refine am_Go.brT hb4 ?_
            refine am_Go.bl 1 (y := (16, [some (.int (b))], [.int 0], am_h0, 0, 0)) (fun _ => rfl) ?_
            exact am_Go.rf
          have hd3 : am_Do true 19 127 [.ref 0, .int (a), .int (b), .int (c)] am_h0 (some (.int (-1)), am_h0) := by
            refine am_Do.of (r := am_r127) (y := (26, [some (.ref 0), some (.int (a)), some (.int (b)), some (.int (c))], [.int (-1)], am_h0, 0, 0)) rfl rfl ?_ rfl rfl rfl
            refine am_Go.bl 1 (y := (1, [some (.ref 0), some (.int (a)), some (.int (b)), some (.int (c))], [.int (a)], am_h0, 0, 0)) (fun _ => rfl) ?_
            refine am_Go.cS hd1 rfl rfl rfl rfl rfl rfl ?_
            refine am_Go.bl 2 (y := (8, [some (.ref 0), some (.int (a)), some (.int (b)), some (.int (c))], [.int (b)], am_h0, 0, 0)) (fun _ => rfl) ?_
            refine am_Go.cS hd2 rfl rfl rfl rfl rfl rfl ?_
            refine am_Go.bl 2 (y := (26, [some (.ref 0), some (.int (a)), some (.int (b)), some (.int (c))], [.int (-1)], am_h0, 0, 0)) (fun _ => rfl) ?_
            exact am_Go.rf
          have hb5 : am_cmp .lt (a) 0 = false := (am_clt_f (k := (0)) rfl).mpr (by omega)
          have hb6 : am_cmp .gt (a) 29 = false := (am_cgt_f (k := (29)) rfl).mpr (by omega)
          have hd4 : am_Do true 18 169 [.int (a), .int 0, .int 29] am_h0 (some (.int 1), am_h0) := by
            refine am_Do.of (r := am_r169) (y := (15, [some (.int (a)), some (.int 0), some (.int 29)], [.int 1], am_h0, 0, 0)) rfl rfl ?_ rfl rfl rfl
            refine am_Go.bl 3 (y := (bif am_cmp .lt (a) 0 then 14 else 5, [some (.int (a)), some (.int 0), some (.int 29)], [], am_h0, 0, 0)) (fun _ => rfl) ?_
            refine am_Go.brF hb5 ?_
            refine am_Go.bl 3 (y := (bif am_cmp .gt (a) 29 then 14 else 10, [some (.int (a)), some (.int 0), some (.int 29)], [], am_h0, 0, 0)) (fun _ => rfl) ?_
            refine am_Go.brF hb6 ?_
            refine am_Go.bl 2 (y := (15, [some (.int (a)), some (.int 0), some (.int 29)], [.int 1], am_h0, 0, 0)) (fun _ => rfl) ?_
            exact am_Go.rf
          have hb7 : am_cmp .lt (b) 0 = false := (am_clt_f (k := (0)) rfl).mpr (by omega)
          have hb8 : am_cmp .gt (b) 9999 = true := (am_cgt_t (k := (9999)) rfl).mpr (by omega)
          have hd5 : am_Do true 18 169 [.int (b), .int 0, .int 9999] am_h0 (some (.int 0), am_h0) := by
            refine am_Do.of (r := am_r169) (y := (15, [some (.int (b)), some (.int 0), some (.int 9999)], [.int 0], am_h0, 0, 0)) rfl rfl ?_ rfl rfl rfl
            refine am_Go.bl 3 (y := (bif am_cmp .lt (b) 0 then 14 else 5, [some (.int (b)), some (.int 0), some (.int 9999)], [], am_h0, 0, 0)) (fun _ => rfl) ?_
            refine am_Go.brF hb7 ?_
            refine am_Go.bl 3 (y := (bif am_cmp .gt (b) 9999 then 14 else 10, [some (.int (b)), some (.int 0), some (.int 9999)], [], am_h0, 0, 0)) (fun _ => rfl) ?_
            refine am_Go.brT hb8 ?_
            refine am_Go.bl 1 (y := (15, [some (.int (b)), some (.int 0), some (.int 9999)], [.int 0], am_h0, 0, 0)) (fun _ => rfl) ?_
            exact am_Go.rf
          have hd6 : am_Do true 19 175 [.ref 64, .int (a), .int (b), .int (c)] am_h0 (some (.int (-1)), am_h0) := by
            refine am_Do.of (r := am_r175) (y := (30, [some (.ref 64), some (.int (a)), some (.int (b)), some (.int (c)), none], [.int (-1)], am_h0, 0, 0)) rfl rfl ?_ rfl rfl rfl
            refine am_Go.bl 3 (y := (4, [some (.ref 64), some (.int (a)), some (.int (b)), some (.int (c)), none], [.int 29, .int 0, .int (a)], am_h0, 0, 0)) (fun _ => rfl) ?_
            refine am_Go.cS hd4 rfl rfl rfl rfl rfl rfl ?_
            refine am_Go.bl 4 (y := (15, [some (.ref 64), some (.int (a)), some (.int (b)), some (.int (c)), none], [.int 9999, .int 0, .int (b)], am_h0, 0, 0)) (fun _ => rfl) ?_
            refine am_Go.cS hd5 rfl rfl rfl rfl rfl rfl ?_
            refine am_Go.bl 2 (y := (30, [some (.ref 64), some (.int (a)), some (.int (b)), some (.int (c)), none], [.int (-1)], am_h0, 0, 0)) (fun _ => rfl) ?_
            exact am_Go.rf
          exact ⟨_, _, _, hd3, ⟨_, rfl⟩, rfl, hd6, rfl⟩
      | true =>
        have hf1 := (am_clt_f (y := 0) (k := (0)) rfl).mp hb1
        have hf2 := (am_cge_f (y := 30) (k := (30)) rfl).mp hb2
        have hd1 : am_Do true 18 128 [.int (a)] am_h0 (some (.int 1), am_h0) := by
          refine am_Do.of (r := am_r128) (y := (15, [some (.int (a))], [.int 1], am_h0, 0, 0)) rfl rfl ?_ rfl rfl rfl
          refine am_Go.bl 2 (y := (bif am_cmp .lt (a) 0 then 14 else 4, [some (.int (a))], [], am_h0, 0, 0)) (fun _ => rfl) ?_
          refine am_Go.brF hb1 ?_
          refine am_Go.bl 3 (y := (bif am_cmp .ge (a) 30 then 14 else 10, [some (.int (a))], [], am_h0, 0, 0)) (fun _ => rfl) ?_
          refine am_Go.brF hb2 ?_
          refine am_Go.bl 2 (y := (15, [some (.int (a))], [.int 1], am_h0, 0, 0)) (fun _ => rfl) ?_
          exact am_Go.rf
        have hf3 := (am_clt_t (y := 0) (k := (0)) rfl).mp hb3
        have hd2 : am_Do true 18 126 [.int (b)] am_h0 (some (.int 0), am_h0) := by
          refine am_Do.of (r := am_r126) (y := (16, [some (.int (b))], [.int 0], am_h0, 0, 0)) rfl rfl ?_ rfl rfl rfl
          refine am_Go.bl 2 (y := (bif am_cmp .lt (b) 0 then 15 else 4, [some (.int (b))], [], am_h0, 0, 0)) (fun _ => rfl) ?_
          refine am_Go.brT hb3 ?_
          refine am_Go.bl 1 (y := (16, [some (.int (b))], [.int 0], am_h0, 0, 0)) (fun _ => rfl) ?_
          exact am_Go.rf
        have hd3 : am_Do true 19 127 [.ref 0, .int (a), .int (b), .int (c)] am_h0 (some (.int (-1)), am_h0) := by
          refine am_Do.of (r := am_r127) (y := (26, [some (.ref 0), some (.int (a)), some (.int (b)), some (.int (c))], [.int (-1)], am_h0, 0, 0)) rfl rfl ?_ rfl rfl rfl
          refine am_Go.bl 1 (y := (1, [some (.ref 0), some (.int (a)), some (.int (b)), some (.int (c))], [.int (a)], am_h0, 0, 0)) (fun _ => rfl) ?_
          refine am_Go.cS hd1 rfl rfl rfl rfl rfl rfl ?_
          refine am_Go.bl 2 (y := (8, [some (.ref 0), some (.int (a)), some (.int (b)), some (.int (c))], [.int (b)], am_h0, 0, 0)) (fun _ => rfl) ?_
          refine am_Go.cS hd2 rfl rfl rfl rfl rfl rfl ?_
          refine am_Go.bl 2 (y := (26, [some (.ref 0), some (.int (a)), some (.int (b)), some (.int (c))], [.int (-1)], am_h0, 0, 0)) (fun _ => rfl) ?_
          exact am_Go.rf
        have hb4 : am_cmp .lt (a) 0 = false := (am_clt_f (k := (0)) rfl).mpr (by omega)
        have hb5 : am_cmp .gt (a) 29 = false := (am_cgt_f (k := (29)) rfl).mpr (by omega)
        have hd4 : am_Do true 18 169 [.int (a), .int 0, .int 29] am_h0 (some (.int 1), am_h0) := by
          refine am_Do.of (r := am_r169) (y := (15, [some (.int (a)), some (.int 0), some (.int 29)], [.int 1], am_h0, 0, 0)) rfl rfl ?_ rfl rfl rfl
          refine am_Go.bl 3 (y := (bif am_cmp .lt (a) 0 then 14 else 5, [some (.int (a)), some (.int 0), some (.int 29)], [], am_h0, 0, 0)) (fun _ => rfl) ?_
          refine am_Go.brF hb4 ?_
          refine am_Go.bl 3 (y := (bif am_cmp .gt (a) 29 then 14 else 10, [some (.int (a)), some (.int 0), some (.int 29)], [], am_h0, 0, 0)) (fun _ => rfl) ?_
          refine am_Go.brF hb5 ?_
          refine am_Go.bl 2 (y := (15, [some (.int (a)), some (.int 0), some (.int 29)], [.int 1], am_h0, 0, 0)) (fun _ => rfl) ?_
          exact am_Go.rf
        have hb6 : am_cmp .lt (b) 0 = true := (am_clt_t (k := (0)) rfl).mpr (by omega)
        have hd5 : am_Do true 18 169 [.int (b), .int 0, .int 9999] am_h0 (some (.int 0), am_h0) := by
          refine am_Do.of (r := am_r169) (y := (15, [some (.int (b)), some (.int 0), some (.int 9999)], [.int 0], am_h0, 0, 0)) rfl rfl ?_ rfl rfl rfl
          refine am_Go.bl 3 (y := (bif am_cmp .lt (b) 0 then 14 else 5, [some (.int (b)), some (.int 0), some (.int 9999)], [], am_h0, 0, 0)) (fun _ => rfl) ?_
          refine am_Go.brT hb6 ?_
          refine am_Go.bl 1 (y := (15, [some (.int (b)), some (.int 0), some (.int 9999)], [.int 0], am_h0, 0, 0)) (fun _ => rfl) ?_
          exact am_Go.rf
        have hd6 : am_Do true 19 175 [.ref 64, .int (a), .int (b), .int (c)] am_h0 (some (.int (-1)), am_h0) := by
          refine am_Do.of (r := am_r175) (y := (30, [some (.ref 64), some (.int (a)), some (.int (b)), some (.int (c)), none], [.int (-1)], am_h0, 0, 0)) rfl rfl ?_ rfl rfl rfl
          refine am_Go.bl 3 (y := (4, [some (.ref 64), some (.int (a)), some (.int (b)), some (.int (c)), none], [.int 29, .int 0, .int (a)], am_h0, 0, 0)) (fun _ => rfl) ?_
          refine am_Go.cS hd4 rfl rfl rfl rfl rfl rfl ?_
          refine am_Go.bl 4 (y := (15, [some (.ref 64), some (.int (a)), some (.int (b)), some (.int (c)), none], [.int 9999, .int 0, .int (b)], am_h0, 0, 0)) (fun _ => rfl) ?_
          refine am_Go.cS hd5 rfl rfl rfl rfl rfl rfl ?_
          refine am_Go.bl 2 (y := (30, [some (.ref 64), some (.int (a)), some (.int (b)), some (.int (c)), none], [.int (-1)], am_h0, 0, 0)) (fun _ => rfl) ?_
          exact am_Go.rf
        exact ⟨_, _, _, hd3, ⟨_, rfl⟩, rfl, hd6, rfl⟩
    | true =>
      have hf1 := (am_clt_f (y := 0) (k := (0)) rfl).mp hb1
      have hf2 := (am_cge_t (y := 30) (k := (30)) rfl).mp hb2
      have hd1 : am_Do true 18 128 [.int (a)] am_h0 (some (.int 0), am_h0) := by
        refine am_Do.of (r := am_r128) (y := (15, [some (.int (a))], [.int 0], am_h0, 0, 0)) rfl rfl ?_ rfl rfl rfl
        refine am_Go.bl 2 (y := (bif am_cmp .lt (a) 0 then 14 else 4, [some (.int (a))], [], am_h0, 0, 0)) (fun _ => rfl) ?_
        refine am_Go.brF hb1 ?_
        refine am_Go.bl 3 (y := (bif am_cmp .ge (a) 30 then 14 else 10, [some (.int (a))], [], am_h0, 0, 0)) (fun _ => rfl) ?_
        refine am_Go.brT hb2 ?_
        refine am_Go.bl 1 (y := (15, [some (.int (a))], [.int 0], am_h0, 0, 0)) (fun _ => rfl) ?_
        exact am_Go.rf
      have hd2 : am_Do true 19 127 [.ref 0, .int (a), .int (b), .int (c)] am_h0 (some (.int (-1)), am_h0) := by
        refine am_Do.of (r := am_r127) (y := (26, [some (.ref 0), some (.int (a)), some (.int (b)), some (.int (c))], [.int (-1)], am_h0, 0, 0)) rfl rfl ?_ rfl rfl rfl
        refine am_Go.bl 1 (y := (1, [some (.ref 0), some (.int (a)), some (.int (b)), some (.int (c))], [.int (a)], am_h0, 0, 0)) (fun _ => rfl) ?_
        refine am_Go.cS hd1 rfl rfl rfl rfl rfl rfl ?_
        refine am_Go.bl 2 (y := (26, [some (.ref 0), some (.int (a)), some (.int (b)), some (.int (c))], [.int (-1)], am_h0, 0, 0)) (fun _ => rfl) ?_
        exact am_Go.rf
      have hb3 : am_cmp .lt (a) 0 = false := (am_clt_f (k := (0)) rfl).mpr (by omega)
      have hb4 : am_cmp .gt (a) 29 = true := (am_cgt_t (k := (29)) rfl).mpr (by omega)
      have hd3 : am_Do true 18 169 [.int (a), .int 0, .int 29] am_h0 (some (.int 0), am_h0) := by
        refine am_Do.of (r := am_r169) (y := (15, [some (.int (a)), some (.int 0), some (.int 29)], [.int 0], am_h0, 0, 0)) rfl rfl ?_ rfl rfl rfl
        refine am_Go.bl 3 (y := (bif am_cmp .lt (a) 0 then 14 else 5, [some (.int (a)), some (.int 0), some (.int 29)], [], am_h0, 0, 0)) (fun _ => rfl) ?_
        refine am_Go.brF hb3 ?_
        refine am_Go.bl 3 (y := (bif am_cmp .gt (a) 29 then 14 else 10, [some (.int (a)), some (.int 0), some (.int 29)], [], am_h0, 0, 0)) (fun _ => rfl) ?_
        refine am_Go.brT hb4 ?_
        refine am_Go.bl 1 (y := (15, [some (.int (a)), some (.int 0), some (.int 29)], [.int 0], am_h0, 0, 0)) (fun _ => rfl) ?_
        exact am_Go.rf
      have hd4 : am_Do true 19 175 [.ref 64, .int (a), .int (b), .int (c)] am_h0 (some (.int (-1)), am_h0) := by
        refine am_Do.of (r := am_r175) (y := (30, [some (.ref 64), some (.int (a)), some (.int (b)), some (.int (c)), none], [.int (-1)], am_h0, 0, 0)) rfl rfl ?_ rfl rfl rfl
        refine am_Go.bl 3 (y := (4, [some (.ref 64), some (.int (a)), some (.int (b)), some (.int (c)), none], [.int 29, .int 0, .int (a)], am_h0, 0, 0)) (fun _ => rfl) ?_
        refine am_Go.cS hd3 rfl rfl rfl rfl rfl rfl ?_
        refine am_Go.bl 2 (y := (30, [some (.ref 64), some (.int (a)), some (.int (b)), some (.int (c)), none], [.int (-1)], am_h0, 0, 0)) (fun _ => rfl) ?_
        exact am_Go.rf
      exact ⟨_, _, _, hd2, ⟨_, rfl⟩, rfl, hd4, rfl⟩
  | true =>
    have hf1 := (am_clt_t (y := 0) (k := (0)) rfl).mp hb1
    have hd1 : am_Do true 18 128 [.int (a)] am_h0 (some (.int 0), am_h0) := by
      refine am_Do.of (r := am_r128) (y := (15, [some (.int (a))], [.int 0], am_h0, 0, 0)) rfl rfl ?_ rfl rfl rfl
      refine am_Go.bl 2 (y := (bif am_cmp .lt (a) 0 then 14 else 4, [some (.int (a))], [], am_h0, 0, 0)) (fun _ => rfl) ?_
      refine am_Go.brT hb1 ?_
      refine am_Go.bl 1 (y := (15, [some (.int (a))], [.int 0], am_h0, 0, 0)) (fun _ => rfl) ?_
      exact am_Go.rf
    have hd2 : am_Do true 19 127 [.ref 0, .int (a), .int (b), .int (c)] am_h0 (some (.int (-1)), am_h0) := by
      refine am_Do.of (r := am_r127) (y := (26, [some (.ref 0), some (.int (a)), some (.int (b)), some (.int (c))], [.int (-1)], am_h0, 0, 0)) rfl rfl ?_ rfl rfl rfl
      refine am_Go.bl 1 (y := (1, [some (.ref 0), some (.int (a)), some (.int (b)), some (.int (c))], [.int (a)], am_h0, 0, 0)) (fun _ => rfl) ?_
      refine am_Go.cS hd1 rfl rfl rfl rfl rfl rfl ?_
      refine am_Go.bl 2 (y := (26, [some (.ref 0), some (.int (a)), some (.int (b)), some (.int (c))], [.int (-1)], am_h0, 0, 0)) (fun _ => rfl) ?_
      exact am_Go.rf
    have hb2 : am_cmp .lt (a) 0 = true := (am_clt_t (k := (0)) rfl).mpr (by omega)
    have hd3 : am_Do true 18 169 [.int (a), .int 0, .int 29] am_h0 (some (.int 0), am_h0) := by
      refine am_Do.of (r := am_r169) (y := (15, [some (.int (a)), some (.int 0), some (.int 29)], [.int 0], am_h0, 0, 0)) rfl rfl ?_ rfl rfl rfl
      refine am_Go.bl 3 (y := (bif am_cmp .lt (a) 0 then 14 else 5, [some (.int (a)), some (.int 0), some (.int 29)], [], am_h0, 0, 0)) (fun _ => rfl) ?_
      refine am_Go.brT hb2 ?_
      refine am_Go.bl 1 (y := (15, [some (.int (a)), some (.int 0), some (.int 29)], [.int 0], am_h0, 0, 0)) (fun _ => rfl) ?_
      exact am_Go.rf
    have hd4 : am_Do true 19 175 [.ref 64, .int (a), .int (b), .int (c)] am_h0 (some (.int (-1)), am_h0) := by
      refine am_Do.of (r := am_r175) (y := (30, [some (.ref 64), some (.int (a)), some (.int (b)), some (.int (c)), none], [.int (-1)], am_h0, 0, 0)) rfl rfl ?_ rfl rfl rfl
      refine am_Go.bl 3 (y := (4, [some (.ref 64), some (.int (a)), some (.int (b)), some (.int (c)), none], [.int 29, .int 0, .int (a)], am_h0, 0, 0)) (fun _ => rfl) ?_
      refine am_Go.cS hd3 rfl rfl rfl rfl rfl rfl ?_
      refine am_Go.bl 2 (y := (30, [some (.ref 64), some (.int (a)), some (.int (b)), some (.int (c)), none], [.int (-1)], am_h0, 0, 0)) (fun _ => rfl) ?_
      exact am_Go.rf
    exact ⟨_, _, _, hd2, ⟨_, rfl⟩, rfl, hd4, rfl⟩
set_option maxHeartbeats 20000000 in
set_option maxRecDepth 100000 in
theorem am_p_word (a : Int32) : am_PairOK 129 177 [.int a] := by
  cases hb1 : am_cmp .lt (a) 0 with
  | false =>
    cases hb2 : am_cmp .ge (a) 30 with
    | false =>
      have hf1 := (am_clt_f (y := 0) (k := (0)) rfl).mp hb1
      have hf2 := (am_cge_f (y := 30) (k := (30)) rfl).mp hb2
      have hd1 : am_Do true 18 128 [.int (a)] am_h0 (some (.int 1), am_h0) := by
        refine am_Do.of (r := am_r128) (y := (15, [some (.int (a))], [.int 1], am_h0, 0, 0)) rfl rfl ?_ rfl rfl rfl
        refine am_Go.bl 2 (y := (bif am_cmp .lt (a) 0 then 14 else 4, [some (.int (a))], [], am_h0, 0, 0)) (fun _ => rfl) ?_
        refine am_Go.brF hb1 ?_
        refine am_Go.bl 3 (y := (bif am_cmp .ge (a) 30 then 14 else 10, [some (.int (a))], [], am_h0, 0, 0)) (fun _ => rfl) ?_
        refine am_Go.brF hb2 ?_
        refine am_Go.bl 2 (y := (15, [some (.int (a))], [.int 1], am_h0, 0, 0)) (fun _ => rfl) ?_
        exact am_Go.rf
      have hd2 : am_Do true 18 3 [.ref 18, .int (a)] am_h0 (some (.int 0), am_h0) := by
        refine am_Do.of (r := am_r3) (y := (75, [some (.ref 18), some (.int (a)), some (.int 0), some (.int (-1)), some (.int 0)], [.int 0], am_h0, 0, 0)) rfl rfl ?_ rfl rfl rfl
        refine am_Go.bl 10 (y := (74, [some (.ref 18), some (.int (a)), some (.int 0), some (.int (-1)), some (.int 0)], [], am_h0, 0, 0)) (fun _ => rfl) ?_
        refine am_Go.bl 1 (y := (75, [some (.ref 18), some (.int (a)), some (.int 0), some (.int (-1)), some (.int 0)], [.int 0], am_h0, 0, 0)) (fun _ => rfl) ?_
        exact am_Go.rf
      have hd3 : am_Do true 19 129 [.ref 0, .int (a)] am_h0 (some (.int 0), am_h0) := by
        refine am_Do.of (r := am_r129) (y := (19, [some (.ref 0), some (.int (a))], [.int 0], am_h0, 0, 0)) rfl rfl ?_ rfl rfl rfl
        refine am_Go.bl 1 (y := (1, [some (.ref 0), some (.int (a))], [.int (a)], am_h0, 0, 0)) (fun _ => rfl) ?_
        refine am_Go.cS hd1 rfl rfl rfl rfl rfl rfl ?_
        refine am_Go.bl 4 (y := (12, [some (.ref 0), some (.int (a))], [.int (a), .ref 18], am_h0, 0, 0)) (fun _ => rfl) ?_
        refine am_Go.cV hd2 rfl rfl rfl rfl rfl rfl rfl ?_
        refine am_Go.bl 1 (y := (19, [some (.ref 0), some (.int (a))], [.int 0], am_h0, 0, 0)) (fun _ => rfl) ?_
        exact am_Go.rf
      have hb3 : am_cmp .lt (a) 0 = false := (am_clt_f (k := (0)) rfl).mpr (by omega)
      have hb4 : am_cmp .gt (a) 29 = false := (am_cgt_f (k := (29)) rfl).mpr (by omega)
      have hd4 : am_Do true 18 169 [.int (a), .int 0, .int 29] am_h0 (some (.int 1), am_h0) := by
        refine am_Do.of (r := am_r169) (y := (15, [some (.int (a)), some (.int 0), some (.int 29)], [.int 1], am_h0, 0, 0)) rfl rfl ?_ rfl rfl rfl
        refine am_Go.bl 3 (y := (bif am_cmp .lt (a) 0 then 14 else 5, [some (.int (a)), some (.int 0), some (.int 29)], [], am_h0, 0, 0)) (fun _ => rfl) ?_
        refine am_Go.brF hb3 ?_
        refine am_Go.bl 3 (y := (bif am_cmp .gt (a) 29 then 14 else 10, [some (.int (a)), some (.int 0), some (.int 29)], [], am_h0, 0, 0)) (fun _ => rfl) ?_
        refine am_Go.brF hb4 ?_
        refine am_Go.bl 2 (y := (15, [some (.int (a)), some (.int 0), some (.int 29)], [.int 1], am_h0, 0, 0)) (fun _ => rfl) ?_
        exact am_Go.rf
      have hd5 : am_Do true 18 178 [.ref 64, .int (a)] am_h0 (some (.int 0), am_h0) := by
        refine am_Do.of (r := am_r178) (y := (78, [some (.ref 64), some (.int (a)), some (.int (-1)), some (.int 0)], [.int 0], am_h0, 0, 0)) rfl rfl ?_ rfl rfl rfl
        refine am_Go.bl 10 (y := (65, [some (.ref 64), some (.int (a)), some (.int (-1)), some (.int 0)], [.int (-1), .int (-1)], am_h0, 0, 0)) (fun _ => rfl) ?_
        refine am_Go.bl 3 (y := (78, [some (.ref 64), some (.int (a)), some (.int (-1)), some (.int 0)], [.int 0], am_h0, 0, 0)) (fun _ => rfl) ?_
        exact am_Go.rf
      have hd6 : am_Do true 19 177 [.ref 64, .int (a)] am_h0 (some (.int 0), am_h0) := by
        refine am_Do.of (r := am_r177) (y := (19, [some (.ref 64), some (.int (a))], [.int 0], am_h0, 0, 0)) rfl rfl ?_ rfl rfl rfl
        refine am_Go.bl 3 (y := (4, [some (.ref 64), some (.int (a))], [.int 29, .int 0, .int (a)], am_h0, 0, 0)) (fun _ => rfl) ?_
        refine am_Go.cS hd4 rfl rfl rfl rfl rfl rfl ?_
        refine am_Go.bl 3 (y := (12, [some (.ref 64), some (.int (a))], [.int (a), .ref 64], am_h0, 0, 0)) (fun _ => rfl) ?_
        refine am_Go.cV hd5 rfl rfl rfl rfl rfl rfl rfl ?_
        refine am_Go.bl 1 (y := (19, [some (.ref 64), some (.int (a))], [.int 0], am_h0, 0, 0)) (fun _ => rfl) ?_
        exact am_Go.rf
      exact ⟨_, _, _, hd3, ⟨_, rfl⟩, rfl, hd6, rfl⟩
    | true =>
      have hf1 := (am_clt_f (y := 0) (k := (0)) rfl).mp hb1
      have hf2 := (am_cge_t (y := 30) (k := (30)) rfl).mp hb2
      have hd1 : am_Do true 18 128 [.int (a)] am_h0 (some (.int 0), am_h0) := by
        refine am_Do.of (r := am_r128) (y := (15, [some (.int (a))], [.int 0], am_h0, 0, 0)) rfl rfl ?_ rfl rfl rfl
        refine am_Go.bl 2 (y := (bif am_cmp .lt (a) 0 then 14 else 4, [some (.int (a))], [], am_h0, 0, 0)) (fun _ => rfl) ?_
        refine am_Go.brF hb1 ?_
        refine am_Go.bl 3 (y := (bif am_cmp .ge (a) 30 then 14 else 10, [some (.int (a))], [], am_h0, 0, 0)) (fun _ => rfl) ?_
        refine am_Go.brT hb2 ?_
        refine am_Go.bl 1 (y := (15, [some (.int (a))], [.int 0], am_h0, 0, 0)) (fun _ => rfl) ?_
        exact am_Go.rf
      have hd2 : am_Do true 19 129 [.ref 0, .int (a)] am_h0 (some (.int (-1)), am_h0) := by
        refine am_Do.of (r := am_r129) (y := (19, [some (.ref 0), some (.int (a))], [.int (-1)], am_h0, 0, 0)) rfl rfl ?_ rfl rfl rfl
        refine am_Go.bl 1 (y := (1, [some (.ref 0), some (.int (a))], [.int (a)], am_h0, 0, 0)) (fun _ => rfl) ?_
        refine am_Go.cS hd1 rfl rfl rfl rfl rfl rfl ?_
        refine am_Go.bl 2 (y := (19, [some (.ref 0), some (.int (a))], [.int (-1)], am_h0, 0, 0)) (fun _ => rfl) ?_
        exact am_Go.rf
      have hb3 : am_cmp .lt (a) 0 = false := (am_clt_f (k := (0)) rfl).mpr (by omega)
      have hb4 : am_cmp .gt (a) 29 = true := (am_cgt_t (k := (29)) rfl).mpr (by omega)
      have hd3 : am_Do true 18 169 [.int (a), .int 0, .int 29] am_h0 (some (.int 0), am_h0) := by
        refine am_Do.of (r := am_r169) (y := (15, [some (.int (a)), some (.int 0), some (.int 29)], [.int 0], am_h0, 0, 0)) rfl rfl ?_ rfl rfl rfl
        refine am_Go.bl 3 (y := (bif am_cmp .lt (a) 0 then 14 else 5, [some (.int (a)), some (.int 0), some (.int 29)], [], am_h0, 0, 0)) (fun _ => rfl) ?_
        refine am_Go.brF hb3 ?_
        refine am_Go.bl 3 (y := (bif am_cmp .gt (a) 29 then 14 else 10, [some (.int (a)), some (.int 0), some (.int 29)], [], am_h0, 0, 0)) (fun _ => rfl) ?_
        refine am_Go.brT hb4 ?_
        refine am_Go.bl 1 (y := (15, [some (.int (a)), some (.int 0), some (.int 29)], [.int 0], am_h0, 0, 0)) (fun _ => rfl) ?_
        exact am_Go.rf
      have hd4 : am_Do true 19 177 [.ref 64, .int (a)] am_h0 (some (.int (-1)), am_h0) := by
        refine am_Do.of (r := am_r177) (y := (19, [some (.ref 64), some (.int (a))], [.int (-1)], am_h0, 0, 0)) rfl rfl ?_ rfl rfl rfl
        refine am_Go.bl 3 (y := (4, [some (.ref 64), some (.int (a))], [.int 29, .int 0, .int (a)], am_h0, 0, 0)) (fun _ => rfl) ?_
        refine am_Go.cS hd3 rfl rfl rfl rfl rfl rfl ?_
        refine am_Go.bl 2 (y := (19, [some (.ref 64), some (.int (a))], [.int (-1)], am_h0, 0, 0)) (fun _ => rfl) ?_
        exact am_Go.rf
      exact ⟨_, _, _, hd2, ⟨_, rfl⟩, rfl, hd4, rfl⟩
  | true =>
    have hf1 := (am_clt_t (y := 0) (k := (0)) rfl).mp hb1
    have hd1 : am_Do true 18 128 [.int (a)] am_h0 (some (.int 0), am_h0) := by
      refine am_Do.of (r := am_r128) (y := (15, [some (.int (a))], [.int 0], am_h0, 0, 0)) rfl rfl ?_ rfl rfl rfl
      refine am_Go.bl 2 (y := (bif am_cmp .lt (a) 0 then 14 else 4, [some (.int (a))], [], am_h0, 0, 0)) (fun _ => rfl) ?_
      refine am_Go.brT hb1 ?_
      refine am_Go.bl 1 (y := (15, [some (.int (a))], [.int 0], am_h0, 0, 0)) (fun _ => rfl) ?_
      exact am_Go.rf
    have hd2 : am_Do true 19 129 [.ref 0, .int (a)] am_h0 (some (.int (-1)), am_h0) := by
      refine am_Do.of (r := am_r129) (y := (19, [some (.ref 0), some (.int (a))], [.int (-1)], am_h0, 0, 0)) rfl rfl ?_ rfl rfl rfl
      refine am_Go.bl 1 (y := (1, [some (.ref 0), some (.int (a))], [.int (a)], am_h0, 0, 0)) (fun _ => rfl) ?_
      refine am_Go.cS hd1 rfl rfl rfl rfl rfl rfl ?_
      refine am_Go.bl 2 (y := (19, [some (.ref 0), some (.int (a))], [.int (-1)], am_h0, 0, 0)) (fun _ => rfl) ?_
      exact am_Go.rf
    have hb2 : am_cmp .lt (a) 0 = true := (am_clt_t (k := (0)) rfl).mpr (by omega)
    have hd3 : am_Do true 18 169 [.int (a), .int 0, .int 29] am_h0 (some (.int 0), am_h0) := by
      refine am_Do.of (r := am_r169) (y := (15, [some (.int (a)), some (.int 0), some (.int 29)], [.int 0], am_h0, 0, 0)) rfl rfl ?_ rfl rfl rfl
      refine am_Go.bl 3 (y := (bif am_cmp .lt (a) 0 then 14 else 5, [some (.int (a)), some (.int 0), some (.int 29)], [], am_h0, 0, 0)) (fun _ => rfl) ?_
      refine am_Go.brT hb2 ?_
      refine am_Go.bl 1 (y := (15, [some (.int (a)), some (.int 0), some (.int 29)], [.int 0], am_h0, 0, 0)) (fun _ => rfl) ?_
      exact am_Go.rf
    have hd4 : am_Do true 19 177 [.ref 64, .int (a)] am_h0 (some (.int (-1)), am_h0) := by
      refine am_Do.of (r := am_r177) (y := (19, [some (.ref 64), some (.int (a))], [.int (-1)], am_h0, 0, 0)) rfl rfl ?_ rfl rfl rfl
      refine am_Go.bl 3 (y := (4, [some (.ref 64), some (.int (a))], [.int 29, .int 0, .int (a)], am_h0, 0, 0)) (fun _ => rfl) ?_
      refine am_Go.cS hd3 rfl rfl rfl rfl rfl rfl ?_
      refine am_Go.bl 2 (y := (19, [some (.ref 64), some (.int (a))], [.int (-1)], am_h0, 0, 0)) (fun _ => rfl) ?_
      exact am_Go.rf
    exact ⟨_, _, _, hd2, ⟨_, rfl⟩, rfl, hd4, rfl⟩
set_option maxHeartbeats 20000000 in
set_option maxRecDepth 100000 in
theorem am_p_like (a b c : Int32) : am_PairOK 130 179 [.int a, .int b, .int c] := by
  cases hb1 : am_cmp .lt (a) 0 with
  | false =>
    have hf1 := (am_clt_f (y := 0) (k := (0)) rfl).mp hb1
    have hb2 : am_cmp .ge (a) 0 = true := (am_cge_t (k := (0)) rfl).mpr (by omega)
    have hd1 : am_Do true 18 73 [.ref 1, .int (a)] am_h0 (some (.int 0), am_h0) := by
      refine am_Do.of (r := am_r73) (y := (17, [some (.ref 1), some (.int (a))], [.int 0], am_h0, 0, 0)) rfl rfl ?_ rfl rfl rfl
      refine am_Go.bl 2 (y := (bif am_cmp .lt (a) 0 then 16 else 4, [some (.ref 1), some (.int (a))], [], am_h0, 0, 0)) (fun _ => rfl) ?_
      refine am_Go.brF hb1 ?_
      refine am_Go.bl 4 (y := (bif am_cmp .ge (a) 0 then 16 else 12, [some (.ref 1), some (.int (a))], [], am_h0, 0, 0)) (fun _ => rfl) ?_
      refine am_Go.brT hb2 ?_
      refine am_Go.bl 1 (y := (17, [some (.ref 1), some (.int (a))], [.int 0], am_h0, 0, 0)) (fun _ => rfl) ?_
      exact am_Go.rf
    have hd2 : am_Do true 19 130 [.ref 0, .int (a), .int (b), .int (c)] am_h0 (some (.int (-100)), am_h0) := by
      refine am_Do.of (r := am_r130) (y := (36, [some (.ref 0), some (.int (a)), some (.int (b)), some (.int (c))], [.int (-100)], am_h0, 0, 0)) rfl rfl ?_ rfl rfl rfl
      refine am_Go.bl 3 (y := (5, [some (.ref 0), some (.int (a)), some (.int (b)), some (.int (c))], [.int (a), .ref 1], am_h0, 0, 0)) (fun _ => rfl) ?_
      refine am_Go.cV hd1 rfl rfl rfl rfl rfl rfl rfl ?_
      refine am_Go.bl 2 (y := (36, [some (.ref 0), some (.int (a)), some (.int (b)), some (.int (c))], [.int (-100)], am_h0, 0, 0)) (fun _ => rfl) ?_
      exact am_Go.rf
    have hb3 : am_cmp .lt (a) 0 = false := (am_clt_f (k := (0)) rfl).mpr (by omega)
    have hb4 : am_cmp .gt (a) (-1) = true := (am_cgt_t (k := (-1)) rfl).mpr (by omega)
    have hd3 : am_Do true 18 169 [.int (a), .int 0, .int (-1)] am_h0 (some (.int 0), am_h0) := by
      refine am_Do.of (r := am_r169) (y := (15, [some (.int (a)), some (.int 0), some (.int (-1))], [.int 0], am_h0, 0, 0)) rfl rfl ?_ rfl rfl rfl
      refine am_Go.bl 3 (y := (bif am_cmp .lt (a) 0 then 14 else 5, [some (.int (a)), some (.int 0), some (.int (-1))], [], am_h0, 0, 0)) (fun _ => rfl) ?_
      refine am_Go.brF hb3 ?_
      refine am_Go.bl 3 (y := (bif am_cmp .gt (a) (-1) then 14 else 10, [some (.int (a)), some (.int 0), some (.int (-1))], [], am_h0, 0, 0)) (fun _ => rfl) ?_
      refine am_Go.brT hb4 ?_
      refine am_Go.bl 1 (y := (15, [some (.int (a)), some (.int 0), some (.int (-1))], [.int 0], am_h0, 0, 0)) (fun _ => rfl) ?_
      exact am_Go.rf
    have hd4 : am_Do true 19 179 [.ref 64, .int (a), .int (b), .int (c)] am_h0 (some (.int (-100)), am_h0) := by
      refine am_Do.of (r := am_r179) (y := (41, [some (.ref 64), some (.int (a)), some (.int (b)), some (.int (c)), none], [.int (-100)], am_h0, 0, 0)) rfl rfl ?_ rfl rfl rfl
      refine am_Go.bl 6 (y := (8, [some (.ref 64), some (.int (a)), some (.int (b)), some (.int (c)), none], [.int (-1), .int 0, .int (a)], am_h0, 0, 0)) (fun _ => rfl) ?_
      refine am_Go.cS hd3 rfl rfl rfl rfl rfl rfl ?_
      refine am_Go.bl 2 (y := (41, [some (.ref 64), some (.int (a)), some (.int (b)), some (.int (c)), none], [.int (-100)], am_h0, 0, 0)) (fun _ => rfl) ?_
      exact am_Go.rf
    exact ⟨_, _, _, hd2, ⟨_, rfl⟩, rfl, hd4, rfl⟩
  | true =>
    have hf1 := (am_clt_t (y := 0) (k := (0)) rfl).mp hb1
    have hd1 : am_Do true 18 73 [.ref 1, .int (a)] am_h0 (some (.int 0), am_h0) := by
      refine am_Do.of (r := am_r73) (y := (17, [some (.ref 1), some (.int (a))], [.int 0], am_h0, 0, 0)) rfl rfl ?_ rfl rfl rfl
      refine am_Go.bl 2 (y := (bif am_cmp .lt (a) 0 then 16 else 4, [some (.ref 1), some (.int (a))], [], am_h0, 0, 0)) (fun _ => rfl) ?_
      refine am_Go.brT hb1 ?_
      refine am_Go.bl 1 (y := (17, [some (.ref 1), some (.int (a))], [.int 0], am_h0, 0, 0)) (fun _ => rfl) ?_
      exact am_Go.rf
    have hd2 : am_Do true 19 130 [.ref 0, .int (a), .int (b), .int (c)] am_h0 (some (.int (-100)), am_h0) := by
      refine am_Do.of (r := am_r130) (y := (36, [some (.ref 0), some (.int (a)), some (.int (b)), some (.int (c))], [.int (-100)], am_h0, 0, 0)) rfl rfl ?_ rfl rfl rfl
      refine am_Go.bl 3 (y := (5, [some (.ref 0), some (.int (a)), some (.int (b)), some (.int (c))], [.int (a), .ref 1], am_h0, 0, 0)) (fun _ => rfl) ?_
      refine am_Go.cV hd1 rfl rfl rfl rfl rfl rfl rfl ?_
      refine am_Go.bl 2 (y := (36, [some (.ref 0), some (.int (a)), some (.int (b)), some (.int (c))], [.int (-100)], am_h0, 0, 0)) (fun _ => rfl) ?_
      exact am_Go.rf
    have hb2 : am_cmp .lt (a) 0 = true := (am_clt_t (k := (0)) rfl).mpr (by omega)
    have hd3 : am_Do true 18 169 [.int (a), .int 0, .int (-1)] am_h0 (some (.int 0), am_h0) := by
      refine am_Do.of (r := am_r169) (y := (15, [some (.int (a)), some (.int 0), some (.int (-1))], [.int 0], am_h0, 0, 0)) rfl rfl ?_ rfl rfl rfl
      refine am_Go.bl 3 (y := (bif am_cmp .lt (a) 0 then 14 else 5, [some (.int (a)), some (.int 0), some (.int (-1))], [], am_h0, 0, 0)) (fun _ => rfl) ?_
      refine am_Go.brT hb2 ?_
      refine am_Go.bl 1 (y := (15, [some (.int (a)), some (.int 0), some (.int (-1))], [.int 0], am_h0, 0, 0)) (fun _ => rfl) ?_
      exact am_Go.rf
    have hd4 : am_Do true 19 179 [.ref 64, .int (a), .int (b), .int (c)] am_h0 (some (.int (-100)), am_h0) := by
      refine am_Do.of (r := am_r179) (y := (41, [some (.ref 64), some (.int (a)), some (.int (b)), some (.int (c)), none], [.int (-100)], am_h0, 0, 0)) rfl rfl ?_ rfl rfl rfl
      refine am_Go.bl 6 (y := (8, [some (.ref 64), some (.int (a)), some (.int (b)), some (.int (c)), none], [.int (-1), .int 0, .int (a)], am_h0, 0, 0)) (fun _ => rfl) ?_
      refine am_Go.cS hd3 rfl rfl rfl rfl rfl rfl ?_
      refine am_Go.bl 2 (y := (41, [some (.ref 64), some (.int (a)), some (.int (b)), some (.int (c)), none], [.int (-100)], am_h0, 0, 0)) (fun _ => rfl) ?_
      exact am_Go.rf
    exact ⟨_, _, _, hd2, ⟨_, rfl⟩, rfl, hd4, rfl⟩
set_option maxHeartbeats 20000000 in
set_option maxRecDepth 100000 in
theorem am_p_verse (a b c e : Int32) : am_PairOK 131 182 [.int a, .int b, .int c, .int e] := by
  have hd1 : am_Do true 17 37 [.ref 24] am_h0 (some (.int (-1)), am_h0) := by
    refine am_Do.of (r := am_r37) (y := (44, [some (.ref 24), some (.int (-1)), some (.int 0)], [.int (-1)], am_h0, 0, 0)) rfl rfl ?_ rfl rfl rfl
    refine am_Go.bl 9 (y := (44, [some (.ref 24), some (.int (-1)), some (.int 0)], [.int (-1)], am_h0, 0, 0)) (fun _ => rfl) ?_
    exact am_Go.rf
  have hd2 : am_Do true 18 123 [.ref 0] am_h0 (some (.int (-1)), am_h0) := by
    refine am_Do.of (r := am_r123) (y := (28, [some (.ref 0)], [.int (-1)], am_h0, 0, 0)) rfl rfl ?_ rfl rfl rfl
    refine am_Go.bl 9 (y := (25, [some (.ref 0)], [.ref 24], am_h0, 0, 0)) (fun _ => rfl) ?_
    refine am_Go.cV hd1 rfl rfl rfl rfl rfl rfl rfl ?_
    exact am_Go.rf
  have hd3 : am_Do true 19 131 [.ref 0, .int (a), .int (b), .int (c), .int (e)] am_h0 (some (.int (-1)), am_h0) := by
    refine am_Do.of (r := am_r131) (y := (34, [some (.ref 0), some (.int (a)), some (.int (b)), some (.int (c)), some (.int (e)), some (.int (-1)), none], [.int (-1)], am_h0, 0, 0)) rfl rfl ?_ rfl rfl rfl
    refine am_Go.bl 1 (y := (1, [some (.ref 0), some (.int (a)), some (.int (b)), some (.int (c)), some (.int (e)), none, none], [.ref 0], am_h0, 0, 0)) (fun _ => rfl) ?_
    refine am_Go.cV hd2 rfl rfl rfl rfl rfl rfl rfl ?_
    refine am_Go.bl 5 (y := (34, [some (.ref 0), some (.int (a)), some (.int (b)), some (.int (c)), some (.int (e)), some (.int (-1)), none], [.int (-1)], am_h0, 0, 0)) (fun _ => rfl) ?_
    exact am_Go.rf
  have hd4 : am_Do true 18 170 [.ref 64] am_h0 (some (.int (-1)), am_h0) := by
    refine am_Do.of (r := am_r170) (y := (92, [some (.ref 64), some (.int (-1)), some (.int 0)], [.int (-1)], am_h0, 0, 0)) rfl rfl ?_ rfl rfl rfl
    refine am_Go.bl 10 (y := (18, [some (.ref 64), some (.int (-1)), some (.int 0)], [.int 0], am_h0, 0, 0)) (fun _ => rfl) ?_
    refine am_Go.bl 4 (y := (92, [some (.ref 64), some (.int (-1)), some (.int 0)], [.int (-1)], am_h0, 0, 0)) (fun _ => rfl) ?_
    exact am_Go.rf
  have hd5 : am_Do true 19 182 [.ref 64, .int (a), .int (b), .int (c), .int (e)] am_h0 (some (.int (-1)), am_h0) := by
    refine am_Do.of (r := am_r182) (y := (34, [some (.ref 64), some (.int (a)), some (.int (b)), some (.int (c)), some (.int (e)), some (.int (-1)), none, none], [.int (-1)], am_h0, 0, 0)) rfl rfl ?_ rfl rfl rfl
    refine am_Go.bl 1 (y := (1, [some (.ref 64), some (.int (a)), some (.int (b)), some (.int (c)), some (.int (e)), none, none, none], [.ref 64], am_h0, 0, 0)) (fun _ => rfl) ?_
    refine am_Go.cV hd4 rfl rfl rfl rfl rfl rfl rfl ?_
    refine am_Go.bl 5 (y := (34, [some (.ref 64), some (.int (a)), some (.int (b)), some (.int (c)), some (.int (e)), some (.int (-1)), none, none], [.int (-1)], am_h0, 0, 0)) (fun _ => rfl) ?_
    exact am_Go.rf
  exact ⟨_, _, _, hd3, ⟨_, rfl⟩, rfl, hd5, rfl⟩
set_option maxHeartbeats 20000000 in
set_option maxRecDepth 100000 in
theorem am_p_type (a : Int32) : am_PairOK 137 197 [.int a] := by
  cases hb1 : am_cmp .lt (a) 0 with
  | false =>
    cases hb2 : am_cmp .ge (a) 1 with
    | false =>
      have hf1 := (am_clt_f (y := 0) (k := (0)) rfl).mp hb1
      have hf2 := (am_cge_f (y := 1) (k := (1)) rfl).mp hb2
      have hd1 : am_Do true 18 72 [.ref 1, .int (a)] am_h0 (some (.int 1), am_h0) := by
        refine am_Do.of (r := am_r72) (y := (19, [some (.ref 1), some (.int (a))], [.int 1], am_h0, 0, 0)) rfl rfl ?_ rfl rfl rfl
        refine am_Go.bl 2 (y := (bif am_cmp .lt (a) 0 then 18 else 4, [some (.ref 1), some (.int (a))], [], am_h0, 0, 0)) (fun _ => rfl) ?_
        refine am_Go.brF hb1 ?_
        refine am_Go.bl 6 (y := (bif am_cmp .ge (a) 1 then 18 else 14, [some (.ref 1), some (.int (a))], [], am_h0, 0, 0)) (fun _ => rfl) ?_
        refine am_Go.brF hb2 ?_
        refine am_Go.bl 2 (y := (19, [some (.ref 1), some (.int (a))], [.int 1], am_h0, 0, 0)) (fun _ => rfl) ?_
        exact am_Go.rf
      have hd2 : am_Do true 18 12 [.ref 35, .int (a)] am_h0 (some (.int 0), ((am_h0.set 36 (.inl (1, 16, .inl (upd (am_ctI am_hM 36) 0 (a))))).set 35 (.inr (2, [.ref 1, .ref 28, .ref 36, .int 1, .int 0, .ref 37, .ref 38, .ref 50, .int 0, .ref 54, .ref 39, .ref 43, .ref 47, .ref 48, .ref 49])))) := by
        refine am_Do.of (r := am_r12) (y := (65, [some (.ref 35), some (.int (a)), some (.int 0)], [.int 0], ((am_h0.set 36 (.inl (1, 16, .inl (upd (am_ctI am_hM 36) 0 (a))))).set 35 (.inr (2, [.ref 1, .ref 28, .ref 36, .int 1, .int 0, .ref 37, .ref 38, .ref 50, .int 0, .ref 54, .ref 39, .ref 43, .ref 47, .ref 48, .ref 49]))), 0, 0)) rfl rfl ?_ rfl rfl rfl
        refine am_Go.bl 10 (y := (39, [some (.ref 35), some (.int (a)), some (.int 0)], [], am_h0, 0, 0)) (fun _ => rfl) ?_
        refine am_Go.bl 10 (y := (55, [some (.ref 35), some (.int (a)), some (.int 0)], [.int 1, .int 0, .ref 35], (am_h0.set 36 (.inl (1, 16, .inl (upd (am_ctI am_hM 36) 0 (a))))), 0, 0)) (fun _ => rfl) ?_
        refine am_Go.bl 6 (y := (65, [some (.ref 35), some (.int (a)), some (.int 0)], [.int 0], ((am_h0.set 36 (.inl (1, 16, .inl (upd (am_ctI am_hM 36) 0 (a))))).set 35 (.inr (2, [.ref 1, .ref 28, .ref 36, .int 1, .int 0, .ref 37, .ref 38, .ref 50, .int 0, .ref 54, .ref 39, .ref 43, .ref 47, .ref 48, .ref 49]))), 0, 0)) (fun _ => rfl) ?_
        exact am_Go.rf
      have hd3 : am_Do true 19 137 [.ref 0, .int (a)] am_h0 (some (.int 0), ((am_h0.set 36 (.inl (1, 16, .inl (upd (am_ctI am_hM 36) 0 (a))))).set 35 (.inr (2, [.ref 1, .ref 28, .ref 36, .int 1, .int 0, .ref 37, .ref 38, .ref 50, .int 0, .ref 54, .ref 39, .ref 43, .ref 47, .ref 48, .ref 49])))) := by
        refine am_Do.of (r := am_r137) (y := (23, [some (.ref 0), some (.int (a))], [.int 0], ((am_h0.set 36 (.inl (1, 16, .inl (upd (am_ctI am_hM 36) 0 (a))))).set 35 (.inr (2, [.ref 1, .ref 28, .ref 36, .int 1, .int 0, .ref 37, .ref 38, .ref 50, .int 0, .ref 54, .ref 39, .ref 43, .ref 47, .ref 48, .ref 49]))), 0, 0)) rfl rfl ?_ rfl rfl rfl
        refine am_Go.bl 3 (y := (5, [some (.ref 0), some (.int (a))], [.int (a), .ref 1], am_h0, 0, 0)) (fun _ => rfl) ?_
        refine am_Go.cV hd1 rfl rfl rfl rfl rfl rfl rfl ?_
        refine am_Go.bl 4 (y := (16, [some (.ref 0), some (.int (a))], [.int (a), .ref 35], am_h0, 0, 0)) (fun _ => rfl) ?_
        refine am_Go.cV hd2 rfl rfl rfl rfl rfl rfl rfl ?_
        refine am_Go.bl 1 (y := (23, [some (.ref 0), some (.int (a))], [.int 0], ((am_h0.set 36 (.inl (1, 16, .inl (upd (am_ctI am_hM 36) 0 (a))))).set 35 (.inr (2, [.ref 1, .ref 28, .ref 36, .int 1, .int 0, .ref 37, .ref 38, .ref 50, .int 0, .ref 54, .ref 39, .ref 43, .ref 47, .ref 48, .ref 49]))), 0, 0)) (fun _ => rfl) ?_
        exact am_Go.rf
      have hb3 : am_cmp .lt (a) 0 = false := (am_clt_f (k := (0)) rfl).mpr (by omega)
      have hb4 : am_cmp .gt (a) 0 = false := (am_cgt_f (k := (0)) rfl).mpr (by omega)
      have hd4 : am_Do true 17 169 [.int (a), .int 0, .int 0] ((am_h0.set 36 (.inl (1, 16, .inl (upd (am_ctI am_hM 36) 0 (a))))).set 35 (.inr (2, [.ref 1, .ref 28, .ref 36, .int 1, .int 0, .ref 37, .ref 38, .ref 50, .int 0, .ref 54, .ref 39, .ref 43, .ref 47, .ref 48, .ref 49]))) (some (.int 1), ((am_h0.set 36 (.inl (1, 16, .inl (upd (am_ctI am_hM 36) 0 (a))))).set 35 (.inr (2, [.ref 1, .ref 28, .ref 36, .int 1, .int 0, .ref 37, .ref 38, .ref 50, .int 0, .ref 54, .ref 39, .ref 43, .ref 47, .ref 48, .ref 49])))) := by
        refine am_Do.of (r := am_r169) (y := (15, [some (.int (a)), some (.int 0), some (.int 0)], [.int 1], ((am_h0.set 36 (.inl (1, 16, .inl (upd (am_ctI am_hM 36) 0 (a))))).set 35 (.inr (2, [.ref 1, .ref 28, .ref 36, .int 1, .int 0, .ref 37, .ref 38, .ref 50, .int 0, .ref 54, .ref 39, .ref 43, .ref 47, .ref 48, .ref 49]))), 0, 0)) rfl rfl ?_ rfl rfl rfl
        refine am_Go.bl 3 (y := (bif am_cmp .lt (a) 0 then 14 else 5, [some (.int (a)), some (.int 0), some (.int 0)], [], ((am_h0.set 36 (.inl (1, 16, .inl (upd (am_ctI am_hM 36) 0 (a))))).set 35 (.inr (2, [.ref 1, .ref 28, .ref 36, .int 1, .int 0, .ref 37, .ref 38, .ref 50, .int 0, .ref 54, .ref 39, .ref 43, .ref 47, .ref 48, .ref 49]))), 0, 0)) (fun _ => rfl) ?_
        refine am_Go.brF hb3 ?_
        refine am_Go.bl 3 (y := (bif am_cmp .gt (a) 0 then 14 else 10, [some (.int (a)), some (.int 0), some (.int 0)], [], ((am_h0.set 36 (.inl (1, 16, .inl (upd (am_ctI am_hM 36) 0 (a))))).set 35 (.inr (2, [.ref 1, .ref 28, .ref 36, .int 1, .int 0, .ref 37, .ref 38, .ref 50, .int 0, .ref 54, .ref 39, .ref 43, .ref 47, .ref 48, .ref 49]))), 0, 0)) (fun _ => rfl) ?_
        refine am_Go.brF hb4 ?_
        refine am_Go.bl 2 (y := (15, [some (.int (a)), some (.int 0), some (.int 0)], [.int 1], ((am_h0.set 36 (.inl (1, 16, .inl (upd (am_ctI am_hM 36) 0 (a))))).set 35 (.inr (2, [.ref 1, .ref 28, .ref 36, .int 1, .int 0, .ref 37, .ref 38, .ref 50, .int 0, .ref 54, .ref 39, .ref 43, .ref 47, .ref 48, .ref 49]))), 0, 0)) (fun _ => rfl) ?_
        exact am_Go.rf
      have hd5 : am_Do true 18 176 [.ref 64, .int (a)] ((am_h0.set 36 (.inl (1, 16, .inl (upd (am_ctI am_hM 36) 0 (a))))).set 35 (.inr (2, [.ref 1, .ref 28, .ref 36, .int 1, .int 0, .ref 37, .ref 38, .ref 50, .int 0, .ref 54, .ref 39, .ref 43, .ref 47, .ref 48, .ref 49]))) (some (.int 1), ((am_h0.set 36 (.inl (1, 16, .inl (upd (am_ctI am_hM 36) 0 (a))))).set 35 (.inr (2, [.ref 1, .ref 28, .ref 36, .int 1, .int 0, .ref 37, .ref 38, .ref 50, .int 0, .ref 54, .ref 39, .ref 43, .ref 47, .ref 48, .ref 49])))) := by
        refine am_Do.of (r := am_r176) (y := (13, [some (.ref 64), some (.int (a))], [.int 1], ((am_h0.set 36 (.inl (1, 16, .inl (upd (am_ctI am_hM 36) 0 (a))))).set 35 (.inr (2, [.ref 1, .ref 28, .ref 36, .int 1, .int 0, .ref 37, .ref 38, .ref 50, .int 0, .ref 54, .ref 39, .ref 43, .ref 47, .ref 48, .ref 49]))), 0, 0)) rfl rfl ?_ rfl rfl rfl
        refine am_Go.bl 8 (y := (10, [some (.ref 64), some (.int (a))], [.int 0, .int 0, .int (a)], ((am_h0.set 36 (.inl (1, 16, .inl (upd (am_ctI am_hM 36) 0 (a))))).set 35 (.inr (2, [.ref 1, .ref 28, .ref 36, .int 1, .int 0, .ref 37, .ref 38, .ref 50, .int 0, .ref 54, .ref 39, .ref 43, .ref 47, .ref 48, .ref 49]))), 0, 0)) (fun _ => rfl) ?_
        refine am_Go.cS hd4 rfl rfl rfl rfl rfl rfl ?_
        exact am_Go.rf
      have hd6 : am_Do true 19 197 [.ref 64, .int (a)] ((am_h0.set 36 (.inl (1, 16, .inl (upd (am_ctI am_hM 36) 0 (a))))).set 35 (.inr (2, [.ref 1, .ref 28, .ref 36, .int 1, .int 0, .ref 37, .ref 38, .ref 50, .int 0, .ref 54, .ref 39, .ref 43, .ref 47, .ref 48, .ref 49]))) (some (.int 0), ((((am_h0.set 36 (.inl (1, 16, .inl (upd (am_ctI am_hM 36) 0 (a))))).set 35 (.inr (2, [.ref 1, .ref 28, .ref 36, .int 1, .int 0, .ref 37, .ref 38, .ref 50, .int 0, .ref 54, .ref 39, .ref 43, .ref 47, .ref 48, .ref 49]))).set 88 (.inl (1, 16, .inl (upd (am_ctI am_hM 88) 0 (a))))).set 64 (.inr (12, [.int 0, .ref 65, .int 0, .int 0, .int 0, .int 0, .int 0, .int 0, .long 0, .int 0, .int 0, .int 0, .int 0, .int 0, .ref 66, .ref 67, .int 0, .ref 68, .ref 69, .ref 70, .ref 71, .int 0, .int 0, .int 0, .int 36, .int 99, .ref 72, .ref 73, .ref 74, .ref 75, .int 0, .ref 76, .ref 77, .int 0, .int 0, .ref 78, .ref 79, .ref 80, .ref 81, .ref 82, .int 0, .ref 83, .ref 84, .ref 85, .ref 86, .ref 87, .int 1, .ref 88, .ref 89, .ref 90, .ref 91, .ref 92, .ref 93, .ref 94, .ref 95, .int 0, .int 0, .int 0, .int 0, .ref 96, .int 0, .int 0, .ref 97, .ref 98, .ref 99])))) := by
        refine am_Do.of (r := am_r197) (y := (73, [some (.ref 64), some (.int (a)), some (.int 0)], [.int 0], ((((am_h0.set 36 (.inl (1, 16, .inl (upd (am_ctI am_hM 36) 0 (a))))).set 35 (.inr (2, [.ref 1, .ref 28, .ref 36, .int 1, .int 0, .ref 37, .ref 38, .ref 50, .int 0, .ref 54, .ref 39, .ref 43, .ref 47, .ref 48, .ref 49]))).set 88 (.inl (1, 16, .inl (upd (am_ctI am_hM 88) 0 (a))))).set 64 (.inr (12, [.int 0, .ref 65, .int 0, .int 0, .int 0, .int 0, .int 0, .int 0, .long 0, .int 0, .int 0, .int 0, .int 0, .int 0, .ref 66, .ref 67, .int 0, .ref 68, .ref 69, .ref 70, .ref 71, .int 0, .int 0, .int 0, .int 36, .int 99, .ref 72, .ref 73, .ref 74, .ref 75, .int 0, .ref 76, .ref 77, .int 0, .int 0, .ref 78, .ref 79, .ref 80, .ref 81, .ref 82, .int 0, .ref 83, .ref 84, .ref 85, .ref 86, .ref 87, .int 1, .ref 88, .ref 89, .ref 90, .ref 91, .ref 92, .ref 93, .ref 94, .ref 95, .int 0, .int 0, .int 0, .int 0, .ref 96, .int 0, .int 0, .ref 97, .ref 98, .ref 99]))), 0, 0)) rfl rfl ?_ rfl rfl rfl
        refine am_Go.bl 2 (y := (2, [some (.ref 64), some (.int (a)), none], [.int (a), .ref 64], ((am_h0.set 36 (.inl (1, 16, .inl (upd (am_ctI am_hM 36) 0 (a))))).set 35 (.inr (2, [.ref 1, .ref 28, .ref 36, .int 1, .int 0, .ref 37, .ref 38, .ref 50, .int 0, .ref 54, .ref 39, .ref 43, .ref 47, .ref 48, .ref 49]))), 0, 0)) (fun _ => rfl) ?_
        refine am_Go.cV hd5 rfl rfl rfl rfl rfl rfl rfl ?_
        refine am_Go.bl 10 (y := (26, [some (.ref 64), some (.int (a)), some (.int 0)], [.int 0, .int 0], ((am_h0.set 36 (.inl (1, 16, .inl (upd (am_ctI am_hM 36) 0 (a))))).set 35 (.inr (2, [.ref 1, .ref 28, .ref 36, .int 1, .int 0, .ref 37, .ref 38, .ref 50, .int 0, .ref 54, .ref 39, .ref 43, .ref 47, .ref 48, .ref 49]))), 0, 0)) (fun _ => rfl) ?_
        refine am_Go.bl 10 (y := (62, [some (.ref 64), some (.int (a)), some (.int 0)], [.int 0, .ref 64], (((am_h0.set 36 (.inl (1, 16, .inl (upd (am_ctI am_hM 36) 0 (a))))).set 35 (.inr (2, [.ref 1, .ref 28, .ref 36, .int 1, .int 0, .ref 37, .ref 38, .ref 50, .int 0, .ref 54, .ref 39, .ref 43, .ref 47, .ref 48, .ref 49]))).set 88 (.inl (1, 16, .inl (upd (am_ctI am_hM 88) 0 (a))))), 0, 0)) (fun _ => rfl) ?_
        refine am_Go.bl 7 (y := (73, [some (.ref 64), some (.int (a)), some (.int 0)], [.int 0], ((((am_h0.set 36 (.inl (1, 16, .inl (upd (am_ctI am_hM 36) 0 (a))))).set 35 (.inr (2, [.ref 1, .ref 28, .ref 36, .int 1, .int 0, .ref 37, .ref 38, .ref 50, .int 0, .ref 54, .ref 39, .ref 43, .ref 47, .ref 48, .ref 49]))).set 88 (.inl (1, 16, .inl (upd (am_ctI am_hM 88) 0 (a))))).set 64 (.inr (12, [.int 0, .ref 65, .int 0, .int 0, .int 0, .int 0, .int 0, .int 0, .long 0, .int 0, .int 0, .int 0, .int 0, .int 0, .ref 66, .ref 67, .int 0, .ref 68, .ref 69, .ref 70, .ref 71, .int 0, .int 0, .int 0, .int 36, .int 99, .ref 72, .ref 73, .ref 74, .ref 75, .int 0, .ref 76, .ref 77, .int 0, .int 0, .ref 78, .ref 79, .ref 80, .ref 81, .ref 82, .int 0, .ref 83, .ref 84, .ref 85, .ref 86, .ref 87, .int 1, .ref 88, .ref 89, .ref 90, .ref 91, .ref 92, .ref 93, .ref 94, .ref 95, .int 0, .int 0, .int 0, .int 0, .ref 96, .int 0, .int 0, .ref 97, .ref 98, .ref 99]))), 0, 0)) (fun _ => rfl) ?_
        exact am_Go.rf
      exact ⟨_, _, _, hd3, ⟨_, rfl⟩, rfl, hd6, rfl⟩
    | true =>
      have hf1 := (am_clt_f (y := 0) (k := (0)) rfl).mp hb1
      have hf2 := (am_cge_t (y := 1) (k := (1)) rfl).mp hb2
      have hd1 : am_Do true 18 72 [.ref 1, .int (a)] am_h0 (some (.int 0), am_h0) := by
        refine am_Do.of (r := am_r72) (y := (19, [some (.ref 1), some (.int (a))], [.int 0], am_h0, 0, 0)) rfl rfl ?_ rfl rfl rfl
        refine am_Go.bl 2 (y := (bif am_cmp .lt (a) 0 then 18 else 4, [some (.ref 1), some (.int (a))], [], am_h0, 0, 0)) (fun _ => rfl) ?_
        refine am_Go.brF hb1 ?_
        refine am_Go.bl 6 (y := (bif am_cmp .ge (a) 1 then 18 else 14, [some (.ref 1), some (.int (a))], [], am_h0, 0, 0)) (fun _ => rfl) ?_
        refine am_Go.brT hb2 ?_
        refine am_Go.bl 1 (y := (19, [some (.ref 1), some (.int (a))], [.int 0], am_h0, 0, 0)) (fun _ => rfl) ?_
        exact am_Go.rf
      have hd2 : am_Do true 19 137 [.ref 0, .int (a)] am_h0 (some (.int (-1)), am_h0) := by
        refine am_Do.of (r := am_r137) (y := (23, [some (.ref 0), some (.int (a))], [.int (-1)], am_h0, 0, 0)) rfl rfl ?_ rfl rfl rfl
        refine am_Go.bl 3 (y := (5, [some (.ref 0), some (.int (a))], [.int (a), .ref 1], am_h0, 0, 0)) (fun _ => rfl) ?_
        refine am_Go.cV hd1 rfl rfl rfl rfl rfl rfl rfl ?_
        refine am_Go.bl 2 (y := (23, [some (.ref 0), some (.int (a))], [.int (-1)], am_h0, 0, 0)) (fun _ => rfl) ?_
        exact am_Go.rf
      have hb3 : am_cmp .lt (a) 0 = false := (am_clt_f (k := (0)) rfl).mpr (by omega)
      have hb4 : am_cmp .gt (a) 0 = true := (am_cgt_t (k := (0)) rfl).mpr (by omega)
      have hd3 : am_Do true 17 169 [.int (a), .int 0, .int 0] am_h0 (some (.int 0), am_h0) := by
        refine am_Do.of (r := am_r169) (y := (15, [some (.int (a)), some (.int 0), some (.int 0)], [.int 0], am_h0, 0, 0)) rfl rfl ?_ rfl rfl rfl
        refine am_Go.bl 3 (y := (bif am_cmp .lt (a) 0 then 14 else 5, [some (.int (a)), some (.int 0), some (.int 0)], [], am_h0, 0, 0)) (fun _ => rfl) ?_
        refine am_Go.brF hb3 ?_
        refine am_Go.bl 3 (y := (bif am_cmp .gt (a) 0 then 14 else 10, [some (.int (a)), some (.int 0), some (.int 0)], [], am_h0, 0, 0)) (fun _ => rfl) ?_
        refine am_Go.brT hb4 ?_
        refine am_Go.bl 1 (y := (15, [some (.int (a)), some (.int 0), some (.int 0)], [.int 0], am_h0, 0, 0)) (fun _ => rfl) ?_
        exact am_Go.rf
      have hd4 : am_Do true 18 176 [.ref 64, .int (a)] am_h0 (some (.int 0), am_h0) := by
        refine am_Do.of (r := am_r176) (y := (13, [some (.ref 64), some (.int (a))], [.int 0], am_h0, 0, 0)) rfl rfl ?_ rfl rfl rfl
        refine am_Go.bl 8 (y := (10, [some (.ref 64), some (.int (a))], [.int 0, .int 0, .int (a)], am_h0, 0, 0)) (fun _ => rfl) ?_
        refine am_Go.cS hd3 rfl rfl rfl rfl rfl rfl ?_
        exact am_Go.rf
      have hd5 : am_Do true 19 197 [.ref 64, .int (a)] am_h0 (some (.int (-1)), am_h0) := by
        refine am_Do.of (r := am_r197) (y := (18, [some (.ref 64), some (.int (a)), none], [.int (-1)], am_h0, 0, 0)) rfl rfl ?_ rfl rfl rfl
        refine am_Go.bl 2 (y := (2, [some (.ref 64), some (.int (a)), none], [.int (a), .ref 64], am_h0, 0, 0)) (fun _ => rfl) ?_
        refine am_Go.cV hd4 rfl rfl rfl rfl rfl rfl rfl ?_
        refine am_Go.bl 2 (y := (18, [some (.ref 64), some (.int (a)), none], [.int (-1)], am_h0, 0, 0)) (fun _ => rfl) ?_
        exact am_Go.rf
      exact ⟨_, _, _, hd2, ⟨_, rfl⟩, rfl, hd5, rfl⟩
  | true =>
    have hf1 := (am_clt_t (y := 0) (k := (0)) rfl).mp hb1
    have hd1 : am_Do true 18 72 [.ref 1, .int (a)] am_h0 (some (.int 0), am_h0) := by
      refine am_Do.of (r := am_r72) (y := (19, [some (.ref 1), some (.int (a))], [.int 0], am_h0, 0, 0)) rfl rfl ?_ rfl rfl rfl
      refine am_Go.bl 2 (y := (bif am_cmp .lt (a) 0 then 18 else 4, [some (.ref 1), some (.int (a))], [], am_h0, 0, 0)) (fun _ => rfl) ?_
      refine am_Go.brT hb1 ?_
      refine am_Go.bl 1 (y := (19, [some (.ref 1), some (.int (a))], [.int 0], am_h0, 0, 0)) (fun _ => rfl) ?_
      exact am_Go.rf
    have hd2 : am_Do true 19 137 [.ref 0, .int (a)] am_h0 (some (.int (-1)), am_h0) := by
      refine am_Do.of (r := am_r137) (y := (23, [some (.ref 0), some (.int (a))], [.int (-1)], am_h0, 0, 0)) rfl rfl ?_ rfl rfl rfl
      refine am_Go.bl 3 (y := (5, [some (.ref 0), some (.int (a))], [.int (a), .ref 1], am_h0, 0, 0)) (fun _ => rfl) ?_
      refine am_Go.cV hd1 rfl rfl rfl rfl rfl rfl rfl ?_
      refine am_Go.bl 2 (y := (23, [some (.ref 0), some (.int (a))], [.int (-1)], am_h0, 0, 0)) (fun _ => rfl) ?_
      exact am_Go.rf
    have hb2 : am_cmp .lt (a) 0 = true := (am_clt_t (k := (0)) rfl).mpr (by omega)
    have hd3 : am_Do true 17 169 [.int (a), .int 0, .int 0] am_h0 (some (.int 0), am_h0) := by
      refine am_Do.of (r := am_r169) (y := (15, [some (.int (a)), some (.int 0), some (.int 0)], [.int 0], am_h0, 0, 0)) rfl rfl ?_ rfl rfl rfl
      refine am_Go.bl 3 (y := (bif am_cmp .lt (a) 0 then 14 else 5, [some (.int (a)), some (.int 0), some (.int 0)], [], am_h0, 0, 0)) (fun _ => rfl) ?_
      refine am_Go.brT hb2 ?_
      refine am_Go.bl 1 (y := (15, [some (.int (a)), some (.int 0), some (.int 0)], [.int 0], am_h0, 0, 0)) (fun _ => rfl) ?_
      exact am_Go.rf
    have hd4 : am_Do true 18 176 [.ref 64, .int (a)] am_h0 (some (.int 0), am_h0) := by
      refine am_Do.of (r := am_r176) (y := (13, [some (.ref 64), some (.int (a))], [.int 0], am_h0, 0, 0)) rfl rfl ?_ rfl rfl rfl
      refine am_Go.bl 8 (y := (10, [some (.ref 64), some (.int (a))], [.int 0, .int 0, .int (a)], am_h0, 0, 0)) (fun _ => rfl) ?_
      refine am_Go.cS hd3 rfl rfl rfl rfl rfl rfl ?_
      exact am_Go.rf
    have hd5 : am_Do true 19 197 [.ref 64, .int (a)] am_h0 (some (.int (-1)), am_h0) := by
      refine am_Do.of (r := am_r197) (y := (18, [some (.ref 64), some (.int (a)), none], [.int (-1)], am_h0, 0, 0)) rfl rfl ?_ rfl rfl rfl
      refine am_Go.bl 2 (y := (2, [some (.ref 64), some (.int (a)), none], [.int (a), .ref 64], am_h0, 0, 0)) (fun _ => rfl) ?_
      refine am_Go.cV hd4 rfl rfl rfl rfl rfl rfl rfl ?_
      refine am_Go.bl 2 (y := (18, [some (.ref 64), some (.int (a)), none], [.int (-1)], am_h0, 0, 0)) (fun _ => rfl) ?_
      exact am_Go.rf
    exact ⟨_, _, _, hd2, ⟨_, rfl⟩, rfl, hd5, rfl⟩
set_option maxHeartbeats 20000000 in
set_option maxRecDepth 100000 in
theorem am_p_full (a : Int32) : am_PairOK 139 203 [.int a] := by
  cases hb1 : am_cmp .lt (a) 1 with
  | false =>
    cases hb2 : am_cmp .le (a) 48 with
    | false =>
      have hf1 := (am_clt_f (y := 1) (k := (1)) rfl).mp hb1
      have hf2 := (am_cle_f (y := 48) (k := (48)) rfl).mp hb2
      have hd1 : am_Do true 19 139 [.ref 0, .int (a)] am_h0 (some (.int (-1)), am_h0) := by
        refine am_Do.of (r := am_r139) (y := (24, [some (.ref 0), some (.int (a))], [.int (-1)], am_h0, 0, 0)) rfl rfl ?_ rfl rfl rfl
        refine am_Go.bl 3 (y := (bif am_cmp .lt (a) 1 then 11 else 5, [some (.ref 0), some (.int (a))], [], am_h0, 0, 0)) (fun _ => rfl) ?_
        refine am_Go.brF hb1 ?_
        refine am_Go.bl 3 (y := (bif am_cmp .le (a) 48 then 15 else 11, [some (.ref 0), some (.int (a))], [], am_h0, 0, 0)) (fun _ => rfl) ?_
        refine am_Go.brF hb2 ?_
        refine am_Go.bl 2 (y := (24, [some (.ref 0), some (.int (a))], [.int (-1)], am_h0, 0, 0)) (fun _ => rfl) ?_
        exact am_Go.rf
      have hd2 : am_Do true 18 204 [.ref 64, .int (a)] am_h0 (some (.int 0), am_h0) := by
        refine am_Do.of (r := am_r204) (y := (35, [some (.ref 64), some (.int (a))], [.int 0], am_h0, 0, 0)) rfl rfl ?_ rfl rfl rfl
        refine am_Go.bl 4 (y := (35, [some (.ref 64), some (.int (a))], [.int 0], am_h0, 0, 0)) (fun _ => rfl) ?_
        exact am_Go.rf
      have hd3 : am_Do true 19 203 [.ref 64, .int (a)] am_h0 (some (.int (-1)), am_h0) := by
        refine am_Do.of (r := am_r203) (y := (20, [some (.ref 64), some (.int (a))], [.int (-1)], am_h0, 0, 0)) rfl rfl ?_ rfl rfl rfl
        refine am_Go.bl 2 (y := (2, [some (.ref 64), some (.int (a))], [.int (a), .ref 64], am_h0, 0, 0)) (fun _ => rfl) ?_
        refine am_Go.cV hd2 rfl rfl rfl rfl rfl rfl rfl ?_
        refine am_Go.bl 2 (y := (20, [some (.ref 64), some (.int (a))], [.int (-1)], am_h0, 0, 0)) (fun _ => rfl) ?_
        exact am_Go.rf
      exact ⟨_, _, _, hd1, ⟨_, rfl⟩, rfl, hd3, rfl⟩
    | true =>
      have hf1 := (am_clt_f (y := 1) (k := (1)) rfl).mp hb1
      have hf2 := (am_cle_t (y := 48) (k := (48)) rfl).mp hb2
      have hd1 : am_Do true 19 139 [.ref 0, .int (a)] am_h0 (some (.int (-1)), am_h0) := by
        refine am_Do.of (r := am_r139) (y := (24, [some (.ref 0), some (.int (a))], [.int (-1)], am_h0, 0, 0)) rfl rfl ?_ rfl rfl rfl
        refine am_Go.bl 3 (y := (bif am_cmp .lt (a) 1 then 11 else 5, [some (.ref 0), some (.int (a))], [], am_h0, 0, 0)) (fun _ => rfl) ?_
        refine am_Go.brF hb1 ?_
        refine am_Go.bl 3 (y := (bif am_cmp .le (a) 48 then 15 else 11, [some (.ref 0), some (.int (a))], [], am_h0, 0, 0)) (fun _ => rfl) ?_
        refine am_Go.brT hb2 ?_
        refine am_Go.bl 4 (y := (23, [some (.ref 0), some (.int (a))], [.int (a), .ref 37], am_h0, 0, 0)) (fun _ => rfl) ?_
        refine am_Go.iald (n := 49) (f := am_ctI am_hM 37) rfl rfl (am_in_of (by omega) (by omega)) ?_
        rw [show am_ctI am_hM 37 (a).toNatClampNeg = (-1) from am_f37 _ (am_lt_of (by omega) (by omega))]
        exact am_Go.rf
      have hd2 : am_Do true 18 204 [.ref 64, .int (a)] am_h0 (some (.int 0), am_h0) := by
        refine am_Do.of (r := am_r204) (y := (35, [some (.ref 64), some (.int (a))], [.int 0], am_h0, 0, 0)) rfl rfl ?_ rfl rfl rfl
        refine am_Go.bl 4 (y := (35, [some (.ref 64), some (.int (a))], [.int 0], am_h0, 0, 0)) (fun _ => rfl) ?_
        exact am_Go.rf
      have hd3 : am_Do true 19 203 [.ref 64, .int (a)] am_h0 (some (.int (-1)), am_h0) := by
        refine am_Do.of (r := am_r203) (y := (20, [some (.ref 64), some (.int (a))], [.int (-1)], am_h0, 0, 0)) rfl rfl ?_ rfl rfl rfl
        refine am_Go.bl 2 (y := (2, [some (.ref 64), some (.int (a))], [.int (a), .ref 64], am_h0, 0, 0)) (fun _ => rfl) ?_
        refine am_Go.cV hd2 rfl rfl rfl rfl rfl rfl rfl ?_
        refine am_Go.bl 2 (y := (20, [some (.ref 64), some (.int (a))], [.int (-1)], am_h0, 0, 0)) (fun _ => rfl) ?_
        exact am_Go.rf
      exact ⟨_, _, _, hd1, ⟨_, rfl⟩, rfl, hd3, rfl⟩
  | true =>
    have hf1 := (am_clt_t (y := 1) (k := (1)) rfl).mp hb1
    have hd1 : am_Do true 19 139 [.ref 0, .int (a)] am_h0 (some (.int (-1)), am_h0) := by
      refine am_Do.of (r := am_r139) (y := (24, [some (.ref 0), some (.int (a))], [.int (-1)], am_h0, 0, 0)) rfl rfl ?_ rfl rfl rfl
      refine am_Go.bl 3 (y := (bif am_cmp .lt (a) 1 then 11 else 5, [some (.ref 0), some (.int (a))], [], am_h0, 0, 0)) (fun _ => rfl) ?_
      refine am_Go.brT hb1 ?_
      refine am_Go.bl 2 (y := (24, [some (.ref 0), some (.int (a))], [.int (-1)], am_h0, 0, 0)) (fun _ => rfl) ?_
      exact am_Go.rf
    have hd2 : am_Do true 18 204 [.ref 64, .int (a)] am_h0 (some (.int 0), am_h0) := by
      refine am_Do.of (r := am_r204) (y := (35, [some (.ref 64), some (.int (a))], [.int 0], am_h0, 0, 0)) rfl rfl ?_ rfl rfl rfl
      refine am_Go.bl 4 (y := (35, [some (.ref 64), some (.int (a))], [.int 0], am_h0, 0, 0)) (fun _ => rfl) ?_
      exact am_Go.rf
    have hd3 : am_Do true 19 203 [.ref 64, .int (a)] am_h0 (some (.int (-1)), am_h0) := by
      refine am_Do.of (r := am_r203) (y := (20, [some (.ref 64), some (.int (a))], [.int (-1)], am_h0, 0, 0)) rfl rfl ?_ rfl rfl rfl
      refine am_Go.bl 2 (y := (2, [some (.ref 64), some (.int (a))], [.int (a), .ref 64], am_h0, 0, 0)) (fun _ => rfl) ?_
      refine am_Go.cV hd2 rfl rfl rfl rfl rfl rfl rfl ?_
      refine am_Go.bl 2 (y := (20, [some (.ref 64), some (.int (a))], [.int (-1)], am_h0, 0, 0)) (fun _ => rfl) ?_
      exact am_Go.rf
    exact ⟨_, _, _, hd1, ⟨_, rfl⟩, rfl, hd3, rfl⟩
set_option maxHeartbeats 20000000 in
set_option maxRecDepth 100000 in
theorem am_p_can (a : Int32) : am_PairOK 140 205 [.int a] := by
  cases hb1 : am_cmp .lt (a) 1 with
  | false =>
    cases hb2 : am_cmp .le (a) 48 with
    | false =>
      have hf1 := (am_clt_f (y := 1) (k := (1)) rfl).mp hb1
      have hf2 := (am_cle_f (y := 48) (k := (48)) rfl).mp hb2
      have hd1 : am_Do true 19 140 [.ref 0, .int (a)] am_h0 (some (.int (-1)), am_h0) := by
        refine am_Do.of (r := am_r140) (y := (24, [some (.ref 0), some (.int (a))], [.int (-1)], am_h0, 0, 0)) rfl rfl ?_ rfl rfl rfl
        refine am_Go.bl 3 (y := (bif am_cmp .lt (a) 1 then 11 else 5, [some (.ref 0), some (.int (a))], [], am_h0, 0, 0)) (fun _ => rfl) ?_
        refine am_Go.brF hb1 ?_
        refine am_Go.bl 3 (y := (bif am_cmp .le (a) 48 then 15 else 11, [some (.ref 0), some (.int (a))], [], am_h0, 0, 0)) (fun _ => rfl) ?_
        refine am_Go.brF hb2 ?_
        refine am_Go.bl 2 (y := (24, [some (.ref 0), some (.int (a))], [.int (-1)], am_h0, 0, 0)) (fun _ => rfl) ?_
        exact am_Go.rf
      have hd2 : am_Do true 18 204 [.ref 64, .int (a)] am_h0 (some (.int 0), am_h0) := by
        refine am_Do.of (r := am_r204) (y := (35, [some (.ref 64), some (.int (a))], [.int 0], am_h0, 0, 0)) rfl rfl ?_ rfl rfl rfl
        refine am_Go.bl 4 (y := (35, [some (.ref 64), some (.int (a))], [.int 0], am_h0, 0, 0)) (fun _ => rfl) ?_
        exact am_Go.rf
      have hd3 : am_Do true 19 205 [.ref 64, .int (a)] am_h0 (some (.int (-1)), am_h0) := by
        refine am_Do.of (r := am_r205) (y := (20, [some (.ref 64), some (.int (a))], [.int (-1)], am_h0, 0, 0)) rfl rfl ?_ rfl rfl rfl
        refine am_Go.bl 2 (y := (2, [some (.ref 64), some (.int (a))], [.int (a), .ref 64], am_h0, 0, 0)) (fun _ => rfl) ?_
        refine am_Go.cV hd2 rfl rfl rfl rfl rfl rfl rfl ?_
        refine am_Go.bl 2 (y := (20, [some (.ref 64), some (.int (a))], [.int (-1)], am_h0, 0, 0)) (fun _ => rfl) ?_
        exact am_Go.rf
      exact ⟨_, _, _, hd1, ⟨_, rfl⟩, rfl, hd3, rfl⟩
    | true =>
      have hf1 := (am_clt_f (y := 1) (k := (1)) rfl).mp hb1
      have hf2 := (am_cle_t (y := 48) (k := (48)) rfl).mp hb2
      have hd1 : am_Do true 19 140 [.ref 0, .int (a)] am_h0 (some (.int (-1)), am_h0) := by
        refine am_Do.of (r := am_r140) (y := (24, [some (.ref 0), some (.int (a))], [.int (-1)], am_h0, 0, 0)) rfl rfl ?_ rfl rfl rfl
        refine am_Go.bl 3 (y := (bif am_cmp .lt (a) 1 then 11 else 5, [some (.ref 0), some (.int (a))], [], am_h0, 0, 0)) (fun _ => rfl) ?_
        refine am_Go.brF hb1 ?_
        refine am_Go.bl 3 (y := (bif am_cmp .le (a) 48 then 15 else 11, [some (.ref 0), some (.int (a))], [], am_h0, 0, 0)) (fun _ => rfl) ?_
        refine am_Go.brT hb2 ?_
        refine am_Go.bl 4 (y := (23, [some (.ref 0), some (.int (a))], [.int (a), .ref 38], am_h0, 0, 0)) (fun _ => rfl) ?_
        refine am_Go.iald (n := 49) (f := am_ctI am_hM 38) rfl rfl (am_in_of (by omega) (by omega)) ?_
        rw [show am_ctI am_hM 38 (a).toNatClampNeg = (-1) from am_f38 _ (am_lt_of (by omega) (by omega))]
        exact am_Go.rf
      have hd2 : am_Do true 18 204 [.ref 64, .int (a)] am_h0 (some (.int 0), am_h0) := by
        refine am_Do.of (r := am_r204) (y := (35, [some (.ref 64), some (.int (a))], [.int 0], am_h0, 0, 0)) rfl rfl ?_ rfl rfl rfl
        refine am_Go.bl 4 (y := (35, [some (.ref 64), some (.int (a))], [.int 0], am_h0, 0, 0)) (fun _ => rfl) ?_
        exact am_Go.rf
      have hd3 : am_Do true 19 205 [.ref 64, .int (a)] am_h0 (some (.int (-1)), am_h0) := by
        refine am_Do.of (r := am_r205) (y := (20, [some (.ref 64), some (.int (a))], [.int (-1)], am_h0, 0, 0)) rfl rfl ?_ rfl rfl rfl
        refine am_Go.bl 2 (y := (2, [some (.ref 64), some (.int (a))], [.int (a), .ref 64], am_h0, 0, 0)) (fun _ => rfl) ?_
        refine am_Go.cV hd2 rfl rfl rfl rfl rfl rfl rfl ?_
        refine am_Go.bl 2 (y := (20, [some (.ref 64), some (.int (a))], [.int (-1)], am_h0, 0, 0)) (fun _ => rfl) ?_
        exact am_Go.rf
      exact ⟨_, _, _, hd1, ⟨_, rfl⟩, rfl, hd3, rfl⟩
  | true =>
    have hf1 := (am_clt_t (y := 1) (k := (1)) rfl).mp hb1
    have hd1 : am_Do true 19 140 [.ref 0, .int (a)] am_h0 (some (.int (-1)), am_h0) := by
      refine am_Do.of (r := am_r140) (y := (24, [some (.ref 0), some (.int (a))], [.int (-1)], am_h0, 0, 0)) rfl rfl ?_ rfl rfl rfl
      refine am_Go.bl 3 (y := (bif am_cmp .lt (a) 1 then 11 else 5, [some (.ref 0), some (.int (a))], [], am_h0, 0, 0)) (fun _ => rfl) ?_
      refine am_Go.brT hb1 ?_
      refine am_Go.bl 2 (y := (24, [some (.ref 0), some (.int (a))], [.int (-1)], am_h0, 0, 0)) (fun _ => rfl) ?_
      exact am_Go.rf
    have hd2 : am_Do true 18 204 [.ref 64, .int (a)] am_h0 (some (.int 0), am_h0) := by
      refine am_Do.of (r := am_r204) (y := (35, [some (.ref 64), some (.int (a))], [.int 0], am_h0, 0, 0)) rfl rfl ?_ rfl rfl rfl
      refine am_Go.bl 4 (y := (35, [some (.ref 64), some (.int (a))], [.int 0], am_h0, 0, 0)) (fun _ => rfl) ?_
      exact am_Go.rf
    have hd3 : am_Do true 19 205 [.ref 64, .int (a)] am_h0 (some (.int (-1)), am_h0) := by
      refine am_Do.of (r := am_r205) (y := (20, [some (.ref 64), some (.int (a))], [.int (-1)], am_h0, 0, 0)) rfl rfl ?_ rfl rfl rfl
      refine am_Go.bl 2 (y := (2, [some (.ref 64), some (.int (a))], [.int (a), .ref 64], am_h0, 0, 0)) (fun _ => rfl) ?_
      refine am_Go.cV hd2 rfl rfl rfl rfl rfl rfl rfl ?_
      refine am_Go.bl 2 (y := (20, [some (.ref 64), some (.int (a))], [.int (-1)], am_h0, 0, 0)) (fun _ => rfl) ?_
      exact am_Go.rf
    exact ⟨_, _, _, hd1, ⟨_, rfl⟩, rfl, hd3, rfl⟩
set_option maxHeartbeats 20000000 in
set_option maxRecDepth 100000 in
theorem am_p_bestOf (a : Int32) : am_PairOK 143 209 [.int a] := by
  cases hb1 : am_cmp .lt (a) 0 with
  | false =>
    have hf1 := (am_clt_f (y := 0) (k := (0)) rfl).mp hb1
    have hb2 : am_cmp .lt (a) 0 = false := (am_clt_f (k := (0)) rfl).mpr (by omega)
    have hd1 : am_Do true 19 143 [.ref 0, .int (a)] am_h0 (some (.int (-1)), am_h0) := by
      refine am_Do.of (r := am_r143) (y := (28, [some (.ref 0), some (.int (a))], [.int (-1)], am_h0, 0, 0)) rfl rfl ?_ rfl rfl rfl
      refine am_Go.bl 2 (y := (bif am_cmp .lt (a) 0 then 15 else 4, [some (.ref 0), some (.int (a))], [], am_h0, 0, 0)) (fun _ => rfl) ?_
      refine am_Go.brF hb1 ?_
      refine am_Go.bl 5 (y := (bif am_cmp .lt (a) 0 then 19 else 15, [some (.ref 0), some (.int (a))], [], am_h0, 0, 0)) (fun _ => rfl) ?_
      refine am_Go.brF hb2 ?_
      refine am_Go.bl 2 (y := (28, [some (.ref 0), some (.int (a))], [.int (-1)], am_h0, 0, 0)) (fun _ => rfl) ?_
      exact am_Go.rf
    have hb3 : am_cmp .lt (a) 0 = false := (am_clt_f (k := (0)) rfl).mpr (by omega)
    have hb4 : am_cmp .gt (a) (-1) = true := (am_cgt_t (k := (-1)) rfl).mpr (by omega)
    have hd2 : am_Do true 18 169 [.int (a), .int 0, .int (-1)] am_h0 (some (.int 0), am_h0) := by
      refine am_Do.of (r := am_r169) (y := (15, [some (.int (a)), some (.int 0), some (.int (-1))], [.int 0], am_h0, 0, 0)) rfl rfl ?_ rfl rfl rfl
      refine am_Go.bl 3 (y := (bif am_cmp .lt (a) 0 then 14 else 5, [some (.int (a)), some (.int 0), some (.int (-1))], [], am_h0, 0, 0)) (fun _ => rfl) ?_
      refine am_Go.brF hb3 ?_
      refine am_Go.bl 3 (y := (bif am_cmp .gt (a) (-1) then 14 else 10, [some (.int (a)), some (.int 0), some (.int (-1))], [], am_h0, 0, 0)) (fun _ => rfl) ?_
      refine am_Go.brT hb4 ?_
      refine am_Go.bl 1 (y := (15, [some (.int (a)), some (.int 0), some (.int (-1))], [.int 0], am_h0, 0, 0)) (fun _ => rfl) ?_
      exact am_Go.rf
    have hd3 : am_Do true 19 209 [.ref 64, .int (a)] am_h0 (some (.int (-1)), am_h0) := by
      refine am_Do.of (r := am_r209) (y := (24, [some (.ref 64), some (.int (a))], [.int (-1)], am_h0, 0, 0)) rfl rfl ?_ rfl rfl rfl
      refine am_Go.bl 6 (y := (8, [some (.ref 64), some (.int (a))], [.int (-1), .int 0, .int (a)], am_h0, 0, 0)) (fun _ => rfl) ?_
      refine am_Go.cS hd2 rfl rfl rfl rfl rfl rfl ?_
      refine am_Go.bl 2 (y := (24, [some (.ref 64), some (.int (a))], [.int (-1)], am_h0, 0, 0)) (fun _ => rfl) ?_
      exact am_Go.rf
    exact ⟨_, _, _, hd1, ⟨_, rfl⟩, rfl, hd3, rfl⟩
  | true =>
    have hf1 := (am_clt_t (y := 0) (k := (0)) rfl).mp hb1
    have hd1 : am_Do true 19 143 [.ref 0, .int (a)] am_h0 (some (.int (-1)), am_h0) := by
      refine am_Do.of (r := am_r143) (y := (28, [some (.ref 0), some (.int (a))], [.int (-1)], am_h0, 0, 0)) rfl rfl ?_ rfl rfl rfl
      refine am_Go.bl 2 (y := (bif am_cmp .lt (a) 0 then 15 else 4, [some (.ref 0), some (.int (a))], [], am_h0, 0, 0)) (fun _ => rfl) ?_
      refine am_Go.brT hb1 ?_
      refine am_Go.bl 2 (y := (28, [some (.ref 0), some (.int (a))], [.int (-1)], am_h0, 0, 0)) (fun _ => rfl) ?_
      exact am_Go.rf
    have hb2 : am_cmp .lt (a) 0 = true := (am_clt_t (k := (0)) rfl).mpr (by omega)
    have hd2 : am_Do true 18 169 [.int (a), .int 0, .int (-1)] am_h0 (some (.int 0), am_h0) := by
      refine am_Do.of (r := am_r169) (y := (15, [some (.int (a)), some (.int 0), some (.int (-1))], [.int 0], am_h0, 0, 0)) rfl rfl ?_ rfl rfl rfl
      refine am_Go.bl 3 (y := (bif am_cmp .lt (a) 0 then 14 else 5, [some (.int (a)), some (.int 0), some (.int (-1))], [], am_h0, 0, 0)) (fun _ => rfl) ?_
      refine am_Go.brT hb2 ?_
      refine am_Go.bl 1 (y := (15, [some (.int (a)), some (.int 0), some (.int (-1))], [.int 0], am_h0, 0, 0)) (fun _ => rfl) ?_
      exact am_Go.rf
    have hd3 : am_Do true 19 209 [.ref 64, .int (a)] am_h0 (some (.int (-1)), am_h0) := by
      refine am_Do.of (r := am_r209) (y := (24, [some (.ref 64), some (.int (a))], [.int (-1)], am_h0, 0, 0)) rfl rfl ?_ rfl rfl rfl
      refine am_Go.bl 6 (y := (8, [some (.ref 64), some (.int (a))], [.int (-1), .int 0, .int (a)], am_h0, 0, 0)) (fun _ => rfl) ?_
      refine am_Go.cS hd2 rfl rfl rfl rfl rfl rfl ?_
      refine am_Go.bl 2 (y := (24, [some (.ref 64), some (.int (a))], [.int (-1)], am_h0, 0, 0)) (fun _ => rfl) ?_
      exact am_Go.rf
    exact ⟨_, _, _, hd1, ⟨_, rfl⟩, rfl, hd3, rfl⟩
set_option maxHeartbeats 20000000 in
set_option maxRecDepth 100000 in
theorem am_p_verseOf (a b : Int32) : am_PairOK 144 210 [.int a, .int b] := by
  cases hb1 : am_cmp .lt (a) 1 with
  | false =>
    have hf1 := (am_clt_f (y := 1) (k := (1)) rfl).mp hb1
    have hb2 : am_cmp .gt (a) 0 = true := (am_cgt_t (k := (0)) rfl).mpr (by omega)
    have hd1 : am_Do true 18 91 [.ref 28, .int (a)] am_h0 (some (.int 0), am_h0) := by
      refine am_Do.of (r := am_r91) (y := (18, [some (.ref 28), some (.int (a))], [.int 0], am_h0, 0, 0)) rfl rfl ?_ rfl rfl rfl
      refine am_Go.bl 3 (y := (bif am_cmp .lt (a) 1 then 17 else 5, [some (.ref 28), some (.int (a))], [], am_h0, 0, 0)) (fun _ => rfl) ?_
      refine am_Go.brF hb1 ?_
      refine am_Go.bl 4 (y := (bif am_cmp .gt (a) 0 then 17 else 13, [some (.ref 28), some (.int (a))], [], am_h0, 0, 0)) (fun _ => rfl) ?_
      refine am_Go.brT hb2 ?_
      refine am_Go.bl 1 (y := (18, [some (.ref 28), some (.int (a))], [.int 0], am_h0, 0, 0)) (fun _ => rfl) ?_
      exact am_Go.rf
    have hd2 : am_Do true 19 144 [.ref 0, .int (a), .int (b)] am_h0 (some (.int (-1)), am_h0) := by
      refine am_Do.of (r := am_r144) (y := (24, [some (.ref 0), some (.int (a)), some (.int (b))], [.int (-1)], am_h0, 0, 0)) rfl rfl ?_ rfl rfl rfl
      refine am_Go.bl 3 (y := (5, [some (.ref 0), some (.int (a)), some (.int (b))], [.int (a), .ref 28], am_h0, 0, 0)) (fun _ => rfl) ?_
      refine am_Go.cV hd1 rfl rfl rfl rfl rfl rfl rfl ?_
      refine am_Go.bl 2 (y := (24, [some (.ref 0), some (.int (a)), some (.int (b))], [.int (-1)], am_h0, 0, 0)) (fun _ => rfl) ?_
      exact am_Go.rf
    have hb3 : am_cmp .lt (a) 1 = false := (am_clt_f (k := (1)) rfl).mpr (by omega)
    have hb4 : am_cmp .gt (a) 0 = true := (am_cgt_t (k := (0)) rfl).mpr (by omega)
    have hd3 : am_Do true 18 169 [.int (a), .int 1, .int 0] am_h0 (some (.int 0), am_h0) := by
      refine am_Do.of (r := am_r169) (y := (15, [some (.int (a)), some (.int 1), some (.int 0)], [.int 0], am_h0, 0, 0)) rfl rfl ?_ rfl rfl rfl
      refine am_Go.bl 3 (y := (bif am_cmp .lt (a) 1 then 14 else 5, [some (.int (a)), some (.int 1), some (.int 0)], [], am_h0, 0, 0)) (fun _ => rfl) ?_
      refine am_Go.brF hb3 ?_
      refine am_Go.bl 3 (y := (bif am_cmp .gt (a) 0 then 14 else 10, [some (.int (a)), some (.int 1), some (.int 0)], [], am_h0, 0, 0)) (fun _ => rfl) ?_
      refine am_Go.brT hb4 ?_
      refine am_Go.bl 1 (y := (15, [some (.int (a)), some (.int 1), some (.int 0)], [.int 0], am_h0, 0, 0)) (fun _ => rfl) ?_
      exact am_Go.rf
    have hd4 : am_Do true 19 210 [.ref 64, .int (a), .int (b)] am_h0 (some (.int (-1)), am_h0) := by
      refine am_Do.of (r := am_r210) (y := (13, [some (.ref 64), some (.int (a)), some (.int (b)), none], [.int (-1)], am_h0, 0, 0)) rfl rfl ?_ rfl rfl rfl
      refine am_Go.bl 4 (y := (6, [some (.ref 64), some (.int (a)), some (.int (b)), none], [.int 0, .int 1, .int (a)], am_h0, 0, 0)) (fun _ => rfl) ?_
      refine am_Go.cS hd3 rfl rfl rfl rfl rfl rfl ?_
      refine am_Go.bl 2 (y := (13, [some (.ref 64), some (.int (a)), some (.int (b)), none], [.int (-1)], am_h0, 0, 0)) (fun _ => rfl) ?_
      exact am_Go.rf
    exact ⟨_, _, _, hd2, ⟨_, rfl⟩, rfl, hd4, rfl⟩
  | true =>
    have hf1 := (am_clt_t (y := 1) (k := (1)) rfl).mp hb1
    have hd1 : am_Do true 18 91 [.ref 28, .int (a)] am_h0 (some (.int 0), am_h0) := by
      refine am_Do.of (r := am_r91) (y := (18, [some (.ref 28), some (.int (a))], [.int 0], am_h0, 0, 0)) rfl rfl ?_ rfl rfl rfl
      refine am_Go.bl 3 (y := (bif am_cmp .lt (a) 1 then 17 else 5, [some (.ref 28), some (.int (a))], [], am_h0, 0, 0)) (fun _ => rfl) ?_
      refine am_Go.brT hb1 ?_
      refine am_Go.bl 1 (y := (18, [some (.ref 28), some (.int (a))], [.int 0], am_h0, 0, 0)) (fun _ => rfl) ?_
      exact am_Go.rf
    have hd2 : am_Do true 19 144 [.ref 0, .int (a), .int (b)] am_h0 (some (.int (-1)), am_h0) := by
      refine am_Do.of (r := am_r144) (y := (24, [some (.ref 0), some (.int (a)), some (.int (b))], [.int (-1)], am_h0, 0, 0)) rfl rfl ?_ rfl rfl rfl
      refine am_Go.bl 3 (y := (5, [some (.ref 0), some (.int (a)), some (.int (b))], [.int (a), .ref 28], am_h0, 0, 0)) (fun _ => rfl) ?_
      refine am_Go.cV hd1 rfl rfl rfl rfl rfl rfl rfl ?_
      refine am_Go.bl 2 (y := (24, [some (.ref 0), some (.int (a)), some (.int (b))], [.int (-1)], am_h0, 0, 0)) (fun _ => rfl) ?_
      exact am_Go.rf
    have hb2 : am_cmp .lt (a) 1 = true := (am_clt_t (k := (1)) rfl).mpr (by omega)
    have hd3 : am_Do true 18 169 [.int (a), .int 1, .int 0] am_h0 (some (.int 0), am_h0) := by
      refine am_Do.of (r := am_r169) (y := (15, [some (.int (a)), some (.int 1), some (.int 0)], [.int 0], am_h0, 0, 0)) rfl rfl ?_ rfl rfl rfl
      refine am_Go.bl 3 (y := (bif am_cmp .lt (a) 1 then 14 else 5, [some (.int (a)), some (.int 1), some (.int 0)], [], am_h0, 0, 0)) (fun _ => rfl) ?_
      refine am_Go.brT hb2 ?_
      refine am_Go.bl 1 (y := (15, [some (.int (a)), some (.int 1), some (.int 0)], [.int 0], am_h0, 0, 0)) (fun _ => rfl) ?_
      exact am_Go.rf
    have hd4 : am_Do true 19 210 [.ref 64, .int (a), .int (b)] am_h0 (some (.int (-1)), am_h0) := by
      refine am_Do.of (r := am_r210) (y := (13, [some (.ref 64), some (.int (a)), some (.int (b)), none], [.int (-1)], am_h0, 0, 0)) rfl rfl ?_ rfl rfl rfl
      refine am_Go.bl 4 (y := (6, [some (.ref 64), some (.int (a)), some (.int (b)), none], [.int 0, .int 1, .int (a)], am_h0, 0, 0)) (fun _ => rfl) ?_
      refine am_Go.cS hd3 rfl rfl rfl rfl rfl rfl ?_
      refine am_Go.bl 2 (y := (13, [some (.ref 64), some (.int (a)), some (.int (b)), none], [.int (-1)], am_h0, 0, 0)) (fun _ => rfl) ?_
      exact am_Go.rf
    exact ⟨_, _, _, hd2, ⟨_, rfl⟩, rfl, hd4, rfl⟩
set_option maxHeartbeats 20000000 in
set_option maxRecDepth 100000 in
theorem am_p_poetOf (a b : Int32) : am_PairOK 145 211 [.int a, .int b] := by
  cases hb1 : am_cmp .lt (a) 0 with
  | false =>
    have hf1 := (am_clt_f (y := 0) (k := (0)) rfl).mp hb1
    have hb2 : am_cmp .lt (a) 0 = false := (am_clt_f (k := (0)) rfl).mpr (by omega)
    have hd1 : am_Do true 19 145 [.ref 0, .int (a), .int (b)] am_h0 (some (.int (-1)), am_h0) := by
      refine am_Do.of (r := am_r145) (y := (16, [some (.ref 0), some (.int (a)), some (.int (b))], [.int (-1)], am_h0, 0, 0)) rfl rfl ?_ rfl rfl rfl
      refine am_Go.bl 2 (y := (bif am_cmp .lt (a) 0 then 15 else 4, [some (.ref 0), some (.int (a)), some (.int (b))], [], am_h0, 0, 0)) (fun _ => rfl) ?_
      refine am_Go.brF hb1 ?_
      refine am_Go.bl 5 (y := (bif am_cmp .lt (a) 0 then 17 else 15, [some (.ref 0), some (.int (a)), some (.int (b))], [], am_h0, 0, 0)) (fun _ => rfl) ?_
      refine am_Go.brF hb2 ?_
      refine am_Go.bl 1 (y := (16, [some (.ref 0), some (.int (a)), some (.int (b))], [.int (-1)], am_h0, 0, 0)) (fun _ => rfl) ?_
      exact am_Go.rf
    have hb3 : am_cmp .lt (a) 0 = false := (am_clt_f (k := (0)) rfl).mpr (by omega)
    have hb4 : am_cmp .gt (a) (-1) = true := (am_cgt_t (k := (-1)) rfl).mpr (by omega)
    have hd2 : am_Do true 18 169 [.int (a), .int 0, .int (-1)] am_h0 (some (.int 0), am_h0) := by
      refine am_Do.of (r := am_r169) (y := (15, [some (.int (a)), some (.int 0), some (.int (-1))], [.int 0], am_h0, 0, 0)) rfl rfl ?_ rfl rfl rfl
      refine am_Go.bl 3 (y := (bif am_cmp .lt (a) 0 then 14 else 5, [some (.int (a)), some (.int 0), some (.int (-1))], [], am_h0, 0, 0)) (fun _ => rfl) ?_
      refine am_Go.brF hb3 ?_
      refine am_Go.bl 3 (y := (bif am_cmp .gt (a) (-1) then 14 else 10, [some (.int (a)), some (.int 0), some (.int (-1))], [], am_h0, 0, 0)) (fun _ => rfl) ?_
      refine am_Go.brT hb4 ?_
      refine am_Go.bl 1 (y := (15, [some (.int (a)), some (.int 0), some (.int (-1))], [.int 0], am_h0, 0, 0)) (fun _ => rfl) ?_
      exact am_Go.rf
    have hd3 : am_Do true 19 211 [.ref 64, .int (a), .int (b)] am_h0 (some (.int (-1)), am_h0) := by
      refine am_Do.of (r := am_r211) (y := (15, [some (.ref 64), some (.int (a)), some (.int (b))], [.int (-1)], am_h0, 0, 0)) rfl rfl ?_ rfl rfl rfl
      refine am_Go.bl 6 (y := (8, [some (.ref 64), some (.int (a)), some (.int (b))], [.int (-1), .int 0, .int (a)], am_h0, 0, 0)) (fun _ => rfl) ?_
      refine am_Go.cS hd2 rfl rfl rfl rfl rfl rfl ?_
      refine am_Go.bl 2 (y := (15, [some (.ref 64), some (.int (a)), some (.int (b))], [.int (-1)], am_h0, 0, 0)) (fun _ => rfl) ?_
      exact am_Go.rf
    exact ⟨_, _, _, hd1, ⟨_, rfl⟩, rfl, hd3, rfl⟩
  | true =>
    have hf1 := (am_clt_t (y := 0) (k := (0)) rfl).mp hb1
    have hd1 : am_Do true 19 145 [.ref 0, .int (a), .int (b)] am_h0 (some (.int (-1)), am_h0) := by
      refine am_Do.of (r := am_r145) (y := (16, [some (.ref 0), some (.int (a)), some (.int (b))], [.int (-1)], am_h0, 0, 0)) rfl rfl ?_ rfl rfl rfl
      refine am_Go.bl 2 (y := (bif am_cmp .lt (a) 0 then 15 else 4, [some (.ref 0), some (.int (a)), some (.int (b))], [], am_h0, 0, 0)) (fun _ => rfl) ?_
      refine am_Go.brT hb1 ?_
      refine am_Go.bl 1 (y := (16, [some (.ref 0), some (.int (a)), some (.int (b))], [.int (-1)], am_h0, 0, 0)) (fun _ => rfl) ?_
      exact am_Go.rf
    have hb2 : am_cmp .lt (a) 0 = true := (am_clt_t (k := (0)) rfl).mpr (by omega)
    have hd2 : am_Do true 18 169 [.int (a), .int 0, .int (-1)] am_h0 (some (.int 0), am_h0) := by
      refine am_Do.of (r := am_r169) (y := (15, [some (.int (a)), some (.int 0), some (.int (-1))], [.int 0], am_h0, 0, 0)) rfl rfl ?_ rfl rfl rfl
      refine am_Go.bl 3 (y := (bif am_cmp .lt (a) 0 then 14 else 5, [some (.int (a)), some (.int 0), some (.int (-1))], [], am_h0, 0, 0)) (fun _ => rfl) ?_
      refine am_Go.brT hb2 ?_
      refine am_Go.bl 1 (y := (15, [some (.int (a)), some (.int 0), some (.int (-1))], [.int 0], am_h0, 0, 0)) (fun _ => rfl) ?_
      exact am_Go.rf
    have hd3 : am_Do true 19 211 [.ref 64, .int (a), .int (b)] am_h0 (some (.int (-1)), am_h0) := by
      refine am_Do.of (r := am_r211) (y := (15, [some (.ref 64), some (.int (a)), some (.int (b))], [.int (-1)], am_h0, 0, 0)) rfl rfl ?_ rfl rfl rfl
      refine am_Go.bl 6 (y := (8, [some (.ref 64), some (.int (a)), some (.int (b))], [.int (-1), .int 0, .int (a)], am_h0, 0, 0)) (fun _ => rfl) ?_
      refine am_Go.cS hd2 rfl rfl rfl rfl rfl rfl ?_
      refine am_Go.bl 2 (y := (15, [some (.ref 64), some (.int (a)), some (.int (b))], [.int (-1)], am_h0, 0, 0)) (fun _ => rfl) ?_
      exact am_Go.rf
    exact ⟨_, _, _, hd1, ⟨_, rfl⟩, rfl, hd3, rfl⟩
set_option maxHeartbeats 20000000 in
set_option maxRecDepth 100000 in
theorem am_p_ruleOf (a b : Int32) : am_PairOK 146 212 [.int a, .int b] := by
  cases hb1 : am_cmp .lt (a) 0 with
  | false =>
    have hf1 := (am_clt_f (y := 0) (k := (0)) rfl).mp hb1
    have hb2 : am_cmp .lt (a) 0 = false := (am_clt_f (k := (0)) rfl).mpr (by omega)
    have hd1 : am_Do true 19 146 [.ref 0, .int (a), .int (b)] am_h0 (some (.int (-1)), am_h0) := by
      refine am_Do.of (r := am_r146) (y := (16, [some (.ref 0), some (.int (a)), some (.int (b))], [.int (-1)], am_h0, 0, 0)) rfl rfl ?_ rfl rfl rfl
      refine am_Go.bl 2 (y := (bif am_cmp .lt (a) 0 then 15 else 4, [some (.ref 0), some (.int (a)), some (.int (b))], [], am_h0, 0, 0)) (fun _ => rfl) ?_
      refine am_Go.brF hb1 ?_
      refine am_Go.bl 5 (y := (bif am_cmp .lt (a) 0 then 17 else 15, [some (.ref 0), some (.int (a)), some (.int (b))], [], am_h0, 0, 0)) (fun _ => rfl) ?_
      refine am_Go.brF hb2 ?_
      refine am_Go.bl 1 (y := (16, [some (.ref 0), some (.int (a)), some (.int (b))], [.int (-1)], am_h0, 0, 0)) (fun _ => rfl) ?_
      exact am_Go.rf
    have hb3 : am_cmp .lt (a) 0 = false := (am_clt_f (k := (0)) rfl).mpr (by omega)
    have hb4 : am_cmp .gt (a) (-1) = true := (am_cgt_t (k := (-1)) rfl).mpr (by omega)
    have hd2 : am_Do true 18 169 [.int (a), .int 0, .int (-1)] am_h0 (some (.int 0), am_h0) := by
      refine am_Do.of (r := am_r169) (y := (15, [some (.int (a)), some (.int 0), some (.int (-1))], [.int 0], am_h0, 0, 0)) rfl rfl ?_ rfl rfl rfl
      refine am_Go.bl 3 (y := (bif am_cmp .lt (a) 0 then 14 else 5, [some (.int (a)), some (.int 0), some (.int (-1))], [], am_h0, 0, 0)) (fun _ => rfl) ?_
      refine am_Go.brF hb3 ?_
      refine am_Go.bl 3 (y := (bif am_cmp .gt (a) (-1) then 14 else 10, [some (.int (a)), some (.int 0), some (.int (-1))], [], am_h0, 0, 0)) (fun _ => rfl) ?_
      refine am_Go.brT hb4 ?_
      refine am_Go.bl 1 (y := (15, [some (.int (a)), some (.int 0), some (.int (-1))], [.int 0], am_h0, 0, 0)) (fun _ => rfl) ?_
      exact am_Go.rf
    have hd3 : am_Do true 19 212 [.ref 64, .int (a), .int (b)] am_h0 (some (.int (-1)), am_h0) := by
      refine am_Do.of (r := am_r212) (y := (15, [some (.ref 64), some (.int (a)), some (.int (b)), none, none], [.int (-1)], am_h0, 0, 0)) rfl rfl ?_ rfl rfl rfl
      refine am_Go.bl 6 (y := (8, [some (.ref 64), some (.int (a)), some (.int (b)), none, none], [.int (-1), .int 0, .int (a)], am_h0, 0, 0)) (fun _ => rfl) ?_
      refine am_Go.cS hd2 rfl rfl rfl rfl rfl rfl ?_
      refine am_Go.bl 2 (y := (15, [some (.ref 64), some (.int (a)), some (.int (b)), none, none], [.int (-1)], am_h0, 0, 0)) (fun _ => rfl) ?_
      exact am_Go.rf
    exact ⟨_, _, _, hd1, ⟨_, rfl⟩, rfl, hd3, rfl⟩
  | true =>
    have hf1 := (am_clt_t (y := 0) (k := (0)) rfl).mp hb1
    have hd1 : am_Do true 19 146 [.ref 0, .int (a), .int (b)] am_h0 (some (.int (-1)), am_h0) := by
      refine am_Do.of (r := am_r146) (y := (16, [some (.ref 0), some (.int (a)), some (.int (b))], [.int (-1)], am_h0, 0, 0)) rfl rfl ?_ rfl rfl rfl
      refine am_Go.bl 2 (y := (bif am_cmp .lt (a) 0 then 15 else 4, [some (.ref 0), some (.int (a)), some (.int (b))], [], am_h0, 0, 0)) (fun _ => rfl) ?_
      refine am_Go.brT hb1 ?_
      refine am_Go.bl 1 (y := (16, [some (.ref 0), some (.int (a)), some (.int (b))], [.int (-1)], am_h0, 0, 0)) (fun _ => rfl) ?_
      exact am_Go.rf
    have hb2 : am_cmp .lt (a) 0 = true := (am_clt_t (k := (0)) rfl).mpr (by omega)
    have hd2 : am_Do true 18 169 [.int (a), .int 0, .int (-1)] am_h0 (some (.int 0), am_h0) := by
      refine am_Do.of (r := am_r169) (y := (15, [some (.int (a)), some (.int 0), some (.int (-1))], [.int 0], am_h0, 0, 0)) rfl rfl ?_ rfl rfl rfl
      refine am_Go.bl 3 (y := (bif am_cmp .lt (a) 0 then 14 else 5, [some (.int (a)), some (.int 0), some (.int (-1))], [], am_h0, 0, 0)) (fun _ => rfl) ?_
      refine am_Go.brT hb2 ?_
      refine am_Go.bl 1 (y := (15, [some (.int (a)), some (.int 0), some (.int (-1))], [.int 0], am_h0, 0, 0)) (fun _ => rfl) ?_
      exact am_Go.rf
    have hd3 : am_Do true 19 212 [.ref 64, .int (a), .int (b)] am_h0 (some (.int (-1)), am_h0) := by
      refine am_Do.of (r := am_r212) (y := (15, [some (.ref 64), some (.int (a)), some (.int (b)), none, none], [.int (-1)], am_h0, 0, 0)) rfl rfl ?_ rfl rfl rfl
      refine am_Go.bl 6 (y := (8, [some (.ref 64), some (.int (a)), some (.int (b)), none, none], [.int (-1), .int 0, .int (a)], am_h0, 0, 0)) (fun _ => rfl) ?_
      refine am_Go.cS hd2 rfl rfl rfl rfl rfl rfl ?_
      refine am_Go.bl 2 (y := (15, [some (.ref 64), some (.int (a)), some (.int (b)), none, none], [.int (-1)], am_h0, 0, 0)) (fun _ => rfl) ?_
      exact am_Go.rf
    exact ⟨_, _, _, hd1, ⟨_, rfl⟩, rfl, hd3, rfl⟩
set_option maxRecDepth 100000 in
theorem am_p_worn0 (a : Int32) : am_PairOK 136 196 [.int a, .int 0] := by
  cases hb1 : am_cmp .lt (a) 1 with
  | false =>
    have hf1 := (am_clt_f (y := 1) (k := (1)) rfl).mp hb1
    have hb2 : am_cmp .gt (a) 0 = true := (am_cgt_t (k := (0)) rfl).mpr (by omega)
    have hd1 : am_Do true 18 91 [.ref 28, .int (a)] am_h0 (some (.int 0), am_h0) := by
      refine am_Do.of (r := am_r91) (y := (18, [some (.ref 28), some (.int (a))], [.int 0], am_h0, 0, 0)) rfl rfl ?_ rfl rfl rfl
      refine am_Go.bl 3 (y := (bif am_cmp .lt (a) 1 then 17 else 5, [some (.ref 28), some (.int (a))], [], am_h0, 0, 0)) (fun _ => rfl) ?_
      refine am_Go.brF hb1 ?_
      refine am_Go.bl 4 (y := (bif am_cmp .gt (a) 0 then 17 else 13, [some (.ref 28), some (.int (a))], [], am_h0, 0, 0)) (fun _ => rfl) ?_
      refine am_Go.brT hb2 ?_
      refine am_Go.bl 1 (y := (18, [some (.ref 28), some (.int (a))], [.int 0], am_h0, 0, 0)) (fun _ => rfl) ?_
      exact am_Go.rf
    have hd2 : am_Do true 19 136 [.ref 0, .int (a), .int 0] am_h0 (some (.int 0), am_h0) := by
      refine am_Do.of (r := am_r136) (y := (28, [some (.ref 0), some (.int (a)), some (.int 0)], [.int 0], am_h0, 0, 0)) rfl rfl ?_ rfl rfl rfl
      refine am_Go.bl 3 (y := (5, [some (.ref 0), some (.int (a)), some (.int 0)], [.int (a), .ref 28], am_h0, 0, 0)) (fun _ => rfl) ?_
      refine am_Go.cV hd1 rfl rfl rfl rfl rfl rfl rfl ?_
      refine am_Go.bl 2 (y := (28, [some (.ref 0), some (.int (a)), some (.int 0)], [.int 0], am_h0, 0, 0)) (fun _ => rfl) ?_
      exact am_Go.rf
    have hb3 : am_cmp .lt (a) 1 = false := (am_clt_f (k := (1)) rfl).mpr (by omega)
    have hb4 : am_cmp .gt (a) 0 = true := (am_cgt_t (k := (0)) rfl).mpr (by omega)
    have hd3 : am_Do true 18 169 [.int (a), .int 1, .int 0] am_h0 (some (.int 0), am_h0) := by
      refine am_Do.of (r := am_r169) (y := (15, [some (.int (a)), some (.int 1), some (.int 0)], [.int 0], am_h0, 0, 0)) rfl rfl ?_ rfl rfl rfl
      refine am_Go.bl 3 (y := (bif am_cmp .lt (a) 1 then 14 else 5, [some (.int (a)), some (.int 1), some (.int 0)], [], am_h0, 0, 0)) (fun _ => rfl) ?_
      refine am_Go.brF hb3 ?_
      refine am_Go.bl 3 (y := (bif am_cmp .gt (a) 0 then 14 else 10, [some (.int (a)), some (.int 1), some (.int 0)], [], am_h0, 0, 0)) (fun _ => rfl) ?_
      refine am_Go.brT hb4 ?_
      refine am_Go.bl 1 (y := (15, [some (.int (a)), some (.int 1), some (.int 0)], [.int 0], am_h0, 0, 0)) (fun _ => rfl) ?_
      exact am_Go.rf
    have hd4 : am_Do true 19 196 [.ref 64, .int (a), .int 0] am_h0 (some (.int 0), am_h0) := by
      refine am_Do.of (r := am_r196) (y := (25, [some (.ref 64), some (.int (a)), some (.int 0)], [.int 0], am_h0, 0, 0)) rfl rfl ?_ rfl rfl rfl
      refine am_Go.bl 4 (y := (6, [some (.ref 64), some (.int (a)), some (.int 0)], [.int 0, .int 1, .int (a)], am_h0, 0, 0)) (fun _ => rfl) ?_
      refine am_Go.cS hd3 rfl rfl rfl rfl rfl rfl ?_
      refine am_Go.bl 2 (y := (25, [some (.ref 64), some (.int (a)), some (.int 0)], [.int 0], am_h0, 0, 0)) (fun _ => rfl) ?_
      exact am_Go.rf
    exact ⟨_, _, _, hd2, ⟨_, rfl⟩, rfl, hd4, rfl⟩
  | true =>
    have hf1 := (am_clt_t (y := 1) (k := (1)) rfl).mp hb1
    have hd1 : am_Do true 18 91 [.ref 28, .int (a)] am_h0 (some (.int 0), am_h0) := by
      refine am_Do.of (r := am_r91) (y := (18, [some (.ref 28), some (.int (a))], [.int 0], am_h0, 0, 0)) rfl rfl ?_ rfl rfl rfl
      refine am_Go.bl 3 (y := (bif am_cmp .lt (a) 1 then 17 else 5, [some (.ref 28), some (.int (a))], [], am_h0, 0, 0)) (fun _ => rfl) ?_
      refine am_Go.brT hb1 ?_
      refine am_Go.bl 1 (y := (18, [some (.ref 28), some (.int (a))], [.int 0], am_h0, 0, 0)) (fun _ => rfl) ?_
      exact am_Go.rf
    have hd2 : am_Do true 19 136 [.ref 0, .int (a), .int 0] am_h0 (some (.int 0), am_h0) := by
      refine am_Do.of (r := am_r136) (y := (28, [some (.ref 0), some (.int (a)), some (.int 0)], [.int 0], am_h0, 0, 0)) rfl rfl ?_ rfl rfl rfl
      refine am_Go.bl 3 (y := (5, [some (.ref 0), some (.int (a)), some (.int 0)], [.int (a), .ref 28], am_h0, 0, 0)) (fun _ => rfl) ?_
      refine am_Go.cV hd1 rfl rfl rfl rfl rfl rfl rfl ?_
      refine am_Go.bl 2 (y := (28, [some (.ref 0), some (.int (a)), some (.int 0)], [.int 0], am_h0, 0, 0)) (fun _ => rfl) ?_
      exact am_Go.rf
    have hb2 : am_cmp .lt (a) 1 = true := (am_clt_t (k := (1)) rfl).mpr (by omega)
    have hd3 : am_Do true 18 169 [.int (a), .int 1, .int 0] am_h0 (some (.int 0), am_h0) := by
      refine am_Do.of (r := am_r169) (y := (15, [some (.int (a)), some (.int 1), some (.int 0)], [.int 0], am_h0, 0, 0)) rfl rfl ?_ rfl rfl rfl
      refine am_Go.bl 3 (y := (bif am_cmp .lt (a) 1 then 14 else 5, [some (.int (a)), some (.int 1), some (.int 0)], [], am_h0, 0, 0)) (fun _ => rfl) ?_
      refine am_Go.brT hb2 ?_
      refine am_Go.bl 1 (y := (15, [some (.int (a)), some (.int 1), some (.int 0)], [.int 0], am_h0, 0, 0)) (fun _ => rfl) ?_
      exact am_Go.rf
    have hd4 : am_Do true 19 196 [.ref 64, .int (a), .int 0] am_h0 (some (.int 0), am_h0) := by
      refine am_Do.of (r := am_r196) (y := (25, [some (.ref 64), some (.int (a)), some (.int 0)], [.int 0], am_h0, 0, 0)) rfl rfl ?_ rfl rfl rfl
      refine am_Go.bl 4 (y := (6, [some (.ref 64), some (.int (a)), some (.int 0)], [.int 0, .int 1, .int (a)], am_h0, 0, 0)) (fun _ => rfl) ?_
      refine am_Go.cS hd3 rfl rfl rfl rfl rfl rfl ?_
      refine am_Go.bl 2 (y := (25, [some (.ref 64), some (.int (a)), some (.int 0)], [.int 0], am_h0, 0, 0)) (fun _ => rfl) ?_
      exact am_Go.rf
    exact ⟨_, _, _, hd2, ⟨_, rfl⟩, rfl, hd4, rfl⟩
set_option maxRecDepth 100000 in
theorem am_p_worn1 (a : Int32) : am_PairOK 136 196 [.int a, .int 1] := by
  cases hb1 : am_cmp .lt (a) 1 with
  | false =>
    have hf1 := (am_clt_f (y := 1) (k := (1)) rfl).mp hb1
    have hb2 : am_cmp .gt (a) 0 = true := (am_cgt_t (k := (0)) rfl).mpr (by omega)
    have hd1 : am_Do true 18 91 [.ref 28, .int (a)] am_h0 (some (.int 0), am_h0) := by
      refine am_Do.of (r := am_r91) (y := (18, [some (.ref 28), some (.int (a))], [.int 0], am_h0, 0, 0)) rfl rfl ?_ rfl rfl rfl
      refine am_Go.bl 3 (y := (bif am_cmp .lt (a) 1 then 17 else 5, [some (.ref 28), some (.int (a))], [], am_h0, 0, 0)) (fun _ => rfl) ?_
      refine am_Go.brF hb1 ?_
      refine am_Go.bl 4 (y := (bif am_cmp .gt (a) 0 then 17 else 13, [some (.ref 28), some (.int (a))], [], am_h0, 0, 0)) (fun _ => rfl) ?_
      refine am_Go.brT hb2 ?_
      refine am_Go.bl 1 (y := (18, [some (.ref 28), some (.int (a))], [.int 0], am_h0, 0, 0)) (fun _ => rfl) ?_
      exact am_Go.rf
    have hd2 : am_Do true 19 136 [.ref 0, .int (a), .int 1] am_h0 (some (.int 0), am_h0) := by
      refine am_Do.of (r := am_r136) (y := (28, [some (.ref 0), some (.int (a)), some (.int 1)], [.int 0], am_h0, 0, 0)) rfl rfl ?_ rfl rfl rfl
      refine am_Go.bl 3 (y := (5, [some (.ref 0), some (.int (a)), some (.int 1)], [.int (a), .ref 28], am_h0, 0, 0)) (fun _ => rfl) ?_
      refine am_Go.cV hd1 rfl rfl rfl rfl rfl rfl rfl ?_
      refine am_Go.bl 2 (y := (28, [some (.ref 0), some (.int (a)), some (.int 1)], [.int 0], am_h0, 0, 0)) (fun _ => rfl) ?_
      exact am_Go.rf
    have hb3 : am_cmp .lt (a) 1 = false := (am_clt_f (k := (1)) rfl).mpr (by omega)
    have hb4 : am_cmp .gt (a) 0 = true := (am_cgt_t (k := (0)) rfl).mpr (by omega)
    have hd3 : am_Do true 18 169 [.int (a), .int 1, .int 0] am_h0 (some (.int 0), am_h0) := by
      refine am_Do.of (r := am_r169) (y := (15, [some (.int (a)), some (.int 1), some (.int 0)], [.int 0], am_h0, 0, 0)) rfl rfl ?_ rfl rfl rfl
      refine am_Go.bl 3 (y := (bif am_cmp .lt (a) 1 then 14 else 5, [some (.int (a)), some (.int 1), some (.int 0)], [], am_h0, 0, 0)) (fun _ => rfl) ?_
      refine am_Go.brF hb3 ?_
      refine am_Go.bl 3 (y := (bif am_cmp .gt (a) 0 then 14 else 10, [some (.int (a)), some (.int 1), some (.int 0)], [], am_h0, 0, 0)) (fun _ => rfl) ?_
      refine am_Go.brT hb4 ?_
      refine am_Go.bl 1 (y := (15, [some (.int (a)), some (.int 1), some (.int 0)], [.int 0], am_h0, 0, 0)) (fun _ => rfl) ?_
      exact am_Go.rf
    have hd4 : am_Do true 19 196 [.ref 64, .int (a), .int 1] am_h0 (some (.int 0), am_h0) := by
      refine am_Do.of (r := am_r196) (y := (25, [some (.ref 64), some (.int (a)), some (.int 1)], [.int 0], am_h0, 0, 0)) rfl rfl ?_ rfl rfl rfl
      refine am_Go.bl 4 (y := (6, [some (.ref 64), some (.int (a)), some (.int 1)], [.int 0, .int 1, .int (a)], am_h0, 0, 0)) (fun _ => rfl) ?_
      refine am_Go.cS hd3 rfl rfl rfl rfl rfl rfl ?_
      refine am_Go.bl 2 (y := (25, [some (.ref 64), some (.int (a)), some (.int 1)], [.int 0], am_h0, 0, 0)) (fun _ => rfl) ?_
      exact am_Go.rf
    exact ⟨_, _, _, hd2, ⟨_, rfl⟩, rfl, hd4, rfl⟩
  | true =>
    have hf1 := (am_clt_t (y := 1) (k := (1)) rfl).mp hb1
    have hd1 : am_Do true 18 91 [.ref 28, .int (a)] am_h0 (some (.int 0), am_h0) := by
      refine am_Do.of (r := am_r91) (y := (18, [some (.ref 28), some (.int (a))], [.int 0], am_h0, 0, 0)) rfl rfl ?_ rfl rfl rfl
      refine am_Go.bl 3 (y := (bif am_cmp .lt (a) 1 then 17 else 5, [some (.ref 28), some (.int (a))], [], am_h0, 0, 0)) (fun _ => rfl) ?_
      refine am_Go.brT hb1 ?_
      refine am_Go.bl 1 (y := (18, [some (.ref 28), some (.int (a))], [.int 0], am_h0, 0, 0)) (fun _ => rfl) ?_
      exact am_Go.rf
    have hd2 : am_Do true 19 136 [.ref 0, .int (a), .int 1] am_h0 (some (.int 0), am_h0) := by
      refine am_Do.of (r := am_r136) (y := (28, [some (.ref 0), some (.int (a)), some (.int 1)], [.int 0], am_h0, 0, 0)) rfl rfl ?_ rfl rfl rfl
      refine am_Go.bl 3 (y := (5, [some (.ref 0), some (.int (a)), some (.int 1)], [.int (a), .ref 28], am_h0, 0, 0)) (fun _ => rfl) ?_
      refine am_Go.cV hd1 rfl rfl rfl rfl rfl rfl rfl ?_
      refine am_Go.bl 2 (y := (28, [some (.ref 0), some (.int (a)), some (.int 1)], [.int 0], am_h0, 0, 0)) (fun _ => rfl) ?_
      exact am_Go.rf
    have hb2 : am_cmp .lt (a) 1 = true := (am_clt_t (k := (1)) rfl).mpr (by omega)
    have hd3 : am_Do true 18 169 [.int (a), .int 1, .int 0] am_h0 (some (.int 0), am_h0) := by
      refine am_Do.of (r := am_r169) (y := (15, [some (.int (a)), some (.int 1), some (.int 0)], [.int 0], am_h0, 0, 0)) rfl rfl ?_ rfl rfl rfl
      refine am_Go.bl 3 (y := (bif am_cmp .lt (a) 1 then 14 else 5, [some (.int (a)), some (.int 1), some (.int 0)], [], am_h0, 0, 0)) (fun _ => rfl) ?_
      refine am_Go.brT hb2 ?_
      refine am_Go.bl 1 (y := (15, [some (.int (a)), some (.int 1), some (.int 0)], [.int 0], am_h0, 0, 0)) (fun _ => rfl) ?_
      exact am_Go.rf
    have hd4 : am_Do true 19 196 [.ref 64, .int (a), .int 1] am_h0 (some (.int 0), am_h0) := by
      refine am_Do.of (r := am_r196) (y := (25, [some (.ref 64), some (.int (a)), some (.int 1)], [.int 0], am_h0, 0, 0)) rfl rfl ?_ rfl rfl rfl
      refine am_Go.bl 4 (y := (6, [some (.ref 64), some (.int (a)), some (.int 1)], [.int 0, .int 1, .int (a)], am_h0, 0, 0)) (fun _ => rfl) ?_
      refine am_Go.cS hd3 rfl rfl rfl rfl rfl rfl ?_
      refine am_Go.bl 2 (y := (25, [some (.ref 64), some (.int (a)), some (.int 1)], [.int 0], am_h0, 0, 0)) (fun _ => rfl) ?_
      exact am_Go.rf
    exact ⟨_, _, _, hd2, ⟨_, rfl⟩, rfl, hd4, rfl⟩
set_option maxRecDepth 100000 in
theorem am_p_bestx (a : Int32) (h1 : ¬ a.toInt = 1) (h2 : ¬ a.toInt = 2) (h3 : ¬ a.toInt = 3) : am_PairOK 142 207 [.int a] := by
  cases hb1 : am_cmp .lt (a) 1 with
  | false =>
    have hd1 : am_Do true 18 107 [.ref 58] am_h0 (none, (am_h0.set 58 (.inr (9, [.ref 1, .ref 22, .ref 28, .ref 18, .int 0, .ref 59, .ref 60, .int 0, .int 0, .ref 61, .ref 62, .ref 63])))) := by
      refine am_Do.of (r := am_r107) (y := (5, [some (.ref 58)], [], (am_h0.set 58 (.inr (9, [.ref 1, .ref 22, .ref 28, .ref 18, .int 0, .ref 59, .ref 60, .int 0, .int 0, .ref 61, .ref 62, .ref 63]))), 0, 0)) rfl rfl ?_ rfl rfl rfl
      refine am_Go.bl 3 (y := (5, [some (.ref 58)], [], (am_h0.set 58 (.inr (9, [.ref 1, .ref 22, .ref 28, .ref 18, .int 0, .ref 59, .ref 60, .int 0, .int 0, .ref 61, .ref 62, .ref 63]))), 0, 0)) (fun _ => rfl) ?_
      exact am_Go.rf
    have hf1 := (am_clt_f (y := 1) (k := (1)) rfl).mp hb1
    have hb2 : am_cmp .le (a) 3 = false := (am_cle_f (k := (3)) rfl).mpr (by omega)
    have hd2 : am_Do true 19 142 [.ref 0, .int (a)] am_h0 (some (.int (-102)), (am_h0.set 58 (.inr (9, [.ref 1, .ref 22, .ref 28, .ref 18, .int 0, .ref 59, .ref 60, .int 0, .int 0, .ref 61, .ref 62, .ref 63])))) := by
      refine am_Do.of (r := am_r142) (y := (19, [some (.ref 0), some (.int (a))], [.int (-102)], (am_h0.set 58 (.inr (9, [.ref 1, .ref 22, .ref 28, .ref 18, .int 0, .ref 59, .ref 60, .int 0, .int 0, .ref 61, .ref 62, .ref 63]))), 0, 0)) rfl rfl ?_ rfl rfl rfl
      refine am_Go.bl 2 (y := (4, [some (.ref 0), some (.int (a))], [.ref 58], am_h0, 0, 0)) (fun _ => rfl) ?_
      refine am_Go.cV hd1 rfl rfl rfl rfl rfl rfl rfl ?_
      refine am_Go.bl 3 (y := (bif am_cmp .lt (a) 1 then 17 else 12, [some (.ref 0), some (.int (a))], [], (am_h0.set 58 (.inr (9, [.ref 1, .ref 22, .ref 28, .ref 18, .int 0, .ref 59, .ref 60, .int 0, .int 0, .ref 61, .ref 62, .ref 63]))), 0, 0)) (fun _ => rfl) ?_
      refine am_Go.brF hb1 ?_
      refine am_Go.bl 3 (y := (bif am_cmp .le (a) 3 then 20 else 17, [some (.ref 0), some (.int (a))], [], (am_h0.set 58 (.inr (9, [.ref 1, .ref 22, .ref 28, .ref 18, .int 0, .ref 59, .ref 60, .int 0, .int 0, .ref 61, .ref 62, .ref 63]))), 0, 0)) (fun _ => rfl) ?_
      refine am_Go.brF hb2 ?_
      refine am_Go.bl 1 (y := (19, [some (.ref 0), some (.int (a))], [.int (-102)], (am_h0.set 58 (.inr (9, [.ref 1, .ref 22, .ref 28, .ref 18, .int 0, .ref 59, .ref 60, .int 0, .int 0, .ref 61, .ref 62, .ref 63]))), 0, 0)) (fun _ => rfl) ?_
      exact am_Go.rf
    have hb3 : am_cmp .lt (a) 1 = false := (am_clt_f (k := (1)) rfl).mpr (by omega)
    have hb4 : am_cmp .gt (a) 3 = true := (am_cgt_t (k := (3)) rfl).mpr (by omega)
    have hd3 : am_Do true 18 169 [.int (a), .int 1, .int 3] (am_h0.set 58 (.inr (9, [.ref 1, .ref 22, .ref 28, .ref 18, .int 0, .ref 59, .ref 60, .int 0, .int 0, .ref 61, .ref 62, .ref 63]))) (some (.int 0), (am_h0.set 58 (.inr (9, [.ref 1, .ref 22, .ref 28, .ref 18, .int 0, .ref 59, .ref 60, .int 0, .int 0, .ref 61, .ref 62, .ref 63])))) := by
      refine am_Do.of (r := am_r169) (y := (15, [some (.int (a)), some (.int 1), some (.int 3)], [.int 0], (am_h0.set 58 (.inr (9, [.ref 1, .ref 22, .ref 28, .ref 18, .int 0, .ref 59, .ref 60, .int 0, .int 0, .ref 61, .ref 62, .ref 63]))), 0, 0)) rfl rfl ?_ rfl rfl rfl
      refine am_Go.bl 3 (y := (bif am_cmp .lt (a) 1 then 14 else 5, [some (.int (a)), some (.int 1), some (.int 3)], [], (am_h0.set 58 (.inr (9, [.ref 1, .ref 22, .ref 28, .ref 18, .int 0, .ref 59, .ref 60, .int 0, .int 0, .ref 61, .ref 62, .ref 63]))), 0, 0)) (fun _ => rfl) ?_
      refine am_Go.brF hb3 ?_
      refine am_Go.bl 3 (y := (bif am_cmp .gt (a) 3 then 14 else 10, [some (.int (a)), some (.int 1), some (.int 3)], [], (am_h0.set 58 (.inr (9, [.ref 1, .ref 22, .ref 28, .ref 18, .int 0, .ref 59, .ref 60, .int 0, .int 0, .ref 61, .ref 62, .ref 63]))), 0, 0)) (fun _ => rfl) ?_
      refine am_Go.brT hb4 ?_
      refine am_Go.bl 1 (y := (15, [some (.int (a)), some (.int 1), some (.int 3)], [.int 0], (am_h0.set 58 (.inr (9, [.ref 1, .ref 22, .ref 28, .ref 18, .int 0, .ref 59, .ref 60, .int 0, .int 0, .ref 61, .ref 62, .ref 63]))), 0, 0)) (fun _ => rfl) ?_
      exact am_Go.rf
    have hd4 : am_Do true 19 207 [.ref 64, .int (a)] (am_h0.set 58 (.inr (9, [.ref 1, .ref 22, .ref 28, .ref 18, .int 0, .ref 59, .ref 60, .int 0, .int 0, .ref 61, .ref 62, .ref 63]))) (some (.int (-102)), (am_h0.set 58 (.inr (9, [.ref 1, .ref 22, .ref 28, .ref 18, .int 0, .ref 59, .ref 60, .int 0, .int 0, .ref 61, .ref 62, .ref 63])))) := by
      refine am_Do.of (r := am_r207) (y := (11, [some (.ref 64), some (.int (a))], [.int (-102)], (am_h0.set 58 (.inr (9, [.ref 1, .ref 22, .ref 28, .ref 18, .int 0, .ref 59, .ref 60, .int 0, .int 0, .ref 61, .ref 62, .ref 63]))), 0, 0)) rfl rfl ?_ rfl rfl rfl
      refine am_Go.bl 3 (y := (3, [some (.ref 64), some (.int (a))], [.int 3, .int 1, .int (a)], (am_h0.set 58 (.inr (9, [.ref 1, .ref 22, .ref 28, .ref 18, .int 0, .ref 59, .ref 60, .int 0, .int 0, .ref 61, .ref 62, .ref 63]))), 0, 0)) (fun _ => rfl) ?_
      refine am_Go.cS hd3 rfl rfl rfl rfl rfl rfl ?_
      refine am_Go.bl 2 (y := (11, [some (.ref 64), some (.int (a))], [.int (-102)], (am_h0.set 58 (.inr (9, [.ref 1, .ref 22, .ref 28, .ref 18, .int 0, .ref 59, .ref 60, .int 0, .int 0, .ref 61, .ref 62, .ref 63]))), 0, 0)) (fun _ => rfl) ?_
      exact am_Go.rf
    exact ⟨_, _, _, hd2, ⟨_, rfl⟩, rfl, hd4, rfl⟩
  | true =>
    have hd1 : am_Do true 18 107 [.ref 58] am_h0 (none, (am_h0.set 58 (.inr (9, [.ref 1, .ref 22, .ref 28, .ref 18, .int 0, .ref 59, .ref 60, .int 0, .int 0, .ref 61, .ref 62, .ref 63])))) := by
      refine am_Do.of (r := am_r107) (y := (5, [some (.ref 58)], [], (am_h0.set 58 (.inr (9, [.ref 1, .ref 22, .ref 28, .ref 18, .int 0, .ref 59, .ref 60, .int 0, .int 0, .ref 61, .ref 62, .ref 63]))), 0, 0)) rfl rfl ?_ rfl rfl rfl
      refine am_Go.bl 3 (y := (5, [some (.ref 58)], [], (am_h0.set 58 (.inr (9, [.ref 1, .ref 22, .ref 28, .ref 18, .int 0, .ref 59, .ref 60, .int 0, .int 0, .ref 61, .ref 62, .ref 63]))), 0, 0)) (fun _ => rfl) ?_
      exact am_Go.rf
    have hf1 := (am_clt_t (y := 1) (k := (1)) rfl).mp hb1
    have hd2 : am_Do true 19 142 [.ref 0, .int (a)] am_h0 (some (.int (-102)), (am_h0.set 58 (.inr (9, [.ref 1, .ref 22, .ref 28, .ref 18, .int 0, .ref 59, .ref 60, .int 0, .int 0, .ref 61, .ref 62, .ref 63])))) := by
      refine am_Do.of (r := am_r142) (y := (19, [some (.ref 0), some (.int (a))], [.int (-102)], (am_h0.set 58 (.inr (9, [.ref 1, .ref 22, .ref 28, .ref 18, .int 0, .ref 59, .ref 60, .int 0, .int 0, .ref 61, .ref 62, .ref 63]))), 0, 0)) rfl rfl ?_ rfl rfl rfl
      refine am_Go.bl 2 (y := (4, [some (.ref 0), some (.int (a))], [.ref 58], am_h0, 0, 0)) (fun _ => rfl) ?_
      refine am_Go.cV hd1 rfl rfl rfl rfl rfl rfl rfl ?_
      refine am_Go.bl 3 (y := (bif am_cmp .lt (a) 1 then 17 else 12, [some (.ref 0), some (.int (a))], [], (am_h0.set 58 (.inr (9, [.ref 1, .ref 22, .ref 28, .ref 18, .int 0, .ref 59, .ref 60, .int 0, .int 0, .ref 61, .ref 62, .ref 63]))), 0, 0)) (fun _ => rfl) ?_
      refine am_Go.brT hb1 ?_
      refine am_Go.bl 1 (y := (19, [some (.ref 0), some (.int (a))], [.int (-102)], (am_h0.set 58 (.inr (9, [.ref 1, .ref 22, .ref 28, .ref 18, .int 0, .ref 59, .ref 60, .int 0, .int 0, .ref 61, .ref 62, .ref 63]))), 0, 0)) (fun _ => rfl) ?_
      exact am_Go.rf
    have hb2 : am_cmp .lt (a) 1 = true := (am_clt_t (k := (1)) rfl).mpr (by omega)
    have hd3 : am_Do true 18 169 [.int (a), .int 1, .int 3] (am_h0.set 58 (.inr (9, [.ref 1, .ref 22, .ref 28, .ref 18, .int 0, .ref 59, .ref 60, .int 0, .int 0, .ref 61, .ref 62, .ref 63]))) (some (.int 0), (am_h0.set 58 (.inr (9, [.ref 1, .ref 22, .ref 28, .ref 18, .int 0, .ref 59, .ref 60, .int 0, .int 0, .ref 61, .ref 62, .ref 63])))) := by
      refine am_Do.of (r := am_r169) (y := (15, [some (.int (a)), some (.int 1), some (.int 3)], [.int 0], (am_h0.set 58 (.inr (9, [.ref 1, .ref 22, .ref 28, .ref 18, .int 0, .ref 59, .ref 60, .int 0, .int 0, .ref 61, .ref 62, .ref 63]))), 0, 0)) rfl rfl ?_ rfl rfl rfl
      refine am_Go.bl 3 (y := (bif am_cmp .lt (a) 1 then 14 else 5, [some (.int (a)), some (.int 1), some (.int 3)], [], (am_h0.set 58 (.inr (9, [.ref 1, .ref 22, .ref 28, .ref 18, .int 0, .ref 59, .ref 60, .int 0, .int 0, .ref 61, .ref 62, .ref 63]))), 0, 0)) (fun _ => rfl) ?_
      refine am_Go.brT hb2 ?_
      refine am_Go.bl 1 (y := (15, [some (.int (a)), some (.int 1), some (.int 3)], [.int 0], (am_h0.set 58 (.inr (9, [.ref 1, .ref 22, .ref 28, .ref 18, .int 0, .ref 59, .ref 60, .int 0, .int 0, .ref 61, .ref 62, .ref 63]))), 0, 0)) (fun _ => rfl) ?_
      exact am_Go.rf
    have hd4 : am_Do true 19 207 [.ref 64, .int (a)] (am_h0.set 58 (.inr (9, [.ref 1, .ref 22, .ref 28, .ref 18, .int 0, .ref 59, .ref 60, .int 0, .int 0, .ref 61, .ref 62, .ref 63]))) (some (.int (-102)), (am_h0.set 58 (.inr (9, [.ref 1, .ref 22, .ref 28, .ref 18, .int 0, .ref 59, .ref 60, .int 0, .int 0, .ref 61, .ref 62, .ref 63])))) := by
      refine am_Do.of (r := am_r207) (y := (11, [some (.ref 64), some (.int (a))], [.int (-102)], (am_h0.set 58 (.inr (9, [.ref 1, .ref 22, .ref 28, .ref 18, .int 0, .ref 59, .ref 60, .int 0, .int 0, .ref 61, .ref 62, .ref 63]))), 0, 0)) rfl rfl ?_ rfl rfl rfl
      refine am_Go.bl 3 (y := (3, [some (.ref 64), some (.int (a))], [.int 3, .int 1, .int (a)], (am_h0.set 58 (.inr (9, [.ref 1, .ref 22, .ref 28, .ref 18, .int 0, .ref 59, .ref 60, .int 0, .int 0, .ref 61, .ref 62, .ref 63]))), 0, 0)) (fun _ => rfl) ?_
      refine am_Go.cS hd3 rfl rfl rfl rfl rfl rfl ?_
      refine am_Go.bl 2 (y := (11, [some (.ref 64), some (.int (a))], [.int (-102)], (am_h0.set 58 (.inr (9, [.ref 1, .ref 22, .ref 28, .ref 18, .int 0, .ref 59, .ref 60, .int 0, .int 0, .ref 61, .ref 62, .ref 63]))), 0, 0)) (fun _ => rfl) ?_
      exact am_Go.rf
    exact ⟨_, _, _, hd2, ⟨_, rfl⟩, rfl, hd4, rfl⟩
set_option maxRecDepth 100000 in
theorem am_p_countxl (a : Int32) (h1 : a.toInt < 0) : am_PairOK 147 213 [.int a] := by
  have hd1 : am_Do true 19 147 [.ref 0, .int (a)] am_h0 (some (.int (-1)), am_h0) := by
    refine am_Do.of (r := am_r147) (y := (173, [some (.ref 0), some (.int (a))], [.int (-1)], am_h0, 0, 0)) rfl rfl ?_ rfl rfl rfl
    refine am_Go.bl 1 (y := (1, [some (.ref 0), some (.int (a))], [.int (a)], am_h0, 0, 0)) (fun _ => rfl) ?_
    refine am_Go.tso rfl (by omega) rfl ?_
    refine am_Go.bl 1 (y := (173, [some (.ref 0), some (.int (a))], [.int (-1)], am_h0, 0, 0)) (fun _ => rfl) ?_
    exact am_Go.rf
  have hd2 : am_Do true 19 213 [.ref 64, .int (a)] am_h0 (some (.int (-1)), am_h0) := by
    refine am_Do.of (r := am_r213) (y := (134, [some (.ref 64), some (.int (a))], [.int (-1)], am_h0, 0, 0)) rfl rfl ?_ rfl rfl rfl
    refine am_Go.bl 1 (y := (1, [some (.ref 64), some (.int (a))], [.int (a)], am_h0, 0, 0)) (fun _ => rfl) ?_
    refine am_Go.tso rfl (by omega) rfl ?_
    refine am_Go.bl 1 (y := (134, [some (.ref 64), some (.int (a))], [.int (-1)], am_h0, 0, 0)) (fun _ => rfl) ?_
    exact am_Go.rf
  exact ⟨_, _, _, hd1, ⟨_, rfl⟩, rfl, hd2, rfl⟩
set_option maxRecDepth 100000 in
theorem am_p_countxg (a : Int32) (h1 : 12 < a.toInt) : am_PairOK 147 213 [.int a] := by
  have hd1 : am_Do true 19 147 [.ref 0, .int (a)] am_h0 (some (.int (-1)), am_h0) := by
    refine am_Do.of (r := am_r147) (y := (173, [some (.ref 0), some (.int (a))], [.int (-1)], am_h0, 0, 0)) rfl rfl ?_ rfl rfl rfl
    refine am_Go.bl 1 (y := (1, [some (.ref 0), some (.int (a))], [.int (a)], am_h0, 0, 0)) (fun _ => rfl) ?_
    refine am_Go.tso rfl (by omega) rfl ?_
    refine am_Go.bl 1 (y := (173, [some (.ref 0), some (.int (a))], [.int (-1)], am_h0, 0, 0)) (fun _ => rfl) ?_
    exact am_Go.rf
  have hd2 : am_Do true 19 213 [.ref 64, .int (a)] am_h0 (some (.int (-1)), am_h0) := by
    refine am_Do.of (r := am_r213) (y := (134, [some (.ref 64), some (.int (a))], [.int (-1)], am_h0, 0, 0)) rfl rfl ?_ rfl rfl rfl
    refine am_Go.bl 1 (y := (1, [some (.ref 64), some (.int (a))], [.int (a)], am_h0, 0, 0)) (fun _ => rfl) ?_
    refine am_Go.tso rfl (by omega) rfl ?_
    refine am_Go.bl 1 (y := (134, [some (.ref 64), some (.int (a))], [.int (-1)], am_h0, 0, 0)) (fun _ => rfl) ?_
    exact am_Go.rf
  exact ⟨_, _, _, hd1, ⟨_, rfl⟩, rfl, hd2, rfl⟩
