/-! ===== the tables are the statement's words ===== -/
def lw_good : List Cond := lw_tbl.filter goodWord
def am_has (w : Cond) (ps : Nat) : Bool := goodWord w && decide (lw_tbl[ps]? = some w)
theorem am_has_in {w : Cond} {ps : Nat} (h : am_has w ps = true) : w ∈ lw_good := by
  unfold am_has at h
  rw [Bool.and_eq_true] at h
  exact List.mem_filter.mpr ⟨List.mem_of_getElem? (of_decide_eq_true h.2), h.1⟩
theorem am_good_in : GoodIn lw_tbl lw_good := fun w h => ⟨(List.mem_filter.mp h).1, good_of_word (List.mem_filter.mp h).2⟩
def am_layok (C : String) (T : u_T) (ps : List Nat) : Bool := (List.range ps.length).all (fun k => am_has (u_lay C T k) (ps.getD k 0))
theorem am_lay_in {C : String} {T : u_T} {N : Nat} {ps : List Nat} (hn : ps.length = N) (h : am_layok C T ps = true) : ∀ w ∈ u_ws C T N, w ∈ lw_good := by
  intro w hw
  unfold u_ws at hw
  obtain ⟨k, hk, rfl⟩ := List.mem_map.mp hw
  subst hn
  unfold am_layok at h
  exact am_has_in (List.all_eq_true.mp h k hk)
def am_CF (ci : Nat) : Prop := am_cl[ci]? = some (am_R ci, am_TT ci, am_NN ci) ∧ (∀ w ∈ u_ws (am_R ci) (am_TT ci) (am_NN ci), w ∈ lw_good) ∧ (∀ k, k < am_NN ci → parseFieldDescriptor ((am_TT ci) k).2.2.1 = some (am_ty ci k)) ∧ (∀ a, a < am_NN ci → ∀ b, b < am_NN ci → a ≠ b → ((am_TT ci) a).2.1 ≠ ((am_TT ci) b).2.1) ∧ Cond.instantiable (am_R ci) (am_NN ci) ∈ lw_good ∧ Cond.initialized (am_R ci) ∈ lw_good
theorem am_cf0 : am_CF 0 := ⟨rfl, am_lay_in (ps := [284, 286, 288, 290, 292]) rfl (by decide +kernel), tyX0_ok, nmX0, am_has_in (ps := 272) (by decide +kernel), am_has_in (ps := 85) (by decide +kernel)⟩
theorem am_cf1 : am_CF 1 := ⟨rfl, am_lay_in (ps := [418, 420, 422, 424, 426, 428]) rfl (by decide +kernel), tyX1_ok, nmX1, am_has_in (ps := 404) (by decide +kernel), am_has_in (ps := 91) (by decide +kernel)⟩
theorem am_cf2 : am_CF 2 := ⟨rfl, am_lay_in (ps := [497, 499, 501, 503, 505, 507, 509, 511, 513, 515, 517, 519, 521, 523, 525]) rfl (by decide +kernel), tyX2_ok, nmX2, am_has_in (ps := 374) (by decide +kernel), am_has_in (ps := 89) (by decide +kernel)⟩
theorem am_cf3 : am_CF 3 := ⟨rfl, am_lay_in (ps := [450, 452, 454, 456, 458, 460, 462, 464, 466, 468, 470, 472]) rfl (by decide +kernel), tyX3_ok, nmX3, am_has_in (ps := 433) (by decide +kernel), am_has_in (ps := 92) (by decide +kernel)⟩
theorem am_cf4 : am_CF 4 := ⟨rfl, am_lay_in (ps := [319, 321, 323, 325]) rfl (by decide +kernel), tyX4_ok, nmX4, am_has_in (ps := 306) (by decide +kernel), am_has_in (ps := 87) (by decide +kernel)⟩
theorem am_cf5 : am_CF 5 := ⟨rfl, am_lay_in (ps := [249, 251, 253, 255, 257, 259, 261, 263, 265, 267]) rfl (by decide +kernel), tyX5_ok, nmX5, am_has_in (ps := 177) (by decide +kernel), am_has_in (ps := 80) (by decide +kernel)⟩
theorem am_cf6 : am_CF 6 := ⟨rfl, am_lay_in (ps := [149, 151, 153, 155, 157, 159, 161, 163, 165, 167, 169, 171]) rfl (by decide +kernel), tyX6_ok, nmX6, am_has_in (ps := 110) (by decide +kernel), am_has_in (ps := 79) (by decide +kernel)⟩
theorem am_cf7 : am_CF 7 := ⟨rfl, am_lay_in (ps := [352, 354, 356, 358, 360, 362, 364, 366, 368, 370]) rfl (by decide +kernel), tyX7_ok, nmX7, am_has_in (ps := 330) (by decide +kernel), am_has_in (ps := 88) (by decide +kernel)⟩
theorem am_cf8 : am_CF 8 := ⟨rfl, am_lay_in (ps := [391, 393, 395, 397, 399]) rfl (by decide +kernel), tyX8_ok, nmX8, am_has_in (ps := 380) (by decide +kernel), am_has_in (ps := 90) (by decide +kernel)⟩
theorem am_cf9 : am_CF 9 := ⟨rfl, am_lay_in (ps := [550, 552, 554, 556, 558, 560, 562, 564, 566, 568, 570, 572]) rfl (by decide +kernel), tyX9_ok, nmX9, am_has_in (ps := 529) (by decide +kernel), am_has_in (ps := 94) (by decide +kernel)⟩
theorem am_cf10 : am_CF 10 := ⟨rfl, am_lay_in (ps := [302]) rfl (by decide +kernel), tyX10_ok, nmX10, am_has_in (ps := 296) (by decide +kernel), am_has_in (ps := 86) (by decide +kernel)⟩
theorem am_cf11 : am_CF 11 := ⟨rfl, am_lay_in (ps := [583, 585, 587, 589, 591, 593, 595, 597]) rfl (by decide +kernel), tyX11_ok, nmX11, am_has_in (ps := 102) (by decide +kernel), am_has_in (ps := 78) (by decide +kernel)⟩
theorem am_cf12 : am_CF 12 := ⟨rfl, am_lay_in (ps := [1302, 1304, 1306, 1308, 1310, 1312, 1314, 1316, 1318, 1320, 1322, 1324, 1326, 1328, 1330, 1332, 1334, 1336, 1338, 1340, 1342, 1344, 1346, 1348, 1350, 1352, 1354, 1356, 1358, 1360, 1362, 1364, 1366, 1368, 1370, 1372, 1374, 1376, 1378, 1380, 1382, 1384, 1386, 1388, 1390, 1392, 1394, 1396, 1398, 1400, 1402, 1404, 1406, 1408, 1410, 1412, 1414, 1416, 1418, 1420, 1422, 1424, 1426, 1428, 1430]) rfl (by decide +kernel), tyX12_ok, nmX12, am_has_in (ps := 1230) (by decide +kernel), am_has_in (ps := 95) (by decide +kernel)⟩
theorem am_cf (ci : Nat) (h : ci < 13) : am_CF ci := match ci, h with
  | 0, _ => am_cf0
  | 1, _ => am_cf1
  | 2, _ => am_cf2
  | 3, _ => am_cf3
  | 4, _ => am_cf4
  | 5, _ => am_cf5
  | 6, _ => am_cf6
  | 7, _ => am_cf7
  | 8, _ => am_cf8
  | 9, _ => am_cf9
  | 10, _ => am_cf10
  | 11, _ => am_cf11
  | 12, _ => am_cf12
  | n + 13, h => absurd h (by omega)
theorem am_fld_all : (List.range 16).all (fun o => (am_fldO o).all (fun e => Nat.blt e.2.1 13 && Nat.blt e.2.2.1 (am_NN e.2.1) && am_has (.fieldLink (am_R o) e.1 (am_TT e.2.1 e.2.2.1).1 (am_TT e.2.1 e.2.2.1).2.1 (am_TT e.2.1 e.2.2.1).2.2.1) e.2.2.2)) = true := by decide +kernel
theorem am_fld_inv {o idx : Nat} {f : Nat × Nat} (h : am_fld o idx = some f) : am_CF f.1 ∧ f.2 < am_NN f.1 ∧ Cond.fieldLink (am_R o) idx (am_TT f.1 f.2).1 (am_TT f.1 f.2).2.1 (am_TT f.1 f.2).2.2.1 ∈ lw_good := by
  unfold am_fld at h
  cases ho : Nat.blt o 16 with
  | false => rw [ho] at h; cases h
  | true =>
    rw [ho] at h
    obtain ⟨e, he, rfl⟩ := am_map_inv h
    have h1 := List.all_eq_true.mp (List.all_eq_true.mp am_fld_all o (List.mem_range.mpr (by simpa [Nat.blt_eq] using ho))) e (List.mem_of_find?_eq_some he)
    have h3 := List.find?_some he
    have h2 := Nat.eq_of_beq_eq_true h3
    simp only [Bool.and_eq_true, Nat.blt_eq] at h1
    refine ⟨am_cf _ h1.1.1, h1.1.2, ?_⟩
    rw [← h2]
    exact am_has_in h1.2
theorem am_new_all : (List.range 16).all (fun o => (am_newO o).all (fun e => Nat.blt e.2.1 13 && am_has (.classLink (am_R o) e.1 (am_R e.2.1)) e.2.2)) = true := by decide +kernel
theorem am_new_inv {o idx c : Nat} (h : am_new o idx = some c) : am_CF c ∧ Cond.classLink (am_R o) idx (am_R c) ∈ lw_good := by
  unfold am_new at h
  cases ho : Nat.blt o 16 with
  | false => rw [ho] at h; cases h
  | true =>
    rw [ho] at h
    obtain ⟨e, he, rfl⟩ := am_map_inv h
    have h1 := List.all_eq_true.mp (List.all_eq_true.mp am_new_all o (List.mem_range.mpr (by simpa [Nat.blt_eq] using ho))) e (List.mem_of_find?_eq_some he)
    have h3 := List.find?_some he
    have h2 := Nat.eq_of_beq_eq_true h3
    simp only [Bool.and_eq_true, Nat.blt_eq] at h1
    refine ⟨am_cf _ h1.1, ?_⟩
    rw [← h2]
    exact am_has_in h1.2
def am_kok (o : Nat) (e : Nat × Value × Nat) : Bool := match e.2.1 with
  | .int v => am_has (.constant (am_R o) e.1 v) e.2.2
  | .long v => am_has (.constantLong (am_R o) e.1 v) e.2.2
  | _ => false
theorem am_k_all : (List.range 16).all (fun o => (am_kO o).all (am_kok o)) = true := by decide +kernel
theorem am_kst_inv {o idx : Nat} {v : Value} (h : am_kst o idx = some v) : (∀ x, v = .int x → Cond.constant (am_R o) idx x ∈ lw_good) ∧ ∀ x, v = .long x → Cond.constantLong (am_R o) idx x ∈ lw_good := by
  unfold am_kst at h
  cases ho : Nat.blt o 16 with
  | false => rw [ho] at h; cases h
  | true =>
    rw [ho] at h
    obtain ⟨e, he, rfl⟩ := am_map_inv h
    have h1 := List.all_eq_true.mp (List.all_eq_true.mp am_k_all o (List.mem_range.mpr (by simpa [Nat.blt_eq] using ho))) e (List.mem_of_find?_eq_some he)
    have h3 := List.find?_some he
    have h2 := Nat.eq_of_beq_eq_true h3
    rw [← h2]
    unfold am_kok at h1
    refine ⟨fun x hx => ?_, fun x hx => ?_⟩
    · rw [hx] at h1; exact am_has_in h1
    · rw [hx] at h1; exact am_has_in h1
theorem am_arr_byte : Cond.arrayClass .byte ∈ lw_good := am_has_in (ps := 270) (by decide +kernel)
theorem am_arr_int : Cond.arrayClass .int ∈ lw_good := am_has_in (ps := 175) (by decide +kernel)
theorem am_arr_long : Cond.arrayClass .long ∈ lw_good := am_has_in (ps := 174) (by decide +kernel)
theorem am_arr_short : Cond.arrayClass .short ∈ lw_good := am_has_in (ps := 431) (by decide +kernel)
theorem am_arr_boolean : Cond.arrayClass .boolean ∈ lw_good := am_has_in (ps := 328) (by decide +kernel)
