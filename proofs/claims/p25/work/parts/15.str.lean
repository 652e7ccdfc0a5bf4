/-! ===== length and charAt of the text: the JDK's own code ===== -/
def ys_len : MethodName := ⟨"java/lang/String", "length", "()I"⟩
def ws_len : List Cond := .code ys_len prog_18_method_54_code 1 (some .int) :: lw_good
theorem ks_len : Cond.code ys_len prog_18_method_54_code 1 (some .int) ∈ lw_good := am_has_in (ps := 188) (by decide +kernel)
theorem ds_len_0 : decode prog_18_method_54_code 0 = .ok (.aload_n 0, 1) := by decide +kernel
theorem ds_len_1 : decode prog_18_method_54_code 1 = .ok (.getfield 9, 3) := by decide +kernel
theorem ds_len_4 : decode prog_18_method_54_code 4 = .ok (.arraylength, 1) := by decide +kernel
theorem ds_len_5 : decode prog_18_method_54_code 5 = .ok (.aload_n 0, 1) := by decide +kernel
theorem ds_len_6 : decode prog_18_method_54_code 6 = .ok (.invokevirtual 335, 3) := by decide +kernel
theorem ds_len_9 : decode prog_18_method_54_code 9 = .ok (.ishr, 1) := by decide +kernel
theorem ds_len_10 : decode prog_18_method_54_code 10 = .ok (.ireturn, 1) := by decide +kernel
def ys_cod : MethodName := ⟨"java/lang/String", "coder", "()B"⟩
def ws_cod : List Cond := .code ys_cod prog_18_method_152_code 1 (some .byte) :: lw_good
theorem ks_cod : Cond.code ys_cod prog_18_method_152_code 1 (some .byte) ∈ lw_good := am_has_in (ps := 192) (by decide +kernel)
theorem ds_cod_0 : decode prog_18_method_152_code 0 = .ok (.getstatic 38, 3) := by decide +kernel
theorem ds_cod_3 : decode prog_18_method_152_code 3 = .ok (.ifCond .eq 10, 3) := by decide +kernel
theorem ds_cod_6 : decode prog_18_method_152_code 6 = .ok (.aload_n 0, 1) := by decide +kernel
theorem ds_cod_7 : decode prog_18_method_152_code 7 = .ok (.getfield 15, 3) := by decide +kernel
theorem ds_cod_10 : decode prog_18_method_152_code 10 = .ok (.goto 4, 3) := by decide +kernel
theorem ds_cod_13 : decode prog_18_method_152_code 13 = .ok (.iconst 1, 1) := by decide +kernel
theorem ds_cod_14 : decode prog_18_method_152_code 14 = .ok (.ireturn, 1) := by decide +kernel
def ys_chr : MethodName := ⟨"java/lang/String", "charAt", "(I)C"⟩
def ws_chr : List Cond := .code ys_chr prog_18_method_56_code 2 (some .char) :: lw_good
theorem ks_chr : Cond.code ys_chr prog_18_method_56_code 2 (some .char) ∈ lw_good := am_has_in (ps := 198) (by decide +kernel)
theorem ds_chr_0 : decode prog_18_method_56_code 0 = .ok (.aload_n 0, 1) := by decide +kernel
theorem ds_chr_1 : decode prog_18_method_56_code 1 = .ok (.invokevirtual 492, 3) := by decide +kernel
theorem ds_chr_4 : decode prog_18_method_56_code 4 = .ok (.ifCond .eq 12, 3) := by decide +kernel
theorem ds_chr_7 : decode prog_18_method_56_code 7 = .ok (.aload_n 0, 1) := by decide +kernel
theorem ds_chr_8 : decode prog_18_method_56_code 8 = .ok (.getfield 9, 3) := by decide +kernel
theorem ds_chr_11 : decode prog_18_method_56_code 11 = .ok (.iload_n 1, 1) := by decide +kernel
theorem ds_chr_12 : decode prog_18_method_56_code 12 = .ok (.invokestatic 495, 3) := by decide +kernel
theorem ds_chr_15 : decode prog_18_method_56_code 15 = .ok (.ireturn, 1) := by decide +kernel
def ys_lat : MethodName := ⟨"java/lang/String", "isLatin1", "()Z"⟩
def ws_lat : List Cond := .code ys_lat prog_18_method_154_code 1 (some .boolean) :: lw_good
theorem ks_lat : Cond.code ys_lat prog_18_method_154_code 1 (some .boolean) ∈ lw_good := am_has_in (ps := 202) (by decide +kernel)
theorem ds_lat_0 : decode prog_18_method_154_code 0 = .ok (.getstatic 38, 3) := by decide +kernel
theorem ds_lat_3 : decode prog_18_method_154_code 3 = .ok (.ifCond .eq 14, 3) := by decide +kernel
theorem ds_lat_6 : decode prog_18_method_154_code 6 = .ok (.aload_n 0, 1) := by decide +kernel
theorem ds_lat_7 : decode prog_18_method_154_code 7 = .ok (.getfield 15, 3) := by decide +kernel
theorem ds_lat_10 : decode prog_18_method_154_code 10 = .ok (.ifCond .ne 7, 3) := by decide +kernel
theorem ds_lat_13 : decode prog_18_method_154_code 13 = .ok (.iconst 1, 1) := by decide +kernel
theorem ds_lat_14 : decode prog_18_method_154_code 14 = .ok (.goto 4, 3) := by decide +kernel
theorem ds_lat_17 : decode prog_18_method_154_code 17 = .ok (.iconst 0, 1) := by decide +kernel
theorem ds_lat_18 : decode prog_18_method_154_code 18 = .ok (.ireturn, 1) := by decide +kernel
def ys_lch : MethodName := ⟨"java/lang/StringLatin1", "charAt", "([BI)C"⟩
def ws_lch : List Cond := .code ys_lch prog_19_method_2_code 2 (some .char) :: lw_good
theorem ks_lch : Cond.code ys_lch prog_19_method_2_code 2 (some .char) ∈ lw_good := am_has_in (ps := 205) (by decide +kernel)
theorem ds_lch_0 : decode prog_19_method_2_code 0 = .ok (.iload_n 1, 1) := by decide +kernel
theorem ds_lch_1 : decode prog_19_method_2_code 1 = .ok (.aload_n 0, 1) := by decide +kernel
theorem ds_lch_2 : decode prog_19_method_2_code 2 = .ok (.arraylength, 1) := by decide +kernel
theorem ds_lch_3 : decode prog_19_method_2_code 3 = .ok (.invokestatic 9, 3) := by decide +kernel
theorem ds_lch_6 : decode prog_19_method_2_code 6 = .ok (.aload_n 0, 1) := by decide +kernel
theorem ds_lch_7 : decode prog_19_method_2_code 7 = .ok (.iload_n 1, 1) := by decide +kernel
theorem ds_lch_8 : decode prog_19_method_2_code 8 = .ok (.baload, 1) := by decide +kernel
theorem ds_lch_9 : decode prog_19_method_2_code 9 = .ok (.sipush 255, 3) := by decide +kernel
theorem ds_lch_12 : decode prog_19_method_2_code 12 = .ok (.iand, 1) := by decide +kernel
theorem ds_lch_13 : decode prog_19_method_2_code 13 = .ok (.i2c, 1) := by decide +kernel
theorem ds_lch_14 : decode prog_19_method_2_code 14 = .ok (.ireturn, 1) := by decide +kernel
def ys_chk : MethodName := ⟨"java/lang/String", "checkIndex", "(II)V"⟩
def ws_chk : List Cond := .code ys_chk prog_18_method_155_code 2 none :: lw_good
theorem ks_chk : Cond.code ys_chk prog_18_method_155_code 2 none ∈ lw_good := am_has_in (ps := 208) (by decide +kernel)
theorem ds_chk_0 : decode prog_18_method_155_code 0 = .ok (.iload_n 0, 1) := by decide +kernel
theorem ds_chk_1 : decode prog_18_method_155_code 1 = .ok (.iload_n 1, 1) := by decide +kernel
theorem ds_chk_2 : decode prog_18_method_155_code 2 = .ok (.getstatic 1053, 3) := by decide +kernel
theorem ds_chk_5 : decode prog_18_method_155_code 5 = .ok (.invokestatic 1059, 3) := by decide +kernel
theorem ds_chk_8 : decode prog_18_method_155_code 8 = .ok (.pop, 1) := by decide +kernel
theorem ds_chk_9 : decode prog_18_method_155_code 9 = .ok (.return_, 1) := by decide +kernel
def ys_pre : MethodName := ⟨"jdk/internal/util/Preconditions", "checkIndex", "(IILjava/util/function/BiFunction;)I"⟩
def ws_pre : List Cond := .code ys_pre prog_24_method_11_code 3 (some .int) :: lw_good
theorem ks_pre : Cond.code ys_pre prog_24_method_11_code 3 (some .int) ∈ lw_good := am_has_in (ps := 213) (by decide +kernel)
theorem ds_pre_0 : decode prog_24_method_11_code 0 = .ok (.iload_n 0, 1) := by decide +kernel
theorem ds_pre_1 : decode prog_24_method_11_code 1 = .ok (.ifCond .lt 8, 3) := by decide +kernel
theorem ds_pre_4 : decode prog_24_method_11_code 4 = .ok (.iload_n 0, 1) := by decide +kernel
theorem ds_pre_5 : decode prog_24_method_11_code 5 = .ok (.iload_n 1, 1) := by decide +kernel
theorem ds_pre_6 : decode prog_24_method_11_code 6 = .ok (.if_icmp .lt 10, 3) := by decide +kernel
theorem ds_pre_16 : decode prog_24_method_11_code 16 = .ok (.iload_n 0, 1) := by decide +kernel
theorem ds_pre_17 : decode prog_24_method_11_code 17 = .ok (.ireturn, 1) := by decide +kernel
theorem hs_val : Cond.fieldLink "java/lang/String" 9 "java/lang/String" "value" "[B" ∈ lw_good := am_has_in (ps := 1723) (by decide +kernel)
theorem hs_cof : Cond.fieldLink "java/lang/String" 15 "java/lang/String" "coder" "B" ∈ lw_good := am_has_in (ps := 1724) (by decide +kernel)
theorem hs_cst : Cond.fieldLink "java/lang/String" 38 "java/lang/String" "COMPACT_STRINGS" "Z" ∈ lw_good := am_has_in (ps := 193) (by decide +kernel)
theorem hs_sio : Cond.fieldLink "java/lang/String" 1053 "jdk/internal/util/Preconditions" "SIOOBE_FORMATTER" "Ljava/util/function/BiFunction;" ∈ lw_good := am_has_in (ps := 209) (by decide +kernel)
theorem hs_lcod : Cond.methodLink "java/lang/String" 335 ys_cod ∈ lw_good := am_has_in (ps := 189) (by decide +kernel)
theorem hs_llat : Cond.methodLink "java/lang/String" 492 ys_lat ∈ lw_good := am_has_in (ps := 199) (by decide +kernel)
theorem hs_llch : Cond.methodLink "java/lang/String" 495 ys_lch ∈ lw_good := am_has_in (ps := 203) (by decide +kernel)
theorem hs_lchk : Cond.methodLink "java/lang/StringLatin1" 9 ys_chk ∈ lw_good := am_has_in (ps := 206) (by decide +kernel)
theorem hs_lpre : Cond.methodLink "java/lang/String" 1059 ys_pre ∈ lw_good := am_has_in (ps := 211) (by decide +kernel)
theorem hs_ilen : Cond.instanceMethod ys_len ∈ lw_good := am_has_in (ps := 186) (by decide +kernel)
theorem hs_slen : Cond.selects "java/lang/String" ys_len ys_len ∈ lw_good := am_has_in (ps := 187) (by decide +kernel)
theorem hs_icod : Cond.instanceMethod ys_cod ∈ lw_good := am_has_in (ps := 190) (by decide +kernel)
theorem hs_scod : Cond.selects "java/lang/String" ys_cod ys_cod ∈ lw_good := am_has_in (ps := 191) (by decide +kernel)
theorem hs_ichr : Cond.instanceMethod ys_chr ∈ lw_good := am_has_in (ps := 196) (by decide +kernel)
theorem hs_schr : Cond.selects "java/lang/String" ys_chr ys_chr ∈ lw_good := am_has_in (ps := 197) (by decide +kernel)
theorem hs_ilat : Cond.instanceMethod ys_lat ∈ lw_good := am_has_in (ps := 200) (by decide +kernel)
theorem hs_slat : Cond.selects "java/lang/String" ys_lat ys_lat ∈ lw_good := am_has_in (ps := 201) (by decide +kernel)
theorem hs_tlch : Cond.static ys_lch ∈ lw_good := am_has_in (ps := 204) (by decide +kernel)
theorem hs_tchk : Cond.static ys_chk ∈ lw_good := am_has_in (ps := 207) (by decide +kernel)
theorem hs_tpre : Cond.static ys_pre ∈ lw_good := am_has_in (ps := 212) (by decide +kernel)
theorem hs_nS : Cond.initialized "java/lang/String" ∈ lw_good := am_has_in (ps := 81) (by decide +kernel)
theorem hs_nL : Cond.initialized "java/lang/StringLatin1" ∈ lw_good := am_has_in (ps := 82) (by decide +kernel)
theorem hs_nP : Cond.initialized "jdk/internal/util/Preconditions" ∈ lw_good := am_has_in (ps := 83) (by decide +kernel)
def am_Ps (G : am_G) (U : State) : Prop := am_X G U ∧ G.1 ≤ U.heap.size
def am_Qs (v : Option Value) : Array Value → State → Outcome → State → Prop := fun _ st oc t => oc = .returned v ∧ t.heap = st.heap
theorem am_blS {G : am_G} {av : List Value} : FrameBlind (va_Pc av (am_Ps G)) := fun a U g mk q => ⟨q.1, q.2.1.calling g mk a, q.2.2⟩
theorem am_gdS {ws : List Cond} {w0 : Cond} (h0 : w0 ∈ lw_good) (hw : ws = w0 :: lw_good) {Ts : List Cond} (hgd : ∀ w ∈ lw_good, w ∈ Ts) : GoodIn Ts ws := by
  subst hw
  intro w hw
  have hw2 : w ∈ lw_good := by
    rcases List.mem_cons.mp hw with rfl | hw
    · exact h0
    · exact hw
  exact ⟨hgd w hw2, (am_good_in w hw2).2⟩
theorem am_gdV {own : String} {idx : Nat} {C : String} {y : MethodName} {ws : List Cond} {Ts : List Cond} (hgd : ∀ w ∈ lw_good, w ∈ Ts) (hG : GoodIn Ts ws) (w1 : Cond.methodLink own idx y ∈ lw_good) (w2 : Cond.instanceMethod y ∈ lw_good) (w3 : Cond.selects C y y ∈ lw_good) (w4 : Cond.initialized C ∈ lw_good) : GoodIn Ts (wsV own idx C y ws) := by
  intro w hw
  unfold wsV at hw
  rcases List.mem_append.mp hw with hw | hw
  · have hw2 : w ∈ lw_good := by
      simp only [List.mem_cons, List.not_mem_nil, or_false] at hw
      rcases hw with rfl | rfl | rfl | rfl
      · exact w1
      · exact w2
      · exact w3
      · exact w4
    exact ⟨hgd w hw2, (am_good_in w hw2).2⟩
  · exact hG w hw
theorem cs_cod (l : Launch) (G : am_G) : Met l ys_cod ws_cod ({ frames := 0, cells := 0, slots := 0, locals := 0 }) (va_Pc [.ref G.2.2] (am_Ps G)) (am_Qs (some (.int 0))) 0 0 (am_A G) := by
  refine Met.ofW (cc := prog_18_method_152_code) (maxL := 1) (ret := (some .byte)) (by decide) rfl ?_
  intro p e s m args below meth c s₁ B hml hv
  obtain ⟨rfl, ⟨-, -, ⟨adV, hStr⟩, hZ, -⟩, hG⟩ := hv
  have hx := B.exec
  have hb := B.bytes
  have hr := B.returns
  have hts := atoms_spec (ws := ws_cod) B.pre
  have hgd : ∀ w ∈ lw_good, w ∈ ws_cod := fun w h => List.mem_cons_of_mem _ h
  have hown : s.vm.findClass "java/lang/String" = some m.cls := findClass_of_methodNamed B.named
  have hlocks := B.notSynchronized
  have hS : va_S (am_A G) s.heap s.heap [] := va_S.rf
  obtain ⟨hO, hcod, hval, hT⟩ := hStr.1 0 (by decide)
  have hl := lv_entry ([.ref G.2.2]) (n := 1) (Nat.le_of_ble_eq_true rfl)
  rw [lg_entry_eq]
  generalize (lg_sl ([.ref G.2.2]) ++ List.replicate (1 - (lg_sl ([.ref G.2.2])).length) Slot.unset).toArray = ls at hl ⊢
  have hl : lv_has ls 1 [(0, .ref G.2.2)] := hl
  refine va_gets hx hb hZ hS hown (hts _ (hgd _ hs_cst)) (fun _ h => h) ds_cod_0 ?_
  refine lv_if_eq (tgt := 13) hx hb ds_cod_3 (by decide) (fun hc => absurd hc (by decide)) (fun _ => ?_)
  refine lv_aload_n hx hb ds_cod_6 rfl (lv_at hl 0 rfl) ?_
  refine vk_getf hx hb hcod hS hown (hts _ (hgd _ hs_cof)) (fun _ h => h) ds_cod_7 ?_
  refine lv_goto (tgt := 14) hx hb ds_cod_10 (by decide) ?_
  exact W.zret (v := 0) hx hb hr (by decide) (fun t ht hW => ⟨rfl, ht⟩) hS.2.2 ds_cod_14
theorem cs_lat (l : Launch) (G : am_G) : Met l ys_lat ws_lat ({ frames := 0, cells := 0, slots := 0, locals := 0 }) (va_Pc [.ref G.2.2] (am_Ps G)) (am_Qs (some (.int 1))) 0 0 (am_A G) := by
  refine Met.ofW (cc := prog_18_method_154_code) (maxL := 1) (ret := (some .boolean)) (by decide) rfl ?_
  intro p e s m args below meth c s₁ B hml hv
  obtain ⟨rfl, ⟨-, -, ⟨adV, hStr⟩, hZ, -⟩, hG⟩ := hv
  have hx := B.exec
  have hb := B.bytes
  have hr := B.returns
  have hts := atoms_spec (ws := ws_lat) B.pre
  have hgd : ∀ w ∈ lw_good, w ∈ ws_lat := fun w h => List.mem_cons_of_mem _ h
  have hown : s.vm.findClass "java/lang/String" = some m.cls := findClass_of_methodNamed B.named
  have hlocks := B.notSynchronized
  have hS : va_S (am_A G) s.heap s.heap [] := va_S.rf
  obtain ⟨hO, hcod, hval, hT⟩ := hStr.1 0 (by decide)
  have hl := lv_entry ([.ref G.2.2]) (n := 1) (Nat.le_of_ble_eq_true rfl)
  rw [lg_entry_eq]
  generalize (lg_sl ([.ref G.2.2]) ++ List.replicate (1 - (lg_sl ([.ref G.2.2])).length) Slot.unset).toArray = ls at hl ⊢
  have hl : lv_has ls 1 [(0, .ref G.2.2)] := hl
  refine va_gets hx hb hZ hS hown (hts _ (hgd _ hs_cst)) (fun _ h => h) ds_lat_0 ?_
  refine lv_if_eq (tgt := 17) hx hb ds_lat_3 (by decide) (fun hc => absurd hc (by decide)) (fun _ => ?_)
  refine lv_aload_n hx hb ds_lat_6 rfl (lv_at hl 0 rfl) ?_
  refine vk_getf hx hb hcod hS hown (hts _ (hgd _ hs_cof)) (fun _ h => h) ds_lat_7 ?_
  refine lv_if_ne (tgt := 17) hx hb ds_lat_10 (by decide) (fun hc => absurd rfl hc) (fun _ => ?_)
  refine lv_iconst (v := 1) hx hb ds_lat_13 (by decide) ?_
  refine lv_goto (tgt := 18) hx hb ds_lat_14 (by decide) ?_
  exact W.zret (v := 1) hx hb hr (by decide) (fun t ht hW => ⟨rfl, ht⟩) hS.2.2 ds_lat_18
theorem cs_pre (l : Launch) (G : am_G) (j : Int32) (hj : vp_in j 69) (v : Value) (hv : v = .null ∨ ∃ q, v = .ref q) : Met l ys_pre ws_pre ({ frames := 0, cells := 0, slots := 0, locals := 0 }) (va_Pc [.int j, .int 69, v] (am_Ps G)) (am_Qs (some (.int j))) 0 0 (am_A G) := by
  refine Met.ofW (cc := prog_24_method_11_code) (maxL := 3) (ret := (some .int)) (by decide) rfl ?_
  intro p e s m args below meth c s₁ B hml hp
  obtain ⟨rfl, -, hG⟩ := hp
  have hx := B.exec
  have hb := B.bytes
  have hr := B.returns
  have hlocks := B.notSynchronized
  have hS : va_S (am_A G) s.heap s.heap [] := va_S.rf
  have hcat : (lg_sl ([.int j, .int 69, v])).length ≤ 3 := by rcases hv with rfl | ⟨q, rfl⟩ <;> exact Nat.le_of_ble_eq_true rfl
  have hl := lv_entry ([.int j, .int 69, v]) (n := 3) hcat
  rw [lg_entry_eq]
  generalize (lg_sl ([.int j, .int 69, v]) ++ List.replicate (3 - (lg_sl ([.int j, .int 69, v])).length) Slot.unset).toArray = ls at hl ⊢
  have hl : lv_has ls 3 [(0, .int j), (1, .int 69), (2, v)] := hl
  have h1 : ¬ j < 0 := fun q => hj (Or.inl q)
  have h2 : j < 69 := by
    have h3 : j.toNatClampNeg < 69 := Nat.not_le.mp fun q => hj (Or.inr q)
    rw [Int32.lt_iff_toInt_lt] at h1 ⊢
    have h4 : j.toNatClampNeg = j.toInt.toNat := rfl
    have h5 : (0 : Int32).toInt = 0 := by decide
    have h6 : (69 : Int32).toInt = 69 := by decide
    omega
  refine lv_iload_n hx hb ds_pre_0 rfl (lv_at hl 0 rfl) ?_
  refine lv_if_lt (tgt := 9) hx hb ds_pre_1 (by decide) (fun hc => absurd hc h1) (fun _ => ?_)
  refine lv_iload_n hx hb ds_pre_4 rfl (lv_at hl 0 rfl) ?_
  refine lv_iload_n hx hb ds_pre_5 rfl (lv_at hl 1 rfl) ?_
  refine lv_icmp_lt (tgt := 16) hx hb ds_pre_6 (by decide) (fun _ => ?_) (fun hc => absurd h2 hc)
  refine lv_iload_n hx hb ds_pre_16 rfl (lv_at hl 0 rfl) ?_
  exact W.iret (v := j) hx hb hr (fun t ht hW => ⟨rfl, ht⟩) hS.2.2 ds_pre_17
theorem cs_chk (l : Launch) (G : am_G) (j : Int32) (hj : vp_in j 69) : Met l ys_chk ws_chk ({ frames := 1, cells := 0, slots := 0, locals := 64 }) (va_Pc [.int j, .int 69] (am_Ps G)) (am_Qs none) 0 0 (am_A G) := by
  refine Met.ofW (cc := prog_18_method_155_code) (maxL := 2) (ret := none) (by decide) rfl ?_
  intro p e s m args below meth c s₁ B hml hv
  obtain ⟨rfl, hX, hG⟩ := hv
  obtain ⟨-, -, -, -, v, hv, hZ⟩ := id hX
  have hx := B.exec
  have hb := B.bytes
  have hr := B.returns
  have hts := atoms_spec (ws := ws_chk) B.pre
  have hgd : ∀ w ∈ lw_good, w ∈ ws_chk := fun w h => List.mem_cons_of_mem _ h
  have hown : s.vm.findClass "java/lang/String" = some m.cls := findClass_of_methodNamed B.named
  have hlocks := B.notSynchronized
  have hS : va_S (am_A G) s.heap s.heap [] := va_S.rf
  have hl := lv_entry ([.int j, .int 69]) (n := 2) (Nat.le_of_ble_eq_true rfl)
  rw [lg_entry_eq]
  generalize (lg_sl ([.int j, .int 69]) ++ List.replicate (2 - (lg_sl ([.int j, .int 69])).length) Slot.unset).toArray = ls at hl ⊢
  have hl : lv_has ls 2 [(0, .int j), (1, .int 69)] := hl
  refine lv_iload_n hx hb ds_chk_0 rfl (lv_at hl 0 rfl) ?_
  refine lv_iload_n hx hb ds_chk_1 rfl (lv_at hl 1 rfl) ?_
  refine va_gets hx hb hZ hS hown (hts _ (hgd _ hs_sio)) (fun _ h => h) ds_chk_2 ?_
  refine am_callG (va_runS (As := [.int j, .int 69, v]) (rest := []) ⟨hx, hb, hml, hown, hts⟩ (cs_pre l G j hj v hv) ⟨callB_of 3 hts (am_gdS ks_pre rfl hgd) rfl rfl rfl (hts _ (hgd _ hs_nP)) (hts _ (hgd _ hs_lpre)) (by decide +kernel) ⟨Nat.le_of_ble_eq_true rfl, Nat.le_of_ble_eq_true rfl⟩, hts _ (hgd _ hs_tpre)⟩ ⟨am_blS, fun U hU hW => ⟨rfl, hX.to hS hU hW, by rw [hU]; exact hG⟩⟩ rfl rfl hl.1 rfl (lv_room (Nat.le_of_ble_eq_true rfl)) ds_chk_5 ⟨Nat.le_refl _, Nat.le_refl _⟩) hS (fun _ h => h) (fun st₀ v t z0 z1 => by rw [z1.2, z0]; exact ⟨Nat.le_refl _, fun _ _ _ => rfl⟩) (fun v2 st₀ t locs1 z0 z1 hS1 => ?_)
  obtain ⟨z2, z3⟩ := z1
  cases z2
  rw [z3, z0] at hS1 ⊢
  refine lv_pop hx hb ds_chk_8 rfl ?_
  exact W.vret hx hb hr (fun t ht hW => ⟨rfl, ht⟩) hS1.2.2 ds_chk_9
theorem am_c255 : ∀ x ∈ am_txt, (x &&& (Int16.ofInt 255).toInt32).toUInt32 % 65536 = x.toUInt32 ∧ narrow .char (.int x) = .int x := by decide +kernel
theorem cs_lch (l : Launch) (G : am_G) (adV : Nat) (j : Int32) (hj : vp_in j 69) : Met l ys_lch ws_lch ({ frames := 2, cells := 0, slots := 0, locals := 128 }) (va_Pc [.ref adV, .int j] (fun U => am_Ps G U ∧ vk_S 1 [69] [am_txt] (fun _ => G.2.2) (fun _ => adV) (am_A G) U U.heap)) (am_Qs (some (.int (am_txt.getD j.toNatClampNeg 0)))) 0 0 (am_A G) := by
  refine Met.ofW (cc := prog_19_method_2_code) (maxL := 2) (ret := (some .char)) (by decide) rfl ?_
  intro p e s m args below meth c s₁ B hml hv
  obtain ⟨rfl, ⟨hX, hG⟩, hStr⟩ := hv
  have hx := B.exec
  have hb := B.bytes
  have hr := B.returns
  have hts := atoms_spec (ws := ws_lch) B.pre
  have hgd : ∀ w ∈ lw_good, w ∈ ws_lch := fun w h => List.mem_cons_of_mem _ h
  have hown : s.vm.findClass "java/lang/StringLatin1" = some m.cls := findClass_of_methodNamed B.named
  have hlocks := B.notSynchronized
  have hS : va_S (am_A G) s.heap s.heap [] := va_S.rf
  obtain ⟨hO, hcod, hval, hT⟩ := hStr.1 0 (by decide)
  have hl := lv_entry ([.ref adV, .int j]) (n := 2) (Nat.le_of_ble_eq_true rfl)
  rw [lg_entry_eq]
  generalize (lg_sl ([.ref adV, .int j]) ++ List.replicate (2 - (lg_sl ([.ref adV, .int j])).length) Slot.unset).toArray = ls at hl ⊢
  have hl : lv_has ls 2 [(0, .ref adV), (1, .int j)] := hl
  have hmem : am_txt.getD j.toNatClampNeg 0 ∈ am_txt := by
    have h3 : j.toNatClampNeg < am_txt.length := Nat.not_le.mp fun q => hj (Or.inr q)
    rw [List.getD_eq_getElem?_getD, List.getElem?_eq_getElem h3]
    exact List.getElem_mem h3
  obtain ⟨hc1, hc2⟩ := am_c255 _ hmem
  refine lv_iload_n hx hb ds_lch_0 rfl (lv_at hl 1 rfl) ?_
  refine lv_aload_n hx hb ds_lch_1 rfl (lv_at hl 0 rfl) ?_
  refine va_tlen hx hb hT hS (v := 69) (by decide) ds_lch_2 ?_
  refine am_callG (va_runS (As := [.int j, .int 69]) (rest := []) ⟨hx, hb, hml, hown, hts⟩ (cs_chk l G j hj) ⟨callB_of 2 hts (am_gdS ks_chk rfl hgd) rfl rfl rfl (hts _ (hgd _ hs_nS)) (hts _ (hgd _ hs_lchk)) (by decide +kernel) ⟨Nat.le_of_ble_eq_true rfl, Nat.le_of_ble_eq_true rfl⟩, hts _ (hgd _ hs_tchk)⟩ ⟨am_blS, fun U hU hW => ⟨rfl, hX.to hS hU hW, by rw [hU]; exact hG⟩⟩ rfl rfl hl.1 rfl (lv_room (Nat.le_of_ble_eq_true rfl)) ds_lch_3 ⟨Nat.le_refl _, Nat.le_refl _⟩) hS (fun _ h => h) (fun st₀ v t z0 z1 => by rw [z1.2, z0]; exact ⟨Nat.le_refl _, fun _ _ _ => rfl⟩) (fun v2 st₀ t locs1 z0 z1 hS1 => ?_)
  obtain ⟨z2, z3⟩ := z1
  cases z2
  rw [z3, z0] at hS1 ⊢
  refine lv_aload_n hx hb ds_lch_6 rfl (lv_at hl 0 rfl) ?_
  refine lv_iload_n hx hb ds_lch_7 rfl (lv_at hl 1 rfl) ?_
  refine va_tb hx hb hT hS1 hj rfl ds_lch_8 ?_
  refine lv_sipush hx hb ds_lch_9 rfl ?_
  refine lv_iand hx hb ds_lch_12 ?_
  refine lv_i2c (v := am_txt.getD j.toNatClampNeg 0) hx hb ds_lch_13 (by show ((am_txt.getD j.toNatClampNeg 0 &&& (Int16.ofInt 255).toInt32).toUInt32 % 65536).toInt32 = _; rw [hc1]; rfl) ?_
  exact W.zret hx hb hr hc2 (fun t ht hW => ⟨rfl, ht⟩) hS1.2.2 ds_lch_14
theorem cs_len (l : Launch) (G : am_G) : Met l ys_len ws_len ({ frames := 3, cells := 0, slots := 0, locals := 192 }) (va_Pc [.ref G.2.2] (am_Ps G)) (am_Qs (some (.int 69))) 0 0 (am_A G) := by
  refine Met.ofW (cc := prog_18_method_54_code) (maxL := 1) (ret := (some .int)) (by decide) rfl ?_
  intro p e s m args below meth c s₁ B hml hv
  obtain ⟨rfl, hX, hG⟩ := hv
  obtain ⟨-, -, ⟨adV, hStr⟩, hZ, -⟩ := id hX
  have hx := B.exec
  have hb := B.bytes
  have hr := B.returns
  have hts := atoms_spec (ws := ws_len) B.pre
  have hgd : ∀ w ∈ lw_good, w ∈ ws_len := fun w h => List.mem_cons_of_mem _ h
  have hown : s.vm.findClass "java/lang/String" = some m.cls := findClass_of_methodNamed B.named
  have hlocks := B.notSynchronized
  have hS : va_S (am_A G) s.heap s.heap [] := va_S.rf
  obtain ⟨hO, hcod, hval, hT⟩ := hStr.1 0 (by decide)
  have hl := lv_entry ([.ref G.2.2]) (n := 1) (Nat.le_of_ble_eq_true rfl)
  rw [lg_entry_eq]
  generalize (lg_sl ([.ref G.2.2]) ++ List.replicate (1 - (lg_sl ([.ref G.2.2])).length) Slot.unset).toArray = ls at hl ⊢
  have hl : lv_has ls 1 [(0, .ref G.2.2)] := hl
  refine lv_aload_n hx hb ds_len_0 rfl (lv_at hl 0 rfl) ?_
  refine vk_getf hx hb hval hS hown (hts _ (hgd _ hs_val)) (fun _ h => h) ds_len_1 ?_
  refine va_tlen hx hb hT hS (v := 69) (by decide) ds_len_4 ?_
  refine lv_aload_n hx hb ds_len_5 rfl (lv_at hl 0 rfl) ?_
  refine am_callG (va_runV (As := []) (rest := [.int 69]) (b := G.2.2) (C := "java/lang/String") ⟨hx, hb, hml, hown, hts⟩ (cs_cod l G) (cwV 0 hts (am_gdV hgd (am_gdS ks_cod rfl hgd) hs_lcod hs_icod hs_scod hs_nS) rfl rfl rfl (by decide +kernel) ⟨Nat.le_of_ble_eq_true rfl, Nat.le_of_ble_eq_true rfl⟩) ⟨am_blS, vk_recv (i := 0) hStr (by decide) hS, fun U hU hW => ⟨rfl, hX.to hS hU hW, by rw [hU]; exact hG⟩⟩ rfl rfl hl.1 rfl (lv_room (Nat.le_of_ble_eq_true rfl)) ds_len_6 ⟨Nat.le_refl _, Nat.le_refl _⟩) hS (fun _ h => h) (fun st₀ v t z0 z1 => by rw [z1.2, z0]; exact ⟨Nat.le_refl _, fun _ _ _ => rfl⟩) (fun v2 st₀ t locs1 z0 z1 hS1 => ?_)
  obtain ⟨z2, z3⟩ := z1
  cases z2
  rw [z3, z0] at hS1 ⊢
  refine lv_ishr hx hb ds_len_9 ?_
  exact W.iret (v := 69) hx hb hr (fun t ht hW => ⟨rfl, ht⟩) hS1.2.2 ds_len_10
theorem cs_chr (l : Launch) (G : am_G) (j : Int32) (hj : vp_in j 69) : Met l ys_chr ws_chr ({ frames := 3, cells := 0, slots := 0, locals := 192 }) (va_Pc [.ref G.2.2, .int j] (am_Ps G)) (am_Qs (some (.int (am_txt.getD j.toNatClampNeg 0)))) 0 0 (am_A G) := by
  refine Met.ofW (cc := prog_18_method_56_code) (maxL := 2) (ret := (some .char)) (by decide) rfl ?_
  intro p e s m args below meth c s₁ B hml hv
  obtain ⟨rfl, hX, hG⟩ := hv
  obtain ⟨-, -, ⟨adV, hStr⟩, hZ, -⟩ := id hX
  have hx := B.exec
  have hb := B.bytes
  have hr := B.returns
  have hts := atoms_spec (ws := ws_chr) B.pre
  have hgd : ∀ w ∈ lw_good, w ∈ ws_chr := fun w h => List.mem_cons_of_mem _ h
  have hown : s.vm.findClass "java/lang/String" = some m.cls := findClass_of_methodNamed B.named
  have hlocks := B.notSynchronized
  have hS : va_S (am_A G) s.heap s.heap [] := va_S.rf
  obtain ⟨hO, hcod, hval, hT⟩ := hStr.1 0 (by decide)
  have hl := lv_entry ([.ref G.2.2, .int j]) (n := 2) (Nat.le_of_ble_eq_true rfl)
  rw [lg_entry_eq]
  generalize (lg_sl ([.ref G.2.2, .int j]) ++ List.replicate (2 - (lg_sl ([.ref G.2.2, .int j])).length) Slot.unset).toArray = ls at hl ⊢
  have hl : lv_has ls 2 [(0, .ref G.2.2), (1, .int j)] := hl
  have hmem : am_txt.getD j.toNatClampNeg 0 ∈ am_txt := by
    have h3 : j.toNatClampNeg < am_txt.length := Nat.not_le.mp fun q => hj (Or.inr q)
    rw [List.getD_eq_getElem?_getD, List.getElem?_eq_getElem h3]
    exact List.getElem_mem h3
  obtain ⟨-, hc2⟩ := am_c255 _ hmem
  refine lv_aload_n hx hb ds_chr_0 rfl (lv_at hl 0 rfl) ?_
  refine am_callG (va_runV (As := []) (rest := []) (b := G.2.2) (C := "java/lang/String") ⟨hx, hb, hml, hown, hts⟩ (cs_lat l G) (cwV 0 hts (am_gdV hgd (am_gdS ks_lat rfl hgd) hs_llat hs_ilat hs_slat hs_nS) rfl rfl rfl (by decide +kernel) ⟨Nat.le_of_ble_eq_true rfl, Nat.le_of_ble_eq_true rfl⟩) ⟨am_blS, vk_recv (i := 0) hStr (by decide) hS, fun U hU hW => ⟨rfl, hX.to hS hU hW, by rw [hU]; exact hG⟩⟩ rfl rfl hl.1 rfl (lv_room (Nat.le_of_ble_eq_true rfl)) ds_chr_1 ⟨Nat.le_refl _, Nat.le_refl _⟩) hS (fun _ h => h) (fun st₀ v t z0 z1 => by rw [z1.2, z0]; exact ⟨Nat.le_refl _, fun _ _ _ => rfl⟩) (fun v2 st₀ t locs1 z0 z1 hS1 => ?_)
  obtain ⟨z2, z3⟩ := z1
  cases z2
  rw [z3, z0] at hS1 ⊢
  refine lv_if_eq (tgt := 16) hx hb ds_chr_4 (by decide) (fun hc => absurd hc (by decide)) (fun _ => ?_)
  refine lv_aload_n hx hb ds_chr_7 rfl (lv_at hl 0 rfl) ?_
  refine vk_getf hx hb hval hS1 hown (hts _ (hgd _ hs_val)) (fun _ h => h) ds_chr_8 ?_
  refine lv_iload_n hx hb ds_chr_11 rfl (lv_at hl 1 rfl) ?_
  refine am_callG (va_runS (As := [.ref adV, .int j]) (rest := []) ⟨hx, hb, hml, hown, hts⟩ (cs_lch l G adV j hj) ⟨callB_of 2 hts (am_gdS ks_lch rfl hgd) rfl rfl rfl (hts _ (hgd _ hs_nL)) (hts _ (hgd _ hs_llch)) (by decide +kernel) ⟨Nat.le_of_ble_eq_true rfl, Nat.le_of_ble_eq_true rfl⟩, hts _ (hgd _ hs_tlch)⟩ ⟨fun a U g mk q => ⟨q.1, ⟨q.2.1.1.calling g mk a, q.2.1.2⟩, vk_S.moved (u := U) (U := U.calling g mk a) (Vm.Alike.refl U.vm) q.2.2⟩, fun U hU hW => ⟨rfl, ⟨hX.to hS1 hU hW, by rw [hU]; exact hG⟩, by rw [hU]; exact (hStr.kept hS1.2.1).moved hW.alike⟩⟩ rfl rfl hl.1 rfl (lv_room (Nat.le_of_ble_eq_true rfl)) ds_chr_12 ⟨Nat.le_refl _, Nat.le_refl _⟩) hS1 (fun _ h => h) (fun st₀ v t z0 z1 => by rw [z1.2, z0]; exact ⟨Nat.le_refl _, fun _ _ _ => rfl⟩) (fun v2 st₀ t locs2 z0 z1 hS2 => ?_)
  obtain ⟨z2, z3⟩ := z1
  cases z2
  rw [z3, z0] at hS2 ⊢
  exact W.zret hx hb hr hc2 (fun t ht hW => ⟨rfl, ht⟩) hS2.2.2 ds_chr_15
theorem am_len_link {o idx n pl pA pB pC mi : Nat} (h : am_iok o (idx, 4, mi, n, pl, pA, pB, pC) = true) : Cond.methodLink (am_R o) idx ys_len ∈ lw_good ∧ n = 0 := by
  unfold am_iok at h
  simp only at h
  split at h
  · cases h
  · rw [Bool.and_eq_true] at h
    exact ⟨am_has_in h.1, Nat.eq_of_beq_eq_true h.2⟩
theorem am_chr_link {o idx n pl pA pB pC mi : Nat} (h : am_iok o (idx, 5, mi, n, pl, pA, pB, pC) = true) : Cond.methodLink (am_R o) idx ys_chr ∈ lw_good ∧ n = 1 := by
  unfold am_iok at h
  simp only at h
  split at h
  · cases h
  · rw [Bool.and_eq_true] at h
    exact ⟨am_has_in h.1, Nat.eq_of_beq_eq_true h.2⟩
theorem am_obj_link {o idx n pl pA pB pC mi : Nat} (h : am_iok o (idx, 3, mi, n, pl, pA, pB, pC) = true) : Cond.methodLink (am_R o) idx Lib.objectInit ∈ lw_good ∧ Cond.instanceMethod Lib.objectInit ∈ lw_good ∧ Cond.code Lib.objectInit ⟨#[0xb1]⟩ 1 none ∈ lw_good := by
  unfold am_iok at h
  simp only at h
  split at h
  · cases h
  · simp only [Bool.and_eq_true] at h
    exact ⟨am_has_in h.1.1, am_has_in h.1.2, am_has_in h.2⟩
theorem am_max_link {o idx n pl pA pB pC mi : Nat} (h : am_iok o (idx, 7, mi, n, pl, pA, pB, pC) = true) : Cond.methodLink (am_R o) idx Lib.Math.max.name ∈ lw_good ∧ Cond.static Lib.Math.max.name ∈ lw_good ∧ Cond.code Lib.Math.max.name Lib.Math.max.code 2 (some .int) ∈ lw_good ∧ Cond.initialized "java/lang/Math" ∈ lw_good := by
  unfold am_iok at h
  simp only at h
  split at h
  · cases h
  · simp only [Bool.and_eq_true] at h
    exact ⟨am_has_in h.1.1.1.1, am_has_in h.1.1.1.2, am_has_in h.1.1.2, am_has_in h.1.2⟩
theorem am_min_link {o idx n pl pA pB pC mi : Nat} (h : am_iok o (idx, 8, mi, n, pl, pA, pB, pC) = true) : Cond.methodLink (am_R o) idx Lib.Math.min.name ∈ lw_good ∧ Cond.static Lib.Math.min.name ∈ lw_good ∧ Cond.code Lib.Math.min.name Lib.Math.min.code 2 (some .int) ∈ lw_good ∧ Cond.initialized "java/lang/Math" ∈ lw_good := by
  unfold am_iok at h
  simp only at h
  split at h
  · cases h
  · simp only [Bool.and_eq_true] at h
    exact ⟨am_has_in h.1.1.1.1, am_has_in h.1.1.1.2, am_has_in h.1.1.2, am_has_in h.1.2⟩
section AMT
variable {p : Program} {l : Launch} {e : Env} {R : Room} {s : State} {m : MethodId} {args : Array Value} {below : List Frame} {meth : Method} {c : Code} {H : Heap} {locs : List Loc} {cells slots : Nat} {cc : ByteArray} {G : am_G} {ls : Array Slot} {nL o idx pc : Nat} {Ts : List Cond} {rest : List Value}
theorem am_runLen (hx : p.tables.exec = Jvm.exec) (hb : c.code = cc) (hml : c.maxLocals = nL) (hts : ∀ w ∈ Ts, w.before args s = true) (hgd : ∀ w ∈ lw_good, w ∈ Ts) (hown : s.vm.findClass (am_R o) = some m.cls) (hX : am_X G s) (hG : G.1 ≤ s.heap.size) (hS : va_S (am_A G) s.heap H locs) (hR : 4 ≤ R.frames ∧ 64 * 4 ≤ R.locals) (hf : cells ≤ R.cells ∧ slots ≤ R.slots) (hw : Cond.methodLink (am_R o) idx ys_len ∈ lw_good) (hsz : ls.size = nL) (hcs : (rest.map fun v => v.category).sum ≤ 8) (hdg : decode cc pc = .ok (.invokevirtual idx, 3)) : va_Run p l e R s m args below meth c H locs cells slots 0 0 (F0 m pc ls (.ref G.2.2 :: rest)) rest (am_Qs (some (.int 69)) (Value.ref G.2.2 :: []).toArray) (am_A G) := by
  obtain ⟨-, -, ⟨adV, hStr⟩, hZ, -⟩ := id hX
  exact va_runV (As := []) (rest := rest) (b := G.2.2) (C := "java/lang/String") ⟨hx, hb, hml, hown, hts⟩ (cs_len l G) (cwV 0 hts (am_gdV hgd (am_gdS ks_len rfl hgd) hw hs_ilen hs_slen hs_nS) rfl rfl rfl (by decide +kernel) ⟨hR.1, by show 8 + (1 + 11) + 192 ≤ R.locals; omega⟩) ⟨am_blS, vk_recv (i := 0) hStr (by decide) hS, fun U hU hW => ⟨rfl, hX.to hS hU hW, by rw [hU]; exact Nat.le_trans hG hS.1⟩⟩ rfl rfl hsz rfl (lv_room hcs) hdg hf
theorem am_runChr {j : Int32} (hj : vp_in j 69) (hx : p.tables.exec = Jvm.exec) (hb : c.code = cc) (hml : c.maxLocals = nL) (hts : ∀ w ∈ Ts, w.before args s = true) (hgd : ∀ w ∈ lw_good, w ∈ Ts) (hown : s.vm.findClass (am_R o) = some m.cls) (hX : am_X G s) (hG : G.1 ≤ s.heap.size) (hS : va_S (am_A G) s.heap H locs) (hR : 4 ≤ R.frames ∧ 64 * 4 ≤ R.locals) (hf : cells ≤ R.cells ∧ slots ≤ R.slots) (hw : Cond.methodLink (am_R o) idx ys_chr ∈ lw_good) (hsz : ls.size = nL) (hcs : (rest.map fun v => v.category).sum ≤ 8) (hdg : decode cc pc = .ok (.invokevirtual idx, 3)) : va_Run p l e R s m args below meth c H locs cells slots 0 0 (F0 m pc ls (.int j :: .ref G.2.2 :: rest)) rest (am_Qs (some (.int (am_txt.getD j.toNatClampNeg 0))) (Value.ref G.2.2 :: [.int j]).toArray) (am_A G) := by
  obtain ⟨-, -, ⟨adV, hStr⟩, hZ, -⟩ := id hX
  exact va_runV (As := [.int j]) (rest := rest) (b := G.2.2) (C := "java/lang/String") ⟨hx, hb, hml, hown, hts⟩ (cs_chr l G j hj) (cwV 1 hts (am_gdV hgd (am_gdS ks_chr rfl hgd) hw hs_ichr hs_schr hs_nS) rfl rfl rfl (by decide +kernel) ⟨hR.1, by show 8 + (2 + 11) + 192 ≤ R.locals; omega⟩) ⟨am_blS, vk_recv (i := 0) hStr (by decide) hS, fun U hU hW => ⟨rfl, hX.to hS hU hW, by rw [hU]; exact Nat.le_trans hG hS.1⟩⟩ rfl rfl hsz rfl (lv_room hcs) hdg hf
end AMT
