/-! ===== the machine in small: a method's run over a list of cells whose addresses are places ===== -/
abbrev am_E : Type := (Nat × vp_A) ⊕ (Nat × List Value)
abbrev am_H : Type := List am_E
/-- where a method stands: pc, locals, stack, cells, cells made, slots made -/
abbrev am_C : Type := Nat × List (Option Value) × List Value × am_H × Nat × Nat
/-- the script: its length and its ints -/
abbrev am_S : Type := Nat × (Nat → Int32)
def am_lget (lv : List (Option Value)) (i : Nat) : Option Value := match lv[i]? with
  | some (some v) => some v
  | _ => none
def am_kill (lv : List (Option Value)) (i : Nat) : List (Option Value) := match i with
  | 0 => lv
  | j + 1 => match lv[j]? with
    | some (some (.long _)) => lv.set j none
    | some (some (.double _)) => lv.set j none
    | _ => lv
def am_lset1 (lv : List (Option Value)) (i : Nat) (v : Value) : List (Option Value) := am_kill (lv.set i (some v)) i
def am_lset2 (lv : List (Option Value)) (i : Nat) (v : Value) : List (Option Value) := am_kill ((lv.set i (some v)).set (i + 1) none) i
abbrev am_3 : Type := Nat × List (Option Value) × List Value
def am_psh (pc : Nat) (lv : List (Option Value)) (st : List Value) (n : Nat) (v : Value) : Option am_3 := some (pc + n, lv, v :: st)
def am_ii (pc : Nat) (lv : List (Option Value)) (st : List Value) (f : Int32 → Int32 → Int32) : Option am_3 := match st with
  | .int y :: .int x :: t => some (pc + 1, lv, .int (f x y) :: t)
  | _ => none
def am_ll (pc : Nat) (lv : List (Option Value)) (st : List Value) (f : Int64 → Int64 → Value) : Option am_3 := match st with
  | .long y :: .long x :: t => some (pc + 1, lv, f x y :: t)
  | _ => none
def am_li (pc : Nat) (lv : List (Option Value)) (st : List Value) (f : Int64 → Int32 → Int64) : Option am_3 := match st with
  | .int y :: .long x :: t => some (pc + 1, lv, .long (f x y) :: t)
  | _ => none
def am_i1 (pc : Nat) (lv : List (Option Value)) (st : List Value) (f : Int32 → Value) : Option am_3 := match st with
  | .int x :: t => some (pc + 1, lv, f x :: t)
  | _ => none
def am_l1 (pc : Nat) (lv : List (Option Value)) (st : List Value) (f : Int64 → Value) : Option am_3 := match st with
  | .long x :: t => some (pc + 1, lv, f x :: t)
  | _ => none
def am_ldi (pc : Nat) (lv : List (Option Value)) (st : List Value) (n i : Nat) : Option am_3 := match am_lget lv i with
  | some (.int x) => some (pc + n, lv, .int x :: st)
  | _ => none
def am_ldl (pc : Nat) (lv : List (Option Value)) (st : List Value) (n i : Nat) : Option am_3 := match am_lget lv i with
  | some (.long x) => some (pc + n, lv, .long x :: st)
  | _ => none
def am_lda (pc : Nat) (lv : List (Option Value)) (st : List Value) (n i : Nat) : Option am_3 := match am_lget lv i with
  | some (.ref x) => some (pc + n, lv, .ref x :: st)
  | _ => none
def am_sti (pc : Nat) (lv : List (Option Value)) (st : List Value) (n i : Nat) : Option am_3 := match st with
  | .int x :: t => bif Nat.blt i lv.length then some (pc + n, am_lset1 lv i (.int x), t) else none
  | _ => none
def am_sta (pc : Nat) (lv : List (Option Value)) (st : List Value) (n i : Nat) : Option am_3 := match st with
  | .ref x :: t => bif Nat.blt i lv.length then some (pc + n, am_lset1 lv i (.ref x), t) else none
  | _ => none
def am_stl (pc : Nat) (lv : List (Option Value)) (st : List Value) (n i : Nat) : Option am_3 := match st with
  | .long x :: t => bif Nat.blt (i + 1) lv.length then some (pc + n, am_lset2 lv i (.long x), t) else none
  | _ => none
def am_inc (pc : Nat) (lv : List (Option Value)) (st : List Value) (i : Nat) (n : Int) : Option am_3 := match am_lget lv i with
  | some (.int x) => bif Nat.blt i lv.length then some (pc + 3, am_lset1 lv i (.int (x + Int32.ofInt n)), st) else none
  | _ => none
def am_du (pc : Nat) (lv : List (Option Value)) (st : List Value) : Option am_3 := match st with
  | v :: t => bif Nat.beq v.category 1 then some (pc + 1, lv, v :: v :: t) else none
  | _ => none
def am_po (pc : Nat) (lv : List (Option Value)) (st : List Value) : Option am_3 := match st with
  | v :: t => bif Nat.beq v.category 1 then some (pc + 1, lv, t) else none
  | _ => none
def am_d2 (pc : Nat) (lv : List (Option Value)) (st : List Value) : Option am_3 := match st with
  | v :: w :: t => bif Nat.beq v.category 1 && Nat.beq w.category 1 then some (pc + 1, lv, v :: w :: v :: w :: t) else none
  | _ => none
def am_rem (pc : Nat) (lv : List (Option Value)) (st : List Value) : Option am_3 := match st with
  | .int y :: .int x :: t => bif decide (y = 0) then none else some (pc + 1, lv, .int (x - x / y * y) :: t)
  | _ => none
def am_kpush (pc : Nat) (lv : List (Option Value)) (st : List Value) (n : Nat) (v : Option Value) : Option am_3 := match v with
  | some w => some (pc + n, lv, w :: st)
  | none => none
/-- constants, locals, the stack, sums -/
def am_s1 (i : am_I) (pc : Nat) (lv : List (Option Value)) (st : List Value) : Option am_3 := match i with
  | .iconst n => am_psh pc lv st 1 (.int (Int32.ofInt n))
  | .bipush n => am_psh pc lv st 2 (.int (Int8.ofInt n).toInt32)
  | .sipush n => am_psh pc lv st 3 (.int (Int16.ofInt n).toInt32)
  | .lconst n => am_psh pc lv st 1 (.long (Int64.ofNat (n : Nat)))
  | .iload_n k => am_ldi pc lv st 1 k
  | .iload k => am_ldi pc lv st 2 k
  | .lload_n k => am_ldl pc lv st 1 k
  | .lload k => am_ldl pc lv st 2 k
  | .aload_n k => am_lda pc lv st 1 k
  | .aload k => am_lda pc lv st 2 k
  | .istore_n k => am_sti pc lv st 1 k
  | .istore k => am_sti pc lv st 2 k
  | .lstore_n k => am_stl pc lv st 1 k
  | .lstore k => am_stl pc lv st 2 k
  | .astore_n k => am_sta pc lv st 1 k
  | .astore k => am_sta pc lv st 2 k
  | .iinc k n => am_inc pc lv st k n
  | .iadd => am_ii pc lv st (fun x y => x + y)
  | .isub => am_ii pc lv st (fun x y => x - y)
  | .imul => am_ii pc lv st (fun x y => x * y)
  | .irem => am_rem pc lv st
  | .iand => am_ii pc lv st (fun x y => x &&& y)
  | .ior => am_ii pc lv st (fun x y => x ||| y)
  | .ixor => am_ii pc lv st (fun x y => x ^^^ y)
  | .ishl => am_ii pc lv st (fun x y => x <<< (y &&& 31))
  | .ishr => am_ii pc lv st (fun x y => x >>> (y &&& 31))
  | .iushr => am_ii pc lv st (fun x y => (x.toUInt32 >>> (y.toUInt32 &&& Int32.toUInt32 31)).toInt32)
  | .ladd => am_ll pc lv st (fun x y => .long (x + y))
  | .lsub => am_ll pc lv st (fun x y => .long (x - y))
  | .lmul => am_ll pc lv st (fun x y => .long (x * y))
  | .land => am_ll pc lv st (fun x y => .long (x &&& y))
  | .lor => am_ll pc lv st (fun x y => .long (x ||| y))
  | .lxor => am_ll pc lv st (fun x y => .long (x ^^^ y))
  | .lcmp => am_ll pc lv st (fun x y => .int (lg_cmp x y))
  | .lshl => am_li pc lv st (fun x y => x <<< (y.toInt64 &&& 63))
  | .lshr => am_li pc lv st (fun x y => x >>> (y.toInt64 &&& 63))
  | .lushr => am_li pc lv st (fun x y => (x.toUInt64 >>> (y.toInt64.toUInt64 &&& Int64.toUInt64 63)).toInt64)
  | .i2l => am_i1 pc lv st (fun x => .long x.toInt64)
  | .l2i => am_l1 pc lv st (fun x => .int x.toInt32)
  | .i2b => am_i1 pc lv st (fun x => .int x.toInt8.toInt32)
  | .i2s => am_i1 pc lv st (fun x => .int x.toInt16.toInt32)
  | .i2c => am_i1 pc lv st (fun x => .int (x.toUInt32 % 65536).toInt32)
  | .dup => am_du pc lv st
  | .dup2 => am_d2 pc lv st
  | .pop => am_po pc lv st
  | _ => none
def am_cmp (c : Jvm.ClassFile.Cond) (x y : Int32) : Bool := match c with
  | .eq => decide (x = y)
  | .ne => !decide (x = y)
  | .lt => decide (x < y)
  | .ge => decide (y ≤ x)
  | .gt => decide (y < x)
  | .le => decide (x ≤ y)
def am_tg (pc : Nat) (off : Int) : Option Nat := bif decide (0 ≤ (pc : Int) + off) then some ((pc : Int) + off).toNat else none
/-- branches -/
def am_s2 (i : am_I) (pc : Nat) (st : List Value) : Option (Nat × List Value) := match i with
  | .goto off => (am_tg pc off).map (fun t => (t, st))
  | .ifCond c off => match st with
    | .int x :: r => (am_tg pc off).map (fun t => (bif am_cmp c x 0 then t else pc + 3, r))
    | _ => none
  | .if_icmp c off => match st with
    | .int y :: .int x :: r => (am_tg pc off).map (fun t => (bif am_cmp c x y then t else pc + 3, r))
    | _ => none
  | .tableswitch d lo hi offs => match st with
    | .int x :: r => bif decide (x.toInt < lo) || decide (hi < x.toInt) then (am_tg pc d).map (fun t => (t, r)) else match offs[(x.toInt - lo).toNat]? with
      | some off => (am_tg pc off).map (fun t => (t, r))
      | none => none
    | _ => none
  | _ => none
def am_obj (h : am_H) (a ci : Nat) : Option (List Value) := bif Nat.blt a 1000000 then (match h[a]? with
  | some (.inr o) => bif Nat.beq o.1 ci then some o.2 else none
  | _ => none) else none
def am_ari (h : am_H) (a t : Nat) : Option (Nat × (Nat → Int32)) := bif Nat.blt a 1000000 then (match h[a]? with
  | some (.inl (t2, n, .inl f)) => bif Nat.beq t2 t then some (n, f) else none
  | _ => none) else none
def am_arl (h : am_H) (a t : Nat) : Option (Nat × (Nat → Int64)) := bif Nat.blt a 1000000 then (match h[a]? with
  | some (.inl (t2, n, .inr (.inl f))) => bif Nat.beq t2 t then some (n, f) else none
  | _ => none) else none
def am_in (i : Int32) (n : Nat) : Bool := !decide (i < 0) && Nat.blt i.toNatClampNeg n
def am_ald (h : am_H) (pc : Nat) (st : List Value) (t : Nat) : Option (Nat × List Value) := match st with
  | .int i :: .ref a :: r => match am_ari h a t with
    | some (n, f) => bif am_in i n then some (pc + 1, .int (f i.toNatClampNeg) :: r) else none
    | none => none
  | _ => none
def am_lld (h : am_H) (pc : Nat) (st : List Value) (t : Nat) : Option (Nat × List Value) := match st with
  | .int i :: .ref a :: r => match am_arl h a t with
    | some (n, f) => bif am_in i n then some (pc + 1, .long (f i.toNatClampNeg) :: r) else none
    | none => none
  | _ => none
def am_scl (S : am_S) (pc : Nat) (st : List Value) : Option (Nat × List Value) := match st with
  | .int i :: .ref a :: r => bif Nat.beq a 1000000 && am_in i S.1 then some (pc + 1, .int (S.2 i.toNatClampNeg) :: r) else none
  | _ => none
def am_or {α : Type} (x y : Option α) : Option α := match x with
  | some v => some v
  | none => y
/-- reading cells -/
def am_s3 (S : am_S) (o : Nat) (i : am_I) (h : am_H) (pc : Nat) (st : List Value) : Option (Nat × List Value) := match i with
  | .getfield idx => match st with
    | .ref a :: r => match am_fld o idx with
      | some f => match am_obj h a f.1 with
        | some fs => match fs[f.2]? with
          | some v => some (pc + 3, v :: r)
          | none => none
        | none => none
      | none => none
    | _ => none
  | .iaload => am_or (am_ald h pc st 1) (bif Nat.beq o 13 then am_scl S pc st else none)
  | .baload => am_or (am_ald h pc st 0) (am_ald h pc st 4)
  | .saload => am_ald h pc st 3
  | .laload => am_lld h pc st 2
  | .arraylength => match st with
    | .ref a :: r => bif Nat.beq o 13 && Nat.beq a 1000000 then some (pc + 1, .int (Int32.ofNat S.1) :: r) else (bif Nat.blt a 1000000 then (match h[a]? with
      | some (.inl x) => bif Nat.blt x.1 5 then some (pc + 1, .int (Int32.ofNat x.2.1) :: r) else none
      | _ => none) else none)
    | _ => none
  | .ldc idx => match am_kst o idx with
    | some (.int v) => some (pc + 2, .int v :: st)
    | some _ => none
    | none => bif Nat.beq o 5 && Nat.beq idx 26 then some (pc + 2, .ref 1000001 :: st) else none
  | .ldc_w idx => match am_kst o idx with
    | some (.int v) => some (pc + 3, .int v :: st)
    | _ => none
  | .ldc2_w idx => match am_kst o idx with
    | some (.long v) => some (pc + 3, .long v :: st)
    | _ => none
  | _ => none
def am_fit (ty : FieldType) (v : Value) : Bool := match ty, v with
  | .int, .int _ => true
  | .long, .long _ => true
  | .object _, .ref _ => true
  | .array _, .ref _ => true
  | ty, v => fits ty v && decide (narrow ty v = v)
theorem am_fit_ok {ty : FieldType} {v : Value} (h : am_fit ty v = true) : fits ty v = true ∧ narrow ty v = v := by
  unfold am_fit at h
  split at h
  · exact ⟨rfl, rfl⟩
  · exact ⟨rfl, rfl⟩
  · exact ⟨rfl, rfl⟩
  · exact ⟨rfl, rfl⟩
  · rw [Bool.and_eq_true] at h
    exact ⟨h.1, of_decide_eq_true h.2⟩
def am_ast (h : am_H) (pc : Nat) (st : List Value) (t : Nat) (g : Int32 → Int32) : Option (Nat × List Value × am_H) := match st with
  | .int v :: .int i :: .ref a :: r => match am_ari h a t with
    | some (n, f) => bif am_in i n then some (pc + 1, r, h.set a (.inl (t, n, .inl (upd f i.toNatClampNeg (g v))))) else none
    | none => none
  | _ => none
def am_lst (h : am_H) (pc : Nat) (st : List Value) (t : Nat) : Option (Nat × List Value × am_H) := match st with
  | .long v :: .int i :: .ref a :: r => match am_arl h a t with
    | some (n, f) => bif am_in i n then some (pc + 1, r, h.set a (.inl (t, n, .inr (.inl (vp_updL f i.toNatClampNeg v))))) else none
    | none => none
  | _ => none
/-- writing cells -/
def am_s4 (o : Nat) (ini : Bool) (i : am_I) (h : am_H) (pc : Nat) (st : List Value) : Option (Nat × List Value × am_H) := match i with
  | .putfield idx => match st with
    | v :: .ref a :: r => match am_fld o idx with
      | some f => match am_obj h a f.1 with
        | some fs => bif Nat.blt f.2 fs.length && Nat.blt f.2 (am_NN f.1) && am_fit (am_ty f.1 f.2) v && (!(am_TT f.1 f.2).2.2.2 || (ini && Nat.beq o f.1)) then some (pc + 3, r, h.set a (.inr (f.1, fs.set f.2 v))) else none
        | none => none
      | none => none
    | _ => none
  | .iastore => am_ast h pc st 1 (fun v => v)
  | .bastore => am_or (am_ast h pc st 0 (vp_nar .byte)) (am_ast h pc st 4 (vp_nar .boolean))
  | .sastore => am_ast h pc st 3 (vp_nar .short)
  | .lastore => am_lst h pc st 2
  | _ => none
def am_fty (t : ArrayType) : Option (Nat × FieldType × Nat × ((Nat → Int32) ⊕ (Nat → Int64) ⊕ (Nat → UInt32) ⊕ (Nat → UInt64) ⊕ (Nat → Option Nat))) := match t with
  | .byte => some (0, .byte, 1, .inl (fun _ => 0))
  | .int => some (1, .int, 4, .inl (fun _ => 0))
  | .long => some (2, .long, 8, .inr (.inl (fun _ => 0)))
  | .short => some (3, .short, 2, .inl (fun _ => 0))
  | .boolean => some (4, .boolean, 1, .inl (fun _ => 0))
  | _ => none
def am_def (c : Nat) : List Value := (List.range (am_NN c)).map (fun j => defaultValue (am_ty c j))
/-- making cells -/
def am_s5 (al : Bool) (lim : Nat × Nat) (o : Nat) (i : am_I) (pc : Nat) (st : List Value) (h : am_H) (nc ns : Nat) : Option (Nat × List Value × am_H × Nat × Nat) := match i with
  | .new idx => match am_new o idx with
    | some c => bif al && Nat.blt c 13 && Nat.blt h.length 1000000 && Nat.ble (nc + 1) lim.1 && Nat.ble (ns + am_NN c) lim.2 then some (pc + 3, .ref h.length :: st, h ++ [.inr (c, am_def c)], nc + 1, ns + am_NN c) else none
    | none => none
  | .newarray t => match st with
    | .int n :: r => match am_fty t with
      | some x => bif al && !decide (n < 0) && Nat.blt h.length 1000000 && Nat.ble (n.toNatClampNeg * x.2.2.1) 536870912 && Nat.ble (nc + 1) lim.1 && Nat.ble (ns + n.toNatClampNeg) lim.2 then some (pc + 2, .ref h.length :: r, h ++ [.inl (x.1, n.toNatClampNeg, x.2.2.2)], nc + 1, ns + n.toNatClampNeg) else none
      | none => none
    | _ => none
  | _ => none
def am_pop (n : Nat) (st : List Value) : Option (List Value × List Value) := bif Nat.ble n st.length then some ((st.take n).reverse, st.drop n) else none
def am_rsm (st : List Value) : Bool := Nat.ble ((st.map fun v => v.category).sum) 8
def am_txt : List Int32 := [97, 116, 32, 110, 111, 116, 32, 114, 117, 110, 32, 103, 97, 112, 32, 109, 111, 115, 116, 32, 108, 101, 97, 115, 116, 32, 97, 103, 97, 105, 110, 32, 108, 105, 110, 107, 32, 115, 104, 105, 102, 116, 32, 107, 105, 110, 100, 32, 103, 114, 111, 117, 112, 32, 108, 101, 110, 103, 116, 104, 32, 109, 105, 110, 117, 116, 101, 115, 32]
abbrev am_CALL : Type := Nat → List Value → am_H → Option (Option Value × am_H)
def am_fin (call : am_CALL) (lim : Nat × Nat) (mi : Nat) (as : List Value) (r2 : am_M) (pc : Nat) (lv : List (Option Value)) (rest : List Value) (h : am_H) (nc ns : Nat) : Option am_C :=
  bif am_rsm rest && Nat.ble (nc + (am_k r2).1) lim.1 && Nat.ble (ns + (am_k r2).2) lim.2 then (match call mi as h with
    | some q => bif Nat.beq q.2.length (h.length + (am_k r2).1) then some (pc + 3, lv, q.1.toList ++ rest, q.2, nc + (am_k r2).1, ns + (am_k r2).2) else none
    | none => none) else none
/-- calls -/
def am_s6 (call : am_CALL) (d : Nat) (lim : Nat × Nat) (o : Nat) (i : am_I) (pc : Nat) (lv : List (Option Value)) (st : List Value) (h : am_H) (nc ns : Nat) : Option am_C := match i with
  | .invokevirtual idx => match am_inf o idx with
    | some e => match am_pop e.2.2.1 st with
      | some q => match q.2 with
        | .ref b :: rest => bif Nat.beq e.1 0 then (match am_T[e.2.1]? with
            | some r2 => match am_obj h b (am_o r2) with
              | some _ => am_fin call lim e.2.1 (.ref b :: q.1) r2 pc lv rest h nc ns
              | none => none
            | none => none)
          else bif Nat.beq e.1 4 && Nat.beq b 1000001 && am_rsm rest && Nat.ble 4 d then (match q.1 with
            | [] => some (pc + 3, lv, .int 69 :: rest, h, nc, ns)
            | _ => none)
          else bif Nat.beq e.1 5 && Nat.beq b 1000001 && am_rsm rest && Nat.ble 4 d then (match q.1 with
            | [.int j] => bif am_in j 69 then some (pc + 3, lv, .int (am_txt.getD j.toNatClampNeg 0) :: rest, h, nc, ns) else none
            | _ => none)
          else none
        | _ => none
      | none => none
    | none => none
  | .invokestatic idx => match am_inf o idx with
    | some e => bif Nat.beq e.1 7 || Nat.beq e.1 8 then (match st with
      | .int y :: .int x :: rest => bif am_rsm rest && Nat.ble 1 d then some (pc + 3, lv, .int (bif Nat.beq e.1 7 then (if x < y then y else x) else (if y < x then y else x)) :: rest, h, nc, ns) else none
      | _ => none) else bif Nat.beq e.1 1 then (match am_pop e.2.2.1 st with
      | some q => match am_T[e.2.1]? with
        | some r2 => am_fin call lim e.2.1 q.1 r2 pc lv q.2 h nc ns
        | none => none
      | none => none) else none
    | none => none
  | .invokespecial idx => match am_inf o idx with
    | some e => match am_pop e.2.2.1 st with
      | some q => match q.2 with
        | .ref b :: rest => bif Nat.beq e.1 3 then (bif Nat.ble 1 d && am_rsm rest && Nat.beq e.2.2.1 0 then some (pc + 3, lv, rest, h, nc, ns) else none)
          else bif Nat.beq e.1 2 || Nat.beq e.1 6 then (match am_T[e.2.1]? with
            | some r2 => am_fin call lim e.2.1 (.ref b :: q.1) r2 pc lv rest h nc ns
            | none => none)
          else none
        | _ => none
      | none => none
    | none => none
  | _ => none
/-- one instruction -/
def am_step (call : am_CALL) (d : Nat) (S : am_S) (al : Bool) (r : am_M) (i : am_I) (c : am_C) : Option am_C := match c with
  | (pc, lv, st, h, nc, ns) => match am_s1 i pc lv st with
    | some x => some (x.1, x.2.1, x.2.2, h, nc, ns)
    | none => match am_s2 i pc st with
      | some x => some (x.1, lv, x.2, h, nc, ns)
      | none => match am_s3 S (am_o r) i h pc st with
        | some x => some (x.1, lv, x.2, h, nc, ns)
        | none => match am_s4 (am_o r) (am_i r) i h pc st with
          | some x => some (x.1, lv, x.2.1, x.2.2, nc, ns)
          | none => match am_s5 al (am_k r) (am_o r) i pc st h nc ns with
            | some x => some (x.1, lv, x.2)
            | none => am_s6 call d (am_k r) (am_o r) i pc lv st h nc ns
def am_isr (i : am_I) : Bool := match i with
  | .ireturn => true
  | .lreturn => true
  | .return_ => true
  | _ => false
/-- to the method's return -/
def am_go (call : am_CALL) (d : Nat) (S : am_S) (al : Bool) (r : am_M) : Nat → am_C → Option am_C
  | 0, _ => none
  | f + 1, c => match am_at r c.1 with
    | none => none
    | some i => bif am_isr i then some c else match am_step call d S al r i c with
      | some c2 => am_go call d S al r f c2
      | none => none
def am_ret (r : am_M) (c : am_C) : Option (Option Value × am_H) := match am_at r c.1 with
  | some .ireturn => match am_rt r, c.2.2.1 with
    | some ty, [.int x] => bif am_fit ty (.int x) then some (some (.int x), c.2.2.2.1) else none
    | _, _ => none
  | some .lreturn => match am_rt r, c.2.2.1 with
    | some .long, [.long x] => some (some (.long x), c.2.2.2.1)
    | _, _ => none
  | some .return_ => match am_rt r, c.2.2.1 with
    | none, [] => some (none, c.2.2.2.1)
    | _, _ => none
  | _ => none
def am_slt : List Value → List (Option Value)
  | [] => []
  | v :: vs => bif Nat.beq v.category 2 then some v :: none :: am_slt vs else some v :: am_slt vs
def am_ent (as : List Value) (n : Nat) : Option (List (Option Value)) := bif Nat.ble (am_slt as).length n then some (am_slt as ++ List.replicate (n - (am_slt as).length) none) else none
def am_run (call : am_CALL) (d : Nat) (al : Bool) (F mi : Nat) (as : List Value) (h : am_H) : Option (Option Value × am_H) := match am_T[mi]? with
  | some r => match am_ent as (am_L r) with
    | some lv => match am_go call d (0, fun _ => 0) al r F (0, lv, [], h, 0, 0) with
      | some c => am_ret r c
      | none => none
    | none => none
  | none => none
/-- a call, at most d deep below this one, F instructions in each frame -/
def am_call (al : Bool) (F : Nat) : Nat → am_CALL
  | 0 => am_run (fun _ _ _ => none) 0 al F
  | d + 1 => am_run (am_call al F d) (d + 1) al F
