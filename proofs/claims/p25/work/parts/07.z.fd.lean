/-! ===== decoding by the bytes of each instruction (printed by wip/gen/gen_fd.py) ===== -/
theorem fq_u1 {cc : ByteArray} {p : Nat} {b : UInt8} (h : cc.data.toList[p]? = some b) : (Jvm.ClassFile.Reader.u1 : Jvm.ClassFile.Decoder Nat) cc p = .ok (b.toNat, p + 1) := by
  have hp : p < cc.size := (List.getElem?_eq_some_iff.mp h).1
  have hb : cc[p]'hp = b := (List.getElem?_eq_some_iff.mp h).2
  show (dite (p < cc.size) (fun hq => (do set (p + 1); pure (cc[p]'hq).toNat : Jvm.ClassFile.Decoder Nat)) (fun _ => throw (Jvm.ClassFile.HasTruncated.truncated p))) cc p = _
  rw [dif_pos hp]
  show Except.ok ((cc[p]'hp).toNat, p + 1) = _
  rw [hb]
theorem fq_bind {α β : Type} {x : Jvm.ClassFile.Decoder α} {f : α → Jvm.ClassFile.Decoder β} {cc : ByteArray} {p q : Nat} {a : α} (h : x cc p = .ok (a, q)) : (x >>= f) cc p = f a cc q := by
  show Except.bind (x cc p) (fun v => f v.1 cc v.2) = _
  rw [h]
  rfl
theorem fq_u2 {cc : ByteArray} {p : Nat} {b1 b2 : UInt8} (h1 : cc.data.toList[p]? = some b1) (h2 : cc.data.toList[p + 1]? = some b2) : (Jvm.ClassFile.Reader.u2 : Jvm.ClassFile.Decoder Nat) cc p = .ok (b1.toNat * 256 + b2.toNat, p + 2) := (fq_bind (fq_u1 h1)).trans ((fq_bind (fq_u1 h2)).trans rfl)
theorem fq_s1 {cc : ByteArray} {p : Nat} {b : UInt8} (h : cc.data.toList[p]? = some b) : (Jvm.ClassFile.Reader.s1 : Jvm.ClassFile.Decoder Int) cc p = .ok (Jvm.ClassFile.Reader.signed 8 b.toNat, p + 1) := by
  show Except.bind ((Jvm.ClassFile.Reader.u1 : Jvm.ClassFile.Decoder Nat) cc p) (fun v => .ok (Jvm.ClassFile.Reader.signed 8 v.1, v.2)) = _
  rw [fq_u1 h]
  rfl
theorem fq_s2 {cc : ByteArray} {p : Nat} {b1 b2 : UInt8} (h1 : cc.data.toList[p]? = some b1) (h2 : cc.data.toList[p + 1]? = some b2) : (Jvm.ClassFile.Reader.s2 : Jvm.ClassFile.Decoder Int) cc p = .ok (Jvm.ClassFile.Reader.signed 16 (b1.toNat * 256 + b2.toNat), p + 2) := by
  show Except.bind ((Jvm.ClassFile.Reader.u2 : Jvm.ClassFile.Decoder Nat) cc p) (fun v => .ok (Jvm.ClassFile.Reader.signed 16 v.1, v.2)) = _
  rw [fq_u2 h1 h2]
  rfl
theorem am_dec_of {cc : ByteArray} {pc n : Nat} {i : am_I} (h : Jvm.ClassFile.Decoder.instr pc cc pc = .ok (i, pc + n)) (h2 : am_len i = n) : am_dec cc pc i = true := by
  have e : decode cc pc = .ok (i, n) := by
    have e1 : Jvm.ClassFile.Reader.runAt (Jvm.ClassFile.Decoder.instr pc) cc pc = .ok (i, pc + n) := h
    unfold Jvm.ClassFile.decode
    rw [e1]
    show Except.ok (i, pc + n - pc) = _
    rw [Nat.add_sub_cancel_left]
  unfold am_dec
  rw [e]
  show (decide (i = i) && (Nat.beq (am_len i) 0 || Nat.beq (am_len i) n)) = true
  rw [h2, Nat.beq_refl, Bool.or_true, decide_eq_true rfl]
  rfl
def fo0_ (l : List UInt8) (k : Nat) : Bool := match l with
  | b :: _ => Nat.beq b.toNat k
  | _ => false
def fo1_ (l : List UInt8) (k n : Nat) : Bool := match l with
  | b :: b1 :: _ => Nat.beq b.toNat k && Nat.beq b1.toNat n
  | _ => false
def fr1_ (l : List UInt8) (k : Nat) (t : Int) : Bool := match l with
  | b :: b1 :: _ => Nat.beq b.toNat k && decide (Jvm.ClassFile.Reader.signed 8 b1.toNat = t)
  | _ => false
def fo2_ (l : List UInt8) (k n : Nat) : Bool := match l with
  | b :: b1 :: b2 :: _ => Nat.beq b.toNat k && Nat.beq (b1.toNat * 256 + b2.toNat) n
  | _ => false
def fr2_ (l : List UInt8) (k : Nat) (t : Int) : Bool := match l with
  | b :: b1 :: b2 :: _ => Nat.beq b.toNat k && decide (Jvm.ClassFile.Reader.signed 16 (b1.toNat * 256 + b2.toNat) = t)
  | _ => false
def fr3_ (l : List UInt8) (k n : Nat) (t : Int) : Bool := match l with
  | b :: b1 :: b2 :: _ => Nat.beq b.toNat k && Nat.beq b1.toNat n && decide (Jvm.ClassFile.Reader.signed 8 b2.toNat = t)
  | _ => false
section FD
variable {cc : ByteArray} {l : List UInt8} {pc k n : Nat} {t : Int}
theorem fo0i_ (hl : ∀ j, l[j]? = cc.data.toList[pc + j]?) (h : fo0_ l k = true) : ∃ b : UInt8, cc.data.toList[pc]? = some b ∧ b.toNat = k := by
  match l, hl, h with
  | b :: _, hl, h => exact ⟨b, (hl 0).symm, Nat.eq_of_beq_eq_true h⟩
theorem fo1i_ (hl : ∀ j, l[j]? = cc.data.toList[pc + j]?) (h : fo1_ l k n = true) : ∃ b b1 : UInt8, cc.data.toList[pc]? = some b ∧ b.toNat = k ∧ cc.data.toList[pc + 1]? = some b1 ∧ b1.toNat = n := by
  match l, hl, h with
  | b :: b1 :: _, hl, h =>
    have h := (Bool.and_eq_true _ _).mp h
    exact ⟨b, b1, (hl 0).symm, Nat.eq_of_beq_eq_true h.1, (hl 1).symm, Nat.eq_of_beq_eq_true h.2⟩
theorem fp1i_ (hl : ∀ j, l[j]? = cc.data.toList[pc + j]?) (h : fr1_ l k t = true) : ∃ b b1 : UInt8, cc.data.toList[pc]? = some b ∧ b.toNat = k ∧ cc.data.toList[pc + 1]? = some b1 ∧ Jvm.ClassFile.Reader.signed 8 b1.toNat = t := by
  match l, hl, h with
  | b :: b1 :: _, hl, h =>
    have h := (Bool.and_eq_true _ _).mp h
    exact ⟨b, b1, (hl 0).symm, Nat.eq_of_beq_eq_true h.1, (hl 1).symm, of_decide_eq_true h.2⟩
theorem fo2i_ (hl : ∀ j, l[j]? = cc.data.toList[pc + j]?) (h : fo2_ l k n = true) : ∃ b b1 b2 : UInt8, cc.data.toList[pc]? = some b ∧ b.toNat = k ∧ cc.data.toList[pc + 1]? = some b1 ∧ cc.data.toList[pc + 1 + 1]? = some b2 ∧ b1.toNat * 256 + b2.toNat = n := by
  match l, hl, h with
  | b :: b1 :: b2 :: _, hl, h =>
    have h := (Bool.and_eq_true _ _).mp h
    exact ⟨b, b1, b2, (hl 0).symm, Nat.eq_of_beq_eq_true h.1, (hl 1).symm, (hl 2).symm, Nat.eq_of_beq_eq_true h.2⟩
theorem fp2i_ (hl : ∀ j, l[j]? = cc.data.toList[pc + j]?) (h : fr2_ l k t = true) : ∃ b b1 b2 : UInt8, cc.data.toList[pc]? = some b ∧ b.toNat = k ∧ cc.data.toList[pc + 1]? = some b1 ∧ cc.data.toList[pc + 1 + 1]? = some b2 ∧ Jvm.ClassFile.Reader.signed 16 (b1.toNat * 256 + b2.toNat) = t := by
  match l, hl, h with
  | b :: b1 :: b2 :: _, hl, h =>
    have h := (Bool.and_eq_true _ _).mp h
    exact ⟨b, b1, b2, (hl 0).symm, Nat.eq_of_beq_eq_true h.1, (hl 1).symm, (hl 2).symm, of_decide_eq_true h.2⟩
theorem fp3i_ (hl : ∀ j, l[j]? = cc.data.toList[pc + j]?) (h : fr3_ l k n t = true) : ∃ b b1 b2 : UInt8, cc.data.toList[pc]? = some b ∧ b.toNat = k ∧ cc.data.toList[pc + 1]? = some b1 ∧ b1.toNat = n ∧ cc.data.toList[pc + 1 + 1]? = some b2 ∧ Jvm.ClassFile.Reader.signed 8 b2.toNat = t := by
  match l, hl, h with
  | b :: b1 :: b2 :: _, hl, h =>
    have h := (Bool.and_eq_true _ _).mp h
    have g := (Bool.and_eq_true _ _).mp h.1
    exact ⟨b, b1, b2, (hl 0).symm, Nat.eq_of_beq_eq_true g.1, (hl 1).symm, Nat.eq_of_beq_eq_true g.2, (hl 2).symm, of_decide_eq_true h.2⟩
set_option maxRecDepth 100000 in
theorem fq_2 {b : UInt8} (h0 : cc.data.toList[pc]? = some b) (hb : b.toNat = 2) : am_dec cc pc (.iconst (-1)) = true := by
  refine am_dec_of (n := 1) ?_ rfl
  refine (fq_bind (fq_u1 h0)).trans ?_
  rw [hb]
  rfl
set_option maxRecDepth 100000 in
theorem fq_3 {b : UInt8} (h0 : cc.data.toList[pc]? = some b) (hb : b.toNat = 3) : am_dec cc pc (.iconst 0) = true := by
  refine am_dec_of (n := 1) ?_ rfl
  refine (fq_bind (fq_u1 h0)).trans ?_
  rw [hb]
  rfl
set_option maxRecDepth 100000 in
theorem fq_4 {b : UInt8} (h0 : cc.data.toList[pc]? = some b) (hb : b.toNat = 4) : am_dec cc pc (.iconst 1) = true := by
  refine am_dec_of (n := 1) ?_ rfl
  refine (fq_bind (fq_u1 h0)).trans ?_
  rw [hb]
  rfl
set_option maxRecDepth 100000 in
theorem fq_5 {b : UInt8} (h0 : cc.data.toList[pc]? = some b) (hb : b.toNat = 5) : am_dec cc pc (.iconst 2) = true := by
  refine am_dec_of (n := 1) ?_ rfl
  refine (fq_bind (fq_u1 h0)).trans ?_
  rw [hb]
  rfl
set_option maxRecDepth 100000 in
theorem fq_6 {b : UInt8} (h0 : cc.data.toList[pc]? = some b) (hb : b.toNat = 6) : am_dec cc pc (.iconst 3) = true := by
  refine am_dec_of (n := 1) ?_ rfl
  refine (fq_bind (fq_u1 h0)).trans ?_
  rw [hb]
  rfl
set_option maxRecDepth 100000 in
theorem fq_7 {b : UInt8} (h0 : cc.data.toList[pc]? = some b) (hb : b.toNat = 7) : am_dec cc pc (.iconst 4) = true := by
  refine am_dec_of (n := 1) ?_ rfl
  refine (fq_bind (fq_u1 h0)).trans ?_
  rw [hb]
  rfl
set_option maxRecDepth 100000 in
theorem fq_8 {b : UInt8} (h0 : cc.data.toList[pc]? = some b) (hb : b.toNat = 8) : am_dec cc pc (.iconst 5) = true := by
  refine am_dec_of (n := 1) ?_ rfl
  refine (fq_bind (fq_u1 h0)).trans ?_
  rw [hb]
  rfl
set_option maxRecDepth 100000 in
theorem fq_9 {b : UInt8} (h0 : cc.data.toList[pc]? = some b) (hb : b.toNat = 9) : am_dec cc pc (.lconst 0) = true := by
  refine am_dec_of (n := 1) ?_ rfl
  refine (fq_bind (fq_u1 h0)).trans ?_
  rw [hb]
  rfl
set_option maxRecDepth 100000 in
theorem fq_10 {b : UInt8} (h0 : cc.data.toList[pc]? = some b) (hb : b.toNat = 10) : am_dec cc pc (.lconst 1) = true := by
  refine am_dec_of (n := 1) ?_ rfl
  refine (fq_bind (fq_u1 h0)).trans ?_
  rw [hb]
  rfl
set_option maxRecDepth 100000 in
theorem fq_26 {b : UInt8} (h0 : cc.data.toList[pc]? = some b) (hb : b.toNat = 26) : am_dec cc pc (.iload_n 0) = true := by
  refine am_dec_of (n := 1) ?_ rfl
  refine (fq_bind (fq_u1 h0)).trans ?_
  rw [hb]
  rfl
set_option maxRecDepth 100000 in
theorem fq_27 {b : UInt8} (h0 : cc.data.toList[pc]? = some b) (hb : b.toNat = 27) : am_dec cc pc (.iload_n 1) = true := by
  refine am_dec_of (n := 1) ?_ rfl
  refine (fq_bind (fq_u1 h0)).trans ?_
  rw [hb]
  rfl
set_option maxRecDepth 100000 in
theorem fq_28 {b : UInt8} (h0 : cc.data.toList[pc]? = some b) (hb : b.toNat = 28) : am_dec cc pc (.iload_n 2) = true := by
  refine am_dec_of (n := 1) ?_ rfl
  refine (fq_bind (fq_u1 h0)).trans ?_
  rw [hb]
  rfl
set_option maxRecDepth 100000 in
theorem fq_29 {b : UInt8} (h0 : cc.data.toList[pc]? = some b) (hb : b.toNat = 29) : am_dec cc pc (.iload_n 3) = true := by
  refine am_dec_of (n := 1) ?_ rfl
  refine (fq_bind (fq_u1 h0)).trans ?_
  rw [hb]
  rfl
set_option maxRecDepth 100000 in
theorem fq_30 {b : UInt8} (h0 : cc.data.toList[pc]? = some b) (hb : b.toNat = 30) : am_dec cc pc (.lload_n 0) = true := by
  refine am_dec_of (n := 1) ?_ rfl
  refine (fq_bind (fq_u1 h0)).trans ?_
  rw [hb]
  rfl
set_option maxRecDepth 100000 in
theorem fq_31 {b : UInt8} (h0 : cc.data.toList[pc]? = some b) (hb : b.toNat = 31) : am_dec cc pc (.lload_n 1) = true := by
  refine am_dec_of (n := 1) ?_ rfl
  refine (fq_bind (fq_u1 h0)).trans ?_
  rw [hb]
  rfl
set_option maxRecDepth 100000 in
theorem fq_32 {b : UInt8} (h0 : cc.data.toList[pc]? = some b) (hb : b.toNat = 32) : am_dec cc pc (.lload_n 2) = true := by
  refine am_dec_of (n := 1) ?_ rfl
  refine (fq_bind (fq_u1 h0)).trans ?_
  rw [hb]
  rfl
set_option maxRecDepth 100000 in
theorem fq_33 {b : UInt8} (h0 : cc.data.toList[pc]? = some b) (hb : b.toNat = 33) : am_dec cc pc (.lload_n 3) = true := by
  refine am_dec_of (n := 1) ?_ rfl
  refine (fq_bind (fq_u1 h0)).trans ?_
  rw [hb]
  rfl
set_option maxRecDepth 100000 in
theorem fq_42 {b : UInt8} (h0 : cc.data.toList[pc]? = some b) (hb : b.toNat = 42) : am_dec cc pc (.aload_n 0) = true := by
  refine am_dec_of (n := 1) ?_ rfl
  refine (fq_bind (fq_u1 h0)).trans ?_
  rw [hb]
  rfl
set_option maxRecDepth 100000 in
theorem fq_43 {b : UInt8} (h0 : cc.data.toList[pc]? = some b) (hb : b.toNat = 43) : am_dec cc pc (.aload_n 1) = true := by
  refine am_dec_of (n := 1) ?_ rfl
  refine (fq_bind (fq_u1 h0)).trans ?_
  rw [hb]
  rfl
set_option maxRecDepth 100000 in
theorem fq_44 {b : UInt8} (h0 : cc.data.toList[pc]? = some b) (hb : b.toNat = 44) : am_dec cc pc (.aload_n 2) = true := by
  refine am_dec_of (n := 1) ?_ rfl
  refine (fq_bind (fq_u1 h0)).trans ?_
  rw [hb]
  rfl
set_option maxRecDepth 100000 in
theorem fq_45 {b : UInt8} (h0 : cc.data.toList[pc]? = some b) (hb : b.toNat = 45) : am_dec cc pc (.aload_n 3) = true := by
  refine am_dec_of (n := 1) ?_ rfl
  refine (fq_bind (fq_u1 h0)).trans ?_
  rw [hb]
  rfl
set_option maxRecDepth 100000 in
theorem fq_59 {b : UInt8} (h0 : cc.data.toList[pc]? = some b) (hb : b.toNat = 59) : am_dec cc pc (.istore_n 0) = true := by
  refine am_dec_of (n := 1) ?_ rfl
  refine (fq_bind (fq_u1 h0)).trans ?_
  rw [hb]
  rfl
set_option maxRecDepth 100000 in
theorem fq_60 {b : UInt8} (h0 : cc.data.toList[pc]? = some b) (hb : b.toNat = 60) : am_dec cc pc (.istore_n 1) = true := by
  refine am_dec_of (n := 1) ?_ rfl
  refine (fq_bind (fq_u1 h0)).trans ?_
  rw [hb]
  rfl
set_option maxRecDepth 100000 in
theorem fq_61 {b : UInt8} (h0 : cc.data.toList[pc]? = some b) (hb : b.toNat = 61) : am_dec cc pc (.istore_n 2) = true := by
  refine am_dec_of (n := 1) ?_ rfl
  refine (fq_bind (fq_u1 h0)).trans ?_
  rw [hb]
  rfl
set_option maxRecDepth 100000 in
theorem fq_62 {b : UInt8} (h0 : cc.data.toList[pc]? = some b) (hb : b.toNat = 62) : am_dec cc pc (.istore_n 3) = true := by
  refine am_dec_of (n := 1) ?_ rfl
  refine (fq_bind (fq_u1 h0)).trans ?_
  rw [hb]
  rfl
set_option maxRecDepth 100000 in
theorem fq_46 {b : UInt8} (h0 : cc.data.toList[pc]? = some b) (hb : b.toNat = 46) : am_dec cc pc (.iaload) = true := by
  refine am_dec_of (n := 1) ?_ rfl
  refine (fq_bind (fq_u1 h0)).trans ?_
  rw [hb]
  rfl
set_option maxRecDepth 100000 in
theorem fq_47 {b : UInt8} (h0 : cc.data.toList[pc]? = some b) (hb : b.toNat = 47) : am_dec cc pc (.laload) = true := by
  refine am_dec_of (n := 1) ?_ rfl
  refine (fq_bind (fq_u1 h0)).trans ?_
  rw [hb]
  rfl
set_option maxRecDepth 100000 in
theorem fq_51 {b : UInt8} (h0 : cc.data.toList[pc]? = some b) (hb : b.toNat = 51) : am_dec cc pc (.baload) = true := by
  refine am_dec_of (n := 1) ?_ rfl
  refine (fq_bind (fq_u1 h0)).trans ?_
  rw [hb]
  rfl
set_option maxRecDepth 100000 in
theorem fq_79 {b : UInt8} (h0 : cc.data.toList[pc]? = some b) (hb : b.toNat = 79) : am_dec cc pc (.iastore) = true := by
  refine am_dec_of (n := 1) ?_ rfl
  refine (fq_bind (fq_u1 h0)).trans ?_
  rw [hb]
  rfl
set_option maxRecDepth 100000 in
theorem fq_84 {b : UInt8} (h0 : cc.data.toList[pc]? = some b) (hb : b.toNat = 84) : am_dec cc pc (.bastore) = true := by
  refine am_dec_of (n := 1) ?_ rfl
  refine (fq_bind (fq_u1 h0)).trans ?_
  rw [hb]
  rfl
set_option maxRecDepth 100000 in
theorem fq_87 {b : UInt8} (h0 : cc.data.toList[pc]? = some b) (hb : b.toNat = 87) : am_dec cc pc (.pop) = true := by
  refine am_dec_of (n := 1) ?_ rfl
  refine (fq_bind (fq_u1 h0)).trans ?_
  rw [hb]
  rfl
set_option maxRecDepth 100000 in
theorem fq_89 {b : UInt8} (h0 : cc.data.toList[pc]? = some b) (hb : b.toNat = 89) : am_dec cc pc (.dup) = true := by
  refine am_dec_of (n := 1) ?_ rfl
  refine (fq_bind (fq_u1 h0)).trans ?_
  rw [hb]
  rfl
set_option maxRecDepth 100000 in
theorem fq_96 {b : UInt8} (h0 : cc.data.toList[pc]? = some b) (hb : b.toNat = 96) : am_dec cc pc (.iadd) = true := by
  refine am_dec_of (n := 1) ?_ rfl
  refine (fq_bind (fq_u1 h0)).trans ?_
  rw [hb]
  rfl
set_option maxRecDepth 100000 in
theorem fq_97 {b : UInt8} (h0 : cc.data.toList[pc]? = some b) (hb : b.toNat = 97) : am_dec cc pc (.ladd) = true := by
  refine am_dec_of (n := 1) ?_ rfl
  refine (fq_bind (fq_u1 h0)).trans ?_
  rw [hb]
  rfl
set_option maxRecDepth 100000 in
theorem fq_100 {b : UInt8} (h0 : cc.data.toList[pc]? = some b) (hb : b.toNat = 100) : am_dec cc pc (.isub) = true := by
  refine am_dec_of (n := 1) ?_ rfl
  refine (fq_bind (fq_u1 h0)).trans ?_
  rw [hb]
  rfl
set_option maxRecDepth 100000 in
theorem fq_104 {b : UInt8} (h0 : cc.data.toList[pc]? = some b) (hb : b.toNat = 104) : am_dec cc pc (.imul) = true := by
  refine am_dec_of (n := 1) ?_ rfl
  refine (fq_bind (fq_u1 h0)).trans ?_
  rw [hb]
  rfl
set_option maxRecDepth 100000 in
theorem fq_120 {b : UInt8} (h0 : cc.data.toList[pc]? = some b) (hb : b.toNat = 120) : am_dec cc pc (.ishl) = true := by
  refine am_dec_of (n := 1) ?_ rfl
  refine (fq_bind (fq_u1 h0)).trans ?_
  rw [hb]
  rfl
set_option maxRecDepth 100000 in
theorem fq_121 {b : UInt8} (h0 : cc.data.toList[pc]? = some b) (hb : b.toNat = 121) : am_dec cc pc (.lshl) = true := by
  refine am_dec_of (n := 1) ?_ rfl
  refine (fq_bind (fq_u1 h0)).trans ?_
  rw [hb]
  rfl
set_option maxRecDepth 100000 in
theorem fq_126 {b : UInt8} (h0 : cc.data.toList[pc]? = some b) (hb : b.toNat = 126) : am_dec cc pc (.iand) = true := by
  refine am_dec_of (n := 1) ?_ rfl
  refine (fq_bind (fq_u1 h0)).trans ?_
  rw [hb]
  rfl
set_option maxRecDepth 100000 in
theorem fq_128 {b : UInt8} (h0 : cc.data.toList[pc]? = some b) (hb : b.toNat = 128) : am_dec cc pc (.ior) = true := by
  refine am_dec_of (n := 1) ?_ rfl
  refine (fq_bind (fq_u1 h0)).trans ?_
  rw [hb]
  rfl
set_option maxRecDepth 100000 in
theorem fq_133 {b : UInt8} (h0 : cc.data.toList[pc]? = some b) (hb : b.toNat = 133) : am_dec cc pc (.i2l) = true := by
  refine am_dec_of (n := 1) ?_ rfl
  refine (fq_bind (fq_u1 h0)).trans ?_
  rw [hb]
  rfl
set_option maxRecDepth 100000 in
theorem fq_148 {b : UInt8} (h0 : cc.data.toList[pc]? = some b) (hb : b.toNat = 148) : am_dec cc pc (.lcmp) = true := by
  refine am_dec_of (n := 1) ?_ rfl
  refine (fq_bind (fq_u1 h0)).trans ?_
  rw [hb]
  rfl
set_option maxRecDepth 100000 in
theorem fq_172 {b : UInt8} (h0 : cc.data.toList[pc]? = some b) (hb : b.toNat = 172) : am_dec cc pc (.ireturn) = true := by
  refine am_dec_of (n := 1) ?_ rfl
  refine (fq_bind (fq_u1 h0)).trans ?_
  rw [hb]
  rfl
set_option maxRecDepth 100000 in
theorem fq_177 {b : UInt8} (h0 : cc.data.toList[pc]? = some b) (hb : b.toNat = 177) : am_dec cc pc (.return_) = true := by
  refine am_dec_of (n := 1) ?_ rfl
  refine (fq_bind (fq_u1 h0)).trans ?_
  rw [hb]
  rfl
set_option maxRecDepth 100000 in
theorem fq_21 {b b1 : UInt8} (h0 : cc.data.toList[pc]? = some b) (hb : b.toNat = 21) (h1 : cc.data.toList[pc + 1]? = some b1) (e : b1.toNat = n) : am_dec cc pc (.iload n) = true := by
  refine am_dec_of (n := 2) ?_ rfl
  refine (fq_bind (fq_u1 h0)).trans ?_
  rw [hb]
  refine Eq.trans (show _ = (Jvm.ClassFile.Reader.u1 >>= fun x => (pure (Jvm.ClassFile.Instr.iload x) : Jvm.ClassFile.Decoder Jvm.ClassFile.Instr)) cc (pc + 1) from rfl) ?_
  refine (fq_bind (fq_u1 h1)).trans ?_
  rw [e]
  rfl
set_option maxRecDepth 100000 in
theorem fq_22 {b b1 : UInt8} (h0 : cc.data.toList[pc]? = some b) (hb : b.toNat = 22) (h1 : cc.data.toList[pc + 1]? = some b1) (e : b1.toNat = n) : am_dec cc pc (.lload n) = true := by
  refine am_dec_of (n := 2) ?_ rfl
  refine (fq_bind (fq_u1 h0)).trans ?_
  rw [hb]
  refine Eq.trans (show _ = (Jvm.ClassFile.Reader.u1 >>= fun x => (pure (Jvm.ClassFile.Instr.lload x) : Jvm.ClassFile.Decoder Jvm.ClassFile.Instr)) cc (pc + 1) from rfl) ?_
  refine (fq_bind (fq_u1 h1)).trans ?_
  rw [e]
  rfl
set_option maxRecDepth 100000 in
theorem fq_54 {b b1 : UInt8} (h0 : cc.data.toList[pc]? = some b) (hb : b.toNat = 54) (h1 : cc.data.toList[pc + 1]? = some b1) (e : b1.toNat = n) : am_dec cc pc (.istore n) = true := by
  refine am_dec_of (n := 2) ?_ rfl
  refine (fq_bind (fq_u1 h0)).trans ?_
  rw [hb]
  refine Eq.trans (show _ = (Jvm.ClassFile.Reader.u1 >>= fun x => (pure (Jvm.ClassFile.Instr.istore x) : Jvm.ClassFile.Decoder Jvm.ClassFile.Instr)) cc (pc + 1) from rfl) ?_
  refine (fq_bind (fq_u1 h1)).trans ?_
  rw [e]
  rfl
set_option maxRecDepth 100000 in
theorem fq_55 {b b1 : UInt8} (h0 : cc.data.toList[pc]? = some b) (hb : b.toNat = 55) (h1 : cc.data.toList[pc + 1]? = some b1) (e : b1.toNat = n) : am_dec cc pc (.lstore n) = true := by
  refine am_dec_of (n := 2) ?_ rfl
  refine (fq_bind (fq_u1 h0)).trans ?_
  rw [hb]
  refine Eq.trans (show _ = (Jvm.ClassFile.Reader.u1 >>= fun x => (pure (Jvm.ClassFile.Instr.lstore x) : Jvm.ClassFile.Decoder Jvm.ClassFile.Instr)) cc (pc + 1) from rfl) ?_
  refine (fq_bind (fq_u1 h1)).trans ?_
  rw [e]
  rfl
set_option maxRecDepth 100000 in
theorem fq_18 {b b1 : UInt8} (h0 : cc.data.toList[pc]? = some b) (hb : b.toNat = 18) (h1 : cc.data.toList[pc + 1]? = some b1) (e : b1.toNat = n) : am_dec cc pc (.ldc n) = true := by
  refine am_dec_of (n := 2) ?_ rfl
  refine (fq_bind (fq_u1 h0)).trans ?_
  rw [hb]
  refine Eq.trans (show _ = (Jvm.ClassFile.Reader.u1 >>= fun x => (pure (Jvm.ClassFile.Instr.ldc x) : Jvm.ClassFile.Decoder Jvm.ClassFile.Instr)) cc (pc + 1) from rfl) ?_
  refine (fq_bind (fq_u1 h1)).trans ?_
  rw [e]
  rfl
set_option maxRecDepth 100000 in
theorem fq_16 {b b1 : UInt8} (h0 : cc.data.toList[pc]? = some b) (hb : b.toNat = 16) (h1 : cc.data.toList[pc + 1]? = some b1) (e : Jvm.ClassFile.Reader.signed 8 b1.toNat = t) : am_dec cc pc (.bipush t) = true := by
  refine am_dec_of (n := 2) ?_ rfl
  refine (fq_bind (fq_u1 h0)).trans ?_
  rw [hb]
  refine Eq.trans (show _ = (Jvm.ClassFile.Reader.s1 >>= fun x => (pure (Jvm.ClassFile.Instr.bipush x) : Jvm.ClassFile.Decoder Jvm.ClassFile.Instr)) cc (pc + 1) from rfl) ?_
  refine (fq_bind (fq_s1 h1)).trans ?_
  rw [e]
  rfl
set_option maxRecDepth 100000 in
theorem fq_20 {b b1 b2 : UInt8} (h0 : cc.data.toList[pc]? = some b) (hb : b.toNat = 20) (h1 : cc.data.toList[pc + 1]? = some b1) (h2 : cc.data.toList[pc + 1 + 1]? = some b2) (e : b1.toNat * 256 + b2.toNat = n) : am_dec cc pc (.ldc2_w n) = true := by
  refine am_dec_of (n := 3) ?_ rfl
  refine (fq_bind (fq_u1 h0)).trans ?_
  rw [hb]
  refine Eq.trans (show _ = (Jvm.ClassFile.Reader.u2 >>= fun x => (pure (Jvm.ClassFile.Instr.ldc2_w x) : Jvm.ClassFile.Decoder Jvm.ClassFile.Instr)) cc (pc + 1) from rfl) ?_
  refine (fq_bind (fq_u2 h1 h2)).trans ?_
  rw [e]
  rfl
set_option maxRecDepth 100000 in
theorem fq_180 {b b1 b2 : UInt8} (h0 : cc.data.toList[pc]? = some b) (hb : b.toNat = 180) (h1 : cc.data.toList[pc + 1]? = some b1) (h2 : cc.data.toList[pc + 1 + 1]? = some b2) (e : b1.toNat * 256 + b2.toNat = n) : am_dec cc pc (.getfield n) = true := by
  refine am_dec_of (n := 3) ?_ rfl
  refine (fq_bind (fq_u1 h0)).trans ?_
  rw [hb]
  refine Eq.trans (show _ = (Jvm.ClassFile.Reader.u2 >>= fun x => (pure (Jvm.ClassFile.Instr.getfield x) : Jvm.ClassFile.Decoder Jvm.ClassFile.Instr)) cc (pc + 1) from rfl) ?_
  refine (fq_bind (fq_u2 h1 h2)).trans ?_
  rw [e]
  rfl
set_option maxRecDepth 100000 in
theorem fq_181 {b b1 b2 : UInt8} (h0 : cc.data.toList[pc]? = some b) (hb : b.toNat = 181) (h1 : cc.data.toList[pc + 1]? = some b1) (h2 : cc.data.toList[pc + 1 + 1]? = some b2) (e : b1.toNat * 256 + b2.toNat = n) : am_dec cc pc (.putfield n) = true := by
  refine am_dec_of (n := 3) ?_ rfl
  refine (fq_bind (fq_u1 h0)).trans ?_
  rw [hb]
  refine Eq.trans (show _ = (Jvm.ClassFile.Reader.u2 >>= fun x => (pure (Jvm.ClassFile.Instr.putfield x) : Jvm.ClassFile.Decoder Jvm.ClassFile.Instr)) cc (pc + 1) from rfl) ?_
  refine (fq_bind (fq_u2 h1 h2)).trans ?_
  rw [e]
  rfl
set_option maxRecDepth 100000 in
theorem fq_182 {b b1 b2 : UInt8} (h0 : cc.data.toList[pc]? = some b) (hb : b.toNat = 182) (h1 : cc.data.toList[pc + 1]? = some b1) (h2 : cc.data.toList[pc + 1 + 1]? = some b2) (e : b1.toNat * 256 + b2.toNat = n) : am_dec cc pc (.invokevirtual n) = true := by
  refine am_dec_of (n := 3) ?_ rfl
  refine (fq_bind (fq_u1 h0)).trans ?_
  rw [hb]
  refine Eq.trans (show _ = (Jvm.ClassFile.Reader.u2 >>= fun x => (pure (Jvm.ClassFile.Instr.invokevirtual x) : Jvm.ClassFile.Decoder Jvm.ClassFile.Instr)) cc (pc + 1) from rfl) ?_
  refine (fq_bind (fq_u2 h1 h2)).trans ?_
  rw [e]
  rfl
set_option maxRecDepth 100000 in
theorem fq_183 {b b1 b2 : UInt8} (h0 : cc.data.toList[pc]? = some b) (hb : b.toNat = 183) (h1 : cc.data.toList[pc + 1]? = some b1) (h2 : cc.data.toList[pc + 1 + 1]? = some b2) (e : b1.toNat * 256 + b2.toNat = n) : am_dec cc pc (.invokespecial n) = true := by
  refine am_dec_of (n := 3) ?_ rfl
  refine (fq_bind (fq_u1 h0)).trans ?_
  rw [hb]
  refine Eq.trans (show _ = (Jvm.ClassFile.Reader.u2 >>= fun x => (pure (Jvm.ClassFile.Instr.invokespecial x) : Jvm.ClassFile.Decoder Jvm.ClassFile.Instr)) cc (pc + 1) from rfl) ?_
  refine (fq_bind (fq_u2 h1 h2)).trans ?_
  rw [e]
  rfl
set_option maxRecDepth 100000 in
theorem fq_184 {b b1 b2 : UInt8} (h0 : cc.data.toList[pc]? = some b) (hb : b.toNat = 184) (h1 : cc.data.toList[pc + 1]? = some b1) (h2 : cc.data.toList[pc + 1 + 1]? = some b2) (e : b1.toNat * 256 + b2.toNat = n) : am_dec cc pc (.invokestatic n) = true := by
  refine am_dec_of (n := 3) ?_ rfl
  refine (fq_bind (fq_u1 h0)).trans ?_
  rw [hb]
  refine Eq.trans (show _ = (Jvm.ClassFile.Reader.u2 >>= fun x => (pure (Jvm.ClassFile.Instr.invokestatic x) : Jvm.ClassFile.Decoder Jvm.ClassFile.Instr)) cc (pc + 1) from rfl) ?_
  refine (fq_bind (fq_u2 h1 h2)).trans ?_
  rw [e]
  rfl
set_option maxRecDepth 100000 in
theorem fq_187 {b b1 b2 : UInt8} (h0 : cc.data.toList[pc]? = some b) (hb : b.toNat = 187) (h1 : cc.data.toList[pc + 1]? = some b1) (h2 : cc.data.toList[pc + 1 + 1]? = some b2) (e : b1.toNat * 256 + b2.toNat = n) : am_dec cc pc (.new n) = true := by
  refine am_dec_of (n := 3) ?_ rfl
  refine (fq_bind (fq_u1 h0)).trans ?_
  rw [hb]
  refine Eq.trans (show _ = (Jvm.ClassFile.Reader.u2 >>= fun x => (pure (Jvm.ClassFile.Instr.new x) : Jvm.ClassFile.Decoder Jvm.ClassFile.Instr)) cc (pc + 1) from rfl) ?_
  refine (fq_bind (fq_u2 h1 h2)).trans ?_
  rw [e]
  rfl
set_option maxRecDepth 100000 in
theorem fq_17 {b b1 b2 : UInt8} (h0 : cc.data.toList[pc]? = some b) (hb : b.toNat = 17) (h1 : cc.data.toList[pc + 1]? = some b1) (h2 : cc.data.toList[pc + 1 + 1]? = some b2) (e : Jvm.ClassFile.Reader.signed 16 (b1.toNat * 256 + b2.toNat) = t) : am_dec cc pc (.sipush t) = true := by
  refine am_dec_of (n := 3) ?_ rfl
  refine (fq_bind (fq_u1 h0)).trans ?_
  rw [hb]
  refine Eq.trans (show _ = (Jvm.ClassFile.Reader.s2 >>= fun x => (pure (Jvm.ClassFile.Instr.sipush x) : Jvm.ClassFile.Decoder Jvm.ClassFile.Instr)) cc (pc + 1) from rfl) ?_
  refine (fq_bind (fq_s2 h1 h2)).trans ?_
  rw [e]
  rfl
set_option maxRecDepth 100000 in
theorem fq_167 {b b1 b2 : UInt8} (h0 : cc.data.toList[pc]? = some b) (hb : b.toNat = 167) (h1 : cc.data.toList[pc + 1]? = some b1) (h2 : cc.data.toList[pc + 1 + 1]? = some b2) (e : Jvm.ClassFile.Reader.signed 16 (b1.toNat * 256 + b2.toNat) = t) : am_dec cc pc (.goto t) = true := by
  refine am_dec_of (n := 3) ?_ rfl
  refine (fq_bind (fq_u1 h0)).trans ?_
  rw [hb]
  refine Eq.trans (show _ = (Jvm.ClassFile.Reader.s2 >>= fun x => (pure (Jvm.ClassFile.Instr.goto x) : Jvm.ClassFile.Decoder Jvm.ClassFile.Instr)) cc (pc + 1) from rfl) ?_
  refine (fq_bind (fq_s2 h1 h2)).trans ?_
  rw [e]
  rfl
set_option maxRecDepth 100000 in
theorem fq_153 {b b1 b2 : UInt8} (h0 : cc.data.toList[pc]? = some b) (hb : b.toNat = 153) (h1 : cc.data.toList[pc + 1]? = some b1) (h2 : cc.data.toList[pc + 1 + 1]? = some b2) (e : Jvm.ClassFile.Reader.signed 16 (b1.toNat * 256 + b2.toNat) = t) : am_dec cc pc (.ifCond .eq t) = true := by
  refine am_dec_of (n := 3) ?_ rfl
  refine (fq_bind (fq_u1 h0)).trans ?_
  rw [hb]
  refine Eq.trans (show _ = (Jvm.ClassFile.Reader.s2 >>= fun x => (pure (Jvm.ClassFile.Instr.ifCond .eq x) : Jvm.ClassFile.Decoder Jvm.ClassFile.Instr)) cc (pc + 1) from rfl) ?_
  refine (fq_bind (fq_s2 h1 h2)).trans ?_
  rw [e]
  rfl
set_option maxRecDepth 100000 in
theorem fq_154 {b b1 b2 : UInt8} (h0 : cc.data.toList[pc]? = some b) (hb : b.toNat = 154) (h1 : cc.data.toList[pc + 1]? = some b1) (h2 : cc.data.toList[pc + 1 + 1]? = some b2) (e : Jvm.ClassFile.Reader.signed 16 (b1.toNat * 256 + b2.toNat) = t) : am_dec cc pc (.ifCond .ne t) = true := by
  refine am_dec_of (n := 3) ?_ rfl
  refine (fq_bind (fq_u1 h0)).trans ?_
  rw [hb]
  refine Eq.trans (show _ = (Jvm.ClassFile.Reader.s2 >>= fun x => (pure (Jvm.ClassFile.Instr.ifCond .ne x) : Jvm.ClassFile.Decoder Jvm.ClassFile.Instr)) cc (pc + 1) from rfl) ?_
  refine (fq_bind (fq_s2 h1 h2)).trans ?_
  rw [e]
  rfl
set_option maxRecDepth 100000 in
theorem fq_155 {b b1 b2 : UInt8} (h0 : cc.data.toList[pc]? = some b) (hb : b.toNat = 155) (h1 : cc.data.toList[pc + 1]? = some b1) (h2 : cc.data.toList[pc + 1 + 1]? = some b2) (e : Jvm.ClassFile.Reader.signed 16 (b1.toNat * 256 + b2.toNat) = t) : am_dec cc pc (.ifCond .lt t) = true := by
  refine am_dec_of (n := 3) ?_ rfl
  refine (fq_bind (fq_u1 h0)).trans ?_
  rw [hb]
  refine Eq.trans (show _ = (Jvm.ClassFile.Reader.s2 >>= fun x => (pure (Jvm.ClassFile.Instr.ifCond .lt x) : Jvm.ClassFile.Decoder Jvm.ClassFile.Instr)) cc (pc + 1) from rfl) ?_
  refine (fq_bind (fq_s2 h1 h2)).trans ?_
  rw [e]
  rfl
set_option maxRecDepth 100000 in
theorem fq_156 {b b1 b2 : UInt8} (h0 : cc.data.toList[pc]? = some b) (hb : b.toNat = 156) (h1 : cc.data.toList[pc + 1]? = some b1) (h2 : cc.data.toList[pc + 1 + 1]? = some b2) (e : Jvm.ClassFile.Reader.signed 16 (b1.toNat * 256 + b2.toNat) = t) : am_dec cc pc (.ifCond .ge t) = true := by
  refine am_dec_of (n := 3) ?_ rfl
  refine (fq_bind (fq_u1 h0)).trans ?_
  rw [hb]
  refine Eq.trans (show _ = (Jvm.ClassFile.Reader.s2 >>= fun x => (pure (Jvm.ClassFile.Instr.ifCond .ge x) : Jvm.ClassFile.Decoder Jvm.ClassFile.Instr)) cc (pc + 1) from rfl) ?_
  refine (fq_bind (fq_s2 h1 h2)).trans ?_
  rw [e]
  rfl
set_option maxRecDepth 100000 in
theorem fq_157 {b b1 b2 : UInt8} (h0 : cc.data.toList[pc]? = some b) (hb : b.toNat = 157) (h1 : cc.data.toList[pc + 1]? = some b1) (h2 : cc.data.toList[pc + 1 + 1]? = some b2) (e : Jvm.ClassFile.Reader.signed 16 (b1.toNat * 256 + b2.toNat) = t) : am_dec cc pc (.ifCond .gt t) = true := by
  refine am_dec_of (n := 3) ?_ rfl
  refine (fq_bind (fq_u1 h0)).trans ?_
  rw [hb]
  refine Eq.trans (show _ = (Jvm.ClassFile.Reader.s2 >>= fun x => (pure (Jvm.ClassFile.Instr.ifCond .gt x) : Jvm.ClassFile.Decoder Jvm.ClassFile.Instr)) cc (pc + 1) from rfl) ?_
  refine (fq_bind (fq_s2 h1 h2)).trans ?_
  rw [e]
  rfl
set_option maxRecDepth 100000 in
theorem fq_158 {b b1 b2 : UInt8} (h0 : cc.data.toList[pc]? = some b) (hb : b.toNat = 158) (h1 : cc.data.toList[pc + 1]? = some b1) (h2 : cc.data.toList[pc + 1 + 1]? = some b2) (e : Jvm.ClassFile.Reader.signed 16 (b1.toNat * 256 + b2.toNat) = t) : am_dec cc pc (.ifCond .le t) = true := by
  refine am_dec_of (n := 3) ?_ rfl
  refine (fq_bind (fq_u1 h0)).trans ?_
  rw [hb]
  refine Eq.trans (show _ = (Jvm.ClassFile.Reader.s2 >>= fun x => (pure (Jvm.ClassFile.Instr.ifCond .le x) : Jvm.ClassFile.Decoder Jvm.ClassFile.Instr)) cc (pc + 1) from rfl) ?_
  refine (fq_bind (fq_s2 h1 h2)).trans ?_
  rw [e]
  rfl
set_option maxRecDepth 100000 in
theorem fq_159 {b b1 b2 : UInt8} (h0 : cc.data.toList[pc]? = some b) (hb : b.toNat = 159) (h1 : cc.data.toList[pc + 1]? = some b1) (h2 : cc.data.toList[pc + 1 + 1]? = some b2) (e : Jvm.ClassFile.Reader.signed 16 (b1.toNat * 256 + b2.toNat) = t) : am_dec cc pc (.if_icmp .eq t) = true := by
  refine am_dec_of (n := 3) ?_ rfl
  refine (fq_bind (fq_u1 h0)).trans ?_
  rw [hb]
  refine Eq.trans (show _ = (Jvm.ClassFile.Reader.s2 >>= fun x => (pure (Jvm.ClassFile.Instr.if_icmp .eq x) : Jvm.ClassFile.Decoder Jvm.ClassFile.Instr)) cc (pc + 1) from rfl) ?_
  refine (fq_bind (fq_s2 h1 h2)).trans ?_
  rw [e]
  rfl
set_option maxRecDepth 100000 in
theorem fq_160 {b b1 b2 : UInt8} (h0 : cc.data.toList[pc]? = some b) (hb : b.toNat = 160) (h1 : cc.data.toList[pc + 1]? = some b1) (h2 : cc.data.toList[pc + 1 + 1]? = some b2) (e : Jvm.ClassFile.Reader.signed 16 (b1.toNat * 256 + b2.toNat) = t) : am_dec cc pc (.if_icmp .ne t) = true := by
  refine am_dec_of (n := 3) ?_ rfl
  refine (fq_bind (fq_u1 h0)).trans ?_
  rw [hb]
  refine Eq.trans (show _ = (Jvm.ClassFile.Reader.s2 >>= fun x => (pure (Jvm.ClassFile.Instr.if_icmp .ne x) : Jvm.ClassFile.Decoder Jvm.ClassFile.Instr)) cc (pc + 1) from rfl) ?_
  refine (fq_bind (fq_s2 h1 h2)).trans ?_
  rw [e]
  rfl
set_option maxRecDepth 100000 in
theorem fq_161 {b b1 b2 : UInt8} (h0 : cc.data.toList[pc]? = some b) (hb : b.toNat = 161) (h1 : cc.data.toList[pc + 1]? = some b1) (h2 : cc.data.toList[pc + 1 + 1]? = some b2) (e : Jvm.ClassFile.Reader.signed 16 (b1.toNat * 256 + b2.toNat) = t) : am_dec cc pc (.if_icmp .lt t) = true := by
  refine am_dec_of (n := 3) ?_ rfl
  refine (fq_bind (fq_u1 h0)).trans ?_
  rw [hb]
  refine Eq.trans (show _ = (Jvm.ClassFile.Reader.s2 >>= fun x => (pure (Jvm.ClassFile.Instr.if_icmp .lt x) : Jvm.ClassFile.Decoder Jvm.ClassFile.Instr)) cc (pc + 1) from rfl) ?_
  refine (fq_bind (fq_s2 h1 h2)).trans ?_
  rw [e]
  rfl
set_option maxRecDepth 100000 in
theorem fq_162 {b b1 b2 : UInt8} (h0 : cc.data.toList[pc]? = some b) (hb : b.toNat = 162) (h1 : cc.data.toList[pc + 1]? = some b1) (h2 : cc.data.toList[pc + 1 + 1]? = some b2) (e : Jvm.ClassFile.Reader.signed 16 (b1.toNat * 256 + b2.toNat) = t) : am_dec cc pc (.if_icmp .ge t) = true := by
  refine am_dec_of (n := 3) ?_ rfl
  refine (fq_bind (fq_u1 h0)).trans ?_
  rw [hb]
  refine Eq.trans (show _ = (Jvm.ClassFile.Reader.s2 >>= fun x => (pure (Jvm.ClassFile.Instr.if_icmp .ge x) : Jvm.ClassFile.Decoder Jvm.ClassFile.Instr)) cc (pc + 1) from rfl) ?_
  refine (fq_bind (fq_s2 h1 h2)).trans ?_
  rw [e]
  rfl
set_option maxRecDepth 100000 in
theorem fq_163 {b b1 b2 : UInt8} (h0 : cc.data.toList[pc]? = some b) (hb : b.toNat = 163) (h1 : cc.data.toList[pc + 1]? = some b1) (h2 : cc.data.toList[pc + 1 + 1]? = some b2) (e : Jvm.ClassFile.Reader.signed 16 (b1.toNat * 256 + b2.toNat) = t) : am_dec cc pc (.if_icmp .gt t) = true := by
  refine am_dec_of (n := 3) ?_ rfl
  refine (fq_bind (fq_u1 h0)).trans ?_
  rw [hb]
  refine Eq.trans (show _ = (Jvm.ClassFile.Reader.s2 >>= fun x => (pure (Jvm.ClassFile.Instr.if_icmp .gt x) : Jvm.ClassFile.Decoder Jvm.ClassFile.Instr)) cc (pc + 1) from rfl) ?_
  refine (fq_bind (fq_s2 h1 h2)).trans ?_
  rw [e]
  rfl
set_option maxRecDepth 100000 in
theorem fq_164 {b b1 b2 : UInt8} (h0 : cc.data.toList[pc]? = some b) (hb : b.toNat = 164) (h1 : cc.data.toList[pc + 1]? = some b1) (h2 : cc.data.toList[pc + 1 + 1]? = some b2) (e : Jvm.ClassFile.Reader.signed 16 (b1.toNat * 256 + b2.toNat) = t) : am_dec cc pc (.if_icmp .le t) = true := by
  refine am_dec_of (n := 3) ?_ rfl
  refine (fq_bind (fq_u1 h0)).trans ?_
  rw [hb]
  refine Eq.trans (show _ = (Jvm.ClassFile.Reader.s2 >>= fun x => (pure (Jvm.ClassFile.Instr.if_icmp .le x) : Jvm.ClassFile.Decoder Jvm.ClassFile.Instr)) cc (pc + 1) from rfl) ?_
  refine (fq_bind (fq_s2 h1 h2)).trans ?_
  rw [e]
  rfl
set_option maxRecDepth 100000 in
theorem fq_132 {b b1 b2 : UInt8} (h0 : cc.data.toList[pc]? = some b) (hb : b.toNat = 132) (h1 : cc.data.toList[pc + 1]? = some b1) (e1 : b1.toNat = n) (h2 : cc.data.toList[pc + 1 + 1]? = some b2) (e : Jvm.ClassFile.Reader.signed 8 b2.toNat = t) : am_dec cc pc (.iinc n t) = true := by
  refine am_dec_of (n := 3) ?_ rfl
  refine (fq_bind (fq_u1 h0)).trans ?_
  rw [hb]
  refine Eq.trans (show _ = (Jvm.ClassFile.Reader.u1 >>= fun x => Jvm.ClassFile.Reader.s1 >>= fun y => (pure (Jvm.ClassFile.Instr.iinc x y) : Jvm.ClassFile.Decoder Jvm.ClassFile.Instr)) cc (pc + 1) from rfl) ?_
  refine (fq_bind (fq_u1 h1)).trans ?_
  refine (fq_bind (fq_s1 h2)).trans ?_
  rw [e1, e]
  rfl
def am_cq (c : Jvm.ClassFile.Cond) : Nat := match c with
  | .eq => 0
  | .ne => 1
  | .lt => 2
  | .ge => 3
  | .gt => 4
  | .le => 5
/-- the bytes are those of the instruction (false: not known) -/
def am_fe (i : am_I) (l : List UInt8) : Bool := match i with
  | .iconst m => decide (-1 ≤ m) && decide (m ≤ 5) && fo0_ l (m + 3).toNat
  | .lconst m => fo0_ l (9 + m.val)
  | .iload_n m => fo0_ l (26 + m.val)
  | .lload_n m => fo0_ l (30 + m.val)
  | .aload_n m => fo0_ l (42 + m.val)
  | .istore_n m => fo0_ l (59 + m.val)
  | .iaload => fo0_ l 46
  | .laload => fo0_ l 47
  | .baload => fo0_ l 51
  | .iastore => fo0_ l 79
  | .bastore => fo0_ l 84
  | .pop => fo0_ l 87
  | .dup => fo0_ l 89
  | .iadd => fo0_ l 96
  | .ladd => fo0_ l 97
  | .isub => fo0_ l 100
  | .imul => fo0_ l 104
  | .ishl => fo0_ l 120
  | .lshl => fo0_ l 121
  | .iand => fo0_ l 126
  | .ior => fo0_ l 128
  | .i2l => fo0_ l 133
  | .lcmp => fo0_ l 148
  | .ireturn => fo0_ l 172
  | .return_ => fo0_ l 177
  | .iload m => fo1_ l 21 m
  | .lload m => fo1_ l 22 m
  | .istore m => fo1_ l 54 m
  | .lstore m => fo1_ l 55 m
  | .ldc m => fo1_ l 18 m
  | .bipush m => fr1_ l 16 m
  | .ldc2_w m => fo2_ l 20 m
  | .getfield m => fo2_ l 180 m
  | .putfield m => fo2_ l 181 m
  | .invokevirtual m => fo2_ l 182 m
  | .invokespecial m => fo2_ l 183 m
  | .invokestatic m => fo2_ l 184 m
  | .new m => fo2_ l 187 m
  | .sipush m => fr2_ l 17 m
  | .goto m => fr2_ l 167 m
  | .ifCond c m => fr2_ l (153 + am_cq c) m
  | .if_icmp c m => fr2_ l (159 + am_cq c) m
  | .iinc m t => fr3_ l 132 m t
  | _ => false
theorem am_fe_ok {i : am_I} (hl : ∀ j, l[j]? = cc.data.toList[pc + j]?) (h : am_fe i l = true) : am_dec cc pc i = true := by
  cases i with
  | iconst m =>
    have h : (decide (-1 ≤ m) && decide (m ≤ 5) && fo0_ l (m + 3).toNat) = true := h
    obtain ⟨h, h3⟩ := (Bool.and_eq_true _ _).mp h
    obtain ⟨h1, h2⟩ := (Bool.and_eq_true _ _).mp h
    have h1 := of_decide_eq_true h1
    have h2 := of_decide_eq_true h2
    obtain ⟨b, h0, hb⟩ := fo0i_ hl h3
    have : m = -1 ∨ m = 0 ∨ m = 1 ∨ m = 2 ∨ m = 3 ∨ m = 4 ∨ m = 5 := by omega
    rcases this with rfl | rfl | rfl | rfl | rfl | rfl | rfl
    · exact fq_2 h0 hb
    · exact fq_3 h0 hb
    · exact fq_4 h0 hb
    · exact fq_5 h0 hb
    · exact fq_6 h0 hb
    · exact fq_7 h0 hb
    · exact fq_8 h0 hb
  | lconst m =>
    obtain ⟨b, h0, hb⟩ := fo0i_ hl h
    obtain ⟨v, hv⟩ := m
    match v, hv, hb with
    | 0, _, hb => exact fq_9 h0 hb
    | 1, _, hb => exact fq_10 h0 hb
    | v + 2, hv, _ => exact absurd hv (by omega)
  | iload_n m =>
    obtain ⟨b, h0, hb⟩ := fo0i_ hl h
    obtain ⟨v, hv⟩ := m
    match v, hv, hb with
    | 0, _, hb => exact fq_26 h0 hb
    | 1, _, hb => exact fq_27 h0 hb
    | 2, _, hb => exact fq_28 h0 hb
    | 3, _, hb => exact fq_29 h0 hb
    | v + 4, hv, _ => exact absurd hv (by omega)
  | lload_n m =>
    obtain ⟨b, h0, hb⟩ := fo0i_ hl h
    obtain ⟨v, hv⟩ := m
    match v, hv, hb with
    | 0, _, hb => exact fq_30 h0 hb
    | 1, _, hb => exact fq_31 h0 hb
    | 2, _, hb => exact fq_32 h0 hb
    | 3, _, hb => exact fq_33 h0 hb
    | v + 4, hv, _ => exact absurd hv (by omega)
  | aload_n m =>
    obtain ⟨b, h0, hb⟩ := fo0i_ hl h
    obtain ⟨v, hv⟩ := m
    match v, hv, hb with
    | 0, _, hb => exact fq_42 h0 hb
    | 1, _, hb => exact fq_43 h0 hb
    | 2, _, hb => exact fq_44 h0 hb
    | 3, _, hb => exact fq_45 h0 hb
    | v + 4, hv, _ => exact absurd hv (by omega)
  | istore_n m =>
    obtain ⟨b, h0, hb⟩ := fo0i_ hl h
    obtain ⟨v, hv⟩ := m
    match v, hv, hb with
    | 0, _, hb => exact fq_59 h0 hb
    | 1, _, hb => exact fq_60 h0 hb
    | 2, _, hb => exact fq_61 h0 hb
    | 3, _, hb => exact fq_62 h0 hb
    | v + 4, hv, _ => exact absurd hv (by omega)
  | iaload =>
    obtain ⟨b, h0, hb⟩ := fo0i_ hl h
    exact fq_46 h0 hb
  | laload =>
    obtain ⟨b, h0, hb⟩ := fo0i_ hl h
    exact fq_47 h0 hb
  | baload =>
    obtain ⟨b, h0, hb⟩ := fo0i_ hl h
    exact fq_51 h0 hb
  | iastore =>
    obtain ⟨b, h0, hb⟩ := fo0i_ hl h
    exact fq_79 h0 hb
  | bastore =>
    obtain ⟨b, h0, hb⟩ := fo0i_ hl h
    exact fq_84 h0 hb
  | pop =>
    obtain ⟨b, h0, hb⟩ := fo0i_ hl h
    exact fq_87 h0 hb
  | dup =>
    obtain ⟨b, h0, hb⟩ := fo0i_ hl h
    exact fq_89 h0 hb
  | iadd =>
    obtain ⟨b, h0, hb⟩ := fo0i_ hl h
    exact fq_96 h0 hb
  | ladd =>
    obtain ⟨b, h0, hb⟩ := fo0i_ hl h
    exact fq_97 h0 hb
  | isub =>
    obtain ⟨b, h0, hb⟩ := fo0i_ hl h
    exact fq_100 h0 hb
  | imul =>
    obtain ⟨b, h0, hb⟩ := fo0i_ hl h
    exact fq_104 h0 hb
  | ishl =>
    obtain ⟨b, h0, hb⟩ := fo0i_ hl h
    exact fq_120 h0 hb
  | lshl =>
    obtain ⟨b, h0, hb⟩ := fo0i_ hl h
    exact fq_121 h0 hb
  | iand =>
    obtain ⟨b, h0, hb⟩ := fo0i_ hl h
    exact fq_126 h0 hb
  | ior =>
    obtain ⟨b, h0, hb⟩ := fo0i_ hl h
    exact fq_128 h0 hb
  | i2l =>
    obtain ⟨b, h0, hb⟩ := fo0i_ hl h
    exact fq_133 h0 hb
  | lcmp =>
    obtain ⟨b, h0, hb⟩ := fo0i_ hl h
    exact fq_148 h0 hb
  | ireturn =>
    obtain ⟨b, h0, hb⟩ := fo0i_ hl h
    exact fq_172 h0 hb
  | return_ =>
    obtain ⟨b, h0, hb⟩ := fo0i_ hl h
    exact fq_177 h0 hb
  | iload m =>
    obtain ⟨b, b1, h0, hb, h1, e⟩ := fo1i_ hl h
    exact fq_21 h0 hb h1 e
  | lload m =>
    obtain ⟨b, b1, h0, hb, h1, e⟩ := fo1i_ hl h
    exact fq_22 h0 hb h1 e
  | istore m =>
    obtain ⟨b, b1, h0, hb, h1, e⟩ := fo1i_ hl h
    exact fq_54 h0 hb h1 e
  | lstore m =>
    obtain ⟨b, b1, h0, hb, h1, e⟩ := fo1i_ hl h
    exact fq_55 h0 hb h1 e
  | ldc m =>
    obtain ⟨b, b1, h0, hb, h1, e⟩ := fo1i_ hl h
    exact fq_18 h0 hb h1 e
  | bipush m =>
    obtain ⟨b, b1, h0, hb, h1, e⟩ := fp1i_ hl h
    exact fq_16 h0 hb h1 e
  | ldc2_w m =>
    obtain ⟨b, b1, b2, h0, hb, h1, h2, e⟩ := fo2i_ hl h
    exact fq_20 h0 hb h1 h2 e
  | getfield m =>
    obtain ⟨b, b1, b2, h0, hb, h1, h2, e⟩ := fo2i_ hl h
    exact fq_180 h0 hb h1 h2 e
  | putfield m =>
    obtain ⟨b, b1, b2, h0, hb, h1, h2, e⟩ := fo2i_ hl h
    exact fq_181 h0 hb h1 h2 e
  | invokevirtual m =>
    obtain ⟨b, b1, b2, h0, hb, h1, h2, e⟩ := fo2i_ hl h
    exact fq_182 h0 hb h1 h2 e
  | invokespecial m =>
    obtain ⟨b, b1, b2, h0, hb, h1, h2, e⟩ := fo2i_ hl h
    exact fq_183 h0 hb h1 h2 e
  | invokestatic m =>
    obtain ⟨b, b1, b2, h0, hb, h1, h2, e⟩ := fo2i_ hl h
    exact fq_184 h0 hb h1 h2 e
  | new m =>
    obtain ⟨b, b1, b2, h0, hb, h1, h2, e⟩ := fo2i_ hl h
    exact fq_187 h0 hb h1 h2 e
  | sipush m =>
    obtain ⟨b, b1, b2, h0, hb, h1, h2, e⟩ := fp2i_ hl h
    exact fq_17 h0 hb h1 h2 e
  | goto m =>
    obtain ⟨b, b1, b2, h0, hb, h1, h2, e⟩ := fp2i_ hl h
    exact fq_167 h0 hb h1 h2 e
  | ifCond c m =>
    obtain ⟨b, b1, b2, h0, hb, h1, h2, e⟩ := fp2i_ hl h
    cases c with
    | eq => exact fq_153 h0 hb h1 h2 e
    | ne => exact fq_154 h0 hb h1 h2 e
    | lt => exact fq_155 h0 hb h1 h2 e
    | ge => exact fq_156 h0 hb h1 h2 e
    | gt => exact fq_157 h0 hb h1 h2 e
    | le => exact fq_158 h0 hb h1 h2 e
  | if_icmp c m =>
    obtain ⟨b, b1, b2, h0, hb, h1, h2, e⟩ := fp2i_ hl h
    cases c with
    | eq => exact fq_159 h0 hb h1 h2 e
    | ne => exact fq_160 h0 hb h1 h2 e
    | lt => exact fq_161 h0 hb h1 h2 e
    | ge => exact fq_162 h0 hb h1 h2 e
    | gt => exact fq_163 h0 hb h1 h2 e
    | le => exact fq_164 h0 hb h1 h2 e
  | iinc m t =>
    obtain ⟨b, b1, b2, h0, hb, h1, e1, h2, e⟩ := fp3i_ hl h
    exact fq_132 h0 hb h1 e1 h2 e
  | _ => cases h
end FD
/-- all instructions of a table, byte for byte -/
def am_fl (tr : Nat → Option am_I) (cc : ByteArray) : Nat → List UInt8 → Bool
  | _, [] => true
  | pc, b :: l => (match tr pc with
    | some i => am_fe i (b :: l) || am_dec cc pc i
    | none => true) && am_fl tr cc (pc + 1) l
theorem am_fl_ok {tr : Nat → Option am_I} {cc : ByteArray} : ∀ (l : List UInt8) (pc : Nat), (∀ j, l[j]? = cc.data.toList[pc + j]?) → am_fl tr cc pc l = true → ∀ q, pc ≤ q → q < pc + l.length → (match tr q with
  | some i => am_dec cc q i
  | none => true) = true := by
  intro l
  induction l with
  | nil =>
    intro pc _ _ q h1 h2
    have h2 : q < pc + 0 := h2
    omega
  | cons b l ih =>
    intro pc hl h q h1 h2
    have h : ((match tr pc with
      | some i => am_fe i (b :: l) || am_dec cc pc i
      | none => true) && am_fl tr cc (pc + 1) l) = true := h
    obtain ⟨h3, h4⟩ := (Bool.and_eq_true _ _).mp h
    by_cases e : q = pc
    · rw [e]
      cases ht : tr pc with
      | none => rfl
      | some i =>
        rw [ht] at h3
        have h3 : (am_fe i (b :: l) || am_dec cc pc i) = true := h3
        show am_dec cc pc i = true
        rcases Bool.or_eq_true_iff.mp h3 with z | z
        · exact am_fe_ok hl z
        · exact z
    · refine ih (pc + 1) (fun j => ?_) h4 q (by omega) (by have h2 : q < pc + (l.length + 1) := h2; omega)
      have := hl (j + 1)
      rw [show pc + (j + 1) = pc + 1 + j by omega] at this
      exact this
def am_fok (r : am_M) : Bool := Nat.ble (am_sz r) (am_b r).data.toList.length && am_fl (am_tr r) (am_b r) 0 (am_b r).data.toList && am_has (.code (am_y r) (am_b r) (am_L r) (am_rt r)) (am_ps r) && (!am_i r || decide ((am_y r).name = "<init>")) && decide (am_R (am_o r) = (am_y r).cls) && plainName (am_y r).cls && Nat.ble (am_L r) 40
theorem am_fok_ok {r : am_M} (h : am_fok r = true) : am_mok r = true := by
  unfold am_fok at h
  unfold am_mok
  obtain ⟨h, h6⟩ := (Bool.and_eq_true _ _).mp h
  obtain ⟨h, h5⟩ := (Bool.and_eq_true _ _).mp h
  obtain ⟨h, h4⟩ := (Bool.and_eq_true _ _).mp h
  obtain ⟨h, h3⟩ := (Bool.and_eq_true _ _).mp h
  obtain ⟨h, h2⟩ := (Bool.and_eq_true _ _).mp h
  obtain ⟨h0, h1⟩ := (Bool.and_eq_true _ _).mp h
  rw [h2, h3, h4, h5, h6, Bool.and_true, Bool.and_true, Bool.and_true, Bool.and_true, Bool.and_true]
  refine List.all_eq_true.mpr (fun pc hpc => ?_)
  have a := List.mem_range.mp hpc
  have b := Nat.le_of_ble_eq_true h0
  exact am_fl_ok _ 0 (fun j => by rw [Nat.zero_add]) h1 pc (Nat.zero_le _) (by omega)
