/-! THE SMALL MACHINE: a pure machine over the class files' own instructions, with cells by their number (0 is the first cell that the law makes); zk_run is what later parts reckon with; part 05 and on tie it to the Statement's machine. -/
abbrev zk_C : Type := (Nat × vp_A) ⊕ (Nat × List Value)
abbrev zk_H : Type := List zk_C
abbrev zk_L : Type := List (Nat × Value)
abbrev zk_F : Type := Nat × zk_L × List Value
/-- pc; instruction; its length; three numbers and an int that say what it links to -/
abbrev zk_I : Type := Nat × Instr × Nat × Nat × Nat × Nat × Int32
/-- name; bytes; locals; what it returns; its class's number; frames; words of locals; how many parameters; 0 static, 1 not, 2 a constructor; the code by 32 bytes; heads of loops with the locals that live there -/
abbrev zk_M : Type := MethodName × ByteArray × Nat × Option FieldType × Nat × Nat × Nat × Nat × Nat × List (List zk_I) × List (Nat × List Nat)
abbrev zk_nam (M : zk_M) : MethodName := M.1
abbrev zk_byt (M : zk_M) : ByteArray := M.2.1
abbrev zk_mxl (M : zk_M) : Nat := M.2.2.1
abbrev zk_ret (M : zk_M) : Option FieldType := M.2.2.2.1
abbrev zk_own (M : zk_M) : Nat := M.2.2.2.2.1
abbrev zk_fr (M : zk_M) : Nat := M.2.2.2.2.2.1
abbrev zk_lo (M : zk_M) : Nat := M.2.2.2.2.2.2.1
abbrev zk_na (M : zk_M) : Nat := M.2.2.2.2.2.2.2.1
abbrev zk_kd (M : zk_M) : Nat := M.2.2.2.2.2.2.2.2.1
abbrev zk_ct (M : zk_M) : List (List zk_I) := M.2.2.2.2.2.2.2.2.2.1
abbrev zk_cut (M : zk_M) : List (Nat × List Nat) := M.2.2.2.2.2.2.2.2.2.2
def zk_look {α : Type} : List (Nat × α) → Nat → Option α
  | [], _ => none
  | q :: l, k => bif Nat.beq q.1 k then some q.2 else zk_look l k
def zk_at {α : Type} : List α → Nat → Option α
  | [], _ => none
  | a :: _, 0 => some a
  | _ :: l, k + 1 => zk_at l k
def zk_put {α : Type} : List α → Nat → α → List α
  | [], _, _ => []
  | _ :: l, 0, x => x :: l
  | a :: l, k + 1, x => a :: zk_put l k x
def zk_mem : List Nat → Nat → Bool
  | [], _ => false
  | a :: l, k => Nat.beq a k || zk_mem l k
def zk_fetch (M : zk_M) (pc : Nat) : Option (Instr × Nat × Nat × Nat × Nat × Int32) := match zk_at (zk_ct M) (pc / 32) with
  | some l => zk_look l pc
  | none => none
def zk_ins (i : Nat) (v : Value) : zk_L → zk_L
  | [] => [(i, v)]
  | q :: l => bif Nat.blt i q.1 then (i, v) :: q :: l else q :: zk_ins i v l
def zk_flt (p : Nat × Value → Bool) : zk_L → zk_L
  | [] => []
  | q :: l => bif p q then q :: zk_flt p l else zk_flt p l
def zk_st1 (L : zk_L) (i : Nat) (v : Value) : zk_L := zk_ins i v (zk_flt (fun q => !(Nat.beq q.1 i) && !(Nat.beq (q.1 + 1) i && Nat.beq q.2.category 2)) L)
def zk_st2 (L : zk_L) (i : Nat) (v : Value) : zk_L := zk_ins i v (zk_flt (fun q => !(Nat.beq q.1 i) && (!(Nat.beq q.1 (i + 1)) && !(Nat.beq (q.1 + 1) i && Nat.beq q.2.category 2))) L)
/-- at the head of a loop only what lives there is kept -/
def zk_nm (M : zk_M) (pc : Nat) (L : zk_L) : zk_L := match zk_look (zk_cut M) pc with
  | some ks => zk_flt (fun q => zk_mem ks q.1) L
  | none => L
abbrev zk_E : Type := Option ((zk_F × zk_H) ⊕ (Bool × zk_F × zk_H) ⊕ (Bool × zk_F × zk_F) ⊕ (Bool × Option Value) ⊕ (Nat × List Value × zk_F))
abbrev zk_nx (M : zk_M) (pc : Nat) (L : zk_L) (st : List Value) (h : zk_H) : zk_E := some (.inl ((pc, zk_nm M pc L, st), h))
abbrev zk_ob (b : Bool) (M : zk_M) (pc : Nat) (L : zk_L) (st : List Value) (h : zk_H) : zk_E := some (.inr (.inl (b, (pc, zk_nm M pc L, st), h)))
abbrev zk_br (b : Bool) (M : zk_M) (pt pf : Nat) (L : zk_L) (st : List Value) : zk_E := some (.inr (.inr (.inl (b, (pt, zk_nm M pt L, st), (pf, zk_nm M pf L, st)))))
abbrev zk_rt (b : Bool) (v : Option Value) : zk_E := some (.inr (.inr (.inr (.inl (b, v)))))
abbrev zk_cl (k : Nat) (as : List Value) (f : zk_F) : zk_E := some (.inr (.inr (.inr (.inr (k, as, f)))))
def zk_cat : List Value → Nat
  | [] => 0
  | v :: l => v.category + zk_cat l
/-- n of the stack, the lowest first, and what lies below -/
def zk_pop : Nat → List Value → List Value → Option (List Value × List Value)
  | 0, st, as => some (as, st)
  | n + 1, v :: st, as => zk_pop n st (v :: as)
  | _ + 1, [], _ => none
def zk_in (i : Int32) (n : Nat) : Bool := decide (¬ (i < 0 ∨ n ≤ i.toNatClampNeg))
def zk_cpOk (sp dp n : Int32) (n0 n1 : Nat) : Bool := decide (¬ sp < 0) && (decide (¬ dp < 0) && (decide (¬ n < 0) && (decide (sp.toNatClampNeg + n.toNatClampNeg ≤ n0) && decide (dp.toNatClampNeg + n.toNatClampNeg ≤ n1))))
def zk_tsw (pc : Nat) (dflt lo hi : Int) (offs : Array Int) (x : Int) : Option Nat :=
  if x < lo ∨ hi < x then some ((pc : Int) + dflt).toNat else match offs[(x - lo).toNat]? with
  | some o => some ((pc : Int) + o).toNat
  | none => none
def zk_lsw (pc : Nat) (dflt : Int) (ps : Array (Int × Int)) (x : Int) : Nat := ((pc : Int) + Op.lookupswitch.offset ps.toList dflt x).toNat
/-- loads, constants, stores, numbers -/
def zk_x1 (M : zk_M) (i : Instr) (r1 : Nat) (c : Int32) (pc : Nat) (L : zk_L) (st : List Value) (h : zk_H) : zk_E := match i with
  | .iconst _ => zk_nx M (pc + 1) L (.int c :: st) h
  | .bipush _ => zk_nx M (pc + 2) L (.int c :: st) h
  | .sipush _ => zk_nx M (pc + 3) L (.int c :: st) h
  | .lconst n => zk_nx M (pc + 1) L (.long (match n with | 0 => 0 | 1 => 1) :: st) h
  | .iload_n k => match zk_look L k.val with
    | some (.int x) => zk_nx M (pc + 1) L (.int x :: st) h
    | _ => none
  | .iload k => match zk_look L k with
    | some (.int x) => zk_nx M (pc + 2) L (.int x :: st) h
    | _ => none
  | .lload_n k => match zk_look L k.val with
    | some (.long x) => zk_nx M (pc + 1) L (.long x :: st) h
    | _ => none
  | .lload k => match zk_look L k with
    | some (.long x) => zk_nx M (pc + 2) L (.long x :: st) h
    | _ => none
  | .aload_n k => match zk_look L k.val with
    | some (.ref x) => zk_nx M (pc + 1) L (.ref x :: st) h
    | some (.retAddr x) => zk_nx M (pc + 1) L (.retAddr x :: st) h
    | _ => none
  | .aload k => match zk_look L k with
    | some (.ref x) => zk_nx M (pc + 2) L (.ref x :: st) h
    | some (.retAddr x) => zk_nx M (pc + 2) L (.retAddr x :: st) h
    | _ => none
  | .istore_n k => match st with
    | .int x :: rest => bif Nat.blt k.val (zk_mxl M) then zk_nx M (pc + 1) (zk_st1 L k.val (.int x)) rest h else none
    | _ => none
  | .istore k => match st with
    | .int x :: rest => bif Nat.blt k (zk_mxl M) then zk_nx M (pc + 2) (zk_st1 L k (.int x)) rest h else none
    | _ => none
  | .lstore_n k => match st with
    | .long x :: rest => bif Nat.blt (k.val + 1) (zk_mxl M) then zk_nx M (pc + 1) (zk_st2 L k.val (.long x)) rest h else none
    | _ => none
  | .lstore k => match st with
    | .long x :: rest => bif Nat.blt (k + 1) (zk_mxl M) then zk_nx M (pc + 2) (zk_st2 L k (.long x)) rest h else none
    | _ => none
  | .astore_n k => match st with
    | .ref x :: rest => bif Nat.blt k.val (zk_mxl M) then zk_nx M (pc + 1) (zk_st1 L k.val (.ref x)) rest h else none
    | _ => none
  | .astore k => match st with
    | .ref x :: rest => bif Nat.blt k (zk_mxl M) then zk_nx M (pc + 2) (zk_st1 L k (.ref x)) rest h else none
    | _ => none
  | .iinc k _ => match zk_look L k with
    | some (.int x) => bif Nat.blt k (zk_mxl M) then zk_nx M (pc + 3) (zk_st1 L k (.int (x + c))) st h else none
    | _ => none
  | .dup => match st with
    | .int x :: rest => zk_nx M (pc + 1) L (.int x :: .int x :: rest) h
    | .ref x :: rest => zk_nx M (pc + 1) L (.ref x :: .ref x :: rest) h
    | _ => none
  | .dup2 => match st with
    | .int x :: .ref y :: rest => zk_nx M (pc + 1) L (.int x :: .ref y :: .int x :: .ref y :: rest) h
    | _ => none
  | .pop => match st with
    | .int _ :: rest => zk_nx M (pc + 1) L rest h
    | _ => none
  | .goto _ => zk_nx M r1 L st h
  | _ => none
/-- reckoning -/
def zk_x2 (M : zk_M) (i : Instr) (pc : Nat) (L : zk_L) (st : List Value) (h : zk_H) : zk_E := match st with
  | .int y :: .int x :: rest => match i with
    | .iadd => zk_nx M (pc + 1) L (.int (x + y) :: rest) h
    | .isub => zk_nx M (pc + 1) L (.int (x - y) :: rest) h
    | .imul => zk_nx M (pc + 1) L (.int (x * y) :: rest) h
    | .iand => zk_nx M (pc + 1) L (.int (x &&& y) :: rest) h
    | .ior => zk_nx M (pc + 1) L (.int (x ||| y) :: rest) h
    | .ixor => zk_nx M (pc + 1) L (.int (x ^^^ y) :: rest) h
    | .ishl => zk_nx M (pc + 1) L (.int (x <<< (y &&& 31)) :: rest) h
    | .ishr => zk_nx M (pc + 1) L (.int (x >>> (y &&& 31)) :: rest) h
    | .iushr => zk_nx M (pc + 1) L (.int (x.toUInt32 >>> (y.toUInt32 &&& Int32.toUInt32 31)).toInt32 :: rest) h
    | .idiv => zk_ob (decide (¬ y = 0)) M (pc + 1) L (.int (x / y) :: rest) h
    | .irem => zk_ob (decide (¬ y = 0)) M (pc + 1) L (.int (x - x / y * y) :: rest) h
    | .ineg => zk_nx M (pc + 1) L (.int (-y) :: .int x :: rest) h
    | .i2l => zk_nx M (pc + 1) L (.long y.toInt64 :: .int x :: rest) h
    | .i2b => zk_nx M (pc + 1) L (.int y.toInt8.toInt32 :: .int x :: rest) h
    | _ => none
  | .int y :: .long x :: rest => match i with
    | .lshl => zk_nx M (pc + 1) L (.long (x <<< (y.toInt64 &&& 63)) :: rest) h
    | .i2l => zk_nx M (pc + 1) L (.long y.toInt64 :: .long x :: rest) h
    | .ineg => zk_nx M (pc + 1) L (.int (-y) :: .long x :: rest) h
    | .i2b => zk_nx M (pc + 1) L (.int y.toInt8.toInt32 :: .long x :: rest) h
    | _ => none
  | .int y :: rest => match i with
    | .ineg => zk_nx M (pc + 1) L (.int (-y) :: rest) h
    | .i2l => zk_nx M (pc + 1) L (.long y.toInt64 :: rest) h
    | .i2b => zk_nx M (pc + 1) L (.int y.toInt8.toInt32 :: rest) h
    | _ => none
  | .long y :: .long x :: rest => match i with
    | .ladd => zk_nx M (pc + 1) L (.long (x + y) :: rest) h
    | .lsub => zk_nx M (pc + 1) L (.long (x - y) :: rest) h
    | .lmul => zk_nx M (pc + 1) L (.long (x * y) :: rest) h
    | .lor => zk_nx M (pc + 1) L (.long (x ||| y) :: rest) h
    | .ldiv => zk_ob (decide (¬ y = 0)) M (pc + 1) L (.long (x / y) :: rest) h
    | .lrem => zk_ob (decide (¬ y = 0)) M (pc + 1) L (.long (x - x / y * y) :: rest) h
    | .lcmp => zk_nx M (pc + 1) L (.int (lg_cmp x y) :: rest) h
    | .l2i => zk_nx M (pc + 1) L (.int y.toInt32 :: .long x :: rest) h
    | _ => none
  | .long y :: rest => match i with
    | .l2i => zk_nx M (pc + 1) L (.int y.toInt32 :: rest) h
    | _ => none
  | _ => none
/-- roads that part -/
def zk_x3 (M : zk_M) (i : Instr) (r1 : Nat) (pc : Nat) (L : zk_L) (st : List Value) (h : zk_H) : zk_E := match i with
  | .ifCond cd _ => match st with
    | .int x :: rest => match cd with
      | .eq => zk_br (decide (x = 0)) M r1 (pc + 3) L rest
      | .ne => zk_br (decide (x = 0)) M (pc + 3) r1 L rest
      | .lt => zk_br (decide (x < 0)) M r1 (pc + 3) L rest
      | .ge => zk_br (decide (0 ≤ x)) M r1 (pc + 3) L rest
      | .gt => zk_br (decide (0 < x)) M r1 (pc + 3) L rest
      | .le => zk_br (decide (x ≤ 0)) M r1 (pc + 3) L rest
    | _ => none
  | .if_icmp cd _ => match st with
    | .int y :: .int x :: rest => match cd with
      | .eq => zk_br (decide (x = y)) M r1 (pc + 3) L rest
      | .ne => zk_br (decide (x = y)) M (pc + 3) r1 L rest
      | .lt => zk_br (decide (x < y)) M r1 (pc + 3) L rest
      | .ge => zk_br (decide (y ≤ x)) M r1 (pc + 3) L rest
      | .gt => zk_br (decide (y < x)) M r1 (pc + 3) L rest
      | .le => zk_br (decide (x ≤ y)) M r1 (pc + 3) L rest
    | _ => none
  | .tableswitch d lo hi offs => match st with
    | .int x :: rest => match zk_tsw pc d lo hi offs x.toInt with
      | some t => zk_nx M t L rest h
      | none => none
    | _ => none
  | .lookupswitch d ps => match st with
    | .int x :: rest => zk_nx M (zk_lsw pc d ps x.toInt) L rest h
    | _ => none
  | .ireturn => match st with
    | [.int x] => match zk_ret M with
      | some .int => zk_rt true (some (.int x))
      | some .boolean => zk_rt (decide (x = 0 ∨ x = 1)) (some (.int x))
      | _ => none
    | _ => none
  | .lreturn => match st with
    | [.long x] => match zk_ret M with
      | some .long => zk_rt true (some (.long x))
      | _ => none
    | _ => none
  | .return_ => match st with
    | [] => match zk_ret M with
      | none => zk_rt true none
      | _ => none
    | _ => none
  | _ => none
/-- what a new object of a class holds -/
def zk_new (zd : List (List Value)) (ci : Nat) : Option (List Value) := zk_at zd ci
/-- cells -/
def zk_x4 (zd : List (List Value)) (Ls : Nat) (xs : Nat → Int32) (M : zk_M) (i : Instr) (r1 r2 r3 : Nat) (c : Int32) (pc : Nat) (L : zk_L) (st : List Value) (h : zk_H) : zk_E := match i with
  | .getfield _ => match st with
    | .ref a :: rest => match zk_at h a with
      | some (.inr (ci, fs)) => bif Nat.beq ci r1 then (match zk_at fs r2 with
        | some v => zk_nx M (pc + 3) L (v :: rest) h
        | none => none) else none
      | _ => none
    | _ => none
  | .putfield _ => match st with
    | v :: .ref a :: rest => match zk_at h a with
      | some (.inr (ci, fs)) => bif Nat.beq ci r1 && Nat.blt r2 fs.length then (match r3, v with
        | 0, .int x => zk_nx M (pc + 3) L rest (zk_put h a (.inr (ci, zk_put fs r2 (.int x))))
        | 1, .int x => zk_ob (decide (x = 0 ∨ x = 1)) M (pc + 3) L rest (zk_put h a (.inr (ci, zk_put fs r2 (.int x))))
        | 2, .long x => zk_nx M (pc + 3) L rest (zk_put h a (.inr (ci, zk_put fs r2 (.long x))))
        | 3, .ref x => zk_nx M (pc + 3) L rest (zk_put h a (.inr (ci, zk_put fs r2 (.ref x))))
        | _, _ => none) else none
      | _ => none
    | _ => none
  | .iaload => match st with
    | .int j :: .ref a :: rest => match zk_at h a with
      | some (.inl (0, n, .inl f)) => zk_ob (zk_in j n) M (pc + 1) L (.int (f j.toNatClampNeg) :: rest) h
      | _ => none
    | .int j :: .retAddr 0 :: rest => zk_ob (zk_in j Ls) M (pc + 1) L (.int (xs j.toNatClampNeg) :: rest) h
    | _ => none
  | .baload => match st with
    | .int j :: .ref a :: rest => match zk_at h a with
      | some (.inl (1, n, .inl f)) => zk_ob (zk_in j n) M (pc + 1) L (.int (f j.toNatClampNeg) :: rest) h
      | _ => none
    | _ => none
  | .laload => match st with
    | .int j :: .ref a :: rest => match zk_at h a with
      | some (.inl (2, n, .inr (.inl f))) => zk_ob (zk_in j n) M (pc + 1) L (.long (f j.toNatClampNeg) :: rest) h
      | _ => none
    | _ => none
  | .iastore => match st with
    | .int x :: .int j :: .ref a :: rest => match zk_at h a with
      | some (.inl (0, n, .inl f)) => zk_ob (zk_in j n) M (pc + 1) L rest (zk_put h a (.inl (0, n, .inl (upd f j.toNatClampNeg x))))
      | _ => none
    | _ => none
  | .bastore => match st with
    | .int x :: .int j :: .ref a :: rest => match zk_at h a with
      | some (.inl (1, n, .inl f)) => zk_ob (zk_in j n) M (pc + 1) L rest (zk_put h a (.inl (1, n, .inl (upd f j.toNatClampNeg x.toInt8.toInt32))))
      | _ => none
    | _ => none
  | .lastore => match st with
    | .long x :: .int j :: .ref a :: rest => match zk_at h a with
      | some (.inl (2, n, .inr (.inl f))) => zk_ob (zk_in j n) M (pc + 1) L rest (zk_put h a (.inl (2, n, .inr (.inl (vp_updL f j.toNatClampNeg x)))))
      | _ => none
    | _ => none
  | .arraylength => match st with
    | .ref a :: rest => match zk_at h a with
      | some (.inl (0, n, _)) => zk_nx M (pc + 1) L (.int (Int32.ofNat n) :: rest) h
      | some (.inl (1, n, _)) => zk_nx M (pc + 1) L (.int (Int32.ofNat n) :: rest) h
      | some (.inl (2, n, _)) => zk_nx M (pc + 1) L (.int (Int32.ofNat n) :: rest) h
      | _ => none
    | .retAddr 0 :: rest => zk_nx M (pc + 1) L (.int (Int32.ofNat Ls) :: rest) h
    | _ => none
  | .newarray t => match st with
    | .int n :: rest => bif decide (¬ n < 0) && Nat.ble n.toNatClampNeg 1000 then (match t with
      | .int => zk_nx M (pc + 2) L (.ref h.length :: rest) (h ++ [.inl (0, n.toNatClampNeg, .inl (fun _ => 0))])
      | .byte => zk_nx M (pc + 2) L (.ref h.length :: rest) (h ++ [.inl (1, n.toNatClampNeg, .inl (fun _ => 0))])
      | .long => zk_nx M (pc + 2) L (.ref h.length :: rest) (h ++ [.inl (2, n.toNatClampNeg, .inr (.inl (fun _ => 0)))])
      | _ => none) else none
    | _ => none
  | .new _ => match zk_new zd r1 with
    | some fs => zk_nx M (pc + 3) L (.ref h.length :: st) (h ++ [.inr (r1, fs)])
    | none => none
  | .ldc _ => match r1 with
    | 0 => zk_nx M (pc + 2) L (.int c :: st) h
    | 1 => zk_nx M (pc + 2) L (.retAddr r2 :: st) h
    | _ => none
  | .ldc_w _ => match r1 with
    | 0 => zk_nx M (pc + 3) L (.int c :: st) h
    | 1 => zk_nx M (pc + 3) L (.retAddr r2 :: st) h
    | _ => none
  | .ldc2_w _ => zk_nx M (pc + 3) L (.long c.toInt64 :: st) h
  | _ => none
/-- calls -/
def zk_x5 (M : zk_M) (i : Instr) (r1 r2 r3 : Nat) (pc : Nat) (L : zk_L) (st : List Value) (h : zk_H) : zk_E := match i with
  | .invokevirtual _ => match zk_pop r3 st [] with
    | some (as, .ref a :: rest) => match zk_at h a with
      | some (.inr (ci, _)) => bif Nat.beq (ci + 100) r1 && Nat.ble (zk_cat rest) 8 then zk_cl r2 (.ref a :: as) (pc + 3, L, rest) else none
      | _ => none
    | some (as, .retAddr a :: rest) => bif Nat.beq r1 6 && (Nat.blt 0 a && (Nat.ble a 36 && Nat.ble (zk_cat rest) 8)) then zk_cl r2 (.retAddr a :: as) (pc + 3, L, rest) else none
    | _ => none
  | .invokestatic _ => match r1 with
    | 1 => match zk_pop r3 st [] with
      | some (as, rest) => bif Nat.ble (zk_cat rest) 8 then zk_cl r2 as (pc + 3, L, rest) else none
      | none => none
    | 7 => match zk_pop r3 st [] with
      | some (as, rest) => bif Nat.ble (zk_cat rest) 8 then zk_cl r2 as (pc + 3, L, rest) else none
      | none => none
    | 5 => match st with
      | .int n :: .int dp :: .ref a1 :: .int sp :: .ref a0 :: rest => match zk_at h a0, zk_at h a1 with
        | some (.inl (0, n0, .inl f)), some (.inl (0, n1, .inl g)) => bif Nat.ble (zk_cat rest) 8 then zk_ob (zk_cpOk sp dp n n0 n1) M (pc + 3) L rest (zk_put h a1 (.inl (0, n1, .inl (va_cpy f g sp.toNatClampNeg dp.toNatClampNeg n.toNatClampNeg)))) else none
        | _, _ => none
      | _ => none
    | _ => none
  | .invokespecial _ => match r1 with
    | 4 => match st with
      | .ref _ :: rest => bif Nat.ble (zk_cat rest) 8 then zk_nx M (pc + 3) L rest h else none
      | _ => none
    | 2 => match zk_pop r3 st [] with
      | some (as, .ref a :: rest) => bif Nat.ble (zk_cat rest) 8 then zk_cl r2 (.ref a :: as) (pc + 3, L, rest) else none
      | _ => none
    | 3 => match zk_pop r3 st [] with
      | some (as, .ref a :: rest) => bif Nat.ble (zk_cat rest) 8 then zk_cl r2 (.ref a :: as) (pc + 3, L, rest) else none
      | _ => none
    | _ => none
  | _ => none
/-- which of the five an instruction belongs to -/
def zk_grp (i : Instr) : Nat := match i with
  | .iconst _ | .bipush _ | .sipush _ | .lconst _ | .iload_n _ | .iload _ | .lload_n _ | .lload _ | .aload_n _ | .aload _ | .istore_n _ | .istore _ | .lstore_n _ | .lstore _ | .astore_n _ | .astore _ | .iinc _ _ | .dup | .dup2 | .pop | .goto _ => 1
  | .iadd | .isub | .imul | .iand | .ior | .ixor | .ishl | .ishr | .iushr | .idiv | .irem | .ineg | .i2l | .i2b | .lshl | .ladd | .lsub | .lmul | .lor | .ldiv | .lrem | .lcmp | .l2i => 2
  | .ifCond _ _ | .if_icmp _ _ | .tableswitch _ _ _ _ | .lookupswitch _ _ | .ireturn | .lreturn | .return_ => 3
  | .getfield _ | .putfield _ | .iaload | .baload | .laload | .iastore | .bastore | .lastore | .arraylength | .newarray _ | .new _ | .ldc _ | .ldc_w _ | .ldc2_w _ => 4
  | .invokevirtual _ | .invokestatic _ | .invokespecial _ => 5
  | _ => 0
def zk_x (zd : List (List Value)) (Ls : Nat) (xs : Nat → Int32) (M : zk_M) (q : Instr × Nat × Nat × Nat × Nat × Int32) (pc : Nat) (L : zk_L) (st : List Value) (h : zk_H) : zk_E := match q with
  | (i, _, r1, r2, r3, c) => match zk_grp i with
    | 1 => zk_x1 M i r1 c pc L st h
    | 2 => zk_x2 M i pc L st h
    | 3 => zk_x3 M i r1 pc L st h
    | 4 => zk_x4 zd Ls xs M i r1 r2 r3 c pc L st h
    | 5 => zk_x5 M i r1 r2 r3 pc L st h
    | _ => none
def zk_step (zd : List (List Value)) (Ls : Nat) (xs : Nat → Int32) (M : zk_M) (f : zk_F) (h : zk_H) : zk_E := match f with
  | (pc, L, st) => match zk_fetch M pc with
    | some q => zk_x zd Ls xs M q pc L st h
    | none => none
def zk_push (M : zk_M) (f : zk_F) (v : Option Value) : zk_F := match f with
  | (pc, L, st) => match v with
    | some x => (pc, zk_nm M pc L, x :: st)
    | none => (pc, zk_nm M pc L, st)
def zk_ent (M : zk_M) (as : List Value) : zk_F := (0, zk_nm M 0 (lv_args 0 as), [])
/-- a run: of a method, from a place in it, with so many steps at most. mt: the methods; ex: those that are told as functions -/
def zk_run (zd : List (List Value)) (mt : Nat → Option zk_M) (ex : Nat → List Value → zk_H → Option (Option Value × zk_H)) (Ls : Nat) (xs : Nat → Int32) : Nat → zk_M → zk_F → zk_H → Option (Option Value × zk_H)
  | 0, _, _, _ => none
  | n + 1, M, f, h => match zk_step zd Ls xs M f h with
    | none => none
    | some (.inl (f', h')) => zk_run zd mt ex Ls xs n M f' h'
    | some (.inr (.inl (b, f', h'))) => bif b then zk_run zd mt ex Ls xs n M f' h' else none
    | some (.inr (.inr (.inl (b, f1, f2)))) => bif b then zk_run zd mt ex Ls xs n M f1 h else zk_run zd mt ex Ls xs n M f2 h
    | some (.inr (.inr (.inr (.inl (b, v))))) => bif b then some (v, h) else none
    | some (.inr (.inr (.inr (.inr (k, as, f'))))) => match mt k with
      | none => none
      | some K => match (match zk_ct K with
          | [] => ex k as h
          | _ => bif Nat.ble (zk_cat as) (zk_mxl K) then zk_run zd mt ex Ls xs n K (zk_ent K as) h else none) with
        | some (v, h') => zk_run zd mt ex Ls xs n M (zk_push M f' v) h'
        | none => none
