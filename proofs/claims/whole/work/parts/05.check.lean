/-! what a program decides of the tables: each row of code is what the bytes decode to; each link is a word of the Statement's tables -/
def zk_memF : List (Nat × Nat × Nat × Nat × Nat × Nat) → Nat → Nat → Nat → Nat → Nat → Bool
  | [], _, _, _, _, _ => false
  | q :: l, o, i, a, b, c => (Nat.beq q.1 o && (Nat.beq q.2.1 i && (Nat.beq q.2.2.1 a && (Nat.beq q.2.2.2.1 b && Nat.beq q.2.2.2.2.1 c)))) || zk_memF l o i a b c
def zk_memM : List (Nat × Nat × Nat × Nat × Nat) → Nat → Nat → Nat → Nat → Bool
  | [], _, _, _, _ => false
  | q :: l, o, i, a, b => (Nat.beq q.1 o && (Nat.beq q.2.1 i && (Nat.beq q.2.2.1 a && Nat.beq q.2.2.2.1 b))) || zk_memM l o i a b
def zk_memC : List (Nat × Nat × Nat × Nat) → Nat → Nat → Nat → Bool
  | [], _, _, _ => false
  | q :: l, o, i, a => (Nat.beq q.1 o && (Nat.beq q.2.1 i && Nat.beq q.2.2.1 a)) || zk_memC l o i a
def zk_memK : List (Nat × Nat × Int32 × Nat) → Nat → Nat → Int32 → Bool
  | [], _, _, _ => false
  | q :: l, o, i, a => (Nat.beq q.1 o && (Nat.beq q.2.1 i && decide (q.2.2.1 = a))) || zk_memK l o i a
def zk_final (ci k : Nat) : Bool := match zk_cls[ci]? with
  | some q => (q.2.1 k).2.2.2
  | none => false
def zk_okK (mt : Nat → Option zk_M) (M : zk_M) (r1 r2 r3 : Nat) : Bool := match mt r2 with
  | some K => Nat.beq (zk_na K) r3 && (Nat.ble (zk_fr K + 1) (zk_fr M) && (Nat.ble (8 + (zk_mxl K + 11) + zk_lo K) (zk_lo M) && (match r1 with
    | 1 => Nat.beq (zk_kd K) 0
    | 2 => Nat.beq (zk_kd K) 2
    | 3 => Nat.beq (zk_kd K) 2
    | 6 => Nat.beq (zk_kd K) 1 && Nat.beq (zk_own K) 18
    | 7 => Nat.beq r2 2
    | r => Nat.beq r (zk_own K + 100) && (Nat.beq (zk_kd K) 1 && Nat.blt (zk_own K) 13))))
  | none => false
def zk_okL (mt : Nat → Option zk_M) (M : zk_M) (pc : Nat) (i : Instr) (len r1 r2 r3 : Nat) (c : Int32) : Bool := match i with
  | .iconst n => Nat.beq len 1 && decide (Int32.ofInt n = c)
  | .bipush n => Nat.beq len 2 && decide ((Int8.ofInt n).toInt32 = c)
  | .sipush n => Nat.beq len 3 && decide ((Int16.ofInt n).toInt32 = c)
  | .iinc _ n => Nat.beq len 3 && decide (Int32.ofInt n = c)
  | .goto off => Nat.beq len 3 && decide ((pc : Int) + off = (r1 : Int))
  | .ifCond _ off => Nat.beq len 3 && decide ((pc : Int) + off = (r1 : Int))
  | .if_icmp _ off => Nat.beq len 3 && decide ((pc : Int) + off = (r1 : Int))
  | .tableswitch d _ _ offs => decide (0 ≤ (pc : Int) + d) && offs.toList.all (fun o => decide (0 ≤ (pc : Int) + o))
  | .lookupswitch d ps => (ps.toList.zip (ps.toList.drop 1)).all (fun (a, next) => a.1 < next.1) && (decide (0 ≤ (pc : Int) + d) && ps.toList.all (fun q => decide (0 ≤ (pc : Int) + q.2)))
  | .getfield idx => Nat.beq len 3 && zk_memF zk_rf (zk_own M) idx r1 r2 r3
  | .putfield idx => Nat.beq len 3 && (zk_memF zk_rf (zk_own M) idx r1 r2 r3 && (!zk_final r1 r2 || (Nat.beq (zk_kd M) 2 && Nat.beq (zk_own M) r1)))
  | .new idx => Nat.beq len 3 && (zk_memC zk_rc (zk_own M) idx r1 && Nat.blt r1 12)
  | .ldc idx => Nat.beq len 2 && (match r1 with
    | 0 => zk_memK zk_rk (zk_own M) idx c
    | _ => match zk_at zk_rs (r2 - 1) with
      | some q => Nat.blt 0 r2 && (Nat.beq q.1 (zk_own M) && Nat.beq q.2.1 idx)
      | none => false)
  | .ldc_w idx => Nat.beq len 3 && (match r1 with
    | 0 => zk_memK zk_rk (zk_own M) idx c
    | _ => match zk_at zk_rs (r2 - 1) with
      | some q => Nat.blt 0 r2 && (Nat.beq q.1 (zk_own M) && Nat.beq q.2.1 idx)
      | none => false)
  | .ldc2_w idx => Nat.beq len 3 && zk_memK zk_rl (zk_own M) idx c
  | .invokevirtual idx => Nat.beq len 3 && (zk_memM zk_rm (zk_own M) idx r1 r2 && zk_okK mt M r1 r2 r3)
  | .invokestatic idx => Nat.beq len 3 && (zk_memM zk_rm (zk_own M) idx r1 r2 && (match r1 with
    | 5 => Nat.ble 1 (zk_fr M) && Nat.ble 48 (zk_lo M)
    | _ => zk_okK mt M r1 r2 r3))
  | .invokespecial idx => Nat.beq len 3 && (zk_memM zk_rm (zk_own M) idx r1 r2 && (match r1 with
    | 4 => Nat.ble 1 (zk_fr M) && Nat.ble 20 (zk_lo M)
    | _ => zk_okK mt M r1 r2 r3))
  | .newarray _ => Nat.beq len 2
  | .iload _ | .lload _ | .aload _ | .istore _ | .lstore _ | .astore _ => Nat.beq len 2
  | _ => Nat.beq len 1
def zk_okI (M : zk_M) (e : zk_I) : Bool := decide (decode (zk_byt M) e.1 = .ok (e.2.1, e.2.2.1)) && zk_okL zk_mt M e.1 e.2.1 e.2.2.1 e.2.2.2.1 e.2.2.2.2.1 e.2.2.2.2.2.1 e.2.2.2.2.2.2
def zk_okC (M : zk_M) : Bool := (zk_ct M).all (fun l => l.all (zk_okI M))
/-- of a method that is called: its words stand at these places -/
def zk_okM (M : zk_M) (q : Nat × Nat × Nat × Nat) : Bool :=
  zk_isw q.1 (.code (zk_nam M) (zk_byt M) (zk_mxl M) (zk_ret M)) && (zk_isw q.2.1 (.initialized (zk_nam M).cls) && (decide ((zk_nam M).cls = zk_cn (zk_own M)) && (plainName (zk_nam M).cls && (decide ((zk_nam M).cls ≠ "java/lang/invoke/MethodHandle") && (decide ((zk_nam M).cls ≠ "java/lang/invoke/VarHandle") && (decide ((parseMethodDescriptor (zk_nam M).desc).map (fun d => d.parameters.length) = some (zk_na M)) && (match zk_kd M with
    | 0 => zk_isw q.2.2.1 (.static (zk_nam M))
    | 1 => zk_isw q.2.2.1 (.instanceMethod (zk_nam M)) && zk_isw q.2.2.2 (.selects (zk_nam M).cls (zk_nam M) (zk_nam M))
    | _ => zk_isw q.2.2.1 (.instanceMethod (zk_nam M)) && (decide ((zk_nam M).name = "<init>") && decide (zk_ret M = none)))))))))
def zk_okF (q : Nat × Nat × Nat × Nat × Nat × Nat) : Bool := match zk_cls[q.2.2.1]? with
  | some r => Nat.blt q.2.2.2.1 r.2.2 && (zk_isw q.2.2.2.2.2 (.fieldLink (zk_cn q.1) q.2.1 r.1 (r.2.1 q.2.2.2.1).2.1 (r.2.1 q.2.2.2.1).2.2.1) && (Nat.blt q.2.2.1 12 && (match q.2.2.2.2.1, zk_tyo q.2.2.1 q.2.2.2.1 with
    | 0, .int => true
    | 1, .boolean => true
    | 2, .long => true
    | 3, .object _ => true
    | 3, .array _ => true
    | _, _ => false)))
  | none => false
def zk_okR (q : Nat × Nat × Nat × Nat × Nat) : Bool := match q.2.2.1 with
  | 4 => zk_isw q.2.2.2.2 (.methodLink (zk_cn q.1) q.2.1 objectInit)
  | 5 => zk_isw q.2.2.2.2 (.methodLink (zk_cn q.1) q.2.1 arraycopyName)
  | 3 => match zk_mt q.2.2.2.1 with
    | some K => decide (lw_tbl[q.2.2.2.2]? = some (.methodLinkNest (zk_cn q.1) q.2.1 (zk_nam K) "BasketKeep"))
    | none => false
  | _ => match zk_mt q.2.2.2.1 with
    | some K => zk_isw q.2.2.2.2 (.methodLink (zk_cn q.1) q.2.1 (zk_nam K))
    | none => false
def zk_okN (q : Nat × Nat × Nat × Nat) : Bool := match zk_cls[q.2.2.1]? with
  | some r => zk_isw q.2.2.2 (.classLink (zk_cn q.1) q.2.1 r.1)
  | none => false
def zk_okV (q : Nat × Nat × Int32 × Nat) : Bool := zk_isw q.2.2.2 (.constant (zk_cn q.1) q.2.1 q.2.2.1)
def zk_okW (q : Nat × Nat × Int32 × Nat) : Bool := zk_isw q.2.2.2 (.constantLong (zk_cn q.1) q.2.1 q.2.2.1.toInt64)
