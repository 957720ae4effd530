/-! what is told as functions: texts, the law's own led, Math.max and min -/
def zk_sb : List (List Int32) := [[108, 101, 118, 101, 108], [100, 97, 110, 103, 101, 114], [109, 97, 107, 101, 114], [103, 111, 111, 100], [105, 110], [117, 110, 115, 117, 114, 101], [98, 101, 102, 101, 108, 108], [104, 117, 114, 114, 121], [101, 118, 101, 114, 121], [102, 114, 111, 109], [103, 114, 97, 118, 101], [104, 97, 115, 116, 121], [104, 97, 112, 112, 121], [108, 97, 115, 116, 115], [116, 104, 105, 110, 107, 115], [119, 111, 114, 116, 104], [102, 101, 97, 114, 115], [121, 101, 97, 114], [108, 101, 118, 101, 108], [104, 117, 114, 114, 121], [100, 97, 110, 103, 101, 114], [109, 97, 107, 101, 114], [103, 111, 111, 100], [105, 110], [117, 110, 115, 117, 114, 101], [98, 101, 102, 101, 108, 108], [101, 118, 101, 114, 121], [102, 114, 111, 109], [103, 114, 97, 118, 101], [104, 97, 115, 116, 121], [104, 97, 112, 112, 121], [108, 97, 115, 116, 115], [116, 104, 105, 110, 107, 115], [119, 111, 114, 116, 104], [102, 101, 97, 114, 115], [121, 101, 97, 114]]
def zk_ledF : Nat → Nat → Int32 → Int32 → Option Nat
  | 0, _, _, _ => none
  | n + 1, g, lost, behind => if (lost >>> (nI g &&& 31)) &&& 1 = 0 then zk_ledF n (g + 1) lost behind else if behind = 0 then some g else zk_ledF n (g + 1) lost (behind + (-1))
/-- the law's led: its own answer, and what it leaves in out; where the class throws, one cell more -/
def zk_led (i : Int32) (h : zk_H) : Option (Option Value × zk_H) := match zk_at h 0, zk_at h 20, zk_at h 32, zk_at h 86 with
  | some (.inr (0, fx)), some (.inr (3, fl)), some (.inr (4, fs)), some (.inl (2, n, .inr (.inl f))) => match zk_at fx 1, zk_at fx 3, zk_at fl 8, zk_at fs 1 with
    | some (.ref 20), some (.ref 32), some (.int goods), some (.int lost) => bif Nat.blt 0 n then (match zk_ledF goods.toNatClampNeg 0 lost i with
      | some g => some (some (.int 0), zk_put h 86 (.inl (2, n, .inr (.inl (vp_updL f 0 (nI g).toInt64)))))
      | none => some (some (.int 1), h ++ [.inr (12, [.null, .null, .null, .null, .null, .null])])) else none
    | _, _, _, _ => none
  | _, _, _, _ => none
def zk_ex (k : Nat) (as : List Value) (h : zk_H) : Option (Option Value × zk_H) := match k, as with
  | 0, [.retAddr a] => match zk_at zk_sb (a - 1) with
    | some l => some (some (.int (Int32.ofNat l.length)), h)
    | none => none
  | 1, [.retAddr a, .int i] => match zk_at zk_sb (a - 1) with
    | some l => bif zk_in i l.length then (match zk_at l i.toNatClampNeg with
      | some c => some (some (.int c), h)
      | none => none) else none
    | none => none
  | 2, [.ref 0, .int i, .ref 86] => zk_led i h
  | 71, [.int x, .int y] => some (some (.int (if x < y then y else x)), h)
  | 72, [.int x, .int y] => some (some (.int (if y < x then y else x)), h)
  | _, _ => none
