/-! the heap behind the two constructors: cells by their numbers (0 BasketKeep .. 68, 69 BasketKeepModel .. 85, 86 out; rows v, w by their ids: ids.py), what they hold by v (ints) and w (longs); t: what came later -/
def zH (v : Nat → Nat → Int32) (w : Nat → Nat → Int64) (t : zk_H) : zk_H :=
  Sum.inr (0, [.ref 1, .ref 20, .int (v 0 2), .ref 32, .ref 36, .ref 40, .ref 43, .ref 51, .ref 57, .ref 64, .ref 68, .int (v 0 10)]) ::
  Sum.inr (1, [.ref 2, .ref 4, .int (v 1 2), .ref 16, .ref 17, .ref 18, .ref 19, .int (v 1 7), .int (v 1 8), .int (v 1 9), .int (v 1 10)]) ::
  Sum.inr (2, [.ref 3, .int (v 2 1), .int (v 2 2), .int (v 2 3), .int (v 2 4), .int (v 2 5), .long (w 2 6)]) ::
  Sum.inl (1, 900, .inl (v 3)) ::
  Sum.inr (3, [.int (v 4 0), .int (v 4 1), .ref 5, .ref 6, .int (v 4 4), .ref 7, .ref 8, .ref 9, .int (v 4 8), .ref 10, .ref 11, .ref 12, .ref 13, .int (v 4 13), .int (v 4 14), .ref 14, .ref 15]) ::
  Sum.inl (0, 8, .inl (v 5)) ::
  Sum.inl (0, 8, .inl (v 6)) ::
  Sum.inl (0, 5, .inl (v 7)) ::
  Sum.inl (0, 5, .inl (v 8)) ::
  Sum.inl (0, 5, .inl (v 9)) ::
  Sum.inl (0, 4, .inl (v 10)) ::
  Sum.inl (0, 4, .inl (v 11)) ::
  Sum.inl (0, 4, .inl (v 12)) ::
  Sum.inl (0, 4, .inl (v 13)) ::
  Sum.inl (0, 4, .inl (v 14)) ::
  Sum.inl (0, 4, .inl (v 15)) ::
  Sum.inl (2, 7, Sum.inr (.inl (w 16))) ::
  Sum.inl (2, 17, Sum.inr (.inl (w 17))) ::
  Sum.inl (0, 17, .inl (v 18)) ::
  Sum.inl (0, 17, .inl (v 19)) ::
  Sum.inr (3, [.int (v 20 0), .int (v 20 1), .ref 21, .ref 22, .int (v 20 4), .ref 23, .ref 24, .ref 25, .int (v 20 8), .ref 26, .ref 27, .ref 28, .ref 29, .int (v 20 13), .int (v 20 14), .ref 30, .ref 31]) ::
  Sum.inl (0, 8, .inl (v 21)) ::
  Sum.inl (0, 8, .inl (v 22)) ::
  Sum.inl (0, 5, .inl (v 23)) ::
  Sum.inl (0, 5, .inl (v 24)) ::
  Sum.inl (0, 5, .inl (v 25)) ::
  Sum.inl (0, 4, .inl (v 26)) ::
  Sum.inl (0, 4, .inl (v 27)) ::
  Sum.inl (0, 4, .inl (v 28)) ::
  Sum.inl (0, 4, .inl (v 29)) ::
  Sum.inl (0, 4, .inl (v 30)) ::
  Sum.inl (0, 4, .inl (v 31)) ::
  Sum.inr (4, [.int (v 32 0), .int (v 32 1), .ref 33, .ref 34, .ref 35]) ::
  Sum.inl (0, 4, .inl (v 33)) ::
  Sum.inl (0, 5, .inl (v 34)) ::
  Sum.inl (0, 5, .inl (v 35)) ::
  Sum.inr (4, [.int (v 36 0), .int (v 36 1), .ref 37, .ref 38, .ref 39]) ::
  Sum.inl (0, 4, .inl (v 37)) ::
  Sum.inl (0, 5, .inl (v 38)) ::
  Sum.inl (0, 5, .inl (v 39)) ::
  Sum.inr (5, [.ref 41, .int (v 40 1), .int (v 40 2), .ref 42, .int (v 40 4)]) ::
  Sum.inl (0, 256, .inl (v 41)) ::
  Sum.inl (0, 48, .inl (v 42)) ::
  Sum.inr (6, [.ref 44, .int (v 43 2), .int (v 43 3), .ref 46, .ref 47, .ref 48, .ref 49, .ref 50]) ::
  Sum.inr (7, [.int (v 44 0), .int (v 44 1), .ref 45, .int (v 44 3), .int (v 44 4), .int (v 44 5), .int (v 44 6), .int (v 44 7)]) ::
  Sum.inl (0, 61, .inl (v 45)) ::
  Sum.inl (0, 4, .inl (v 47)) ::
  Sum.inl (0, 4, .inl (v 48)) ::
  Sum.inl (0, 5, .inl (v 49)) ::
  Sum.inl (0, 5, .inl (v 50)) ::
  Sum.inl (0, 5, .inl (v 51)) ::
  Sum.inr (8, [.ref 52, .ref 54, .ref 55, .ref 56, .int (v 52 4)]) ::
  Sum.inr (7, [.int (v 53 0), .int (v 53 1), .ref 53, .int (v 53 3), .int (v 53 4), .int (v 53 5), .int (v 53 6), .int (v 53 7)]) ::
  Sum.inl (0, 61, .inl (v 54)) ::
  Sum.inl (0, 4, .inl (v 55)) ::
  Sum.inl (0, 4, .inl (v 56)) ::
  Sum.inl (0, 4, .inl (v 86)) ::
  Sum.inr (9, [.ref 58, .ref 60, .int (v 57 2), .int (v 57 3), .int (v 57 4)]) ::
  Sum.inr (7, [.int (v 58 0), .int (v 58 1), .ref 59, .int (v 58 3), .int (v 58 4), .int (v 58 5), .int (v 58 6), .int (v 58 7)]) ::
  Sum.inl (0, 61, .inl (v 59)) ::
  Sum.inr (4, [.int (v 60 0), .int (v 60 1), .ref 61, .ref 62, .ref 63]) ::
  Sum.inl (0, 4, .inl (v 61)) ::
  Sum.inl (0, 5, .inl (v 62)) ::
  Sum.inl (0, 5, .inl (v 63)) ::
  Sum.inr (10, [.ref 65, .long (w 64 1), .long (w 64 2), .long (w 64 3), .long (w 64 4), .ref 67, .int (v 64 6)]) ::
  Sum.inr (7, [.int (v 65 0), .int (v 65 1), .ref 66, .int (v 65 3), .int (v 65 4), .int (v 65 5), .int (v 65 6), .int (v 65 7)]) ::
  Sum.inl (0, 61, .inl (v 66)) ::
  Sum.inl (0, 5, .inl (v 67)) ::
  Sum.inl (0, 5, .inl (v 46)) ::
  Sum.inr (11, [.int (v 68 0), .ref 70, .int (v 68 2), .int (v 68 3), .int (v 68 4), .int (v 68 5), .int (v 68 6), .int (v 68 7), .int (v 68 8), .int (v 68 9), .int (v 68 10), .int (v 68 11), .ref 71, .int (v 68 13), .int (v 68 14), .ref 72, .ref 73, .ref 74, .ref 75, .ref 76, .ref 77, .ref 78, .ref 79, .int (v 68 23), .int (v 68 24), .ref 80, .int (v 68 26), .ref 81, .ref 82, .ref 83, .int (v 68 30), .ref 84, .ref 85, .int (v 68 33), .int (v 68 34), .int (v 68 35), .int (v 68 36), .long (w 68 37), .long (w 68 38)]) ::
  Sum.inl (0, 900, .inl (v 69)) ::
  Sum.inl (0, 8, .inl (v 70)) ::
  Sum.inl (0, 206, .inl (v 71)) ::
  Sum.inl (0, 206, .inl (v 72)) ::
  Sum.inl (0, 16, .inl (v 73)) ::
  Sum.inl (0, 16, .inl (v 74)) ::
  Sum.inl (0, 16, .inl (v 75)) ::
  Sum.inl (0, 16, .inl (v 76)) ::
  Sum.inl (0, 256, .inl (v 77)) ::
  Sum.inl (0, 48, .inl (v 78)) ::
  Sum.inl (0, 5, .inl (v 79)) ::
  Sum.inl (0, 8, .inl (v 80)) ::
  Sum.inl (0, 4, .inl (v 81)) ::
  Sum.inl (0, 5, .inl (v 82)) ::
  Sum.inl (0, 4, .inl (v 83)) ::
  Sum.inl (0, 4, .inl (v 84)) ::
  Sum.inl (2, 1, Sum.inr (.inl (w 85))) ::
  t
/-- row k becomes f -/
def zb {α : Type} (v : Nat → Nat → α) (k : Nat) (f : Nat → α) : Nat → Nat → α := fun a => bif Nat.beq a k then f else v a
def zu (v : Nat → Nat → Int32) (k j : Nat) (x : Int32) : Nat → Nat → Int32 := zb v k (upd (v k) j x)
def zuL (w : Nat → Nat → Int64) (k j : Nat) (x : Int64) : Nat → Nat → Int64 := zb w k (vp_updL (w k) j x)
