def zm_0 : zk_M := (⟨"java/lang/String", "length", "()I"⟩, prog_22_method_54_code, 1, (some .int), 18, 1, 20, 0, 1, [], [])
def zm_1 : zk_M := (⟨"java/lang/String", "charAt", "(I)C"⟩, prog_22_method_56_code, 2, (some .char), 18, 4, 104, 1, 1, [], [])
def zm_2 : zk_M := (⟨"BasketKeepLaw", "led", "(LBasketKeep;I[J)I"⟩, method_3_code, 4, (some .int), 13, 10, 300, 3, 0, [], [])
/-- BasketKeep.countWeavesFromOne(II)J -/
def zc_3 : List (List zk_I) := [
  [(0, .lconst 1, 1, 0, 0, 0, 0), (1, .lstore_n 2, 1, 0, 0, 0, 0), (2, .lconst 0, 1, 0, 0, 0, 0), (3, .lstore 4, 2, 0, 0, 0, 0), (5, .iconst 2, 1, 0, 0, 0, 2), (6, .istore 6, 2, 0, 0, 0, 0), (8, .iload 6, 2, 0, 0, 0, 0), (10, .iload_n 0, 1, 0, 0, 0, 0), (11, .if_icmp .gt (32), 3, 43, 0, 0, 0), (14, .lload 4, 2, 0, 0, 0, 0), (16, .lstore 7, 2, 0, 0, 0, 0), (18, .lload_n 2, 1, 0, 0, 0, 0), (19, .iload_n 1, 1, 0, 0, 0, 0), (20, .iconst 1, 1, 0, 0, 0, 1), (21, .isub, 1, 0, 0, 0, 0), (22, .i2l, 1, 0, 0, 0, 0), (23, .lmul, 1, 0, 0, 0, 0), (24, .lload 4, 2, 0, 0, 0, 0), (26, .iload_n 1, 1, 0, 0, 0, 0), (27, .iconst 2, 1, 0, 0, 0, 2), (28, .isub, 1, 0, 0, 0, 0), (29, .i2l, 1, 0, 0, 0, 0), (30, .lmul, 1, 0, 0, 0, 0), (31, .ladd, 1, 0, 0, 0, 0)],
  [(32, .lstore 4, 2, 0, 0, 0, 0), (34, .lload 7, 2, 0, 0, 0, 0), (36, .lstore_n 2, 1, 0, 0, 0, 0), (37, .iinc 6 1, 3, 0, 0, 0, 1), (40, .goto (-32), 3, 8, 0, 0, 0), (43, .lload 4, 2, 0, 0, 0, 0), (45, .lreturn, 1, 0, 0, 0, 0)]]
def zm_3 : zk_M := (⟨"BasketKeep", "countWeavesFromOne", "(II)J"⟩, prog_1_method_43_code, 9, (some .long), 0, 0, 0, 2, 0, zc_3, [(8, [0, 1, 2, 4, 6])])
/-- BasketKeep.fault()I -/
def zc_4 : List (List zk_I) := [
  [(0, .aload_n 0, 1, 0, 0, 0, 0), (1, .getfield 10, 3, 0, 0, 3, 0), (4, .getfield 120, 3, 1, 9, 0, 0), (7, .ireturn, 1, 0, 0, 0, 0)]]
def zm_4 : zk_M := (⟨"BasketKeep", "fault", "()I"⟩, prog_1_method_4_code, 1, (some .int), 0, 0, 0, 0, 1, zc_4, [])
/-- BasketKeep.noSuch()I -/
def zc_5 : List (List zk_I) := [
  [(0, .aload_n 0, 1, 0, 0, 0, 0), (1, .iconst 1, 1, 0, 0, 0, 1), (2, .putfield 76, 3, 0, 11, 0, 0), (5, .iconst (-1), 1, 0, 0, 0, (-1)), (6, .ireturn, 1, 0, 0, 0, 0)]]
def zm_5 : zk_M := (⟨"BasketKeep", "noSuch", "()I"⟩, prog_1_method_64_code, 1, (some .int), 0, 0, 0, 0, 1, zc_5, [])
/-- BasketKeep.refusedIf(ZI)Z -/
def zc_6 : List (List zk_I) := [
  [(0, .aload_n 0, 1, 0, 0, 0, 0), (1, .iload_n 1, 1, 0, 0, 0, 0), (2, .ifCond .eq (7), 3, 9, 0, 0, 0), (5, .iload_n 2, 1, 0, 0, 0, 0), (6, .goto (4), 3, 10, 0, 0, 0), (9, .iconst 0, 1, 0, 0, 0, 0), (10, .putfield 76, 3, 0, 11, 0, 0), (13, .iload_n 1, 1, 0, 0, 0, 0), (14, .ireturn, 1, 0, 0, 0, 0)]]
def zm_6 : zk_M := (⟨"BasketKeep", "refusedIf", "(ZI)Z"⟩, prog_1_method_63_code, 3, (some .boolean), 0, 0, 0, 2, 1, zc_6, [])
/-- BasketKeep.trouble()I -/
def zc_7 : List (List zk_I) := [
  [(0, .aload_n 0, 1, 0, 0, 0, 0), (1, .getfield 76, 3, 0, 11, 0, 0), (4, .ireturn, 1, 0, 0, 0, 0)]]
def zm_7 : zk_M := (⟨"BasketKeep", "trouble", "()I"⟩, prog_1_method_62_code, 1, (some .int), 0, 0, 0, 0, 1, zc_7, [])
/-- BasketKeep.where()I -/
def zc_8 : List (List zk_I) := [
  [(0, .aload_n 0, 1, 0, 0, 0, 0), (1, .getfield 76, 3, 0, 11, 0, 0), (4, .iconst 4, 1, 0, 0, 0, 4), (5, .if_icmp .ne (13), 3, 18, 0, 0, 0), (8, .aload_n 0, 1, 0, 0, 0, 0), (9, .getfield 10, 3, 0, 0, 3, 0), (12, .getfield 123, 3, 1, 10, 0, 0), (15, .goto (4), 3, 19, 0, 0, 0), (18, .iconst (-1), 1, 0, 0, 0, (-1)), (19, .ireturn, 1, 0, 0, 0, 0)]]
def zm_8 : zk_M := (⟨"BasketKeep", "where", "()I"⟩, prog_1_method_5_code, 1, (some .int), 0, 0, 0, 0, 1, zc_8, [])
/-- BasketKeep$Reader.fail(I)Z -/
def zc_9 : List (List zk_I) := [
  [(0, .aload_n 0, 1, 0, 0, 0, 0), (1, .iload_n 1, 1, 0, 0, 0, 0), (2, .putfield 50, 3, 1, 9, 0, 0), (5, .aload_n 0, 1, 0, 0, 0, 0), (6, .aload_n 0, 1, 0, 0, 0, 0), (7, .getfield 12, 3, 1, 0, 3, 0), (10, .getfield 227, 3, 2, 5, 0, 0), (13, .putfield 53, 3, 1, 10, 0, 0), (16, .iconst 0, 1, 0, 0, 0, 0), (17, .ireturn, 1, 0, 0, 0, 0)]]
def zm_9 : zk_M := (⟨"BasketKeep$Reade\x72", "fail", "(I)Z"⟩, prog_9_method_21_code, 2, (some .boolean), 1, 0, 0, 1, 1, zc_9, [])
/-- BasketKeep$Reader.isFull(I)Z -/
def zc_10 : List (List zk_I) := [
  [(0, .iload_n 1, 1, 0, 0, 0, 0), (1, .tableswitch (104) (1) (5) #[35, 53, 70, 104, 87], 35, 0, 0, 0, 0)],
  [(36, .aload_n 0, 1, 0, 0, 0, 0), (37, .getfield 21, 3, 1, 1, 3, 0), (40, .getfield 132, 3, 3, 1, 0, 0), (43, .bipush 8, 2, 0, 0, 0, 8), (45, .if_icmp .lt (7), 3, 52, 0, 0, 0), (48, .iconst 1, 1, 0, 0, 0, 1), (49, .goto (4), 3, 53, 0, 0, 0), (52, .iconst 0, 1, 0, 0, 0, 0), (53, .ireturn, 1, 0, 0, 0, 0), (54, .aload_n 0, 1, 0, 0, 0, 0), (55, .getfield 21, 3, 1, 1, 3, 0), (58, .getfield 87, 3, 3, 4, 0, 0), (61, .iconst 5, 1, 0, 0, 0, 5), (62, .if_icmp .lt (7), 3, 69, 0, 0, 0)],
  [(65, .iconst 1, 1, 0, 0, 0, 1), (66, .goto (4), 3, 70, 0, 0, 0), (69, .iconst 0, 1, 0, 0, 0, 0), (70, .ireturn, 1, 0, 0, 0, 0), (71, .aload_n 0, 1, 0, 0, 0, 0), (72, .getfield 21, 3, 1, 1, 3, 0), (75, .getfield 90, 3, 3, 8, 0, 0), (78, .iconst 4, 1, 0, 0, 0, 4), (79, .if_icmp .lt (7), 3, 86, 0, 0, 0), (82, .iconst 1, 1, 0, 0, 0, 1), (83, .goto (4), 3, 87, 0, 0, 0), (86, .iconst 0, 1, 0, 0, 0, 0), (87, .ireturn, 1, 0, 0, 0, 0), (88, .aload_n 0, 1, 0, 0, 0, 0), (89, .getfield 21, 3, 1, 1, 3, 0), (92, .getfield 135, 3, 3, 14, 0, 0), (95, .iconst 4, 1, 0, 0, 0, 4)],
  [(96, .if_icmp .lt (7), 3, 103, 0, 0, 0), (99, .iconst 1, 1, 0, 0, 0, 1), (100, .goto (4), 3, 104, 0, 0, 0), (103, .iconst 0, 1, 0, 0, 0, 0), (104, .ireturn, 1, 0, 0, 0, 0), (105, .iconst 0, 1, 0, 0, 0, 0), (106, .ireturn, 1, 0, 0, 0, 0)]]
def zm_10 : zk_M := (⟨"BasketKeep$Reade\x72", "isFull", "(I)Z"⟩, prog_9_method_5_code, 2, (some .boolean), 1, 0, 0, 1, 1, zc_10, [])
/-- BasketKeep$Reader.lineOf()I -/
def zc_11 : List (List zk_I) := [
  [(0, .aload_n 0, 1, 0, 0, 0, 0), (1, .getfield 12, 3, 1, 0, 3, 0), (4, .getfield 84, 3, 2, 4, 0, 0), (7, .iconst 2, 1, 0, 0, 0, 2), (8, .if_icmp .ne (39), 3, 47, 0, 0, 0), (11, .iconst 0, 1, 0, 0, 0, 0), (12, .istore_n 1, 1, 0, 0, 0, 0), (13, .iload_n 1, 1, 0, 0, 0, 0), (14, .aload_n 0, 1, 0, 0, 0, 0), (15, .getfield 29, 3, 1, 3, 3, 0), (18, .arraylength, 1, 0, 0, 0, 0), (19, .if_icmp .ge (28), 3, 47, 0, 0, 0), (22, .aload_n 0, 1, 0, 0, 0, 0), (23, .getfield 29, 3, 1, 3, 3, 0), (26, .iload_n 1, 1, 0, 0, 0, 0), (27, .laload, 1, 0, 0, 0, 0), (28, .aload_n 0, 1, 0, 0, 0, 0), (29, .getfield 12, 3, 1, 0, 3, 0)],
  [(32, .getfield 128, 3, 2, 6, 2, 0), (35, .lcmp, 1, 0, 0, 0, 0), (36, .ifCond .ne (5), 3, 41, 0, 0, 0), (39, .iload_n 1, 1, 0, 0, 0, 0), (40, .ireturn, 1, 0, 0, 0, 0), (41, .iinc 1 1, 3, 0, 0, 0, 1), (44, .goto (-31), 3, 13, 0, 0, 0), (47, .iconst (-1), 1, 0, 0, 0, (-1)), (48, .ireturn, 1, 0, 0, 0, 0)]]
def zm_11 : zk_M := (⟨"BasketKeep$Reade\x72", "lineOf", "()I"⟩, prog_9_method_4_code, 2, (some .int), 1, 0, 0, 0, 1, zc_11, [(13, [0, 1])])
/-- BasketKeep$Reader.nameAt()I -/
def zc_12 : List (List zk_I) := [
  [(0, .iconst 0, 1, 0, 0, 0, 0), (1, .istore_n 1, 1, 0, 0, 0, 0), (2, .iload_n 1, 1, 0, 0, 0, 0), (3, .aload_n 0, 1, 0, 0, 0, 0), (4, .getfield 43, 3, 1, 7, 0, 0), (7, .if_icmp .ge (28), 3, 35, 0, 0, 0), (10, .aload_n 0, 1, 0, 0, 0, 0), (11, .getfield 33, 3, 1, 4, 3, 0), (14, .iload_n 1, 1, 0, 0, 0, 0), (15, .laload, 1, 0, 0, 0, 0), (16, .aload_n 0, 1, 0, 0, 0, 0), (17, .getfield 12, 3, 1, 0, 3, 0), (20, .getfield 128, 3, 2, 6, 2, 0), (23, .lcmp, 1, 0, 0, 0, 0), (24, .ifCond .ne (5), 3, 29, 0, 0, 0), (27, .iload_n 1, 1, 0, 0, 0, 0), (28, .ireturn, 1, 0, 0, 0, 0), (29, .iinc 1 1, 3, 0, 0, 0, 1)],
  [(32, .goto (-30), 3, 2, 0, 0, 0), (35, .iconst (-1), 1, 0, 0, 0, (-1)), (36, .ireturn, 1, 0, 0, 0, 0)]]
def zm_12 : zk_M := (⟨"BasketKeep$Reade\x72", "nameAt", "()I"⟩, prog_9_method_20_code, 2, (some .int), 1, 0, 0, 0, 1, zc_12, [(2, [0, 1])])
/-- BasketKeep$Tape.append(I)V -/
def zc_13 : List (List zk_I) := [
  [(0, .bipush 24, 2, 0, 0, 0, 24), (2, .istore_n 2, 1, 0, 0, 0, 0), (3, .iload_n 2, 1, 0, 0, 0, 0), (4, .ifCond .lt (44), 3, 48, 0, 0, 0), (7, .aload_n 0, 1, 0, 0, 0, 0), (8, .getfield 15, 3, 2, 1, 0, 0), (11, .aload_n 0, 1, 0, 0, 0, 0), (12, .getfield 9, 3, 2, 0, 3, 0), (15, .arraylength, 1, 0, 0, 0, 0), (16, .if_icmp .ge (32), 3, 48, 0, 0, 0), (19, .aload_n 0, 1, 0, 0, 0, 0), (20, .getfield 9, 3, 2, 0, 3, 0), (23, .aload_n 0, 1, 0, 0, 0, 0), (24, .getfield 15, 3, 2, 1, 0, 0), (27, .iload_n 1, 1, 0, 0, 0, 0), (28, .iload_n 2, 1, 0, 0, 0, 0), (29, .ishr, 1, 0, 0, 0, 0), (30, .i2b, 1, 0, 0, 0, 0), (31, .bastore, 1, 0, 0, 0, 0)],
  [(32, .aload_n 0, 1, 0, 0, 0, 0), (33, .dup, 1, 0, 0, 0, 0), (34, .getfield 15, 3, 2, 1, 0, 0), (37, .iconst 1, 1, 0, 0, 0, 1), (38, .iadd, 1, 0, 0, 0, 0), (39, .putfield 15, 3, 2, 1, 0, 0), (42, .iinc 2 (-8), 3, 0, 0, 0, (-8)), (45, .goto (-42), 3, 3, 0, 0, 0), (48, .return_, 1, 0, 0, 0, 0)]]
def zm_13 : zk_M := (⟨"BasketKeep$Tape", "append", "(I)V"⟩, prog_11_method_2_code, 3, none, 2, 0, 0, 1, 1, zc_13, [(3, [0, 1, 2])])
/-- BasketKeep$Tape.isDigit(I)Z -/
def zc_14 : List (List zk_I) := [
  [(0, .iload_n 0, 1, 0, 0, 0, 0), (1, .bipush 48, 2, 0, 0, 0, 48), (3, .if_icmp .lt (13), 3, 16, 0, 0, 0), (6, .iload_n 0, 1, 0, 0, 0, 0), (7, .bipush 57, 2, 0, 0, 0, 57), (9, .if_icmp .gt (7), 3, 16, 0, 0, 0), (12, .iconst 1, 1, 0, 0, 0, 1), (13, .goto (4), 3, 17, 0, 0, 0), (16, .iconst 0, 1, 0, 0, 0, 0), (17, .ireturn, 1, 0, 0, 0, 0)]]
def zm_14 : zk_M := (⟨"BasketKeep$Tape", "isDigit", "(I)Z"⟩, prog_11_method_11_code, 1, (some .boolean), 2, 0, 0, 1, 0, zc_14, [])
/-- BasketKeep$Tape.isLetter(I)Z -/
def zc_15 : List (List zk_I) := [
  [(0, .iload_n 0, 1, 0, 0, 0, 0), (1, .bipush 97, 2, 0, 0, 0, 97), (3, .if_icmp .lt (13), 3, 16, 0, 0, 0), (6, .iload_n 0, 1, 0, 0, 0, 0), (7, .bipush 122, 2, 0, 0, 0, 122), (9, .if_icmp .gt (7), 3, 16, 0, 0, 0), (12, .iconst 1, 1, 0, 0, 0, 1), (13, .goto (4), 3, 17, 0, 0, 0), (16, .iconst 0, 1, 0, 0, 0, 0), (17, .ireturn, 1, 0, 0, 0, 0)]]
def zm_15 : zk_M := (⟨"BasketKeep$Tape", "isLette\x72", "(I)Z"⟩, prog_11_method_10_code, 1, (some .boolean), 2, 0, 0, 1, 0, zc_15, [])
/-- BasketKeep$Tape.takeSign()V -/
def zc_16 : List (List zk_I) := [
  [(0, .aload_n 0, 1, 0, 0, 0, 0), (1, .getfield 9, 3, 2, 0, 3, 0), (4, .aload_n 0, 1, 0, 0, 0, 0), (5, .getfield 22, 3, 2, 3, 0, 0), (8, .baload, 1, 0, 0, 0, 0), (9, .istore_n 1, 1, 0, 0, 0, 0), (10, .aload_n 0, 1, 0, 0, 0, 0), (11, .dup, 1, 0, 0, 0, 0), (12, .getfield 22, 3, 2, 3, 0, 0), (15, .iconst 1, 1, 0, 0, 0, 1), (16, .iadd, 1, 0, 0, 0, 0), (17, .putfield 22, 3, 2, 3, 0, 0), (20, .aload_n 0, 1, 0, 0, 0, 0), (21, .iload_n 1, 1, 0, 0, 0, 0), (22, .bipush 59, 2, 0, 0, 0, 59), (24, .if_icmp .ne (7), 3, 31, 0, 0, 0), (27, .iconst 4, 1, 0, 0, 0, 4), (28, .goto (14), 3, 42, 0, 0, 0), (31, .iload_n 1, 1, 0, 0, 0, 0)],
  [(32, .bipush 44, 2, 0, 0, 0, 44), (34, .if_icmp .ne (7), 3, 41, 0, 0, 0), (37, .iconst 5, 1, 0, 0, 0, 5), (38, .goto (4), 3, 42, 0, 0, 0), (41, .iconst 1, 1, 0, 0, 0, 1), (42, .putfield 25, 3, 2, 4, 0, 0), (45, .return_, 1, 0, 0, 0, 0)]]
def zm_16 : zk_M := (⟨"BasketKeep$Tape", "takeSign", "()V"⟩, prog_11_method_7_code, 2, none, 2, 0, 0, 0, 1, zc_16, [])
/-- BasketKeep$Level.firstStrikeBehind(II)I -/
def zc_17 : List (List zk_I) := [
  [(0, .aload_n 0, 1, 0, 0, 0, 0), (1, .getfield 18, 3, 3, 2, 3, 0), (4, .iload_n 1, 1, 0, 0, 0, 0), (5, .iaload, 1, 0, 0, 0, 0), (6, .istore_n 3, 1, 0, 0, 0, 0), (7, .aload_n 0, 1, 0, 0, 0, 0), (8, .getfield 22, 3, 3, 3, 3, 0), (11, .iload_n 1, 1, 0, 0, 0, 0), (12, .iaload, 1, 0, 0, 0, 0), (13, .iload_n 2, 1, 0, 0, 0, 0), (14, .if_icmp .gt (7), 3, 21, 0, 0, 0), (17, .iload_n 3, 1, 0, 0, 0, 0), (18, .ifCond .gt (10), 3, 28, 0, 0, 0), (21, .aload_n 0, 1, 0, 0, 0, 0), (22, .getfield 22, 3, 3, 3, 3, 0), (25, .iload_n 1, 1, 0, 0, 0, 0), (26, .iaload, 1, 0, 0, 0, 0), (27, .ireturn, 1, 0, 0, 0, 0), (28, .aload_n 0, 1, 0, 0, 0, 0), (29, .getfield 22, 3, 3, 3, 3, 0)],
  [(32, .iload_n 1, 1, 0, 0, 0, 0), (33, .iaload, 1, 0, 0, 0, 0), (34, .iload_n 2, 1, 0, 0, 0, 0), (35, .aload_n 0, 1, 0, 0, 0, 0), (36, .getfield 22, 3, 3, 3, 3, 0), (39, .iload_n 1, 1, 0, 0, 0, 0), (40, .iaload, 1, 0, 0, 0, 0), (41, .isub, 1, 0, 0, 0, 0), (42, .iload_n 3, 1, 0, 0, 0, 0), (43, .idiv, 1, 0, 0, 0, 0), (44, .iconst 1, 1, 0, 0, 0, 1), (45, .iadd, 1, 0, 0, 0, 0), (46, .iload_n 3, 1, 0, 0, 0, 0), (47, .imul, 1, 0, 0, 0, 0), (48, .iadd, 1, 0, 0, 0, 0), (49, .ireturn, 1, 0, 0, 0, 0)]]
def zm_17 : zk_M := (⟨"BasketKeep$Level", "firstStrikeBehind", "(II)I"⟩, prog_6_method_8_code, 4, (some .int), 3, 0, 0, 2, 1, zc_17, [])
/-- BasketKeep$Level.goodsFearing(I)I -/
def zc_18 : List (List zk_I) := [
  [(0, .iconst 0, 1, 0, 0, 0, 0), (1, .istore_n 2, 1, 0, 0, 0, 0), (2, .iconst 0, 1, 0, 0, 0, 0), (3, .istore_n 3, 1, 0, 0, 0, 0), (4, .iload_n 3, 1, 0, 0, 0, 0), (5, .aload_n 0, 1, 0, 0, 0, 0), (6, .getfield 37, 3, 3, 8, 0, 0), (9, .if_icmp .ge (28), 3, 37, 0, 0, 0), (12, .aload_n 0, 1, 0, 0, 0, 0), (13, .getfield 43, 3, 3, 10, 3, 0), (16, .iload_n 3, 1, 0, 0, 0, 0), (17, .iaload, 1, 0, 0, 0, 0), (18, .iload_n 1, 1, 0, 0, 0, 0), (19, .ishr, 1, 0, 0, 0, 0), (20, .iconst 1, 1, 0, 0, 0, 1), (21, .iand, 1, 0, 0, 0, 0), (22, .ifCond .eq (9), 3, 31, 0, 0, 0), (25, .iload_n 2, 1, 0, 0, 0, 0), (26, .iconst 1, 1, 0, 0, 0, 1), (27, .iload_n 3, 1, 0, 0, 0, 0), (28, .ishl, 1, 0, 0, 0, 0), (29, .ior, 1, 0, 0, 0, 0), (30, .istore_n 2, 1, 0, 0, 0, 0), (31, .iinc 3 1, 3, 0, 0, 0, 1)],
  [(34, .goto (-30), 3, 4, 0, 0, 0), (37, .iload_n 2, 1, 0, 0, 0, 0), (38, .ireturn, 1, 0, 0, 0, 0)]]
def zm_18 : zk_M := (⟨"BasketKeep$Level", "goodsFearing", "(I)I"⟩, prog_6_method_6_code, 4, (some .int), 3, 0, 0, 1, 1, zc_18, [(4, [0, 1, 2, 3])])
/-- BasketKeep$Level.isBasketTaken(I)Z -/
def zc_19 : List (List zk_I) := [
  [(0, .iconst 0, 1, 0, 0, 0, 0), (1, .istore_n 2, 1, 0, 0, 0, 0), (2, .iload_n 2, 1, 0, 0, 0, 0), (3, .aload_n 0, 1, 0, 0, 0, 0), (4, .getfield 37, 3, 3, 8, 0, 0), (7, .if_icmp .ge (21), 3, 28, 0, 0, 0), (10, .aload_n 0, 1, 0, 0, 0, 0), (11, .getfield 46, 3, 3, 11, 3, 0), (14, .iload_n 2, 1, 0, 0, 0, 0), (15, .iaload, 1, 0, 0, 0, 0), (16, .iload_n 1, 1, 0, 0, 0, 0), (17, .if_icmp .ne (5), 3, 22, 0, 0, 0), (20, .iconst 1, 1, 0, 0, 0, 1), (21, .ireturn, 1, 0, 0, 0, 0), (22, .iinc 2 1, 3, 0, 0, 0, 1), (25, .goto (-23), 3, 2, 0, 0, 0), (28, .iconst 0, 1, 0, 0, 0, 0), (29, .ireturn, 1, 0, 0, 0, 0)]]
def zm_19 : zk_M := (⟨"BasketKeep$Level", "isBasketTaken", "(I)Z"⟩, prog_6_method_4_code, 3, (some .boolean), 3, 0, 0, 1, 1, zc_19, [(2, [0, 1, 2])])
/-- BasketKeep$Level.isUnsure(II)Z -/
def zc_20 : List (List zk_I) := [
  [(0, .iconst 0, 1, 0, 0, 0, 0), (1, .istore_n 3, 1, 0, 0, 0, 0), (2, .iload_n 3, 1, 0, 0, 0, 0), (3, .aload_n 0, 1, 0, 0, 0, 0), (4, .getfield 55, 3, 3, 14, 0, 0), (7, .if_icmp .ge (31), 3, 38, 0, 0, 0), (10, .aload_n 0, 1, 0, 0, 0, 0), (11, .getfield 58, 3, 3, 15, 3, 0), (14, .iload_n 3, 1, 0, 0, 0, 0), (15, .iaload, 1, 0, 0, 0, 0), (16, .iload_n 1, 1, 0, 0, 0, 0), (17, .if_icmp .ne (15), 3, 32, 0, 0, 0), (20, .aload_n 0, 1, 0, 0, 0, 0), (21, .getfield 61, 3, 3, 16, 3, 0), (24, .iload_n 3, 1, 0, 0, 0, 0), (25, .iaload, 1, 0, 0, 0, 0), (26, .iload_n 2, 1, 0, 0, 0, 0), (27, .if_icmp .ne (5), 3, 32, 0, 0, 0), (30, .iconst 1, 1, 0, 0, 0, 1), (31, .ireturn, 1, 0, 0, 0, 0)],
  [(32, .iinc 3 1, 3, 0, 0, 0, 1), (35, .goto (-33), 3, 2, 0, 0, 0), (38, .iconst 0, 1, 0, 0, 0, 0), (39, .ireturn, 1, 0, 0, 0, 0)]]
def zm_20 : zk_M := (⟨"BasketKeep$Level", "isUnsure", "(II)Z"⟩, prog_6_method_5_code, 4, (some .boolean), 3, 0, 0, 2, 1, zc_20, [(2, [0, 1, 2, 3])])
/-- BasketKeep$Level.strikingIn(I)I -/
def zc_21 : List (List zk_I) := [
  [(0, .iconst 0, 1, 0, 0, 0, 0), (1, .istore_n 2, 1, 0, 0, 0, 0), (2, .iconst 0, 1, 0, 0, 0, 0), (3, .istore_n 3, 1, 0, 0, 0, 0), (4, .iload_n 3, 1, 0, 0, 0, 0), (5, .aload_n 0, 1, 0, 0, 0, 0), (6, .getfield 15, 3, 3, 1, 0, 0), (9, .if_icmp .ge (52), 3, 61, 0, 0, 0), (12, .aload_n 0, 1, 0, 0, 0, 0), (13, .getfield 18, 3, 3, 2, 3, 0), (16, .iload_n 3, 1, 0, 0, 0, 0), (17, .iaload, 1, 0, 0, 0, 0), (18, .istore 4, 2, 0, 0, 0, 0), (20, .iload_n 1, 1, 0, 0, 0, 0), (21, .aload_n 0, 1, 0, 0, 0, 0), (22, .getfield 22, 3, 3, 3, 3, 0), (25, .iload_n 3, 1, 0, 0, 0, 0), (26, .iaload, 1, 0, 0, 0, 0), (27, .if_icmp .lt (28), 3, 55, 0, 0, 0), (30, .iload 4, 2, 0, 0, 0, 0)],
  [(32, .ifCond .le (23), 3, 55, 0, 0, 0), (35, .iload_n 1, 1, 0, 0, 0, 0), (36, .aload_n 0, 1, 0, 0, 0, 0), (37, .getfield 22, 3, 3, 3, 3, 0), (40, .iload_n 3, 1, 0, 0, 0, 0), (41, .iaload, 1, 0, 0, 0, 0), (42, .isub, 1, 0, 0, 0, 0), (43, .iload 4, 2, 0, 0, 0, 0), (45, .irem, 1, 0, 0, 0, 0), (46, .ifCond .ne (9), 3, 55, 0, 0, 0), (49, .iload_n 2, 1, 0, 0, 0, 0), (50, .iconst 1, 1, 0, 0, 0, 1), (51, .iload_n 3, 1, 0, 0, 0, 0), (52, .ishl, 1, 0, 0, 0, 0), (53, .ior, 1, 0, 0, 0, 0), (54, .istore_n 2, 1, 0, 0, 0, 0), (55, .iinc 3 1, 3, 0, 0, 0, 1), (58, .goto (-54), 3, 4, 0, 0, 0), (61, .iload_n 2, 1, 0, 0, 0, 0), (62, .ireturn, 1, 0, 0, 0, 0)]]
def zm_21 : zk_M := (⟨"BasketKeep$Level", "strikingIn", "(I)I"⟩, prog_6_method_7_code, 5, (some .int), 3, 0, 0, 1, 1, zc_21, [(4, [0, 1, 2, 3])])
/-- BasketKeep$Level.withoutHighest(I)I -/
def zc_22 : List (List zk_I) := [
  [(0, .bipush 7, 2, 0, 0, 0, 7), (2, .istore_n 1, 1, 0, 0, 0, 0), (3, .iload_n 1, 1, 0, 0, 0, 0), (4, .ifCond .lt (23), 3, 27, 0, 0, 0), (7, .iload_n 0, 1, 0, 0, 0, 0), (8, .iload_n 1, 1, 0, 0, 0, 0), (9, .ishr, 1, 0, 0, 0, 0), (10, .iconst 1, 1, 0, 0, 0, 1), (11, .iand, 1, 0, 0, 0, 0), (12, .ifCond .eq (9), 3, 21, 0, 0, 0), (15, .iload_n 0, 1, 0, 0, 0, 0), (16, .iconst 1, 1, 0, 0, 0, 1), (17, .iload_n 1, 1, 0, 0, 0, 0), (18, .ishl, 1, 0, 0, 0, 0), (19, .ixor, 1, 0, 0, 0, 0), (20, .ireturn, 1, 0, 0, 0, 0), (21, .iinc 1 (-1), 3, 0, 0, 0, (-1)), (24, .goto (-21), 3, 3, 0, 0, 0), (27, .iload_n 0, 1, 0, 0, 0, 0), (28, .ireturn, 1, 0, 0, 0, 0)]]
def zm_22 : zk_M := (⟨"BasketKeep$Level", "withoutHighest", "(I)I"⟩, prog_6_method_10_code, 2, (some .int), 3, 0, 0, 1, 0, zc_22, [(3, [0, 1])])
/-- BasketKeep$State.goodIn(II)I -/
def zc_23 : List (List zk_I) := [
  [(0, .iconst 0, 1, 0, 0, 0, 0), (1, .istore_n 3, 1, 0, 0, 0, 0), (2, .iload_n 3, 1, 0, 0, 0, 0), (3, .iload_n 2, 1, 0, 0, 0, 0), (4, .if_icmp .ge (21), 3, 25, 0, 0, 0), (7, .aload_n 0, 1, 0, 0, 0, 0), (8, .getfield 18, 3, 4, 2, 3, 0), (11, .iload_n 3, 1, 0, 0, 0, 0), (12, .iaload, 1, 0, 0, 0, 0), (13, .iload_n 1, 1, 0, 0, 0, 0), (14, .if_icmp .ne (5), 3, 19, 0, 0, 0), (17, .iload_n 3, 1, 0, 0, 0, 0), (18, .ireturn, 1, 0, 0, 0, 0), (19, .iinc 3 1, 3, 0, 0, 0, 1), (22, .goto (-20), 3, 2, 0, 0, 0), (25, .bipush (-2), 2, 0, 0, 0, (-2)), (27, .ireturn, 1, 0, 0, 0, 0)]]
def zm_23 : zk_M := (⟨"BasketKeep$State", "goodIn", "(II)I"⟩, prog_10_method_7_code, 4, (some .int), 4, 0, 0, 2, 1, zc_23, [(2, [0, 1, 2, 3])])
/-- BasketKeep$State.goodsInBaskets(I)I -/
def zc_24 : List (List zk_I) := [
  [(0, .iconst 0, 1, 0, 0, 0, 0), (1, .istore_n 2, 1, 0, 0, 0, 0), (2, .iconst 0, 1, 0, 0, 0, 0), (3, .istore_n 3, 1, 0, 0, 0, 0), (4, .iload_n 3, 1, 0, 0, 0, 0), (5, .iload_n 1, 1, 0, 0, 0, 0), (6, .if_icmp .ge (21), 3, 27, 0, 0, 0), (9, .aload_n 0, 1, 0, 0, 0, 0), (10, .getfield 18, 3, 4, 2, 3, 0), (13, .iload_n 3, 1, 0, 0, 0, 0), (14, .iaload, 1, 0, 0, 0, 0), (15, .ifCond .lt (6), 3, 21, 0, 0, 0), (18, .iinc 2 1, 3, 0, 0, 0, 1), (21, .iinc 3 1, 3, 0, 0, 0, 1), (24, .goto (-20), 3, 4, 0, 0, 0), (27, .iload_n 2, 1, 0, 0, 0, 0), (28, .ireturn, 1, 0, 0, 0, 0)]]
def zm_24 : zk_M := (⟨"BasketKeep$State", "goodsInBaskets", "(I)I"⟩, prog_10_method_8_code, 4, (some .int), 4, 0, 0, 1, 1, zc_24, [(4, [0, 1, 2, 3])])
/-- BasketKeep$State.isLost(I)Z -/
def zc_25 : List (List zk_I) := [
  [(0, .aload_n 0, 1, 0, 0, 0, 0), (1, .getfield 15, 3, 4, 1, 0, 0), (4, .iload_n 1, 1, 0, 0, 0, 0), (5, .ishr, 1, 0, 0, 0, 0), (6, .iconst 1, 1, 0, 0, 0, 1), (7, .iand, 1, 0, 0, 0, 0), (8, .ifCond .eq (7), 3, 15, 0, 0, 0), (11, .iconst 1, 1, 0, 0, 0, 1), (12, .goto (4), 3, 16, 0, 0, 0), (15, .iconst 0, 1, 0, 0, 0, 0), (16, .ireturn, 1, 0, 0, 0, 0)]]
def zm_25 : zk_M := (⟨"BasketKeep$State", "isLost", "(I)Z"⟩, prog_10_method_6_code, 2, (some .boolean), 4, 0, 0, 1, 1, zc_25, [])
/-- BasketKeep$State.makersThinkingOf(II)I -/
def zc_26 : List (List zk_I) := [
  [(0, .iconst 0, 1, 0, 0, 0, 0), (1, .istore_n 3, 1, 0, 0, 0, 0), (2, .iconst 0, 1, 0, 0, 0, 0), (3, .istore 4, 2, 0, 0, 0, 0), (5, .iload 4, 2, 0, 0, 0, 0), (7, .iload_n 2, 1, 0, 0, 0, 0), (8, .if_icmp .ge (30), 3, 38, 0, 0, 0), (11, .aload_n 0, 1, 0, 0, 0, 0), (12, .getfield 22, 3, 4, 3, 3, 0), (15, .iload 4, 2, 0, 0, 0, 0), (17, .iaload, 1, 0, 0, 0, 0), (18, .iload_n 1, 1, 0, 0, 0, 0), (19, .ishr, 1, 0, 0, 0, 0), (20, .iconst 1, 1, 0, 0, 0, 1), (21, .iand, 1, 0, 0, 0, 0), (22, .ifCond .eq (10), 3, 32, 0, 0, 0), (25, .iload_n 3, 1, 0, 0, 0, 0), (26, .iconst 1, 1, 0, 0, 0, 1), (27, .iload 4, 2, 0, 0, 0, 0), (29, .ishl, 1, 0, 0, 0, 0), (30, .ior, 1, 0, 0, 0, 0), (31, .istore_n 3, 1, 0, 0, 0, 0)],
  [(32, .iinc 4 1, 3, 0, 0, 0, 1), (35, .goto (-30), 3, 5, 0, 0, 0), (38, .iload_n 3, 1, 0, 0, 0, 0), (39, .ireturn, 1, 0, 0, 0, 0)]]
def zm_26 : zk_M := (⟨"BasketKeep$State", "makersThinkingOf", "(II)I"⟩, prog_10_method_9_code, 5, (some .int), 4, 0, 0, 2, 1, zc_26, [(5, [0, 1, 2, 3, 4])])
/-- BasketKeep$History.forget()V -/
def zc_27 : List (List zk_I) := [
  [(0, .aload_n 0, 1, 0, 0, 0, 0), (1, .iconst 0, 1, 0, 0, 0, 0), (2, .putfield 19, 3, 5, 2, 0, 0), (5, .aload_n 0, 1, 0, 0, 0, 0), (6, .iconst 0, 1, 0, 0, 0, 0), (7, .putfield 25, 3, 5, 4, 0, 0), (10, .return_, 1, 0, 0, 0, 0)]]
def zm_27 : zk_M := (⟨"BasketKeep$History", "forget", "()V"⟩, prog_4_method_2_code, 1, none, 5, 0, 0, 0, 1, zc_27, [])
/-- BasketKeep$History.isFullOfImages()Z -/
def zc_28 : List (List zk_I) := [
  [(0, .aload_n 0, 1, 0, 0, 0, 0), (1, .getfield 25, 3, 5, 4, 0, 0), (4, .iconst 3, 1, 0, 0, 0, 3), (5, .if_icmp .lt (7), 3, 12, 0, 0, 0), (8, .iconst 1, 1, 0, 0, 0, 1), (9, .goto (4), 3, 13, 0, 0, 0), (12, .iconst 0, 1, 0, 0, 0, 0), (13, .ireturn, 1, 0, 0, 0, 0)]]
def zm_28 : zk_M := (⟨"BasketKeep$History", "isFullOfImages", "()Z"⟩, prog_4_method_5_code, 1, (some .boolean), 5, 0, 0, 0, 1, zc_28, [])
/-- BasketKeep$Outlook.busiestMaker(LBasketKeep$Level;)I -/
def zc_29 : List (List zk_I) := [
  [(0, .iconst 0, 1, 0, 0, 0, 0), (1, .istore_n 2, 1, 0, 0, 0, 0), (2, .iconst 1, 1, 0, 0, 0, 1), (3, .istore_n 3, 1, 0, 0, 0, 0), (4, .iload_n 3, 1, 0, 0, 0, 0), (5, .aload_n 1, 1, 0, 0, 0, 0), (6, .getfield 46, 3, 3, 4, 0, 0), (9, .if_icmp .ge (26), 3, 35, 0, 0, 0), (12, .aload_n 0, 1, 0, 0, 0, 0), (13, .getfield 38, 3, 6, 7, 3, 0), (16, .iload_n 3, 1, 0, 0, 0, 0), (17, .iaload, 1, 0, 0, 0, 0), (18, .aload_n 0, 1, 0, 0, 0, 0), (19, .getfield 38, 3, 6, 7, 3, 0), (22, .iload_n 2, 1, 0, 0, 0, 0), (23, .iaload, 1, 0, 0, 0, 0), (24, .if_icmp .le (5), 3, 29, 0, 0, 0), (27, .iload_n 3, 1, 0, 0, 0, 0), (28, .istore_n 2, 1, 0, 0, 0, 0), (29, .iinc 3 1, 3, 0, 0, 0, 1)],
  [(32, .goto (-28), 3, 4, 0, 0, 0), (35, .iload_n 2, 1, 0, 0, 0, 0), (36, .ireturn, 1, 0, 0, 0, 0)]]
def zm_29 : zk_M := (⟨"BasketKeep$Outlook", "busiestMake\x72", "(LBasketKeep$Level;)I"⟩, prog_7_method_5_code, 4, (some .int), 6, 0, 0, 1, 1, zc_29, [(4, [0, 1, 2, 3])])
/-- BasketKeep$Outlook.harmBy(LBasketKeep$Level;I)I -/
def zc_30 : List (List zk_I) := [
  [(0, .iconst 0, 1, 0, 0, 0, 0), (1, .istore_n 3, 1, 0, 0, 0, 0), (2, .iconst 0, 1, 0, 0, 0, 0), (3, .istore 4, 2, 0, 0, 0, 0), (5, .iload 4, 2, 0, 0, 0, 0), (7, .aload_n 1, 1, 0, 0, 0, 0), (8, .getfield 56, 3, 3, 8, 0, 0), (11, .if_icmp .ge (30), 3, 41, 0, 0, 0), (14, .aload_n 0, 1, 0, 0, 0, 0), (15, .getfield 29, 3, 6, 4, 3, 0), (18, .iload 4, 2, 0, 0, 0, 0), (20, .iaload, 1, 0, 0, 0, 0), (21, .iload_n 2, 1, 0, 0, 0, 0), (22, .if_icmp .ne (13), 3, 35, 0, 0, 0), (25, .iload_n 3, 1, 0, 0, 0, 0), (26, .aload_n 1, 1, 0, 0, 0, 0), (27, .getfield 87, 3, 3, 9, 3, 0), (30, .iload 4, 2, 0, 0, 0, 0)],
  [(32, .iaload, 1, 0, 0, 0, 0), (33, .iadd, 1, 0, 0, 0, 0), (34, .istore_n 3, 1, 0, 0, 0, 0), (35, .iinc 4 1, 3, 0, 0, 0, 1), (38, .goto (-33), 3, 5, 0, 0, 0), (41, .iload_n 3, 1, 0, 0, 0, 0), (42, .ireturn, 1, 0, 0, 0, 0)]]
def zm_30 : zk_M := (⟨"BasketKeep$Outlook", "harmBy", "(LBasketKeep$Level;I)I"⟩, prog_7_method_7_code, 5, (some .int), 6, 0, 0, 2, 1, zc_30, [(5, [0, 1, 2, 3, 4])])
/-- BasketKeep$Outlook.keptInAll(LBasketKeep$Level;)I -/
def zc_31 : List (List zk_I) := [
  [(0, .iconst 0, 1, 0, 0, 0, 0), (1, .istore_n 2, 1, 0, 0, 0, 0), (2, .iconst 0, 1, 0, 0, 0, 0), (3, .istore_n 3, 1, 0, 0, 0, 0), (4, .iload_n 3, 1, 0, 0, 0, 0), (5, .aload_n 1, 1, 0, 0, 0, 0), (6, .getfield 46, 3, 3, 4, 0, 0), (9, .if_icmp .ge (18), 3, 27, 0, 0, 0), (12, .iload_n 2, 1, 0, 0, 0, 0), (13, .aload_n 0, 1, 0, 0, 0, 0), (14, .getfield 38, 3, 6, 7, 3, 0), (17, .iload_n 3, 1, 0, 0, 0, 0), (18, .iaload, 1, 0, 0, 0, 0), (19, .iadd, 1, 0, 0, 0, 0), (20, .istore_n 2, 1, 0, 0, 0, 0), (21, .iinc 3 1, 3, 0, 0, 0, 1), (24, .goto (-20), 3, 4, 0, 0, 0), (27, .iload_n 2, 1, 0, 0, 0, 0), (28, .ireturn, 1, 0, 0, 0, 0)]]
def zm_31 : zk_M := (⟨"BasketKeep$Outlook", "keptInAll", "(LBasketKeep$Level;)I"⟩, prog_7_method_4_code, 4, (some .int), 6, 0, 0, 1, 1, zc_31, [(4, [0, 1, 2, 3])])
/-- BasketKeep$Planner.layRows(LBasketKeep$Planner;LBasketKeep$Level;III)V -/
def zc_32 : List (List zk_I) := [
  [(0, .iload_n 2, 1, 0, 0, 0, 0), (1, .aload_n 1, 1, 0, 0, 0, 0), (2, .getfield 36, 3, 3, 8, 0, 0), (5, .if_icmp .ge (8), 3, 13, 0, 0, 0), (8, .iload_n 2, 1, 0, 0, 0, 0), (9, .iconst 4, 1, 0, 0, 0, 4), (10, .if_icmp .lt (10), 3, 20, 0, 0, 0), (13, .aload_n 0, 1, 0, 0, 0, 0), (14, .iload 4, 2, 0, 0, 0, 0), (16, .invokevirtual 71, 3, 108, 33, 1, 0), (19, .return_, 1, 0, 0, 0, 0), (20, .iconst 0, 1, 0, 0, 0, 0), (21, .istore 5, 2, 0, 0, 0, 0), (23, .iload 5, 2, 0, 0, 0, 0), (25, .aload_n 1, 1, 0, 0, 0, 0), (26, .getfield 61, 3, 3, 4, 0, 0), (29, .if_icmp .gt (95), 3, 124, 0, 0, 0)],
  [(32, .iconst 1, 1, 0, 0, 0, 1), (33, .iload 5, 2, 0, 0, 0, 0), (35, .ishl, 1, 0, 0, 0, 0), (36, .istore 6, 2, 0, 0, 0, 0), (38, .aload_n 0, 1, 0, 0, 0, 0), (39, .getfield 18, 3, 8, 1, 3, 0), (42, .iload_n 2, 1, 0, 0, 0, 0), (43, .iaload, 1, 0, 0, 0, 0), (44, .iload_n 3, 1, 0, 0, 0, 0), (45, .iconst (-1), 1, 0, 0, 0, (-1)), (46, .ixor, 1, 0, 0, 0, 0), (47, .iand, 1, 0, 0, 0, 0), (48, .iload 6, 2, 0, 0, 0, 0), (50, .iand, 1, 0, 0, 0, 0), (51, .ifCond .eq (44), 3, 95, 0, 0, 0), (54, .aload_n 0, 1, 0, 0, 0, 0), (55, .getfield 22, 3, 8, 2, 3, 0), (58, .iload_n 2, 1, 0, 0, 0, 0), (59, .iload 5, 2, 0, 0, 0, 0), (61, .iastore, 1, 0, 0, 0, 0), (62, .aload_n 0, 1, 0, 0, 0, 0), (63, .aload_n 1, 1, 0, 0, 0, 0)],
  [(64, .iload_n 2, 1, 0, 0, 0, 0), (65, .iconst 1, 1, 0, 0, 0, 1), (66, .iadd, 1, 0, 0, 0, 0), (67, .iload 5, 2, 0, 0, 0, 0), (69, .ifCond .ne (7), 3, 76, 0, 0, 0), (72, .iload_n 3, 1, 0, 0, 0, 0), (73, .goto (7), 3, 80, 0, 0, 0), (76, .iload_n 3, 1, 0, 0, 0, 0), (77, .iload 6, 2, 0, 0, 0, 0), (79, .ior, 1, 0, 0, 0, 0), (80, .iload 4, 2, 0, 0, 0, 0), (82, .aload_n 1, 1, 0, 0, 0, 0), (83, .getfield 75, 3, 3, 9, 3, 0), (86, .iload_n 2, 1, 0, 0, 0, 0), (87, .iaload, 1, 0, 0, 0, 0), (88, .iadd, 1, 0, 0, 0, 0), (89, .invokestatic 51, 3, 1, 309, 5, 0), (92, .goto (26), 3, 118, 0, 0, 0), (95, .iload 5, 2, 0, 0, 0, 0)],
  [(97, .ifCond .ne (21), 3, 118, 0, 0, 0), (100, .aload_n 0, 1, 0, 0, 0, 0), (101, .getfield 22, 3, 8, 2, 3, 0), (104, .iload_n 2, 1, 0, 0, 0, 0), (105, .iconst 0, 1, 0, 0, 0, 0), (106, .iastore, 1, 0, 0, 0, 0), (107, .aload_n 0, 1, 0, 0, 0, 0), (108, .aload_n 1, 1, 0, 0, 0, 0), (109, .iload_n 2, 1, 0, 0, 0, 0), (110, .iconst 1, 1, 0, 0, 0, 1), (111, .iadd, 1, 0, 0, 0, 0), (112, .iload_n 3, 1, 0, 0, 0, 0), (113, .iload 4, 2, 0, 0, 0, 0), (115, .invokestatic 51, 3, 1, 309, 5, 0), (118, .iinc 5 1, 3, 0, 0, 0, 1), (121, .goto (-98), 3, 23, 0, 0, 0), (124, .return_, 1, 0, 0, 0, 0)]]
def zm_32 : zk_M := (⟨"BasketKeep$Planne\x72", "layRows", "(LBasketKeep$Planner;LBasketKeep$Level;III)V"⟩, prog_8_method_4_code, 7, none, 8, 4, 121, 5, 0, zc_32, [(23, [0, 1, 2, 3, 4, 5])])
/-- BasketKeep$Planner.keepIfBetter(I)V -/
def zc_33 : List (List zk_I) := [
  [(0, .iload_n 1, 1, 0, 0, 0, 0), (1, .aload_n 0, 1, 0, 0, 0, 0), (2, .getfield 28, 3, 8, 4, 0, 0), (5, .if_icmp .le (22), 3, 27, 0, 0, 0), (8, .aload_n 0, 1, 0, 0, 0, 0), (9, .iload_n 1, 1, 0, 0, 0, 0), (10, .putfield 28, 3, 8, 4, 0, 0), (13, .aload_n 0, 1, 0, 0, 0, 0), (14, .getfield 22, 3, 8, 2, 3, 0), (17, .iconst 0, 1, 0, 0, 0, 0), (18, .aload_n 0, 1, 0, 0, 0, 0), (19, .getfield 25, 3, 8, 3, 3, 0), (22, .iconst 0, 1, 0, 0, 0, 0), (23, .iconst 4, 1, 0, 0, 0, 4), (24, .invokestatic 78, 3, 5, 0, 0, 0), (27, .return_, 1, 0, 0, 0, 0)]]
def zm_33 : zk_M := (⟨"BasketKeep$Planne\x72", "keepIfBette\x72", "(I)V"⟩, prog_8_method_5_code, 2, none, 8, 1, 48, 1, 1, zc_33, [])
/-- BasketKeep$Planner.thoughtsOf(LBasketKeep$State;I)I -/
def zc_34 : List (List zk_I) := [
  [(0, .iconst 0, 1, 0, 0, 0, 0), (1, .istore_n 2, 1, 0, 0, 0, 0), (2, .iconst 0, 1, 0, 0, 0, 0), (3, .istore_n 3, 1, 0, 0, 0, 0), (4, .iload_n 3, 1, 0, 0, 0, 0), (5, .iconst 5, 1, 0, 0, 0, 5), (6, .if_icmp .ge (26), 3, 32, 0, 0, 0), (9, .iload_n 1, 1, 0, 0, 0, 0), (10, .iload_n 3, 1, 0, 0, 0, 0), (11, .ishr, 1, 0, 0, 0, 0), (12, .iconst 1, 1, 0, 0, 0, 1), (13, .iand, 1, 0, 0, 0, 0), (14, .ifCond .eq (12), 3, 26, 0, 0, 0), (17, .iload_n 2, 1, 0, 0, 0, 0), (18, .aload_n 0, 1, 0, 0, 0, 0), (19, .getfield 64, 3, 4, 3, 3, 0), (22, .iload_n 3, 1, 0, 0, 0, 0), (23, .iaload, 1, 0, 0, 0, 0), (24, .ior, 1, 0, 0, 0, 0), (25, .istore_n 2, 1, 0, 0, 0, 0), (26, .iinc 3 1, 3, 0, 0, 0, 1), (29, .goto (-25), 3, 4, 0, 0, 0)],
  [(32, .iload_n 2, 1, 0, 0, 0, 0), (33, .ireturn, 1, 0, 0, 0, 0)]]
def zm_34 : zk_M := (⟨"BasketKeep$Planne\x72", "thoughtsOf", "(LBasketKeep$State;I)I"⟩, prog_8_method_8_code, 4, (some .int), 8, 0, 0, 2, 0, zc_34, [(4, [0, 1, 2, 3])])
/-- BasketKeep$Doubts.fittingSet(I)I -/
def zc_35 : List (List zk_I) := [
  [(0, .iload_n 1, 1, 0, 0, 0, 0), (1, .istore_n 2, 1, 0, 0, 0, 0), (2, .iconst 0, 1, 0, 0, 0, 0), (3, .istore_n 3, 1, 0, 0, 0, 0), (4, .iload_n 3, 1, 0, 0, 0, 0), (5, .bipush 16, 2, 0, 0, 0, 16), (7, .if_icmp .ge (29), 3, 36, 0, 0, 0), (10, .aload_n 0, 1, 0, 0, 0, 0), (11, .getfield 29, 3, 9, 3, 0, 0), (14, .iload_n 3, 1, 0, 0, 0, 0), (15, .ishr, 1, 0, 0, 0, 0), (16, .iconst 1, 1, 0, 0, 0, 1), (17, .iand, 1, 0, 0, 0, 0), (18, .ifCond .eq (12), 3, 30, 0, 0, 0), (21, .iload_n 2, 1, 0, 0, 0, 0), (22, .ifCond .ne (5), 3, 27, 0, 0, 0), (25, .iload_n 3, 1, 0, 0, 0, 0), (26, .ireturn, 1, 0, 0, 0, 0), (27, .iinc 2 (-1), 3, 0, 0, 0, (-1)), (30, .iinc 3 1, 3, 0, 0, 0, 1)],
  [(33, .goto (-29), 3, 4, 0, 0, 0), (36, .iconst (-1), 1, 0, 0, 0, (-1)), (37, .ireturn, 1, 0, 0, 0, 0)]]
def zm_35 : zk_M := (⟨"BasketKeep$Doubts", "fittingSet", "(I)I"⟩, prog_2_method_6_code, 4, (some .int), 9, 0, 0, 1, 1, zc_35, [(4, [0, 2, 3])])
/-- BasketKeep$Doubts.inAll()I -/
def zc_36 : List (List zk_I) := [
  [(0, .bipush 15, 2, 0, 0, 0, 15), (2, .istore_n 1, 1, 0, 0, 0, 0), (3, .iconst 0, 1, 0, 0, 0, 0), (4, .istore_n 2, 1, 0, 0, 0, 0), (5, .iload_n 2, 1, 0, 0, 0, 0), (6, .bipush 16, 2, 0, 0, 0, 16), (8, .if_icmp .ge (24), 3, 32, 0, 0, 0), (11, .aload_n 0, 1, 0, 0, 0, 0), (12, .getfield 29, 3, 9, 3, 0, 0), (15, .iload_n 2, 1, 0, 0, 0, 0), (16, .ishr, 1, 0, 0, 0, 0), (17, .iconst 1, 1, 0, 0, 0, 1), (18, .iand, 1, 0, 0, 0, 0), (19, .ifCond .eq (7), 3, 26, 0, 0, 0), (22, .iload_n 1, 1, 0, 0, 0, 0), (23, .iload_n 2, 1, 0, 0, 0, 0), (24, .iand, 1, 0, 0, 0, 0), (25, .istore_n 1, 1, 0, 0, 0, 0), (26, .iinc 2 1, 3, 0, 0, 0, 1), (29, .goto (-24), 3, 5, 0, 0, 0)],
  [(32, .aload_n 0, 1, 0, 0, 0, 0), (33, .getfield 29, 3, 9, 3, 0, 0), (36, .ifCond .ne (7), 3, 43, 0, 0, 0), (39, .iconst 0, 1, 0, 0, 0, 0), (40, .goto (4), 3, 44, 0, 0, 0), (43, .iload_n 1, 1, 0, 0, 0, 0), (44, .ireturn, 1, 0, 0, 0, 0)]]
def zm_36 : zk_M := (⟨"BasketKeep$Doubts", "inAll", "()I"⟩, prog_2_method_8_code, 3, (some .int), 9, 0, 0, 0, 1, zc_36, [(5, [0, 1, 2])])
/-- BasketKeep$Doubts.inSome()I -/
def zc_37 : List (List zk_I) := [
  [(0, .iconst 0, 1, 0, 0, 0, 0), (1, .istore_n 1, 1, 0, 0, 0, 0), (2, .iconst 0, 1, 0, 0, 0, 0), (3, .istore_n 2, 1, 0, 0, 0, 0), (4, .iload_n 2, 1, 0, 0, 0, 0), (5, .bipush 16, 2, 0, 0, 0, 16), (7, .if_icmp .ge (24), 3, 31, 0, 0, 0), (10, .aload_n 0, 1, 0, 0, 0, 0), (11, .getfield 29, 3, 9, 3, 0, 0), (14, .iload_n 2, 1, 0, 0, 0, 0), (15, .ishr, 1, 0, 0, 0, 0), (16, .iconst 1, 1, 0, 0, 0, 1), (17, .iand, 1, 0, 0, 0, 0), (18, .ifCond .eq (7), 3, 25, 0, 0, 0), (21, .iload_n 1, 1, 0, 0, 0, 0), (22, .iload_n 2, 1, 0, 0, 0, 0), (23, .ior, 1, 0, 0, 0, 0), (24, .istore_n 1, 1, 0, 0, 0, 0), (25, .iinc 2 1, 3, 0, 0, 0, 1), (28, .goto (-24), 3, 4, 0, 0, 0), (31, .iload_n 1, 1, 0, 0, 0, 0)],
  [(32, .ireturn, 1, 0, 0, 0, 0)]]
def zm_37 : zk_M := (⟨"BasketKeep$Doubts", "inSome", "()I"⟩, prog_2_method_7_code, 3, (some .int), 9, 0, 0, 0, 1, zc_37, [(4, [0, 1, 2])])
/-- BasketKeep$Doubts.thoughtsBy(LBasketKeep$Level;II)I -/
def zc_38 : List (List zk_I) := [
  [(0, .aload_n 0, 1, 0, 0, 0, 0), (1, .getfield 81, 3, 3, 7, 3, 0), (4, .iload_n 2, 1, 0, 0, 0, 0), (5, .iaload, 1, 0, 0, 0, 0), (6, .istore_n 3, 1, 0, 0, 0, 0), (7, .iconst 0, 1, 0, 0, 0, 0), (8, .istore 4, 2, 0, 0, 0, 0), (10, .iload 4, 2, 0, 0, 0, 0), (12, .aload_n 0, 1, 0, 0, 0, 0), (13, .getfield 35, 3, 3, 14, 0, 0), (16, .if_icmp .ge (41), 3, 57, 0, 0, 0), (19, .iload_n 1, 1, 0, 0, 0, 0), (20, .iload 4, 2, 0, 0, 0, 0), (22, .ishr, 1, 0, 0, 0, 0), (23, .iconst 1, 1, 0, 0, 0, 1), (24, .iand, 1, 0, 0, 0, 0), (25, .ifCond .eq (26), 3, 51, 0, 0, 0), (28, .aload_n 0, 1, 0, 0, 0, 0), (29, .getfield 84, 3, 3, 15, 3, 0)],
  [(32, .iload 4, 2, 0, 0, 0, 0), (34, .iaload, 1, 0, 0, 0, 0), (35, .iload_n 2, 1, 0, 0, 0, 0), (36, .if_icmp .ne (15), 3, 51, 0, 0, 0), (39, .iload_n 3, 1, 0, 0, 0, 0), (40, .iconst 1, 1, 0, 0, 0, 1), (41, .aload_n 0, 1, 0, 0, 0, 0), (42, .getfield 87, 3, 3, 16, 3, 0), (45, .iload 4, 2, 0, 0, 0, 0), (47, .iaload, 1, 0, 0, 0, 0), (48, .ishl, 1, 0, 0, 0, 0), (49, .ixor, 1, 0, 0, 0, 0), (50, .istore_n 3, 1, 0, 0, 0, 0), (51, .iinc 4 1, 3, 0, 0, 0, 1), (54, .goto (-44), 3, 10, 0, 0, 0), (57, .iload_n 3, 1, 0, 0, 0, 0), (58, .ireturn, 1, 0, 0, 0, 0)]]
def zm_38 : zk_M := (⟨"BasketKeep$Doubts", "thoughtsBy", "(LBasketKeep$Level;II)I"⟩, prog_2_method_5_code, 5, (some .int), 9, 0, 0, 3, 0, zc_38, [(10, [0, 1, 2, 3, 4])])
/-- BasketKeep$Hurry.commonDivisor(JJ)J -/
def zc_39 : List (List zk_I) := [
  [(0, .lload_n 0, 1, 0, 0, 0, 0), (1, .lstore 4, 2, 0, 0, 0, 0), (3, .lload_n 2, 1, 0, 0, 0, 0), (4, .lstore 6, 2, 0, 0, 0, 0), (6, .iconst 0, 1, 0, 0, 0, 0), (7, .istore 8, 2, 0, 0, 0, 0), (9, .iload 8, 2, 0, 0, 0, 0), (11, .sipush 200, 3, 0, 0, 0, 200), (14, .if_icmp .ge (31), 3, 45, 0, 0, 0), (17, .lload 6, 2, 0, 0, 0, 0), (19, .lconst 0, 1, 0, 0, 0, 0), (20, .lcmp, 1, 0, 0, 0, 0), (21, .ifCond .eq (24), 3, 45, 0, 0, 0), (24, .lload 4, 2, 0, 0, 0, 0), (26, .lload 6, 2, 0, 0, 0, 0), (28, .lrem, 1, 0, 0, 0, 0), (29, .lstore 9, 2, 0, 0, 0, 0), (31, .lload 6, 2, 0, 0, 0, 0)],
  [(33, .lstore 4, 2, 0, 0, 0, 0), (35, .lload 9, 2, 0, 0, 0, 0), (37, .lstore 6, 2, 0, 0, 0, 0), (39, .iinc 8 1, 3, 0, 0, 0, 1), (42, .goto (-33), 3, 9, 0, 0, 0), (45, .lload 4, 2, 0, 0, 0, 0), (47, .lreturn, 1, 0, 0, 0, 0)]]
def zm_39 : zk_M := (⟨"BasketKeep$Hurry", "commonDiviso\x72", "(JJ)J"⟩, prog_5_method_7_code, 11, (some .long), 10, 0, 0, 2, 0, zc_39, [(9, [4, 6, 8])])
/-- BasketKeep$Hurry.draw()I -/
def zc_40 : List (List zk_I) := [
  [(0, .aload_n 0, 1, 0, 0, 0, 0), (1, .bipush 75, 2, 0, 0, 0, 75), (3, .aload_n 0, 1, 0, 0, 0, 0), (4, .getfield 35, 3, 10, 6, 0, 0), (7, .imul, 1, 0, 0, 0, 0), (8, .bipush 74, 2, 0, 0, 0, 74), (10, .iadd, 1, 0, 0, 0, 0), (11, .ldc 105, 2, 0, 0, 0, 65537), (13, .irem, 1, 0, 0, 0, 0), (14, .putfield 35, 3, 10, 6, 0, 0), (17, .aload_n 0, 1, 0, 0, 0, 0), (18, .getfield 35, 3, 10, 6, 0, 0), (21, .ireturn, 1, 0, 0, 0, 0)]]
def zm_40 : zk_M := (⟨"BasketKeep$Hurry", "draw", "()I"⟩, prog_5_method_10_code, 1, (some .int), 10, 0, 0, 0, 1, zc_40, [])
/-- BasketKeep$Hurry.power(JI)J -/
def zc_41 : List (List zk_I) := [
  [(0, .lconst 1, 1, 0, 0, 0, 0), (1, .lstore_n 3, 1, 0, 0, 0, 0), (2, .iconst 0, 1, 0, 0, 0, 0), (3, .istore 5, 2, 0, 0, 0, 0), (5, .iload 5, 2, 0, 0, 0, 0), (7, .iload_n 2, 1, 0, 0, 0, 0), (8, .if_icmp .ge (13), 3, 21, 0, 0, 0), (11, .lload_n 3, 1, 0, 0, 0, 0), (12, .lload_n 0, 1, 0, 0, 0, 0), (13, .lmul, 1, 0, 0, 0, 0), (14, .lstore_n 3, 1, 0, 0, 0, 0), (15, .iinc 5 1, 3, 0, 0, 0, 1), (18, .goto (-13), 3, 5, 0, 0, 0), (21, .lload_n 3, 1, 0, 0, 0, 0), (22, .lreturn, 1, 0, 0, 0, 0)]]
def zm_41 : zk_M := (⟨"BasketKeep$Hurry", "powe\x72", "(JI)J"⟩, prog_5_method_5_code, 6, (some .long), 10, 0, 0, 2, 0, zc_41, [(5, [0, 2, 3, 5])])
/-- BasketKeepModel.anew()V -/
def zc_42 : List (List zk_I) := [
  [(0, .aload_n 0, 1, 0, 0, 0, 0), (1, .iconst 0, 1, 0, 0, 0, 0), (2, .putfield 62, 3, 11, 0, 0, 0), (5, .aload_n 0, 1, 0, 0, 0, 0), (6, .iconst 0, 1, 0, 0, 0, 0), (7, .putfield 65, 3, 11, 11, 0, 0), (10, .return_, 1, 0, 0, 0, 0)]]
def zm_42 : zk_M := (⟨"BasketKeepModel", "anew", "()V"⟩, prog_14_method_3_code, 1, none, 11, 0, 0, 0, 1, zc_42, [])
/-- BasketKeepModel.copy([II[III)V -/
def zc_43 : List (List zk_I) := [
  [(0, .iconst 0, 1, 0, 0, 0, 0), (1, .istore 5, 2, 0, 0, 0, 0), (3, .iload 5, 2, 0, 0, 0, 0), (5, .iload 4, 2, 0, 0, 0, 0), (7, .if_icmp .ge (21), 3, 28, 0, 0, 0), (10, .aload_n 2, 1, 0, 0, 0, 0), (11, .iload_n 3, 1, 0, 0, 0, 0), (12, .iload 5, 2, 0, 0, 0, 0), (14, .iadd, 1, 0, 0, 0, 0), (15, .aload_n 0, 1, 0, 0, 0, 0), (16, .iload_n 1, 1, 0, 0, 0, 0), (17, .iload 5, 2, 0, 0, 0, 0), (19, .iadd, 1, 0, 0, 0, 0), (20, .iaload, 1, 0, 0, 0, 0), (21, .iastore, 1, 0, 0, 0, 0), (22, .iinc 5 1, 3, 0, 0, 0, 1), (25, .goto (-22), 3, 3, 0, 0, 0), (28, .return_, 1, 0, 0, 0, 0)]]
def zm_43 : zk_M := (⟨"BasketKeepModel", "copy", "([II[III)V"⟩, prog_14_method_9_code, 6, none, 11, 0, 0, 5, 0, zc_43, [(3, [0, 1, 2, 3, 4, 5])])
/-- BasketKeepModel.digitOf(II)I -/
def zc_44 : List (List zk_I) := [
  [(0, .iload_n 1, 1, 0, 0, 0, 0), (1, .istore_n 3, 1, 0, 0, 0, 0), (2, .aload_n 0, 1, 0, 0, 0, 0), (3, .getfield 20, 3, 11, 15, 3, 0), (6, .iconst 3, 1, 0, 0, 0, 3), (7, .iaload, 1, 0, 0, 0, 0), (8, .iconst 1, 1, 0, 0, 0, 1), (9, .isub, 1, 0, 0, 0, 0), (10, .istore 4, 2, 0, 0, 0, 0), (12, .iload 4, 2, 0, 0, 0, 0), (14, .iload_n 2, 1, 0, 0, 0, 0), (15, .if_icmp .le (20), 3, 35, 0, 0, 0), (18, .iload_n 3, 1, 0, 0, 0, 0), (19, .aload_n 0, 1, 0, 0, 0, 0), (20, .getfield 20, 3, 11, 15, 3, 0), (23, .iconst 2, 1, 0, 0, 0, 2), (24, .iaload, 1, 0, 0, 0, 0), (25, .iconst 1, 1, 0, 0, 0, 1), (26, .iadd, 1, 0, 0, 0, 0), (27, .idiv, 1, 0, 0, 0, 0), (28, .istore_n 3, 1, 0, 0, 0, 0), (29, .iinc 4 (-1), 3, 0, 0, 0, (-1))],
  [(32, .goto (-20), 3, 12, 0, 0, 0), (35, .iload_n 3, 1, 0, 0, 0, 0), (36, .aload_n 0, 1, 0, 0, 0, 0), (37, .getfield 20, 3, 11, 15, 3, 0), (40, .iconst 2, 1, 0, 0, 0, 2), (41, .iaload, 1, 0, 0, 0, 0), (42, .iconst 1, 1, 0, 0, 0, 1), (43, .iadd, 1, 0, 0, 0, 0), (44, .irem, 1, 0, 0, 0, 0), (45, .ireturn, 1, 0, 0, 0, 0)]]
def zm_44 : zk_M := (⟨"BasketKeepModel", "digitOf", "(II)I"⟩, prog_14_method_78_code, 5, (some .int), 11, 0, 0, 2, 1, zc_44, [(12, [0, 2, 3, 4])])
/-- BasketKeepModel.fault()I -/
def zc_45 : List (List zk_I) := [
  [(0, .aload_n 0, 1, 0, 0, 0, 0), (1, .iconst 0, 1, 0, 0, 0, 0), (2, .putfield 62, 3, 11, 0, 0, 0), (5, .aload_n 0, 1, 0, 0, 0, 0), (6, .getfield 104, 3, 11, 9, 0, 0), (9, .ireturn, 1, 0, 0, 0, 0)]]
def zm_45 : zk_M := (⟨"BasketKeepModel", "fault", "()I"⟩, prog_14_method_41_code, 1, (some .int), 11, 0, 0, 0, 1, zc_45, [])
/-- BasketKeepModel.feed(IIIII)I -/
def zc_46 : List (List zk_I) := [
  [(0, .aload_n 0, 1, 0, 0, 0, 0), (1, .iconst 0, 1, 0, 0, 0, 0), (2, .putfield 62, 3, 11, 0, 0, 0), (5, .aload_n 0, 1, 0, 0, 0, 0), (6, .getfield 68, 3, 11, 2, 0, 0), (9, .bipush 20, 2, 0, 0, 0, 20), (11, .iadd, 1, 0, 0, 0, 0), (12, .sipush 900, 3, 0, 0, 0, 900), (15, .if_icmp .le (5), 3, 20, 0, 0, 0), (18, .iconst (-1), 1, 0, 0, 0, (-1)), (19, .ireturn, 1, 0, 0, 0, 0), (20, .iconst 0, 1, 0, 0, 0, 0), (21, .istore 6, 2, 0, 0, 0, 0), (23, .iload 6, 2, 0, 0, 0, 0), (25, .bipush 20, 2, 0, 0, 0, 20), (27, .if_icmp .ge (93), 3, 120, 0, 0, 0), (30, .iload 6, 2, 0, 0, 0, 0)],
  [(32, .iconst 4, 1, 0, 0, 0, 4), (33, .if_icmp .ge (7), 3, 40, 0, 0, 0), (36, .iload_n 1, 1, 0, 0, 0, 0), (37, .goto (39), 3, 76, 0, 0, 0), (40, .iload 6, 2, 0, 0, 0, 0), (42, .bipush 8, 2, 0, 0, 0, 8), (44, .if_icmp .ge (7), 3, 51, 0, 0, 0), (47, .iload_n 2, 1, 0, 0, 0, 0), (48, .goto (28), 3, 76, 0, 0, 0), (51, .iload 6, 2, 0, 0, 0, 0), (53, .bipush 12, 2, 0, 0, 0, 12), (55, .if_icmp .ge (7), 3, 62, 0, 0, 0), (58, .iload_n 3, 1, 0, 0, 0, 0), (59, .goto (17), 3, 76, 0, 0, 0), (62, .iload 6, 2, 0, 0, 0, 0)],
  [(64, .bipush 16, 2, 0, 0, 0, 16), (66, .if_icmp .ge (8), 3, 74, 0, 0, 0), (69, .iload 4, 2, 0, 0, 0, 0), (71, .goto (5), 3, 76, 0, 0, 0), (74, .iload 5, 2, 0, 0, 0, 0), (76, .istore 7, 2, 0, 0, 0, 0), (78, .aload_n 0, 1, 0, 0, 0, 0), (79, .getfield 7, 3, 11, 1, 3, 0), (82, .aload_n 0, 1, 0, 0, 0, 0), (83, .getfield 68, 3, 11, 2, 0, 0), (86, .iload 7, 2, 0, 0, 0, 0), (88, .bipush 24, 2, 0, 0, 0, 24), (90, .bipush 8, 2, 0, 0, 0, 8), (92, .iload 6, 2, 0, 0, 0, 0), (94, .iconst 4, 1, 0, 0, 0, 4), (95, .irem, 1, 0, 0, 0, 0)],
  [(96, .imul, 1, 0, 0, 0, 0), (97, .isub, 1, 0, 0, 0, 0), (98, .ishr, 1, 0, 0, 0, 0), (99, .sipush 255, 3, 0, 0, 0, 255), (102, .iand, 1, 0, 0, 0, 0), (103, .iastore, 1, 0, 0, 0, 0), (104, .aload_n 0, 1, 0, 0, 0, 0), (105, .dup, 1, 0, 0, 0, 0), (106, .getfield 68, 3, 11, 2, 0, 0), (109, .iconst 1, 1, 0, 0, 0, 1), (110, .iadd, 1, 0, 0, 0, 0), (111, .putfield 68, 3, 11, 2, 0, 0), (114, .iinc 6 1, 3, 0, 0, 0, 1), (117, .goto (-94), 3, 23, 0, 0, 0), (120, .aload_n 0, 1, 0, 0, 0, 0), (121, .getfield 68, 3, 11, 2, 0, 0), (124, .ireturn, 1, 0, 0, 0, 0)]]
def zm_46 : zk_M := (⟨"BasketKeepModel", "feed", "(IIIII)I"⟩, prog_14_method_11_code, 8, (some .int), 11, 0, 0, 5, 1, zc_46, [(23, [0, 1, 2, 3, 4, 5, 6])])
/-- BasketKeepModel.find()I -/
def zc_47 : List (List zk_I) := [
  [(0, .iconst 0, 1, 0, 0, 0, 0), (1, .istore_n 1, 1, 0, 0, 0, 0), (2, .iload_n 1, 1, 0, 0, 0, 0), (3, .bipush 17, 2, 0, 0, 0, 17), (5, .if_icmp .ge (98), 3, 103, 0, 0, 0), (8, .aload_n 0, 1, 0, 0, 0, 0), (9, .getfield 23, 3, 11, 16, 3, 0), (12, .bipush 53, 2, 0, 0, 0, 53), (14, .iload_n 1, 1, 0, 0, 0, 0), (15, .iadd, 1, 0, 0, 0, 0), (16, .iaload, 1, 0, 0, 0, 0), (17, .ifCond .le (23), 3, 40, 0, 0, 0), (20, .aload_n 0, 1, 0, 0, 0, 0), (21, .getfield 23, 3, 11, 16, 3, 0), (24, .bipush 53, 2, 0, 0, 0, 53), (26, .iload_n 1, 1, 0, 0, 0, 0), (27, .iadd, 1, 0, 0, 0, 0), (28, .iaload, 1, 0, 0, 0, 0), (29, .aload_n 0, 1, 0, 0, 0, 0), (30, .getfield 84, 3, 11, 8, 0, 0)],
  [(33, .if_icmp .ne (7), 3, 40, 0, 0, 0), (36, .iconst 1, 1, 0, 0, 0, 1), (37, .goto (4), 3, 41, 0, 0, 0), (40, .iconst 0, 1, 0, 0, 0, 0), (41, .istore_n 2, 1, 0, 0, 0, 0), (42, .iconst 0, 1, 0, 0, 0, 0), (43, .istore_n 3, 1, 0, 0, 0, 0), (44, .iload_n 3, 1, 0, 0, 0, 0), (45, .aload_n 0, 1, 0, 0, 0, 0), (46, .getfield 84, 3, 11, 8, 0, 0), (49, .if_icmp .ge (42), 3, 91, 0, 0, 0), (52, .iload_n 2, 1, 0, 0, 0, 0), (53, .ifCond .eq (38), 3, 91, 0, 0, 0), (56, .aload_n 0, 1, 0, 0, 0, 0), (57, .getfield 23, 3, 11, 16, 3, 0), (60, .bipush 70, 2, 0, 0, 0, 70), (62, .bipush 8, 2, 0, 0, 0, 8)],
  [(64, .iload_n 1, 1, 0, 0, 0, 0), (65, .imul, 1, 0, 0, 0, 0), (66, .iadd, 1, 0, 0, 0, 0), (67, .iload_n 3, 1, 0, 0, 0, 0), (68, .iadd, 1, 0, 0, 0, 0), (69, .iaload, 1, 0, 0, 0, 0), (70, .aload_n 0, 1, 0, 0, 0, 0), (71, .getfield 17, 3, 11, 12, 3, 0), (74, .iload_n 3, 1, 0, 0, 0, 0), (75, .iaload, 1, 0, 0, 0, 0), (76, .if_icmp .ne (7), 3, 83, 0, 0, 0), (79, .iconst 1, 1, 0, 0, 0, 1), (80, .goto (4), 3, 84, 0, 0, 0), (83, .iconst 0, 1, 0, 0, 0, 0), (84, .istore_n 2, 1, 0, 0, 0, 0), (85, .iinc 3 1, 3, 0, 0, 0, 1), (88, .goto (-44), 3, 44, 0, 0, 0), (91, .iload_n 2, 1, 0, 0, 0, 0), (92, .ifCond .eq (5), 3, 97, 0, 0, 0), (95, .iload_n 1, 1, 0, 0, 0, 0)],
  [(96, .ireturn, 1, 0, 0, 0, 0), (97, .iinc 1 1, 3, 0, 0, 0, 1), (100, .goto (-98), 3, 2, 0, 0, 0), (103, .iconst (-1), 1, 0, 0, 0, (-1)), (104, .ireturn, 1, 0, 0, 0, 0)]]
def zm_47 : zk_M := (⟨"BasketKeepModel", "find", "()I"⟩, prog_14_method_21_code, 4, (some .int), 11, 0, 0, 0, 1, zc_47, [(2, [0, 1]), (44, [0, 1, 2, 3])])
/-- BasketKeepModel.goodIn(I)I -/
def zc_48 : List (List zk_I) := [
  [(0, .iconst 0, 1, 0, 0, 0, 0), (1, .istore_n 2, 1, 0, 0, 0, 0), (2, .iload_n 2, 1, 0, 0, 0, 0), (3, .aload_n 0, 1, 0, 0, 0, 0), (4, .getfield 20, 3, 11, 15, 3, 0), (7, .iconst 3, 1, 0, 0, 0, 3), (8, .iaload, 1, 0, 0, 0, 0), (9, .if_icmp .ge (26), 3, 35, 0, 0, 0), (12, .aload_n 0, 1, 0, 0, 0, 0), (13, .getfield 32, 3, 11, 19, 3, 0), (16, .bipush 10, 2, 0, 0, 0, 10), (18, .iload_n 2, 1, 0, 0, 0, 0), (19, .iadd, 1, 0, 0, 0, 0), (20, .iaload, 1, 0, 0, 0, 0), (21, .iload_n 1, 1, 0, 0, 0, 0), (22, .iconst 1, 1, 0, 0, 0, 1), (23, .iadd, 1, 0, 0, 0, 0), (24, .if_icmp .ne (5), 3, 29, 0, 0, 0), (27, .iload_n 2, 1, 0, 0, 0, 0), (28, .ireturn, 1, 0, 0, 0, 0), (29, .iinc 2 1, 3, 0, 0, 0, 1)],
  [(32, .goto (-30), 3, 2, 0, 0, 0), (35, .bipush (-2), 2, 0, 0, 0, (-2)), (37, .ireturn, 1, 0, 0, 0, 0)]]
def zm_48 : zk_M := (⟨"BasketKeepModel", "goodIn", "(I)I"⟩, prog_14_method_61_code, 3, (some .int), 11, 0, 0, 1, 1, zc_48, [(2, [0, 1, 2])])
/-- BasketKeepModel.hasBit(II)Z -/
def zc_49 : List (List zk_I) := [
  [(0, .iload_n 0, 1, 0, 0, 0, 0), (1, .iload_n 1, 1, 0, 0, 0, 0), (2, .ishr, 1, 0, 0, 0, 0), (3, .iconst 1, 1, 0, 0, 0, 1), (4, .iand, 1, 0, 0, 0, 0), (5, .iconst 1, 1, 0, 0, 0, 1), (6, .if_icmp .ne (7), 3, 13, 0, 0, 0), (9, .iconst 1, 1, 0, 0, 0, 1), (10, .goto (4), 3, 14, 0, 0, 0), (13, .iconst 0, 1, 0, 0, 0, 0), (14, .ireturn, 1, 0, 0, 0, 0)]]
def zm_49 : zk_M := (⟨"BasketKeepModel", "hasBit", "(II)Z"⟩, prog_14_method_7_code, 2, (some .boolean), 11, 0, 0, 2, 0, zc_49, [])
/-- BasketKeepModel.holdsOf(IZZ)I -/
def zc_50 : List (List zk_I) := [
  [(0, .iload_n 1, 1, 0, 0, 0, 0), (1, .ifCond .eq (16), 3, 17, 0, 0, 0), (4, .iload_n 2, 1, 0, 0, 0, 0), (5, .ifCond .eq (8), 3, 13, 0, 0, 0), (8, .iload_n 0, 1, 0, 0, 0, 0), (9, .ineg, 1, 0, 0, 0, 0), (10, .goto (16), 3, 26, 0, 0, 0), (13, .iconst 3, 1, 0, 0, 0, 3), (14, .goto (12), 3, 26, 0, 0, 0), (17, .iload_n 2, 1, 0, 0, 0, 0), (18, .ifCond .eq (7), 3, 25, 0, 0, 0), (21, .iconst 1, 1, 0, 0, 0, 1), (22, .goto (4), 3, 26, 0, 0, 0), (25, .iconst 2, 1, 0, 0, 0, 2), (26, .ireturn, 1, 0, 0, 0, 0)]]
def zm_50 : zk_M := (⟨"BasketKeepModel", "holdsOf", "(IZZ)I"⟩, prog_14_method_105_code, 3, (some .int), 11, 0, 0, 3, 0, zc_50, [])
/-- BasketKeepModel.isDigit(I)Z -/
def zc_51 : List (List zk_I) := [
  [(0, .iload_n 0, 1, 0, 0, 0, 0), (1, .bipush 48, 2, 0, 0, 0, 48), (3, .if_icmp .lt (13), 3, 16, 0, 0, 0), (6, .iload_n 0, 1, 0, 0, 0, 0), (7, .bipush 57, 2, 0, 0, 0, 57), (9, .if_icmp .gt (7), 3, 16, 0, 0, 0), (12, .iconst 1, 1, 0, 0, 0, 1), (13, .goto (4), 3, 17, 0, 0, 0), (16, .iconst 0, 1, 0, 0, 0, 0), (17, .ireturn, 1, 0, 0, 0, 0)]]
def zm_51 : zk_M := (⟨"BasketKeepModel", "isDigit", "(I)Z"⟩, prog_14_method_14_code, 1, (some .boolean), 11, 0, 0, 1, 0, zc_51, [])
/-- BasketKeepModel.isNot(I)Z -/
def zc_52 : List (List zk_I) := [
  [(0, .aload_n 0, 1, 0, 0, 0, 0), (1, .iload_n 1, 1, 0, 0, 0, 0), (2, .putfield 65, 3, 11, 11, 0, 0), (5, .iconst 0, 1, 0, 0, 0, 0), (6, .ireturn, 1, 0, 0, 0, 0)]]
def zm_52 : zk_M := (⟨"BasketKeepModel", "isNot", "(I)Z"⟩, prog_14_method_5_code, 2, (some .boolean), 11, 0, 0, 1, 1, zc_52, [])
/-- BasketKeepModel.isSmall(I)Z -/
def zc_53 : List (List zk_I) := [
  [(0, .iload_n 0, 1, 0, 0, 0, 0), (1, .bipush 97, 2, 0, 0, 0, 97), (3, .if_icmp .lt (13), 3, 16, 0, 0, 0), (6, .iload_n 0, 1, 0, 0, 0, 0), (7, .bipush 122, 2, 0, 0, 0, 122), (9, .if_icmp .gt (7), 3, 16, 0, 0, 0), (12, .iconst 1, 1, 0, 0, 0, 1), (13, .goto (4), 3, 17, 0, 0, 0), (16, .iconst 0, 1, 0, 0, 0, 0), (17, .ireturn, 1, 0, 0, 0, 0)]]
def zm_53 : zk_M := (⟨"BasketKeepModel", "isSmall", "(I)Z"⟩, prog_14_method_13_code, 1, (some .boolean), 11, 0, 0, 1, 0, zc_53, [])
/-- BasketKeepModel.laidMany()I -/
def zc_54 : List (List zk_I) := [
  [(0, .iconst 0, 1, 0, 0, 0, 0), (1, .istore_n 1, 1, 0, 0, 0, 0), (2, .iconst 0, 1, 0, 0, 0, 0), (3, .istore_n 2, 1, 0, 0, 0, 0), (4, .iload_n 2, 1, 0, 0, 0, 0), (5, .aload_n 0, 1, 0, 0, 0, 0), (6, .getfield 20, 3, 11, 15, 3, 0), (9, .iconst 3, 1, 0, 0, 0, 3), (10, .iaload, 1, 0, 0, 0, 0), (11, .if_icmp .ge (29), 3, 40, 0, 0, 0), (14, .iload_n 1, 1, 0, 0, 0, 0), (15, .aload_n 0, 1, 0, 0, 0, 0), (16, .getfield 32, 3, 11, 19, 3, 0), (19, .bipush 10, 2, 0, 0, 0, 10), (21, .iload_n 2, 1, 0, 0, 0, 0), (22, .iadd, 1, 0, 0, 0, 0), (23, .iaload, 1, 0, 0, 0, 0), (24, .ifCond .le (7), 3, 31, 0, 0, 0), (27, .iconst 1, 1, 0, 0, 0, 1), (28, .goto (4), 3, 32, 0, 0, 0), (31, .iconst 0, 1, 0, 0, 0, 0)],
  [(32, .iadd, 1, 0, 0, 0, 0), (33, .istore_n 1, 1, 0, 0, 0, 0), (34, .iinc 2 1, 3, 0, 0, 0, 1), (37, .goto (-33), 3, 4, 0, 0, 0), (40, .iload_n 1, 1, 0, 0, 0, 0), (41, .ireturn, 1, 0, 0, 0, 0)]]
def zm_54 : zk_M := (⟨"BasketKeepModel", "laidMany", "()I"⟩, prog_14_method_126_code, 3, (some .int), 11, 0, 0, 0, 1, zc_54, [(4, [0, 1, 2])])
/-- BasketKeepModel.leavesOf(I)I -/
def zc_55 : List (List zk_I) := [
  [(0, .aload_n 0, 1, 0, 0, 0, 0), (1, .getfield 59, 3, 11, 32, 3, 0), (4, .iload_n 1, 1, 0, 0, 0, 0), (5, .iaload, 1, 0, 0, 0, 0), (6, .aload_n 0, 1, 0, 0, 0, 0), (7, .getfield 344, 3, 11, 33, 0, 0), (10, .aload_n 0, 1, 0, 0, 0, 0), (11, .getfield 59, 3, 11, 32, 3, 0), (14, .iload_n 1, 1, 0, 0, 0, 0), (15, .iaload, 1, 0, 0, 0, 0), (16, .isub, 1, 0, 0, 0, 0), (17, .if_icmp .le (12), 3, 29, 0, 0, 0), (20, .aload_n 0, 1, 0, 0, 0, 0), (21, .getfield 59, 3, 11, 32, 3, 0), (24, .iload_n 1, 1, 0, 0, 0, 0), (25, .iaload, 1, 0, 0, 0, 0), (26, .goto (14), 3, 40, 0, 0, 0), (29, .aload_n 0, 1, 0, 0, 0, 0), (30, .getfield 344, 3, 11, 33, 0, 0)],
  [(33, .aload_n 0, 1, 0, 0, 0, 0), (34, .getfield 59, 3, 11, 32, 3, 0), (37, .iload_n 1, 1, 0, 0, 0, 0), (38, .iaload, 1, 0, 0, 0, 0), (39, .isub, 1, 0, 0, 0, 0), (40, .ireturn, 1, 0, 0, 0, 0)]]
def zm_55 : zk_M := (⟨"BasketKeepModel", "leavesOf", "(I)I"⟩, prog_14_method_95_code, 2, (some .int), 11, 0, 0, 1, 1, zc_55, [])
/-- BasketKeepModel.lowest(JJZ)J -/
def zc_56 : List (List zk_I) := [
  [(0, .lload_n 2, 1, 0, 0, 0, 0), (1, .lstore 5, 2, 0, 0, 0, 0), (3, .lload_n 0, 1, 0, 0, 0, 0), (4, .lstore 7, 2, 0, 0, 0, 0), (6, .lload 7, 2, 0, 0, 0, 0), (8, .lconst 0, 1, 0, 0, 0, 0), (9, .lcmp, 1, 0, 0, 0, 0), (10, .ifCond .eq (21), 3, 31, 0, 0, 0), (13, .lload 5, 2, 0, 0, 0, 0), (15, .lload 7, 2, 0, 0, 0, 0), (17, .lrem, 1, 0, 0, 0, 0), (18, .lstore 9, 2, 0, 0, 0, 0), (20, .lload 7, 2, 0, 0, 0, 0), (22, .lstore 5, 2, 0, 0, 0, 0), (24, .lload 9, 2, 0, 0, 0, 0), (26, .lstore 7, 2, 0, 0, 0, 0), (28, .goto (-22), 3, 6, 0, 0, 0), (31, .iload 4, 2, 0, 0, 0, 0)],
  [(33, .ifCond .eq (7), 3, 40, 0, 0, 0), (36, .lload_n 2, 1, 0, 0, 0, 0), (37, .goto (4), 3, 41, 0, 0, 0), (40, .lload_n 0, 1, 0, 0, 0, 0), (41, .lload 5, 2, 0, 0, 0, 0), (43, .ldiv, 1, 0, 0, 0, 0), (44, .lreturn, 1, 0, 0, 0, 0)]]
def zm_56 : zk_M := (⟨"BasketKeepModel", "lowest", "(JJZ)J"⟩, prog_14_method_10_code, 11, (some .long), 11, 0, 0, 3, 0, zc_56, [(6, [0, 2, 4, 5, 7])])
/-- BasketKeepModel.no(I)I -/
def zc_57 : List (List zk_I) := [
  [(0, .aload_n 0, 1, 0, 0, 0, 0), (1, .iload_n 1, 1, 0, 0, 0, 0), (2, .putfield 65, 3, 11, 11, 0, 0), (5, .iconst (-1), 1, 0, 0, 0, (-1)), (6, .ireturn, 1, 0, 0, 0, 0)]]
def zm_57 : zk_M := (⟨"BasketKeepModel", "no", "(I)I"⟩, prog_14_method_4_code, 2, (some .int), 11, 0, 0, 1, 1, zc_57, [])
/-- BasketKeepModel.noSlips()V -/
def zc_58 : List (List zk_I) := [
  [(0, .iconst 0, 1, 0, 0, 0, 0), (1, .istore_n 1, 1, 0, 0, 0, 0), (2, .iload_n 1, 1, 0, 0, 0, 0), (3, .iconst 5, 1, 0, 0, 0, 5), (4, .if_icmp .ge (16), 3, 20, 0, 0, 0), (7, .aload_n 0, 1, 0, 0, 0, 0), (8, .getfield 44, 3, 11, 25, 3, 0), (11, .iload_n 1, 1, 0, 0, 0, 0), (12, .iconst 0, 1, 0, 0, 0, 0), (13, .iastore, 1, 0, 0, 0, 0), (14, .iinc 1 1, 3, 0, 0, 0, 1), (17, .goto (-15), 3, 2, 0, 0, 0), (20, .return_, 1, 0, 0, 0, 0)]]
def zm_58 : zk_M := (⟨"BasketKeepModel", "noSlips", "()V"⟩, prog_14_method_49_code, 2, none, 11, 0, 0, 0, 1, zc_58, [(2, [0, 1])])
/-- BasketKeepModel.ones(I)I -/
def zc_59 : List (List zk_I) := [
  [(0, .iconst 0, 1, 0, 0, 0, 0), (1, .istore_n 1, 1, 0, 0, 0, 0), (2, .iconst 0, 1, 0, 0, 0, 0), (3, .istore_n 2, 1, 0, 0, 0, 0), (4, .iload_n 2, 1, 0, 0, 0, 0), (5, .bipush 8, 2, 0, 0, 0, 8), (7, .if_icmp .ge (17), 3, 24, 0, 0, 0), (10, .iload_n 1, 1, 0, 0, 0, 0), (11, .iload_n 0, 1, 0, 0, 0, 0), (12, .iload_n 2, 1, 0, 0, 0, 0), (13, .ishr, 1, 0, 0, 0, 0), (14, .iconst 1, 1, 0, 0, 0, 1), (15, .iand, 1, 0, 0, 0, 0), (16, .iadd, 1, 0, 0, 0, 0), (17, .istore_n 1, 1, 0, 0, 0, 0), (18, .iinc 2 1, 3, 0, 0, 0, 1), (21, .goto (-17), 3, 4, 0, 0, 0), (24, .iload_n 1, 1, 0, 0, 0, 0), (25, .ireturn, 1, 0, 0, 0, 0)]]
def zm_59 : zk_M := (⟨"BasketKeepModel", "ones", "(I)I"⟩, prog_14_method_8_code, 3, (some .int), 11, 0, 0, 1, 0, zc_59, [(4, [0, 1, 2])])
/-- BasketKeepModel.see(I)I -/
def zc_60 : List (List zk_I) := [
  [(0, .iload_n 1, 1, 0, 0, 0, 0), (1, .aload_n 0, 1, 0, 0, 0, 0), (2, .getfield 71, 3, 11, 3, 0, 0), (5, .if_icmp .ge (12), 3, 17, 0, 0, 0), (8, .aload_n 0, 1, 0, 0, 0, 0), (9, .getfield 7, 3, 11, 1, 3, 0), (12, .iload_n 1, 1, 0, 0, 0, 0), (13, .iaload, 1, 0, 0, 0, 0), (14, .goto (4), 3, 18, 0, 0, 0), (17, .iconst (-1), 1, 0, 0, 0, (-1)), (18, .ireturn, 1, 0, 0, 0, 0)]]
def zm_60 : zk_M := (⟨"BasketKeepModel", "see", "(I)I"⟩, prog_14_method_12_code, 2, (some .int), 11, 0, 0, 1, 1, zc_60, [])
/-- BasketKeepModel.strikersIn(I)I -/
def zc_61 : List (List zk_I) := [
  [(0, .iconst 0, 1, 0, 0, 0, 0), (1, .istore_n 2, 1, 0, 0, 0, 0), (2, .iconst 0, 1, 0, 0, 0, 0), (3, .istore_n 3, 1, 0, 0, 0, 0), (4, .iload_n 3, 1, 0, 0, 0, 0), (5, .aload_n 0, 1, 0, 0, 0, 0), (6, .getfield 20, 3, 11, 15, 3, 0), (9, .iconst 1, 1, 0, 0, 0, 1), (10, .iaload, 1, 0, 0, 0, 0), (11, .if_icmp .ge (58), 3, 69, 0, 0, 0), (14, .iload_n 1, 1, 0, 0, 0, 0), (15, .aload_n 0, 1, 0, 0, 0, 0), (16, .getfield 20, 3, 11, 15, 3, 0), (19, .bipush 7, 2, 0, 0, 0, 7), (21, .iconst 2, 1, 0, 0, 0, 2), (22, .iload_n 3, 1, 0, 0, 0, 0), (23, .imul, 1, 0, 0, 0, 0), (24, .iadd, 1, 0, 0, 0, 0), (25, .iconst 1, 1, 0, 0, 0, 1), (26, .iadd, 1, 0, 0, 0, 0), (27, .iaload, 1, 0, 0, 0, 0), (28, .isub, 1, 0, 0, 0, 0), (29, .istore 4, 2, 0, 0, 0, 0), (31, .iload_n 2, 1, 0, 0, 0, 0)],
  [(32, .iload 4, 2, 0, 0, 0, 0), (34, .ifCond .lt (26), 3, 60, 0, 0, 0), (37, .iload 4, 2, 0, 0, 0, 0), (39, .aload_n 0, 1, 0, 0, 0, 0), (40, .getfield 20, 3, 11, 15, 3, 0), (43, .bipush 7, 2, 0, 0, 0, 7), (45, .iconst 2, 1, 0, 0, 0, 2), (46, .iload_n 3, 1, 0, 0, 0, 0), (47, .imul, 1, 0, 0, 0, 0), (48, .iadd, 1, 0, 0, 0, 0), (49, .iaload, 1, 0, 0, 0, 0), (50, .irem, 1, 0, 0, 0, 0), (51, .ifCond .ne (9), 3, 60, 0, 0, 0), (54, .iconst 1, 1, 0, 0, 0, 1), (55, .iload_n 3, 1, 0, 0, 0, 0), (56, .ishl, 1, 0, 0, 0, 0), (57, .goto (4), 3, 61, 0, 0, 0), (60, .iconst 0, 1, 0, 0, 0, 0), (61, .ior, 1, 0, 0, 0, 0), (62, .istore_n 2, 1, 0, 0, 0, 0), (63, .iinc 3 1, 3, 0, 0, 0, 1)],
  [(66, .goto (-62), 3, 4, 0, 0, 0), (69, .iload_n 2, 1, 0, 0, 0, 0), (70, .ireturn, 1, 0, 0, 0, 0)]]
def zm_61 : zk_M := (⟨"BasketKeepModel", "strikersIn", "(I)I"⟩, prog_14_method_48_code, 5, (some .int), 11, 0, 0, 1, 1, zc_61, [(4, [0, 1, 2, 3])])
/-- BasketKeepModel.thrown()I -/
def zc_62 : List (List zk_I) := [
  [(0, .aload_n 0, 1, 0, 0, 0, 0), (1, .getfield 62, 3, 11, 0, 0, 0), (4, .ireturn, 1, 0, 0, 0, 0)]]
def zm_62 : zk_M := (⟨"BasketKeepModel", "thrown", "()I"⟩, prog_14_method_2_code, 1, (some .int), 11, 0, 0, 0, 1, zc_62, [])
/-- BasketKeepModel.trouble()I -/
def zc_63 : List (List zk_I) := [
  [(0, .aload_n 0, 1, 0, 0, 0, 0), (1, .iconst 0, 1, 0, 0, 0, 0), (2, .putfield 62, 3, 11, 0, 0, 0), (5, .aload_n 0, 1, 0, 0, 0, 0), (6, .getfield 65, 3, 11, 11, 0, 0), (9, .ireturn, 1, 0, 0, 0, 0)]]
def zm_63 : zk_M := (⟨"BasketKeepModel", "trouble", "()I"⟩, prog_14_method_128_code, 1, (some .int), 11, 0, 0, 0, 1, zc_63, [])
/-- BasketKeepModel.weaveOf(II)J -/
def zc_64 : List (List zk_I) := [
  [(0, .lconst 1, 1, 0, 0, 0, 0), (1, .lstore_n 2, 1, 0, 0, 0, 0), (2, .lconst 0, 1, 0, 0, 0, 0), (3, .lstore 4, 2, 0, 0, 0, 0), (5, .iconst 1, 1, 0, 0, 0, 1), (6, .istore 6, 2, 0, 0, 0, 0), (8, .iload 6, 2, 0, 0, 0, 0), (10, .iload_n 0, 1, 0, 0, 0, 0), (11, .if_icmp .ge (32), 3, 43, 0, 0, 0), (14, .lload 4, 2, 0, 0, 0, 0), (16, .lstore 7, 2, 0, 0, 0, 0), (18, .iload_n 1, 1, 0, 0, 0, 0), (19, .iconst 1, 1, 0, 0, 0, 1), (20, .isub, 1, 0, 0, 0, 0), (21, .i2l, 1, 0, 0, 0, 0), (22, .lload_n 2, 1, 0, 0, 0, 0), (23, .lmul, 1, 0, 0, 0, 0), (24, .iload_n 1, 1, 0, 0, 0, 0), (25, .iconst 2, 1, 0, 0, 0, 2), (26, .isub, 1, 0, 0, 0, 0), (27, .i2l, 1, 0, 0, 0, 0), (28, .lload 4, 2, 0, 0, 0, 0), (30, .lmul, 1, 0, 0, 0, 0), (31, .ladd, 1, 0, 0, 0, 0)],
  [(32, .lstore 4, 2, 0, 0, 0, 0), (34, .lload 7, 2, 0, 0, 0, 0), (36, .lstore_n 2, 1, 0, 0, 0, 0), (37, .iinc 6 1, 3, 0, 0, 0, 1), (40, .goto (-32), 3, 8, 0, 0, 0), (43, .lload 4, 2, 0, 0, 0, 0), (45, .lreturn, 1, 0, 0, 0, 0)]]
def zm_64 : zk_M := (⟨"BasketKeepModel", "weaveOf", "(II)J"⟩, prog_14_method_100_code, 9, (some .long), 11, 0, 0, 2, 0, zc_64, [(8, [0, 1, 2, 4, 6])])
/-- BasketKeepModel.where()I -/
def zc_65 : List (List zk_I) := [
  [(0, .aload_n 0, 1, 0, 0, 0, 0), (1, .iconst 0, 1, 0, 0, 0, 0), (2, .putfield 62, 3, 11, 0, 0, 0), (5, .aload_n 0, 1, 0, 0, 0, 0), (6, .getfield 65, 3, 11, 11, 0, 0), (9, .iconst 4, 1, 0, 0, 0, 4), (10, .if_icmp .ne (10), 3, 20, 0, 0, 0), (13, .aload_n 0, 1, 0, 0, 0, 0), (14, .getfield 13, 3, 11, 10, 0, 0), (17, .goto (4), 3, 21, 0, 0, 0), (20, .iconst (-1), 1, 0, 0, 0, (-1)), (21, .ireturn, 1, 0, 0, 0, 0)]]
def zm_65 : zk_M := (⟨"BasketKeepModel", "where", "()I"⟩, prog_14_method_42_code, 1, (some .int), 11, 0, 0, 0, 1, zc_65, [])
/-- BasketKeepModel.why(ZZ)I -/
def zc_66 : List (List zk_I) := [
  [(0, .iload_n 1, 1, 0, 0, 0, 0), (1, .ifCond .ne (7), 3, 8, 0, 0, 0), (4, .iconst 1, 1, 0, 0, 0, 1), (5, .goto (12), 3, 17, 0, 0, 0), (8, .iload_n 2, 1, 0, 0, 0, 0), (9, .ifCond .eq (7), 3, 16, 0, 0, 0), (12, .iconst 0, 1, 0, 0, 0, 0), (13, .goto (4), 3, 17, 0, 0, 0), (16, .iconst 2, 1, 0, 0, 0, 2), (17, .ireturn, 1, 0, 0, 0, 0)]]
def zm_66 : zk_M := (⟨"BasketKeepModel", "why", "(ZZ)I"⟩, prog_14_method_46_code, 3, (some .int), 11, 0, 0, 2, 1, zc_66, [])
/-- BasketKeepModel.within(III)Z -/
def zc_67 : List (List zk_I) := [
  [(0, .iload_n 0, 1, 0, 0, 0, 0), (1, .iload_n 1, 1, 0, 0, 0, 0), (2, .if_icmp .lt (12), 3, 14, 0, 0, 0), (5, .iload_n 0, 1, 0, 0, 0, 0), (6, .iload_n 2, 1, 0, 0, 0, 0), (7, .if_icmp .gt (7), 3, 14, 0, 0, 0), (10, .iconst 1, 1, 0, 0, 0, 1), (11, .goto (4), 3, 15, 0, 0, 0), (14, .iconst 0, 1, 0, 0, 0, 0), (15, .ireturn, 1, 0, 0, 0, 0)]]
def zm_67 : zk_M := (⟨"BasketKeepModel", "within", "(III)Z"⟩, prog_14_method_6_code, 3, (some .boolean), 11, 0, 0, 3, 0, zc_67, [])
/-- BasketKeepModel.wrong(II)V -/
def zc_68 : List (List zk_I) := [
  [(0, .aload_n 0, 1, 0, 0, 0, 0), (1, .getfield 100, 3, 11, 13, 1, 0), (4, .ifCond .eq (4), 3, 8, 0, 0, 0), (7, .return_, 1, 0, 0, 0, 0), (8, .aload_n 0, 1, 0, 0, 0, 0), (9, .iconst 1, 1, 0, 0, 0, 1), (10, .putfield 100, 3, 11, 13, 1, 0), (13, .aload_n 0, 1, 0, 0, 0, 0), (14, .iload_n 1, 1, 0, 0, 0, 0), (15, .putfield 104, 3, 11, 9, 0, 0), (18, .aload_n 0, 1, 0, 0, 0, 0), (19, .iload_n 2, 1, 0, 0, 0, 0), (20, .putfield 13, 3, 11, 10, 0, 0), (23, .return_, 1, 0, 0, 0, 0)]]
def zm_68 : zk_M := (⟨"BasketKeepModel", "wrong", "(II)V"⟩, prog_14_method_16_code, 3, none, 11, 0, 0, 2, 1, zc_68, [])
/-- BasketKeep$Gate.share(IZZ)I -/
def zc_69 : List (List zk_I) := [
  [(0, .iload_n 1, 1, 0, 0, 0, 0), (1, .ifCond .eq (14), 3, 15, 0, 0, 0), (4, .iload_n 2, 1, 0, 0, 0, 0), (5, .ifCond .eq (8), 3, 13, 0, 0, 0), (8, .iload_n 0, 1, 0, 0, 0, 0), (9, .ineg, 1, 0, 0, 0, 0), (10, .goto (4), 3, 14, 0, 0, 0), (13, .iconst 3, 1, 0, 0, 0, 3), (14, .ireturn, 1, 0, 0, 0, 0), (15, .iload_n 2, 1, 0, 0, 0, 0), (16, .ifCond .eq (7), 3, 23, 0, 0, 0), (19, .iconst 1, 1, 0, 0, 0, 1), (20, .goto (4), 3, 24, 0, 0, 0), (23, .iconst 2, 1, 0, 0, 0, 2), (24, .ireturn, 1, 0, 0, 0, 0)]]
def zm_69 : zk_M := (⟨"BasketKeep$Gate", "share", "(IZZ)I"⟩, prog_3_method_2_code, 3, (some .int), 14, 0, 0, 3, 0, zc_69, [])
/-- java/lang/Integer.bitCount(I)I -/
def zc_70 : List (List zk_I) := [
  [(0, .iload_n 0, 1, 0, 0, 0, 0), (1, .iload_n 0, 1, 0, 0, 0, 0), (2, .iconst 1, 1, 0, 0, 0, 1), (3, .iushr, 1, 0, 0, 0, 0), (4, .ldc_w 265, 3, 0, 0, 0, 1431655765), (7, .iand, 1, 0, 0, 0, 0), (8, .isub, 1, 0, 0, 0, 0), (9, .istore_n 0, 1, 0, 0, 0, 0), (10, .iload_n 0, 1, 0, 0, 0, 0), (11, .ldc_w 266, 3, 0, 0, 0, 858993459), (14, .iand, 1, 0, 0, 0, 0), (15, .iload_n 0, 1, 0, 0, 0, 0), (16, .iconst 2, 1, 0, 0, 0, 2), (17, .iushr, 1, 0, 0, 0, 0), (18, .ldc_w 266, 3, 0, 0, 0, 858993459), (21, .iand, 1, 0, 0, 0, 0), (22, .iadd, 1, 0, 0, 0, 0), (23, .istore_n 0, 1, 0, 0, 0, 0), (24, .iload_n 0, 1, 0, 0, 0, 0), (25, .iload_n 0, 1, 0, 0, 0, 0), (26, .iconst 4, 1, 0, 0, 0, 4), (27, .iushr, 1, 0, 0, 0, 0), (28, .iadd, 1, 0, 0, 0, 0), (29, .ldc_w 267, 3, 0, 0, 0, 252645135)],
  [(32, .iand, 1, 0, 0, 0, 0), (33, .istore_n 0, 1, 0, 0, 0, 0), (34, .iload_n 0, 1, 0, 0, 0, 0), (35, .iload_n 0, 1, 0, 0, 0, 0), (36, .bipush 8, 2, 0, 0, 0, 8), (38, .iushr, 1, 0, 0, 0, 0), (39, .iadd, 1, 0, 0, 0, 0), (40, .istore_n 0, 1, 0, 0, 0, 0), (41, .iload_n 0, 1, 0, 0, 0, 0), (42, .iload_n 0, 1, 0, 0, 0, 0), (43, .bipush 16, 2, 0, 0, 0, 16), (45, .iushr, 1, 0, 0, 0, 0), (46, .iadd, 1, 0, 0, 0, 0), (47, .istore_n 0, 1, 0, 0, 0, 0), (48, .iload_n 0, 1, 0, 0, 0, 0), (49, .bipush 63, 2, 0, 0, 0, 63), (51, .iand, 1, 0, 0, 0, 0), (52, .ireturn, 1, 0, 0, 0, 0)]]
def zm_70 : zk_M := (⟨"java/lang/Intege\x72", "bitCount", "(I)I"⟩, prog_19_method_49_code, 1, (some .int), 15, 0, 0, 1, 0, zc_70, [])
/-- java/lang/Math.max(II)I -/
def zc_71 : List (List zk_I) := [
  [(0, .iload_n 0, 1, 0, 0, 0, 0), (1, .iload_n 1, 1, 0, 0, 0, 0), (2, .if_icmp .lt (7), 3, 9, 0, 0, 0), (5, .iload_n 0, 1, 0, 0, 0, 0), (6, .goto (4), 3, 10, 0, 0, 0), (9, .iload_n 1, 1, 0, 0, 0, 0), (10, .ireturn, 1, 0, 0, 0, 0)]]
def zm_71 : zk_M := (⟨"java/lang/Math", "max", "(II)I"⟩, prog_20_method_65_code, 2, (some .int), 16, 0, 0, 2, 0, [], [])
/-- java/lang/Math.min(II)I -/
def zc_72 : List (List zk_I) := [
  [(0, .iload_n 0, 1, 0, 0, 0, 0), (1, .iload_n 1, 1, 0, 0, 0, 0), (2, .if_icmp .gt (7), 3, 9, 0, 0, 0), (5, .iload_n 0, 1, 0, 0, 0, 0), (6, .goto (4), 3, 10, 0, 0, 0), (9, .iload_n 1, 1, 0, 0, 0, 0), (10, .ireturn, 1, 0, 0, 0, 0)]]
def zm_72 : zk_M := (⟨"java/lang/Math", "min", "(II)I"⟩, prog_20_method_69_code, 2, (some .int), 16, 0, 0, 2, 0, [], [])
/-- java/util/Arrays.fill([II)V -/
def zc_73 : List (List zk_I) := [
  [(0, .iconst 0, 1, 0, 0, 0, 0), (1, .istore_n 2, 1, 0, 0, 0, 0), (2, .aload_n 0, 1, 0, 0, 0, 0), (3, .arraylength, 1, 0, 0, 0, 0), (4, .istore_n 3, 1, 0, 0, 0, 0), (5, .iload_n 2, 1, 0, 0, 0, 0), (6, .iload_n 3, 1, 0, 0, 0, 0), (7, .if_icmp .ge (13), 3, 20, 0, 0, 0), (10, .aload_n 0, 1, 0, 0, 0, 0), (11, .iload_n 2, 1, 0, 0, 0, 0), (12, .iload_n 1, 1, 0, 0, 0, 0), (13, .iastore, 1, 0, 0, 0, 0), (14, .iinc 2 1, 3, 0, 0, 0, 1), (17, .goto (-12), 3, 5, 0, 0, 0), (20, .return_, 1, 0, 0, 0, 0)]]
def zm_73 : zk_M := (⟨"java/util/Arrays", "fill", "([II)V"⟩, prog_29_method_103_code, 4, none, 17, 0, 0, 2, 0, zc_73, [(5, [0, 1, 2, 3])])
/-- BasketKeep.couldLie(II)Z -/
def zc_74 : List (List zk_I) := [
  [(0, .aload_n 0, 1, 0, 0, 0, 0), (1, .getfield 30, 3, 0, 3, 3, 0), (4, .iload_n 2, 1, 0, 0, 0, 0), (5, .aload_n 0, 1, 0, 0, 0, 0), (6, .getfield 19, 3, 0, 1, 3, 0), (9, .getfield 117, 3, 3, 8, 0, 0), (12, .invokevirtual 162, 3, 104, 23, 2, 0), (15, .istore_n 3, 1, 0, 0, 0, 0), (16, .aload_n 0, 1, 0, 0, 0, 0), (17, .getfield 30, 3, 0, 3, 3, 0), (20, .iload_n 1, 1, 0, 0, 0, 0), (21, .invokevirtual 177, 3, 104, 25, 1, 0), (24, .ifCond .ne (27), 3, 51, 0, 0, 0), (27, .iload_n 3, 1, 0, 0, 0, 0), (28, .ifCond .lt (19), 3, 47, 0, 0, 0), (31, .iload_n 3, 1, 0, 0, 0, 0)],
  [(32, .iload_n 1, 1, 0, 0, 0, 0), (33, .if_icmp .eq (14), 3, 47, 0, 0, 0), (36, .aload_n 0, 1, 0, 0, 0, 0), (37, .getfield 30, 3, 0, 3, 3, 0), (40, .iload_n 3, 1, 0, 0, 0, 0), (41, .invokevirtual 177, 3, 104, 25, 1, 0), (44, .ifCond .eq (7), 3, 51, 0, 0, 0), (47, .iconst 1, 1, 0, 0, 0, 1), (48, .goto (4), 3, 52, 0, 0, 0), (51, .iconst 0, 1, 0, 0, 0, 0), (52, .ireturn, 1, 0, 0, 0, 0)]]
def zm_74 : zk_M := (⟨"BasketKeep", "couldLie", "(II)Z"⟩, prog_1_method_27_code, 4, (some .boolean), 0, 1, 23, 2, 1, zc_74, [])
/-- BasketKeep.feed(IIIII)I -/
def zc_75 : List (List zk_I) := [
  [(0, .aload_n 0, 1, 0, 0, 0, 0), (1, .getfield 10, 3, 0, 0, 3, 0), (4, .getfield 80, 3, 1, 0, 3, 0), (7, .astore 6, 2, 0, 0, 0, 0), (9, .aload 6, 2, 0, 0, 0, 0), (11, .getfield 84, 3, 2, 1, 0, 0), (14, .bipush 20, 2, 0, 0, 0, 20), (16, .iadd, 1, 0, 0, 0, 0), (17, .sipush 900, 3, 0, 0, 0, 900), (20, .if_icmp .le (5), 3, 25, 0, 0, 0), (23, .iconst (-1), 1, 0, 0, 0, (-1)), (24, .ireturn, 1, 0, 0, 0, 0), (25, .aload 6, 2, 0, 0, 0, 0), (27, .iload_n 1, 1, 0, 0, 0, 0), (28, .invokevirtual 89, 3, 102, 13, 1, 0), (31, .aload 6, 2, 0, 0, 0, 0)],
  [(33, .iload_n 2, 1, 0, 0, 0, 0), (34, .invokevirtual 89, 3, 102, 13, 1, 0), (37, .aload 6, 2, 0, 0, 0, 0), (39, .iload_n 3, 1, 0, 0, 0, 0), (40, .invokevirtual 89, 3, 102, 13, 1, 0), (43, .aload 6, 2, 0, 0, 0, 0), (45, .iload 4, 2, 0, 0, 0, 0), (47, .invokevirtual 89, 3, 102, 13, 1, 0), (50, .aload 6, 2, 0, 0, 0, 0), (52, .iload 5, 2, 0, 0, 0, 0), (54, .invokevirtual 89, 3, 102, 13, 1, 0), (57, .aload 6, 2, 0, 0, 0, 0), (59, .getfield 84, 3, 2, 1, 0, 0), (62, .ireturn, 1, 0, 0, 0, 0)]]
def zm_75 : zk_M := (⟨"BasketKeep", "feed", "(IIIII)I"⟩, prog_1_method_2_code, 7, (some .int), 0, 1, 22, 5, 1, zc_75, [])
