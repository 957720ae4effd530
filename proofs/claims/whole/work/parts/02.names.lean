/-! names of classes by their numbers; fields; the words that every method may use -/
def zk_cn (k : Nat) : String := match k with
  | 0 => "BasketKeep"
  | 1 => "BasketKeep$Reade\x72"
  | 2 => "BasketKeep$Tape"
  | 3 => "BasketKeep$Level"
  | 4 => "BasketKeep$State"
  | 5 => "BasketKeep$History"
  | 6 => "BasketKeep$Outlook"
  | 7 => "BasketKeep$Walk"
  | 8 => "BasketKeep$Planne\x72"
  | 9 => "BasketKeep$Doubts"
  | 10 => "BasketKeep$Hurry"
  | 11 => "BasketKeepModel"
  | 12 => "java/util/NoSuchElementException"
  | 13 => "BasketKeepLaw"
  | 14 => "BasketKeep$Gate"
  | 15 => "java/lang/Intege\x72"
  | 16 => "java/lang/Math"
  | 17 => "java/util/Arrays"
  | _ => "java/lang/String"
def zk_T0 : u_T := fun k => match k with
  | 0 => ("BasketKeep", "reade\x72", "LBasketKeep$Reader;", true)
  | 1 => ("BasketKeep", "told", "LBasketKeep$Level;", true)
  | 2 => ("BasketKeep", "standing", "Z", false)
  | 3 => ("BasketKeep", "now", "LBasketKeep$State;", true)
  | 4 => ("BasketKeep", "tried", "LBasketKeep$State;", true)
  | 5 => ("BasketKeep", "history", "LBasketKeep$History;", true)
  | 6 => ("BasketKeep", "outlook", "LBasketKeep$Outlook;", true)
  | 7 => ("BasketKeep", "planne\x72", "LBasketKeep$Planner;", true)
  | 8 => ("BasketKeep", "doubts", "LBasketKeep$Doubts;", true)
  | 9 => ("BasketKeep", "hurry", "LBasketKeep$Hurry;", true)
  | 10 => ("BasketKeep", "noSlips", "[I", true)
  | _ => ("BasketKeep", "lastTrouble", "I", false)
def zk_t0 : Nat → FieldType := fun k => match k with
  | 0 => .object "BasketKeep$Reade\x72"
  | 1 => .object "BasketKeep$Level"
  | 2 => .boolean
  | 3 => .object "BasketKeep$State"
  | 4 => .object "BasketKeep$State"
  | 5 => .object "BasketKeep$History"
  | 6 => .object "BasketKeep$Outlook"
  | 7 => .object "BasketKeep$Planne\x72"
  | 8 => .object "BasketKeep$Doubts"
  | 9 => .object "BasketKeep$Hurry"
  | 10 => .array .int
  | _ => .int
def zk_T1 : u_T := fun k => match k with
  | 0 => ("BasketKeep$Reade\x72", "tape", "LBasketKeep$Tape;", true)
  | 1 => ("BasketKeep$Reade\x72", "level", "LBasketKeep$Level;", true)
  | 2 => ("BasketKeep$Reade\x72", "begun", "Z", false)
  | 3 => ("BasketKeep$Reade\x72", "lineWords", "[J", true)
  | 4 => ("BasketKeep$Reade\x72", "names", "[J", true)
  | 5 => ("BasketKeep$Reade\x72", "nameSorts", "[I", true)
  | 6 => ("BasketKeep$Reade\x72", "nameNumbers", "[I", true)
  | 7 => ("BasketKeep$Reade\x72", "nameCount", "I", false)
  | 8 => ("BasketKeep$Reade\x72", "taken", "I", false)
  | 9 => ("BasketKeep$Reade\x72", "fault", "I", false)
  | _ => ("BasketKeep$Reade\x72", "place", "I", false)
def zk_t1 : Nat → FieldType := fun k => match k with
  | 0 => .object "BasketKeep$Tape"
  | 1 => .object "BasketKeep$Level"
  | 2 => .boolean
  | 3 => .array .long
  | 4 => .array .long
  | 5 => .array .int
  | 6 => .array .int
  | 7 => .int
  | 8 => .int
  | 9 => .int
  | _ => .int
def zk_T2 : u_T := fun k => match k with
  | 0 => ("BasketKeep$Tape", "bytes", "[B", true)
  | 1 => ("BasketKeep$Tape", "length", "I", false)
  | 2 => ("BasketKeep$Tape", "end", "I", false)
  | 3 => ("BasketKeep$Tape", "next", "I", false)
  | 4 => ("BasketKeep$Tape", "sort", "I", false)
  | 5 => ("BasketKeep$Tape", "start", "I", false)
  | _ => ("BasketKeep$Tape", "value", "J", false)
def zk_t2 : Nat → FieldType := fun k => match k with
  | 0 => .array .byte
  | 1 => .int
  | 2 => .int
  | 3 => .int
  | 4 => .int
  | 5 => .int
  | _ => .long
def zk_T3 : u_T := fun k => match k with
  | 0 => ("BasketKeep$Level", "hurry", "I", false)
  | 1 => ("BasketKeep$Level", "dangers", "I", false)
  | 2 => ("BasketKeep$Level", "every", "[I", true)
  | 3 => ("BasketKeep$Level", "from", "[I", true)
  | 4 => ("BasketKeep$Level", "makers", "I", false)
  | 5 => ("BasketKeep$Level", "kind", "[I", true)
  | 6 => ("BasketKeep$Level", "lasts", "[I", true)
  | 7 => ("BasketKeep$Level", "thinks", "[I", true)
  | 8 => ("BasketKeep$Level", "goods", "I", false)
  | 9 => ("BasketKeep$Level", "worths", "[I", true)
  | 10 => ("BasketKeep$Level", "fears", "[I", true)
  | 11 => ("BasketKeep$Level", "lies", "[I", true)
  | 12 => ("BasketKeep$Level", "befell", "[I", true)
  | 13 => ("BasketKeep$Level", "befalls", "I", false)
  | 14 => ("BasketKeep$Level", "unsures", "I", false)
  | 15 => ("BasketKeep$Level", "unsureMake\x72", "[I", true)
  | _ => ("BasketKeep$Level", "unsureDange\x72", "[I", true)
def zk_t3 : Nat → FieldType := fun k => match k with
  | 0 => .int
  | 1 => .int
  | 2 => .array .int
  | 3 => .array .int
  | 4 => .int
  | 5 => .array .int
  | 6 => .array .int
  | 7 => .array .int
  | 8 => .int
  | 9 => .array .int
  | 10 => .array .int
  | 11 => .array .int
  | 12 => .array .int
  | 13 => .int
  | 14 => .int
  | 15 => .array .int
  | _ => .array .int
def zk_T4 : u_T := fun k => match k with
  | 0 => ("BasketKeep$State", "years", "I", false)
  | 1 => ("BasketKeep$State", "lost", "I", false)
  | 2 => ("BasketKeep$State", "lies", "[I", true)
  | 3 => ("BasketKeep$State", "thinks", "[I", true)
  | _ => ("BasketKeep$State", "lasts", "[I", true)
def zk_t4 : Nat → FieldType := fun k => match k with
  | 0 => .int
  | 1 => .int
  | 2 => .array .int
  | 3 => .array .int
  | _ => .array .int
def zk_T5 : u_T := fun k => match k with
  | 0 => ("BasketKeep$History", "before", "[I", true)
  | 1 => ("BasketKeep$History", "next", "I", false)
  | 2 => ("BasketKeep$History", "acts", "I", false)
  | 3 => ("BasketKeep$History", "kept", "[I", true)
  | _ => ("BasketKeep$History", "images", "I", false)
def zk_t5 : Nat → FieldType := fun k => match k with
  | 0 => .array .int
  | 1 => .int
  | 2 => .int
  | 3 => .array .int
  | _ => .int
def zk_T6 : u_T := fun k => match k with
  | 0 => ("BasketKeep$Outlook", "walk", "LBasketKeep$Walk;", true)
  | 1 => ("BasketKeep$Outlook", "worthLeft", "I", false)
  | 2 => ("BasketKeep$Outlook", "lostBits", "I", false)
  | 3 => ("BasketKeep$Outlook", "lostAfte\x72", "[I", true)
  | 4 => ("BasketKeep$Outlook", "lostThrough", "[I", true)
  | 5 => ("BasketKeep$Outlook", "wornAfte\x72", "[I", true)
  | 6 => ("BasketKeep$Outlook", "lasts", "[I", true)
  | _ => ("BasketKeep$Outlook", "kept", "[I", true)
def zk_t6 : Nat → FieldType := fun k => match k with
  | 0 => .object "BasketKeep$Walk"
  | 1 => .int
  | 2 => .int
  | 3 => .array .int
  | 4 => .array .int
  | 5 => .array .int
  | 6 => .array .int
  | _ => .array .int
def zk_T7 : u_T := fun k => match k with
  | 0 => ("BasketKeep$Walk", "yearsGone", "I", false)
  | 1 => ("BasketKeep$Walk", "span", "I", false)
  | 2 => ("BasketKeep$Walk", "striking", "[I", true)
  | 3 => ("BasketKeep$Walk", "lostAfte\x72", "I", false)
  | 4 => ("BasketKeep$Walk", "lostThrough", "I", false)
  | 5 => ("BasketKeep$Walk", "wornAfte\x72", "I", false)
  | 6 => ("BasketKeep$Walk", "lasts", "I", false)
  | _ => ("BasketKeep$Walk", "kept", "I", false)
def zk_t7 : Nat → FieldType := fun k => match k with
  | 0 => .int
  | 1 => .int
  | 2 => .array .int
  | 3 => .int
  | 4 => .int
  | 5 => .int
  | 6 => .int
  | _ => .int
def zk_T8 : u_T := fun k => match k with
  | 0 => ("BasketKeep$Planne\x72", "walk", "LBasketKeep$Walk;", true)
  | 1 => ("BasketKeep$Planne\x72", "safe", "[I", true)
  | 2 => ("BasketKeep$Planne\x72", "places", "[I", true)
  | 3 => ("BasketKeep$Planne\x72", "bestPlaces", "[I", true)
  | _ => ("BasketKeep$Planne\x72", "bestWorth", "I", false)
def zk_t8 : Nat → FieldType := fun k => match k with
  | 0 => .object "BasketKeep$Walk"
  | 1 => .array .int
  | 2 => .array .int
  | 3 => .array .int
  | _ => .int
def zk_T9 : u_T := fun k => match k with
  | 0 => ("BasketKeep$Doubts", "walk", "LBasketKeep$Walk;", true)
  | 1 => ("BasketKeep$Doubts", "start", "LBasketKeep$State;", true)
  | 2 => ("BasketKeep$Doubts", "unsures", "I", false)
  | 3 => ("BasketKeep$Doubts", "fitting", "I", false)
  | _ => ("BasketKeep$Doubts", "firstOtherwise", "I", false)
def zk_t9 : Nat → FieldType := fun k => match k with
  | 0 => .object "BasketKeep$Walk"
  | 1 => .object "BasketKeep$State"
  | 2 => .int
  | 3 => .int
  | _ => .int
def zk_T10 : u_T := fun k => match k with
  | 0 => ("BasketKeep$Hurry", "walk", "LBasketKeep$Walk;", true)
  | 1 => ("BasketKeep$Hurry", "favourable", "J", false)
  | 2 => ("BasketKeep$Hurry", "all", "J", false)
  | 3 => ("BasketKeep$Hurry", "uppe\x72", "J", false)
  | 4 => ("BasketKeep$Hurry", "lowe\x72", "J", false)
  | 5 => ("BasketKeep$Hurry", "slipped", "[I", true)
  | _ => ("BasketKeep$Hurry", "seed", "I", false)
def zk_t10 : Nat → FieldType := fun k => match k with
  | 0 => .object "BasketKeep$Walk"
  | 1 => .long
  | 2 => .long
  | 3 => .long
  | 4 => .long
  | 5 => .array .int
  | _ => .int
def zk_T11 : u_T := fun k => match k with
  | 0 => ("BasketKeepModel", "thrown", "I", false)
  | 1 => ("BasketKeepModel", "tape", "[I", true)
  | 2 => ("BasketKeepModel", "taped", "I", false)
  | 3 => ("BasketKeepModel", "size", "I", false)
  | 4 => ("BasketKeepModel", "at", "I", false)
  | 5 => ("BasketKeepModel", "end", "I", false)
  | 6 => ("BasketKeepModel", "token", "I", false)
  | 7 => ("BasketKeepModel", "whole", "I", false)
  | 8 => ("BasketKeepModel", "nameSize", "I", false)
  | 9 => ("BasketKeepModel", "fault", "I", false)
  | 10 => ("BasketKeepModel", "place", "I", false)
  | 11 => ("BasketKeepModel", "trouble", "I", false)
  | 12 => ("BasketKeepModel", "letters", "[I", true)
  | 13 => ("BasketKeepModel", "failed", "Z", false)
  | 14 => ("BasketKeepModel", "hasLevel", "Z", false)
  | 15 => ("BasketKeepModel", "\x72", "[I", true)
  | 16 => ("BasketKeepModel", "fresh", "[I", true)
  | 17 => ("BasketKeepModel", "told", "[I", true)
  | 18 => ("BasketKeepModel", "read", "[I", true)
  | 19 => ("BasketKeepModel", "st", "[I", true)
  | 20 => ("BasketKeepModel", "trial", "[I", true)
  | 21 => ("BasketKeepModel", "undone", "[I", true)
  | 22 => ("BasketKeepModel", "kept", "[I", true)
  | 23 => ("BasketKeepModel", "undos", "I", false)
  | 24 => ("BasketKeepModel", "images", "I", false)
  | 25 => ("BasketKeepModel", "slipped", "[I", true)
  | 26 => ("BasketKeepModel", "outs", "I", false)
  | 27 => ("BasketKeepModel", "lostTo", "[I", true)
  | 28 => ("BasketKeepModel", "lostWith", "[I", true)
  | 29 => ("BasketKeepModel", "outsOf", "[I", true)
  | 30 => ("BasketKeepModel", "worthLaid", "I", false)
  | 31 => ("BasketKeepModel", "lostYea\x72", "[I", true)
  | 32 => ("BasketKeepModel", "often", "[I", true)
  | 33 => ("BasketKeepModel", "setMany", "I", false)
  | 34 => ("BasketKeepModel", "someOf", "I", false)
  | 35 => ("BasketKeepModel", "allOf", "I", false)
  | 36 => ("BasketKeepModel", "firstRest", "I", false)
  | 37 => ("BasketKeepModel", "allWeight", "J", false)
  | _ => ("BasketKeepModel", "leftWeight", "J", false)
def zk_t11 : Nat → FieldType := fun k => match k with
  | 0 => .int
  | 1 => .array .int
  | 2 => .int
  | 3 => .int
  | 4 => .int
  | 5 => .int
  | 6 => .int
  | 7 => .int
  | 8 => .int
  | 9 => .int
  | 10 => .int
  | 11 => .int
  | 12 => .array .int
  | 13 => .boolean
  | 14 => .boolean
  | 15 => .array .int
  | 16 => .array .int
  | 17 => .array .int
  | 18 => .array .int
  | 19 => .array .int
  | 20 => .array .int
  | 21 => .array .int
  | 22 => .array .int
  | 23 => .int
  | 24 => .int
  | 25 => .array .int
  | 26 => .int
  | 27 => .array .int
  | 28 => .array .int
  | 29 => .array .int
  | 30 => .int
  | 31 => .array .int
  | 32 => .array .int
  | 33 => .int
  | 34 => .int
  | 35 => .int
  | 36 => .int
  | 37 => .long
  | _ => .long
def zk_T12 : u_T := fun _ => ("", "", "", false)
def zk_t12 : Nat → FieldType := fun _ => .int
def zk_cls : List vw_C := [("BasketKeep", zk_T0, 12), ("BasketKeep$Reade\x72", zk_T1, 11), ("BasketKeep$Tape", zk_T2, 7), ("BasketKeep$Level", zk_T3, 17), ("BasketKeep$State", zk_T4, 5), ("BasketKeep$History", zk_T5, 5), ("BasketKeep$Outlook", zk_T6, 8), ("BasketKeep$Walk", zk_T7, 8), ("BasketKeep$Planne\x72", zk_T8, 5), ("BasketKeep$Doubts", zk_T9, 5), ("BasketKeep$Hurry", zk_T10, 7), ("BasketKeepModel", zk_T11, 39), ("java/util/NoSuchElementException", zk_T12, 0)]
def zk_tyo (ci : Nat) : Nat → FieldType := match ci with
  | 0 => zk_t0
  | 1 => zk_t1
  | 2 => zk_t2
  | 3 => zk_t3
  | 4 => zk_t4
  | 5 => zk_t5
  | 6 => zk_t6
  | 7 => zk_t7
  | 8 => zk_t8
  | 9 => zk_t9
  | 10 => zk_t10
  | 11 => zk_t11
  | _ => zk_t12
/-- what the fields of a new object hold -/
def zk_zd : List (List Value) := [[.null, .null, .int 0, .null, .null, .null, .null, .null, .null, .null, .null, .int 0], [.null, .null, .int 0, .null, .null, .null, .null, .int 0, .int 0, .int 0, .int 0], [.null, .int 0, .int 0, .int 0, .int 0, .int 0, .long 0], [.int 0, .int 0, .null, .null, .int 0, .null, .null, .null, .int 0, .null, .null, .null, .null, .int 0, .int 0, .null, .null], [.int 0, .int 0, .null, .null, .null], [.null, .int 0, .int 0, .null, .int 0], [.null, .int 0, .int 0, .null, .null, .null, .null, .null], [.int 0, .int 0, .null, .int 0, .int 0, .int 0, .int 0, .int 0], [.null, .null, .null, .null, .int 0], [.null, .null, .int 0, .int 0, .int 0], [.null, .long 0, .long 0, .long 0, .long 0, .null, .int 0], [.int 0, .null, .int 0, .int 0, .int 0, .int 0, .int 0, .int 0, .int 0, .int 0, .int 0, .int 0, .null, .int 0, .int 0, .null, .null, .null, .null, .null, .null, .null, .null, .int 0, .int 0, .null, .int 0, .null, .null, .null, .int 0, .null, .null, .int 0, .int 0, .int 0, .int 0, .long 0, .long 0]]
def zk_TB : List Cond := lw_tbl.filter goodWord
def zk_isw (p : Nat) (w : Cond) : Bool := decide (lw_tbl[p]? = some w) && goodWord w
theorem zk_isw_mem {p : Nat} {w : Cond} (h : zk_isw p w = true) : w ∈ zk_TB := by
  unfold zk_isw at h
  rw [Bool.and_eq_true] at h
  exact List.mem_filter.mpr ⟨List.mem_of_getElem? (of_decide_eq_true h.1), h.2⟩
def zk_pl0 : List Nat := [622, 624, 626, 628, 630, 632, 634, 636, 638, 640, 642, 644]
theorem zk_lay0 : (List.range 12).all (fun k => zk_isw (zk_pl0.getD k 0) (u_lay "BasketKeep" zk_T0 k)) = true := by decide +kernel
theorem zk_nm0 : ∀ a, a < 12 → ∀ b, b < 12 → a ≠ b → (zk_T0 a).2.1 ≠ (zk_T0 b).2.1 := by decide +kernel
theorem zk_ty0 : ∀ k, k < 12 → parseFieldDescriptor (zk_T0 k).2.2.1 = some (zk_t0 k) := by decide +kernel
theorem zk_own0 : ∀ k, k < 12 → (zk_T0 k).1 = "BasketKeep" := by decide +kernel
theorem zk_dv0 : ∀ j, j < 12 → defaultValue (zk_t0 j) = vp_V (zk_zd.getD 0 []) j := by decide +kernel
def zk_pl1 : List Nat := [364, 366, 368, 370, 372, 374, 376, 378, 380, 382, 384]
theorem zk_lay1 : (List.range 11).all (fun k => zk_isw (zk_pl1.getD k 0) (u_lay "BasketKeep$Reade\x72" zk_T1 k)) = true := by decide +kernel
theorem zk_nm1 : ∀ a, a < 11 → ∀ b, b < 11 → a ≠ b → (zk_T1 a).2.1 ≠ (zk_T1 b).2.1 := by decide +kernel
theorem zk_ty1 : ∀ k, k < 11 → parseFieldDescriptor (zk_T1 k).2.2.1 = some (zk_t1 k) := by decide +kernel
theorem zk_own1 : ∀ k, k < 11 → (zk_T1 k).1 = "BasketKeep$Reade\x72" := by decide +kernel
theorem zk_dv1 : ∀ j, j < 11 → defaultValue (zk_t1 j) = vp_V (zk_zd.getD 1 []) j := by decide +kernel
def zk_pl2 : List Nat := [162, 164, 166, 168, 170, 172, 174]
theorem zk_lay2 : (List.range 7).all (fun k => zk_isw (zk_pl2.getD k 0) (u_lay "BasketKeep$Tape" zk_T2 k)) = true := by decide +kernel
theorem zk_nm2 : ∀ a, a < 7 → ∀ b, b < 7 → a ≠ b → (zk_T2 a).2.1 ≠ (zk_T2 b).2.1 := by decide +kernel
theorem zk_ty2 : ∀ k, k < 7 → parseFieldDescriptor (zk_T2 k).2.2.1 = some (zk_t2 k) := by decide +kernel
theorem zk_own2 : ∀ k, k < 7 → (zk_T2 k).1 = "BasketKeep$Tape" := by decide +kernel
theorem zk_dv2 : ∀ j, j < 7 → defaultValue (zk_t2 j) = vp_V (zk_zd.getD 2 []) j := by decide +kernel
def zk_pl3 : List Nat := [255, 257, 259, 261, 263, 265, 267, 269, 271, 273, 275, 277, 279, 281, 283, 285, 287]
theorem zk_lay3 : (List.range 17).all (fun k => zk_isw (zk_pl3.getD k 0) (u_lay "BasketKeep$Level" zk_T3 k)) = true := by decide +kernel
theorem zk_nm3 : ∀ a, a < 17 → ∀ b, b < 17 → a ≠ b → (zk_T3 a).2.1 ≠ (zk_T3 b).2.1 := by decide +kernel
theorem zk_ty3 : ∀ k, k < 17 → parseFieldDescriptor (zk_T3 k).2.2.1 = some (zk_t3 k) := by decide +kernel
theorem zk_own3 : ∀ k, k < 17 → (zk_T3 k).1 = "BasketKeep$Level" := by decide +kernel
theorem zk_dv3 : ∀ j, j < 17 → defaultValue (zk_t3 j) = vp_V (zk_zd.getD 3 []) j := by decide +kernel
def zk_pl4 : List Nat := [415, 417, 419, 421, 423]
theorem zk_lay4 : (List.range 5).all (fun k => zk_isw (zk_pl4.getD k 0) (u_lay "BasketKeep$State" zk_T4 k)) = true := by decide +kernel
theorem zk_nm4 : ∀ a, a < 5 → ∀ b, b < 5 → a ≠ b → (zk_T4 a).2.1 ≠ (zk_T4 b).2.1 := by decide +kernel
theorem zk_ty4 : ∀ k, k < 5 → parseFieldDescriptor (zk_T4 k).2.2.1 = some (zk_t4 k) := by decide +kernel
theorem zk_own4 : ∀ k, k < 5 → (zk_T4 k).1 = "BasketKeep$State" := by decide +kernel
theorem zk_dv4 : ∀ j, j < 5 → defaultValue (zk_t4 j) = vp_V (zk_zd.getD 4 []) j := by decide +kernel
def zk_pl5 : List Nat := [439, 441, 443, 445, 447]
theorem zk_lay5 : (List.range 5).all (fun k => zk_isw (zk_pl5.getD k 0) (u_lay "BasketKeep$History" zk_T5 k)) = true := by decide +kernel
theorem zk_nm5 : ∀ a, a < 5 → ∀ b, b < 5 → a ≠ b → (zk_T5 a).2.1 ≠ (zk_T5 b).2.1 := by decide +kernel
theorem zk_ty5 : ∀ k, k < 5 → parseFieldDescriptor (zk_T5 k).2.2.1 = some (zk_t5 k) := by decide +kernel
theorem zk_own5 : ∀ k, k < 5 → (zk_T5 k).1 = "BasketKeep$History" := by decide +kernel
theorem zk_dv5 : ∀ j, j < 5 → defaultValue (zk_t5 j) = vp_V (zk_zd.getD 5 []) j := by decide +kernel
def zk_pl6 : List Nat := [507, 509, 511, 513, 515, 517, 519, 521]
theorem zk_lay6 : (List.range 8).all (fun k => zk_isw (zk_pl6.getD k 0) (u_lay "BasketKeep$Outlook" zk_T6 k)) = true := by decide +kernel
theorem zk_nm6 : ∀ a, a < 8 → ∀ b, b < 8 → a ≠ b → (zk_T6 a).2.1 ≠ (zk_T6 b).2.1 := by decide +kernel
theorem zk_ty6 : ∀ k, k < 8 → parseFieldDescriptor (zk_T6 k).2.2.1 = some (zk_t6 k) := by decide +kernel
theorem zk_own6 : ∀ k, k < 8 → (zk_T6 k).1 = "BasketKeep$Outlook" := by decide +kernel
theorem zk_dv6 : ∀ j, j < 8 → defaultValue (zk_t6 j) = vp_V (zk_zd.getD 6 []) j := by decide +kernel
def zk_pl7 : List Nat := [476, 478, 480, 482, 484, 486, 488, 490]
theorem zk_lay7 : (List.range 8).all (fun k => zk_isw (zk_pl7.getD k 0) (u_lay "BasketKeep$Walk" zk_T7 k)) = true := by decide +kernel
theorem zk_nm7 : ∀ a, a < 8 → ∀ b, b < 8 → a ≠ b → (zk_T7 a).2.1 ≠ (zk_T7 b).2.1 := by decide +kernel
theorem zk_ty7 : ∀ k, k < 8 → parseFieldDescriptor (zk_T7 k).2.2.1 = some (zk_t7 k) := by decide +kernel
theorem zk_own7 : ∀ k, k < 8 → (zk_T7 k).1 = "BasketKeep$Walk" := by decide +kernel
theorem zk_dv7 : ∀ j, j < 8 → defaultValue (zk_t7 j) = vp_V (zk_zd.getD 7 []) j := by decide +kernel
def zk_pl8 : List Nat := [538, 540, 542, 544, 546]
theorem zk_lay8 : (List.range 5).all (fun k => zk_isw (zk_pl8.getD k 0) (u_lay "BasketKeep$Planne\x72" zk_T8 k)) = true := by decide +kernel
theorem zk_nm8 : ∀ a, a < 5 → ∀ b, b < 5 → a ≠ b → (zk_T8 a).2.1 ≠ (zk_T8 b).2.1 := by decide +kernel
theorem zk_ty8 : ∀ k, k < 5 → parseFieldDescriptor (zk_T8 k).2.2.1 = some (zk_t8 k) := by decide +kernel
theorem zk_own8 : ∀ k, k < 5 → (zk_T8 k).1 = "BasketKeep$Planne\x72" := by decide +kernel
theorem zk_dv8 : ∀ j, j < 5 → defaultValue (zk_t8 j) = vp_V (zk_zd.getD 8 []) j := by decide +kernel
def zk_pl9 : List Nat := [566, 568, 570, 572, 574]
theorem zk_lay9 : (List.range 5).all (fun k => zk_isw (zk_pl9.getD k 0) (u_lay "BasketKeep$Doubts" zk_T9 k)) = true := by decide +kernel
theorem zk_nm9 : ∀ a, a < 5 → ∀ b, b < 5 → a ≠ b → (zk_T9 a).2.1 ≠ (zk_T9 b).2.1 := by decide +kernel
theorem zk_ty9 : ∀ k, k < 5 → parseFieldDescriptor (zk_T9 k).2.2.1 = some (zk_t9 k) := by decide +kernel
theorem zk_own9 : ∀ k, k < 5 → (zk_T9 k).1 = "BasketKeep$Doubts" := by decide +kernel
theorem zk_dv9 : ∀ j, j < 5 → defaultValue (zk_t9 j) = vp_V (zk_zd.getD 9 []) j := by decide +kernel
def zk_pl10 : List Nat := [595, 597, 599, 601, 603, 605, 607]
theorem zk_lay10 : (List.range 7).all (fun k => zk_isw (zk_pl10.getD k 0) (u_lay "BasketKeep$Hurry" zk_T10 k)) = true := by decide +kernel
theorem zk_nm10 : ∀ a, a < 7 → ∀ b, b < 7 → a ≠ b → (zk_T10 a).2.1 ≠ (zk_T10 b).2.1 := by decide +kernel
theorem zk_ty10 : ∀ k, k < 7 → parseFieldDescriptor (zk_T10 k).2.2.1 = some (zk_t10 k) := by decide +kernel
theorem zk_own10 : ∀ k, k < 7 → (zk_T10 k).1 = "BasketKeep$Hurry" := by decide +kernel
theorem zk_dv10 : ∀ j, j < 7 → defaultValue (zk_t10 j) = vp_V (zk_zd.getD 10 []) j := by decide +kernel
def zk_pl11 : List Nat := [1449, 1451, 1453, 1455, 1457, 1459, 1461, 1463, 1465, 1467, 1469, 1471, 1473, 1475, 1477, 1479, 1481, 1483, 1485, 1487, 1489, 1491, 1493, 1495, 1497, 1499, 1501, 1503, 1505, 1507, 1509, 1511, 1513, 1515, 1517, 1519, 1521, 1523, 1525]
theorem zk_lay11 : (List.range 39).all (fun k => zk_isw (zk_pl11.getD k 0) (u_lay "BasketKeepModel" zk_T11 k)) = true := by decide +kernel
theorem zk_nm11 : ∀ a, a < 39 → ∀ b, b < 39 → a ≠ b → (zk_T11 a).2.1 ≠ (zk_T11 b).2.1 := by decide +kernel
theorem zk_ty11 : ∀ k, k < 39 → parseFieldDescriptor (zk_T11 k).2.2.1 = some (zk_t11 k) := by decide +kernel
theorem zk_own11 : ∀ k, k < 39 → (zk_T11 k).1 = "BasketKeepModel" := by decide +kernel
theorem zk_dv11 : ∀ j, j < 39 → defaultValue (zk_t11 j) = vp_V (zk_zd.getD 11 []) j := by decide +kernel
