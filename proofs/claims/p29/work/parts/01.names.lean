-- ===== PART A: goes FIRST, ahead of the names: the tables' words, and 'selects' of the private methods out of them =====
/-- a private method of a class that the tables say can be made, by its rows of tables_1 -/
def lw_okq (q : MethodName × Nat) : Prop := (q.1.cls ≠ "java/lang/invoke/MethodHandle" ∧ q.1.cls ≠ "java/lang/invoke/VarHandle") ∧ Cond.instantiable q.1.cls q.2 ∈ tables_1 ∧ Cond.privateMethod q.1 ∈ tables_1 ∧ Cond.instanceMethod q.1 ∈ tables_1
theorem lw_p0 : lw_okq (⟨"AncestorLooks", "lookAround", "()V"⟩, 6) := ⟨⟨by decide +kernel, by decide +kernel⟩, List.mem_of_getElem? (i := 13) (by decide +kernel), List.mem_of_getElem? (i := 203) (by decide +kernel), List.mem_of_getElem? (i := 204) (by decide +kernel)⟩
theorem lw_p1 : lw_okq (⟨"AncestorLooks$Survey", "linkChildren", "()V"⟩, 12) := ⟨⟨by decide +kernel, by decide +kernel⟩, List.mem_of_getElem? (i := 102) (by decide +kernel), List.mem_of_getElem? (i := 211) (by decide +kernel), List.mem_of_getElem? (i := 212) (by decide +kernel)⟩
theorem lw_p2 : lw_okq (⟨"AncestorLooks$Survey", "goDown", "()V"⟩, 12) := ⟨⟨by decide +kernel, by decide +kernel⟩, List.mem_of_getElem? (i := 102) (by decide +kernel), List.mem_of_getElem? (i := 233) (by decide +kernel), List.mem_of_getElem? (i := 234) (by decide +kernel)⟩
theorem lw_p3 : lw_okq (⟨"AncestorLooks$Survey", "goUp", "()V"⟩, 12) := ⟨⟨by decide +kernel, by decide +kernel⟩, List.mem_of_getElem? (i := 102) (by decide +kernel), List.mem_of_getElem? (i := 237) (by decide +kernel), List.mem_of_getElem? (i := 238) (by decide +kernel)⟩
theorem lw_p4 : lw_okq (⟨"AncestorLooks$Survey", "measure", "(I)V"⟩, 12) := ⟨⟨by decide +kernel, by decide +kernel⟩, List.mem_of_getElem? (i := 102) (by decide +kernel), List.mem_of_getElem? (i := 241) (by decide +kernel), List.mem_of_getElem? (i := 242) (by decide +kernel)⟩
theorem lw_p5 : lw_okq (⟨"AncestorLooks$Survey", "findTops", "()V"⟩, 12) := ⟨⟨by decide +kernel, by decide +kernel⟩, List.mem_of_getElem? (i := 102) (by decide +kernel), List.mem_of_getElem? (i := 245) (by decide +kernel), List.mem_of_getElem? (i := 246) (by decide +kernel)⟩
theorem lw_p6 : lw_okq (⟨"AncestorLooks$History", "dropOldest", "()V"⟩, 4) := ⟨⟨by decide +kernel, by decide +kernel⟩, List.mem_of_getElem? (i := 80) (by decide +kernel), List.mem_of_getElem? (i := 311) (by decide +kernel), List.mem_of_getElem? (i := 312) (by decide +kernel)⟩
theorem lw_p7 : lw_okq (⟨"AncestorLooks$History", "stateAt", "(I)LAncestorLooks$Tree;"⟩, 4) := ⟨⟨by decide +kernel, by decide +kernel⟩, List.mem_of_getElem? (i := 80) (by decide +kernel), List.mem_of_getElem? (i := 315) (by decide +kernel), List.mem_of_getElem? (i := 316) (by decide +kernel)⟩
theorem lw_p8 : lw_okq (⟨"AncestorLooks$Ways", "findMeetings", "(I)V"⟩, 7) := ⟨⟨by decide +kernel, by decide +kernel⟩, List.mem_of_getElem? (i := 147) (by decide +kernel), List.mem_of_getElem? (i := 477) (by decide +kernel), List.mem_of_getElem? (i := 478) (by decide +kernel)⟩
theorem lw_p9 : lw_okq (⟨"AncestorLooks$Ways", "farthestFromOn", "(II)I"⟩, 7) := ⟨⟨by decide +kernel, by decide +kernel⟩, List.mem_of_getElem? (i := 147) (by decide +kernel), List.mem_of_getElem? (i := 484) (by decide +kernel), List.mem_of_getElem? (i := 485) (by decide +kernel)⟩
theorem lw_p10 : lw_okq (⟨"AncestorLooks$Ways", "measured", "(II)F"⟩, 7) := ⟨⟨by decide +kernel, by decide +kernel⟩, List.mem_of_getElem? (i := 147) (by decide +kernel), List.mem_of_getElem? (i := 490) (by decide +kernel), List.mem_of_getElem? (i := 491) (by decide +kernel)⟩
theorem lw_p11 : lw_okq (⟨"AncestorLooks$Shapes", "join", "(I)I"⟩, 5) := ⟨⟨by decide +kernel, by decide +kernel⟩, List.mem_of_getElem? (i := 179) (by decide +kernel), List.mem_of_getElem? (i := 526) (by decide +kernel), List.mem_of_getElem? (i := 527) (by decide +kernel)⟩
theorem lw_p12 : lw_okq (⟨"AncestorLooks$Shapes", "enter", "(I)V"⟩, 5) := ⟨⟨by decide +kernel, by decide +kernel⟩, List.mem_of_getElem? (i := 179) (by decide +kernel), List.mem_of_getElem? (i := 587) (by decide +kernel), List.mem_of_getElem? (i := 588) (by decide +kernel)⟩
def lw_privs_1 : List (MethodName × Nat) := [(⟨"AncestorLooks", "lookAround", "()V"⟩, 6), (⟨"AncestorLooks$Survey", "linkChildren", "()V"⟩, 12), (⟨"AncestorLooks$Survey", "goDown", "()V"⟩, 12), (⟨"AncestorLooks$Survey", "goUp", "()V"⟩, 12), (⟨"AncestorLooks$Survey", "measure", "(I)V"⟩, 12), (⟨"AncestorLooks$Survey", "findTops", "()V"⟩, 12), (⟨"AncestorLooks$History", "dropOldest", "()V"⟩, 4), (⟨"AncestorLooks$History", "stateAt", "(I)LAncestorLooks$Tree;"⟩, 4), (⟨"AncestorLooks$Ways", "findMeetings", "(I)V"⟩, 7), (⟨"AncestorLooks$Ways", "farthestFromOn", "(II)I"⟩, 7), (⟨"AncestorLooks$Ways", "measured", "(II)F"⟩, 7), (⟨"AncestorLooks$Shapes", "join", "(I)I"⟩, 5), (⟨"AncestorLooks$Shapes", "enter", "(I)V"⟩, 5)]
theorem lw_r1 : ∀ q ∈ lw_privs_1, lw_okq q := List.forall_mem_cons.mpr ⟨lw_p0, List.forall_mem_cons.mpr ⟨lw_p1, List.forall_mem_cons.mpr ⟨lw_p2, List.forall_mem_cons.mpr ⟨lw_p3, List.forall_mem_cons.mpr ⟨lw_p4, List.forall_mem_cons.mpr ⟨lw_p5, List.forall_mem_cons.mpr ⟨lw_p6, List.forall_mem_cons.mpr ⟨lw_p7, List.forall_mem_cons.mpr ⟨lw_p8, List.forall_mem_cons.mpr ⟨lw_p9, List.forall_mem_cons.mpr ⟨lw_p10, List.forall_mem_cons.mpr ⟨lw_p11, List.forall_mem_cons.mpr ⟨lw_p12, fun _ h => absurd h List.not_mem_nil⟩⟩⟩⟩⟩⟩⟩⟩⟩⟩⟩⟩⟩
def lw_privs : List (MethodName × Nat) := lw_privs_1
def lw_tbl : List Cond := k2_sels lw_privs ++ tables_1
theorem lw_privs_ok : ∀ q ∈ lw_privs, lw_okq q := lw_r1
/-- the streams that the claim lets the run draw from -/
abbrev lw_cs : List Choice := [Jvm.Choice.named "NaN.bits"]
theorem lw_bits : nanBits ∈ lw_cs := by first | decide | exact List.mem_cons_self | simp [lw_cs, nanBits]
-- ===== end of PART A; then your names; then what follows =====

def RX0 : String := "AncestorLooks$FloatRow"
def TX0 : u_T := fun k => match k with
  | _ => ("AncestorLooks$FloatRow", "cells", "[F", true)
def tyX0 : Nat → FieldType := fun k => match k with
  | _ => .array .float
abbrev wsX00 : List Cond := u_ws RX0 TX0 1
theorem nmX0 : ∀ a, a < 1 → ∀ b, b < 1 → a ≠ b → (TX0 a).2.1 ≠ (TX0 b).2.1 := by decide +kernel
theorem tyX0_ok : ∀ k, k < 1 → parseFieldDescriptor (TX0 k).2.2.1 = some (tyX0 k) := by decide +kernel
abbrev cX0_init : ByteArray := prog_2_method_1_code
def yX0_init : MethodName := ⟨RX0, "<init>", "()V"⟩
abbrev cX0_get : ByteArray := prog_2_method_2_code
def yX0_get : MethodName := ⟨RX0, "get", "(I)F"⟩
abbrev cX0_set : ByteArray := prog_2_method_3_code
def yX0_set : MethodName := ⟨RX0, "set", "(IF)V"⟩
abbrev cX0_copyFrom : ByteArray := prog_2_method_4_code
def yX0_copyFrom : MethodName := ⟨RX0, "copyFrom", "(LAncestorLooks$FloatRow;)V"⟩
def RX1 : String := "AncestorLooks$History"
def TX1 : u_T := fun k => match k with
  | 0 => ("AncestorLooks$History", "states", "[LAncestorLooks$Tree;", true)
  | 1 => ("AncestorLooks$History", "snapshot", "LAncestorLooks$Tree;", true)
  | 2 => ("AncestorLooks$History", "used", "I", false)
  | _ => ("AncestorLooks$History", "kept", "Z", false)
def tyX1 : Nat → FieldType := fun k => match k with
  | 0 => .array (.object "AncestorLooks$Tree")
  | 1 => .object "AncestorLooks$Tree"
  | 2 => .int
  | _ => .boolean
abbrev wsX10 : List Cond := u_ws RX1 TX1 4
theorem nmX1 : ∀ a, a < 4 → ∀ b, b < 4 → a ≠ b → (TX1 a).2.1 ≠ (TX1 b).2.1 := by decide +kernel
theorem tyX1_ok : ∀ k, k < 4 → parseFieldDescriptor (TX1 k).2.2.1 = some (tyX1 k) := by decide +kernel
abbrev cX1_init : ByteArray := prog_3_method_1_code
def yX1_init : MethodName := ⟨RX1, "<init>", "()V"⟩
abbrev cX1_length : ByteArray := prog_3_method_2_code
def yX1_length : MethodName := ⟨RX1, "length", "()I"⟩
abbrev cX1_hasSnapshot : ByteArray := prog_3_method_3_code
def yX1_hasSnapshot : MethodName := ⟨RX1, "hasSnapshot", "()Z"⟩
abbrev cX1_record : ByteArray := prog_3_method_4_code
def yX1_record : MethodName := ⟨RX1, "record", "(LAncestorLooks$Tree;)V"⟩
abbrev cX1_takeBack : ByteArray := prog_3_method_5_code
def yX1_takeBack : MethodName := ⟨RX1, "takeBack", "(LAncestorLooks$Tree;)V"⟩
abbrev cX1_keepSnapshot : ByteArray := prog_3_method_6_code
def yX1_keepSnapshot : MethodName := ⟨RX1, "keepSnapshot", "(LAncestorLooks$Tree;)V"⟩
abbrev cX1_showSnapshot : ByteArray := prog_3_method_7_code
def yX1_showSnapshot : MethodName := ⟨RX1, "showSnapshot", "(LAncestorLooks$Tree;)V"⟩
abbrev cX1_dropOldest : ByteArray := prog_3_method_8_code
def yX1_dropOldest : MethodName := ⟨RX1, "dropOldest", "()V"⟩
abbrev cX1_stateAt : ByteArray := prog_3_method_9_code
def yX1_stateAt : MethodName := ⟨RX1, "stateAt", "(I)LAncestorLooks$Tree;"⟩
def RX2 : String := "AncestorLooks$Row"
def TX2 : u_T := fun k => match k with
  | _ => ("AncestorLooks$Row", "cells", "[I", true)
def tyX2 : Nat → FieldType := fun k => match k with
  | _ => .array .int
abbrev wsX20 : List Cond := u_ws RX2 TX2 1
theorem nmX2 : ∀ a, a < 1 → ∀ b, b < 1 → a ≠ b → (TX2 a).2.1 ≠ (TX2 b).2.1 := by decide +kernel
theorem tyX2_ok : ∀ k, k < 1 → parseFieldDescriptor (TX2 k).2.2.1 = some (tyX2 k) := by decide +kernel
abbrev cX2_init : ByteArray := prog_4_method_1_code
def yX2_init : MethodName := ⟨RX2, "<init>", "()V"⟩
abbrev cX2_get : ByteArray := prog_4_method_2_code
def yX2_get : MethodName := ⟨RX2, "get", "(I)I"⟩
abbrev cX2_set : ByteArray := prog_4_method_3_code
def yX2_set : MethodName := ⟨RX2, "set", "(II)V"⟩
abbrev cX2_fill : ByteArray := prog_4_method_4_code
def yX2_fill : MethodName := ⟨RX2, "fill", "(I)V"⟩
abbrev cX2_copyFrom : ByteArray := prog_4_method_5_code
def yX2_copyFrom : MethodName := ⟨RX2, "copyFrom", "(LAncestorLooks$Row;)V"⟩
def RX3 : String := "AncestorLooks$Shapes"
def TX3 : u_T := fun k => match k with
  | 0 => ("AncestorLooks$Shapes", "tree", "LAncestorLooks$Tree;", true)
  | 1 => ("AncestorLooks$Shapes", "survey", "LAncestorLooks$Survey;", true)
  | 2 => ("AncestorLooks$Shapes", "shapes", "LAncestorLooks$Row;", true)
  | 3 => ("AncestorLooks$Shapes", "table", "LAncestorLooks$Row;", true)
  | _ => ("AncestorLooks$Shapes", "kinds", "I", false)
def tyX3 : Nat → FieldType := fun k => match k with
  | 0 => .object "AncestorLooks$Tree"
  | 1 => .object "AncestorLooks$Survey"
  | 2 => .object "AncestorLooks$Row"
  | 3 => .object "AncestorLooks$Row"
  | _ => .int
abbrev wsX30 : List Cond := u_ws RX3 TX3 5
theorem nmX3 : ∀ a, a < 5 → ∀ b, b < 5 → a ≠ b → (TX3 a).2.1 ≠ (TX3 b).2.1 := by decide +kernel
theorem tyX3_ok : ∀ k, k < 5 → parseFieldDescriptor (TX3 k).2.2.1 = some (tyX3 k) := by decide +kernel
abbrev cX3_init : ByteArray := prog_5_method_1_code
def yX3_init : MethodName := ⟨RX3, "<init>", "(LAncestorLooks$Tree;LAncestorLooks$Survey;)V"⟩
abbrev cX3_write : ByteArray := prog_5_method_2_code
def yX3_write : MethodName := ⟨RX3, "write", "()V"⟩
abbrev cX3_join : ByteArray := prog_5_method_3_code
def yX3_join : MethodName := ⟨RX3, "join", "(I)I"⟩
abbrev cX3_shapeOf : ByteArray := prog_5_method_4_code
def yX3_shapeOf : MethodName := ⟨RX3, "shapeOf", "(I)I"⟩
abbrev cX3_countLike : ByteArray := prog_5_method_5_code
def yX3_countLike : MethodName := ⟨RX3, "countLike", "(I)I"⟩
abbrev cX3_sort : ByteArray := prog_5_method_6_code
def yX3_sort : MethodName := ⟨RX3, "sort", "()V"⟩
abbrev cX3_enter : ByteArray := prog_5_method_7_code
def yX3_enter : MethodName := ⟨RX3, "enter", "(I)V"⟩
abbrev cX3_kinds : ByteArray := prog_5_method_8_code
def yX3_kinds : MethodName := ⟨RX3, "kinds", "()I"⟩
def RX4 : String := "AncestorLooks$Survey"
def TX4 : u_T := fun k => match k with
  | 0 => ("AncestorLooks$Survey", "tree", "LAncestorLooks$Tree;", true)
  | 1 => ("AncestorLooks$Survey", "firstChild", "LAncestorLooks$Row;", true)
  | 2 => ("AncestorLooks$Survey", "nextChild", "LAncestorLooks$Row;", true)
  | 3 => ("AncestorLooks$Survey", "downward", "LAncestorLooks$Row;", true)
  | 4 => ("AncestorLooks$Survey", "depths", "LAncestorLooks$Row;", true)
  | 5 => ("AncestorLooks$Survey", "heights", "LAncestorLooks$Row;", true)
  | 6 => ("AncestorLooks$Survey", "children", "LAncestorLooks$Row;", true)
  | 7 => ("AncestorLooks$Survey", "sizes", "LAncestorLooks$Row;", true)
  | 8 => ("AncestorLooks$Survey", "longChildren", "LAncestorLooks$Row;", true)
  | 9 => ("AncestorLooks$Survey", "tops", "LAncestorLooks$Row;", true)
  | 10 => ("AncestorLooks$Survey", "feet", "LAncestorLooks$Row;", true)
  | _ => ("AncestorLooks$Survey", "present", "I", false)
def tyX4 : Nat → FieldType := fun k => match k with
  | 0 => .object "AncestorLooks$Tree"
  | 1 => .object "AncestorLooks$Row"
  | 2 => .object "AncestorLooks$Row"
  | 3 => .object "AncestorLooks$Row"
  | 4 => .object "AncestorLooks$Row"
  | 5 => .object "AncestorLooks$Row"
  | 6 => .object "AncestorLooks$Row"
  | 7 => .object "AncestorLooks$Row"
  | 8 => .object "AncestorLooks$Row"
  | 9 => .object "AncestorLooks$Row"
  | 10 => .object "AncestorLooks$Row"
  | _ => .int
abbrev wsX40 : List Cond := u_ws RX4 TX4 12
theorem nmX4 : ∀ a, a < 12 → ∀ b, b < 12 → a ≠ b → (TX4 a).2.1 ≠ (TX4 b).2.1 := by decide +kernel
theorem tyX4_ok : ∀ k, k < 12 → parseFieldDescriptor (TX4 k).2.2.1 = some (tyX4 k) := by decide +kernel
abbrev cX4_init : ByteArray := prog_6_method_1_code
def yX4_init : MethodName := ⟨RX4, "<init>", "(LAncestorLooks$Tree;)V"⟩
abbrev cX4_take : ByteArray := prog_6_method_2_code
def yX4_take : MethodName := ⟨RX4, "take", "()V"⟩
abbrev cX4_linkChildren : ByteArray := prog_6_method_3_code
def yX4_linkChildren : MethodName := ⟨RX4, "linkChildren", "()V"⟩
abbrev cX4_goDown : ByteArray := prog_6_method_4_code
def yX4_goDown : MethodName := ⟨RX4, "goDown", "()V"⟩
abbrev cX4_goUp : ByteArray := prog_6_method_5_code
def yX4_goUp : MethodName := ⟨RX4, "goUp", "()V"⟩
abbrev cX4_measure : ByteArray := prog_6_method_6_code
def yX4_measure : MethodName := ⟨RX4, "measure", "(I)V"⟩
abbrev cX4_findTops : ByteArray := prog_6_method_7_code
def yX4_findTops : MethodName := ⟨RX4, "findTops", "()V"⟩
abbrev cX4_present : ByteArray := prog_6_method_8_code
def yX4_present : MethodName := ⟨RX4, "present", "()I"⟩
abbrev cX4_downwardAt : ByteArray := prog_6_method_9_code
def yX4_downwardAt : MethodName := ⟨RX4, "downwardAt", "(I)I"⟩
abbrev cX4_firstChildOf : ByteArray := prog_6_method_10_code
def yX4_firstChildOf : MethodName := ⟨RX4, "firstChildOf", "(I)I"⟩
abbrev cX4_nextChildOf : ByteArray := prog_6_method_11_code
def yX4_nextChildOf : MethodName := ⟨RX4, "nextChildOf", "(I)I"⟩
abbrev cX4_depthOf : ByteArray := prog_6_method_12_code
def yX4_depthOf : MethodName := ⟨RX4, "depthOf", "(I)I"⟩
abbrev cX4_heightOf : ByteArray := prog_6_method_13_code
def yX4_heightOf : MethodName := ⟨RX4, "heightOf", "(I)I"⟩
abbrev cX4_childrenOf : ByteArray := prog_6_method_14_code
def yX4_childrenOf : MethodName := ⟨RX4, "childrenOf", "(I)I"⟩
abbrev cX4_sizeOf : ByteArray := prog_6_method_15_code
def yX4_sizeOf : MethodName := ⟨RX4, "sizeOf", "(I)I"⟩
abbrev cX4_longChildOf : ByteArray := prog_6_method_16_code
def yX4_longChildOf : MethodName := ⟨RX4, "longChildOf", "(I)I"⟩
abbrev cX4_topOf : ByteArray := prog_6_method_17_code
def yX4_topOf : MethodName := ⟨RX4, "topOf", "(I)I"⟩
abbrev cX4_footOf : ByteArray := prog_6_method_18_code
def yX4_footOf : MethodName := ⟨RX4, "footOf", "(I)I"⟩
abbrev cX4_isLeaf : ByteArray := prog_6_method_19_code
def yX4_isLeaf : MethodName := ⟨RX4, "isLeaf", "(I)Z"⟩
abbrev cX4_longWayOf : ByteArray := prog_6_method_20_code
def yX4_longWayOf : MethodName := ⟨RX4, "longWayOf", "(I)I"⟩
abbrev cX4_ladderOf : ByteArray := prog_6_method_21_code
def yX4_ladderOf : MethodName := ⟨RX4, "ladderOf", "(I)I"⟩
abbrev cX4_climb : ByteArray := prog_6_method_22_code
def yX4_climb : MethodName := ⟨RX4, "climb", "(II)I"⟩
abbrev cX4_isInBranch : ByteArray := prog_6_method_23_code
def yX4_isInBranch : MethodName := ⟨RX4, "isInBranch", "(II)Z"⟩
abbrev cX4_meetingOf : ByteArray := prog_6_method_24_code
def yX4_meetingOf : MethodName := ⟨RX4, "meetingOf", "(II)I"⟩
abbrev cX4_looksFor : ByteArray := prog_6_method_25_code
def yX4_looksFor : MethodName := ⟨RX4, "looksFor", "(II)I"⟩
abbrev cX4_countLeaves : ByteArray := prog_6_method_26_code
def yX4_countLeaves : MethodName := ⟨RX4, "countLeaves", "()I"⟩
abbrev cX4_countLadders : ByteArray := prog_6_method_27_code
def yX4_countLadders : MethodName := ⟨RX4, "countLadders", "()I"⟩
abbrev cX4_countJumps : ByteArray := prog_6_method_28_code
def yX4_countJumps : MethodName := ⟨RX4, "countJumps", "()I"⟩
abbrev cX4_jumpsFrom : ByteArray := prog_6_method_29_code
def yX4_jumpsFrom : MethodName := ⟨RX4, "jumpsFrom", "(I)I"⟩
def RX5 : String := "AncestorLooks$Text"
def TX5 : u_T := fun k => match k with
  | 0 => ("AncestorLooks$Text", "signs", "[C", true)
  | _ => ("AncestorLooks$Text", "used", "I", false)
def tyX5 : Nat → FieldType := fun k => match k with
  | 0 => .array .char
  | _ => .int
abbrev wsX50 : List Cond := u_ws RX5 TX5 2
theorem nmX5 : ∀ a, a < 2 → ∀ b, b < 2 → a ≠ b → (TX5 a).2.1 ≠ (TX5 b).2.1 := by decide +kernel
theorem tyX5_ok : ∀ k, k < 2 → parseFieldDescriptor (TX5 k).2.2.1 = some (tyX5 k) := by decide +kernel
abbrev cX5_init : ByteArray := prog_7_method_1_code
def yX5_init : MethodName := ⟨RX5, "<init>", "()V"⟩
abbrev cX5_length : ByteArray := prog_7_method_2_code
def yX5_length : MethodName := ⟨RX5, "length", "()I"⟩
abbrev cX5_put : ByteArray := prog_7_method_3_code
def yX5_put : MethodName := ⟨RX5, "put", "(C)Z"⟩
abbrev cX5_fault : ByteArray := prog_7_method_5_code
def yX5_fault : MethodName := ⟨RX5, "fault", "()I"⟩
abbrev cX5_branches : ByteArray := prog_7_method_6_code
def yX5_branches : MethodName := ⟨RX5, "branches", "()I"⟩
abbrev cX5_plant : ByteArray := prog_7_method_7_code
def yX5_plant : MethodName := ⟨RX5, "plant", "(LAncestorLooks$Tree;I)V"⟩
def RX6 : String := "AncestorLooks$Tree"
def TX6 : u_T := fun k => match k with
  | 0 => ("AncestorLooks$Tree", "parents", "LAncestorLooks$Row;", true)
  | 1 => ("AncestorLooks$Tree", "bits", "LAncestorLooks$Row;", true)
  | 2 => ("AncestorLooks$Tree", "lengths", "LAncestorLooks$FloatRow;", true)
  | _ => ("AncestorLooks$Tree", "ever", "I", false)
def tyX6 : Nat → FieldType := fun k => match k with
  | 0 => .object "AncestorLooks$Row"
  | 1 => .object "AncestorLooks$Row"
  | 2 => .object "AncestorLooks$FloatRow"
  | _ => .int
abbrev wsX60 : List Cond := u_ws RX6 TX6 4
theorem nmX6 : ∀ a, a < 4 → ∀ b, b < 4 → a ≠ b → (TX6 a).2.1 ≠ (TX6 b).2.1 := by decide +kernel
theorem tyX6_ok : ∀ k, k < 4 → parseFieldDescriptor (TX6 k).2.2.1 = some (tyX6 k) := by decide +kernel
abbrev cX6_init : ByteArray := prog_8_method_1_code
def yX6_init : MethodName := ⟨RX6, "<init>", "()V"⟩
abbrev cX6_ever : ByteArray := prog_8_method_2_code
def yX6_ever : MethodName := ⟨RX6, "ever", "()I"⟩
abbrev cX6_isNode : ByteArray := prog_8_method_3_code
def yX6_isNode : MethodName := ⟨RX6, "isNode", "(I)Z"⟩
abbrev cX6_hasRoomFor : ByteArray := prog_8_method_4_code
def yX6_hasRoomFor : MethodName := ⟨RX6, "hasRoomFor", "(I)Z"⟩
abbrev cX6_parentOf : ByteArray := prog_8_method_5_code
def yX6_parentOf : MethodName := ⟨RX6, "parentOf", "(I)I"⟩
abbrev cX6_bitsOf : ByteArray := prog_8_method_6_code
def yX6_bitsOf : MethodName := ⟨RX6, "bitsOf", "(I)I"⟩
abbrev cX6_lengthOf : ByteArray := prog_8_method_7_code
def yX6_lengthOf : MethodName := ⟨RX6, "lengthOf", "(I)F"⟩
abbrev cX6_append : ByteArray := prog_8_method_8_code
def yX6_append : MethodName := ⟨RX6, "append", "(IIF)I"⟩
abbrev cX6_remove : ByteArray := prog_8_method_9_code
def yX6_remove : MethodName := ⟨RX6, "remove", "(I)V"⟩
abbrev cX6_hang : ByteArray := prog_8_method_10_code
def yX6_hang : MethodName := ⟨RX6, "hang", "(II)V"⟩
abbrev cX6_stretch : ByteArray := prog_8_method_11_code
def yX6_stretch : MethodName := ⟨RX6, "stretch", "(IIF)V"⟩
abbrev cX6_copyFrom : ByteArray := prog_8_method_12_code
def yX6_copyFrom : MethodName := ⟨RX6, "copyFrom", "(LAncestorLooks$Tree;)V"⟩
def RX7 : String := "AncestorLooks$Ways"
def TX7 : u_T := fun k => match k with
  | 0 => ("AncestorLooks$Ways", "tree", "LAncestorLooks$Tree;", true)
  | 1 => ("AncestorLooks$Ways", "survey", "LAncestorLooks$Survey;", true)
  | 2 => ("AncestorLooks$Ways", "paths", "LAncestorLooks$FloatRow;", true)
  | 3 => ("AncestorLooks$Ways", "meetingPaths", "LAncestorLooks$FloatRow;", true)
  | 4 => ("AncestorLooks$Ways", "marks", "LAncestorLooks$Row;", true)
  | 5 => ("AncestorLooks$Ways", "pairFirst", "I", false)
  | _ => ("AncestorLooks$Ways", "pairSecond", "I", false)
def tyX7 : Nat → FieldType := fun k => match k with
  | 0 => .object "AncestorLooks$Tree"
  | 1 => .object "AncestorLooks$Survey"
  | 2 => .object "AncestorLooks$FloatRow"
  | 3 => .object "AncestorLooks$FloatRow"
  | 4 => .object "AncestorLooks$Row"
  | 5 => .int
  | _ => .int
abbrev wsX70 : List Cond := u_ws RX7 TX7 7
theorem nmX7 : ∀ a, a < 7 → ∀ b, b < 7 → a ≠ b → (TX7 a).2.1 ≠ (TX7 b).2.1 := by decide +kernel
theorem tyX7_ok : ∀ k, k < 7 → parseFieldDescriptor (TX7 k).2.2.1 = some (tyX7 k) := by decide +kernel
abbrev cX7_init : ByteArray := prog_9_method_1_code
def yX7_init : MethodName := ⟨RX7, "<init>", "(LAncestorLooks$Tree;LAncestorLooks$Survey;)V"⟩
abbrev cX7_take : ByteArray := prog_9_method_2_code
def yX7_take : MethodName := ⟨RX7, "take", "()V"⟩
abbrev cX7_pathOf : ByteArray := prog_9_method_3_code
def yX7_pathOf : MethodName := ⟨RX7, "pathOf", "(I)F"⟩
abbrev cX7_between : ByteArray := prog_9_method_4_code
def yX7_between : MethodName := ⟨RX7, "between", "(II)F"⟩
abbrev cX7_sum : ByteArray := prog_9_method_5_code
def yX7_sum : MethodName := ⟨RX7, "sum", "(FFF)F"⟩
abbrev cX7_onWay : ByteArray := prog_9_method_6_code
def yX7_onWay : MethodName := ⟨RX7, "onWay", "(III)I"⟩
abbrev cX7_highestWithin : ByteArray := prog_9_method_7_code
def yX7_highestWithin : MethodName := ⟨RX7, "highestWithin", "(IF)I"⟩
abbrev cX7_farthestFrom : ByteArray := prog_9_method_8_code
def yX7_farthestFrom : MethodName := ⟨RX7, "farthestFrom", "(I)I"⟩
abbrev cX7_findPair : ByteArray := prog_9_method_9_code
def yX7_findPair : MethodName := ⟨RX7, "findPair", "()V"⟩
abbrev cX7_pairFirst : ByteArray := prog_9_method_10_code
def yX7_pairFirst : MethodName := ⟨RX7, "pairFirst", "()I"⟩
abbrev cX7_pairSecond : ByteArray := prog_9_method_11_code
def yX7_pairSecond : MethodName := ⟨RX7, "pairSecond", "()I"⟩
abbrev cX7_findMeetings : ByteArray := prog_9_method_12_code
def yX7_findMeetings : MethodName := ⟨RX7, "findMeetings", "(I)V"⟩
abbrev cX7_measured : ByteArray := prog_9_method_13_code
def yX7_measured : MethodName := ⟨RX7, "measured", "(II)F"⟩
abbrev cX7_farthestFromOn : ByteArray := prog_9_method_14_code
def yX7_farthestFromOn : MethodName := ⟨RX7, "farthestFromOn", "(II)I"⟩
def RX8 : String := "AncestorLooks"
def TX8 : u_T := fun k => match k with
  | 0 => ("AncestorLooks", "tree", "LAncestorLooks$Tree;", true)
  | 1 => ("AncestorLooks", "text", "LAncestorLooks$Text;", true)
  | 2 => ("AncestorLooks", "history", "LAncestorLooks$History;", true)
  | 3 => ("AncestorLooks", "survey", "LAncestorLooks$Survey;", true)
  | 4 => ("AncestorLooks", "ways", "LAncestorLooks$Ways;", true)
  | _ => ("AncestorLooks", "shapes", "LAncestorLooks$Shapes;", true)
def tyX8 : Nat → FieldType := fun k => match k with
  | 0 => .object "AncestorLooks$Tree"
  | 1 => .object "AncestorLooks$Text"
  | 2 => .object "AncestorLooks$History"
  | 3 => .object "AncestorLooks$Survey"
  | 4 => .object "AncestorLooks$Ways"
  | _ => .object "AncestorLooks$Shapes"
abbrev wsX80 : List Cond := u_ws RX8 TX8 6
theorem nmX8 : ∀ a, a < 6 → ∀ b, b < 6 → a ≠ b → (TX8 a).2.1 ≠ (TX8 b).2.1 := by decide +kernel
theorem tyX8_ok : ∀ k, k < 6 → parseFieldDescriptor (TX8 k).2.2.1 = some (tyX8 k) := by decide +kernel
abbrev cX8_init : ByteArray := prog_1_method_1_code
def yX8_init : MethodName := ⟨RX8, "<init>", "()V"⟩
abbrev cX8_addLeaf : ByteArray := prog_1_method_2_code
def yX8_addLeaf : MethodName := ⟨RX8, "addLeaf", "(II)I"⟩
abbrev cX8_prune : ByteArray := prog_1_method_3_code
def yX8_prune : MethodName := ⟨RX8, "prune", "(I)I"⟩
abbrev cX8_graft : ByteArray := prog_1_method_4_code
def yX8_graft : MethodName := ⟨RX8, "graft", "(II)I"⟩
abbrev cX8_setLength : ByteArray := prog_1_method_5_code
def yX8_setLength : MethodName := ⟨RX8, "setLength", "(II)I"⟩
abbrev cX8_type : ByteArray := prog_1_method_6_code
def yX8_type : MethodName := ⟨RX8, "type", "(C)I"⟩
abbrev cX8_grow : ByteArray := prog_1_method_8_code
def yX8_grow : MethodName := ⟨RX8, "grow", "(I)I"⟩
abbrev cX8_undo : ByteArray := prog_1_method_9_code
def yX8_undo : MethodName := ⟨RX8, "undo", "()I"⟩
abbrev cX8_keep : ByteArray := prog_1_method_10_code
def yX8_keep : MethodName := ⟨RX8, "keep", "()I"⟩
abbrev cX8_restore : ByteArray := prog_1_method_11_code
def yX8_restore : MethodName := ⟨RX8, "restore", "()I"⟩
abbrev cX8_ancestor : ByteArray := prog_1_method_12_code
def yX8_ancestor : MethodName := ⟨RX8, "ancestor", "(II)I"⟩
abbrev cX8_looks : ByteArray := prog_1_method_13_code
def yX8_looks : MethodName := ⟨RX8, "looks", "(II)I"⟩
abbrev cX8_jump : ByteArray := prog_1_method_14_code
def yX8_jump : MethodName := ⟨RX8, "jump", "(II)I"⟩
abbrev cX8_ladderAt : ByteArray := prog_1_method_15_code
def yX8_ladderAt : MethodName := ⟨RX8, "ladderAt", "(II)I"⟩
abbrev cX8_node : ByteArray := prog_1_method_16_code
def yX8_node : MethodName := ⟨RX8, "node", "(II)I"⟩
abbrev cX8_meeting : ByteArray := prog_1_method_17_code
def yX8_meeting : MethodName := ⟨RX8, "meeting", "(II)I"⟩
abbrev cX8_wayAt : ByteArray := prog_1_method_18_code
def yX8_wayAt : MethodName := ⟨RX8, "wayAt", "(III)I"⟩
abbrev cX8_real : ByteArray := prog_1_method_19_code
def yX8_real : MethodName := ⟨RX8, "real", "(II)F"⟩
abbrev cX8_distance : ByteArray := prog_1_method_20_code
def yX8_distance : MethodName := ⟨RX8, "distance", "(II)F"⟩
abbrev cX8_reach : ByteArray := prog_1_method_21_code
def yX8_reach : MethodName := ⟨RX8, "reach", "(II)I"⟩
abbrev cX8_farthest : ByteArray := prog_1_method_22_code
def yX8_farthest : MethodName := ⟨RX8, "farthest", "(I)I"⟩
abbrev cX8_apart : ByteArray := prog_1_method_23_code
def yX8_apart : MethodName := ⟨RX8, "apart", "(I)I"⟩
abbrev cX8_shape : ByteArray := prog_1_method_24_code
def yX8_shape : MethodName := ⟨RX8, "shape", "(I)I"⟩
abbrev cX8_alike : ByteArray := prog_1_method_25_code
def yX8_alike : MethodName := ⟨RX8, "alike", "(I)I"⟩
abbrev cX8_count : ByteArray := prog_1_method_27_code
def yX8_count : MethodName := ⟨RX8, "count", "(I)I"⟩
abbrev cX8_lookAround : ByteArray := prog_1_method_28_code
def yX8_lookAround : MethodName := ⟨RX8, "lookAround", "()V"⟩
abbrev cX8_orNone : ByteArray := prog_1_method_29_code
def yX8_orNone : MethodName := ⟨RX8, "orNone", "(I)I"⟩
abbrev cX8_noFloat : ByteArray := prog_1_method_30_code
def yX8_noFloat : MethodName := ⟨RX8, "noFloat", "()F"⟩
abbrev cX8_isLength : ByteArray := prog_1_method_31_code
def yX8_isLength : MethodName := ⟨RX8, "isLength", "(I)Z"⟩
abbrev cX8_toFloat : ByteArray := prog_1_method_32_code
def yX8_toFloat : MethodName := ⟨RX8, "toFloat", "(I)F"⟩
def RX9 : String := "AncestorLooksModel"
def TX9 : u_T := fun k => match k with
  | _ => ("", "", "", false)
def tyX9 : Nat → FieldType := fun k => match k with
  | _ => .int
abbrev wsX90 : List Cond := u_ws RX9 TX9 0
theorem nmX9 : ∀ a, a < 0 → ∀ b, b < 0 → a ≠ b → (TX9 a).2.1 ≠ (TX9 b).2.1 := by decide +kernel
theorem tyX9_ok : ∀ k, k < 0 → parseFieldDescriptor (TX9 k).2.2.1 = some (tyX9 k) := by decide +kernel
def RJ6 : String := "java/lang/Integer"
def TJ6 : u_T := fun k => match k with
  | _ => ("", "", "", false)
def tyJ6 : Nat → FieldType := fun k => match k with
  | _ => .int
theorem nmJ6 : ∀ a, a < 0 → ∀ b, b < 0 → a ≠ b → (TJ6 a).2.1 ≠ (TJ6 b).2.1 := by decide +kernel
theorem tyJ6_ok : ∀ k, k < 0 → parseFieldDescriptor (TJ6 k).2.2.1 = some (tyJ6 k) := by decide +kernel
abbrev cJ6_bitCount_0f7a4 : ByteArray := prog_12_method_49_code
def yJ6_bitCount_0f7a4 : MethodName := ⟨RJ6, "bitCount", "(I)I"⟩
def RJ9 : String := "java/lang/Math"
def TJ9 : u_T := fun k => match k with
  | _ => ("", "", "", false)
def tyJ9 : Nat → FieldType := fun k => match k with
  | _ => .int
theorem nmJ9 : ∀ a, a < 0 → ∀ b, b < 0 → a ≠ b → (TJ9 a).2.1 ≠ (TJ9 b).2.1 := by decide +kernel
theorem tyJ9_ok : ∀ k, k < 0 → parseFieldDescriptor (TJ9 k).2.2.1 = some (tyJ9 k) := by decide +kernel
abbrev cJ9_min_7cf53 : ByteArray := prog_13_method_69_code
def yJ9_min_7cf53 : MethodName := ⟨RJ9, "min", "(II)I"⟩
def RL : String := "AncestorLooksLaw"
abbrev cL_cell : ByteArray := method_2_code
def yL_cell : MethodName := ⟨RL, "cell", "([II)I"⟩
abbrev cL_low : ByteArray := method_3_code
def yL_low : MethodName := ⟨RL, "low", "(II)I"⟩
abbrev cL_all : ByteArray := method_4_code
def yL_all : MethodName := ⟨RL, "all", "(LAncestorLooks;)J"⟩
abbrev cL_is : ByteArray := method_5_code
def yL_is : MethodName := ⟨RL, "is", "(LAncestorLooks;I)Z"⟩
abbrev cL_isSound : ByteArray := method_6_code
def yL_isSound : MethodName := ⟨RL, "isSound", "(LAncestorLooks;)Z"⟩
abbrev cL_isLooked : ByteArray := method_7_code
def yL_isLooked : MethodName := ⟨RL, "isLooked", "(LAncestorLooks;II)Z"⟩
abbrev cL_acts : ByteArray := method_8_code
def yL_acts : MethodName := ⟨RL, "acts", "(LAncestorLooks;I)I"⟩
abbrev cL_law : ByteArray := code
def yL_law : MethodName := ⟨RL, "law", "([I)Z"⟩
abbrev vwCl : List vw_C := [(RX0, TX0, 1), (RX1, TX1, 4), (RX2, TX2, 1), (RX3, TX3, 5), (RX4, TX4, 12), (RX5, TX5, 2), (RX6, TX6, 4), (RX7, TX7, 7), (RX8, TX8, 6)]
