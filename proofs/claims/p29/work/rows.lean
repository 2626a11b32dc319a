section
-- ===== PART A: goes FIRST, ahead of the names: the tables' words, and 'selects' of the private methods out of them =====
/-- a private method of a class that the tables say can be made, by its rows of tables_1 -/
def lw_okq (q : MethodName × Nat) : Prop := (q.1.cls ≠ "java/lang/invoke/MethodHandle" ∧ q.1.cls ≠ "java/lang/invoke/VarHandle") ∧ Cond.instantiable q.1.cls q.2 ∈ tables_1 ∧ Cond.privateMethod q.1 ∈ tables_1 ∧ Cond.instanceMethod q.1 ∈ tables_1
theorem lw_p0 : lw_okq (⟨"AncestorLooks", "lookAround", "()V"⟩, 6) := ⟨⟨by decide +kernel, by decide +kernel⟩, List.mem_of_getElem? (i := 13) (by decide +kernel), List.mem_of_getElem? (i := 203) (by decide +kernel), List.mem_of_getElem? (i := 204) (by decide +kernel)⟩
theorem lw_p1 : lw_okq (⟨"AncestorLooks$Survey", "linkChildren", "()V"⟩, 12) := ⟨⟨by decide +kernel, by decide +kernel⟩, List.mem_of_getElem? (i := 102) (by decide +kernel), List.mem_of_getElem? (i := 211) (by decide +kernel), List.mem_of_getElem? (i := 212) (by decide +kernel)⟩
theorem lw_p2 : lw_okq (⟨"AncestorLooks$Survey", "goDown", "()V"⟩, 12) := ⟨⟨by decide +kernel, by decide +kernel⟩, List.mem_of_getElem? (i := 102) (by decide +kernel), List.mem_of_getElem? (i := 233) (by decide +kernel), List.mem_of_getElem? (i := 234) (by decide +kernel)⟩
theorem lw_p3 : lw_okq (⟨"AncestorLooks$Survey", "goUp", "()V"⟩, 12) := ⟨⟨by decide +kernel, by decide +kernel⟩, List.mem_of_getElem? (i := 102) (by decide +kernel), List.mem_of_getElem? (i := 237) (by decide +kernel), List.mem_of_getElem? (i := 238) (by decide +kernel)⟩
theorem lw_p4 : lw_okq (⟨"AncestorLooks$Survey", "measure", "(I)V"⟩, 12) := ⟨⟨by decide +kernel, by decide +kernel⟩, List.mem_of_getElem? (i := 102) (by decide +kernel), List.mem_of_getElem? (i := 241) (by decide +kernel), List.mem_of_getElem? (i := 242) (by decide +kernel)⟩
theorem lw_p5 : lw_okq (⟨"AncestorLooks$Survey", "findTops", "()V"⟩, 12) := ⟨⟨by decide +kernel, by decide +kernel⟩, List.mem_of_getElem? (i := 102) (by decide +kernel), List.mem_of_getElem? (i := 245) (by decide +kernel), List.mem_of_getElem? (i := 246) (by decide +kernel)⟩
theorem lw_p6 : lw_okq (⟨"AncestorLooks$History", "dropOldest", "()V"⟩, 4) := ⟨⟨by decide +kernel, by decide +kernel⟩, List.mem_of_getElem? (i := 80) (by decide +kernel), List.mem_of_getElem? (i := 311) (by decide +kernel), List.mem_of_getElem? (i := 312) (by decide +kernel)⟩
theorem lw_p7 : lw_okq (⟨"AncestorLooks$History", "stateAt", "(I)LAncestorLooks$Tree;"⟩, 4) := ⟨⟨by decide +kernel, by decide +kernel⟩, List.mem_of_getElem? (i := 80) (by decide +kernel), List.mem_of_getElem? (i := 315) (by decide +kernel), List.mem_of_getElem? (i := 316) (by decide +kernel)⟩
theorem lw_p8 : lw_okq (⟨"AncestorLooks$Ways", "findMeetings", "(I)V"⟩, 7) := ⟨⟨by decide +kernel, by decide +kernel⟩, List.mem_of_getElem? (i := 147) (by decide +kernel), List.mem_of_getElem? (i := 477) (by decide +kernel), List.mem_of_getElem? (i := 478) (by decide +kernel)⟩
theorem lw_p9 : lw_okq (⟨"AncestorLooks$Ways", "farthestFromOn", "(II)I"⟩, 7) := ⟨⟨by decide +kernel, by decide +kernel⟩, List.mem_of_getElem? (i := 147) (by decide +kernel), List.mem_of_getElem? (i := 484) (by decide +kernel), List.mem_of_getElem? (i := 485) (by decide +kernel)⟩
theorem lw_p10 : lw_okq (⟨"AncestorLooks$Ways", "measured", "(II)F"⟩, 7) := ⟨⟨by decide +kernel, by decide +kernel⟩, List.mem_of_getElem? (i := 147) (by decide +kernel), List.mem_of_getElem? (i := 490) (by decide +kernel), List.mem_of_getElem? (i := 491) (by decide +kernel)⟩
theorem lw_p11 : lw_okq (⟨"AncestorLooks$Shapes", "join", "(I)I"⟩, 5) := ⟨⟨by decide +kernel, by decide +kernel⟩, List.mem_of_getElem? (i := 179) (by decide +kernel), List.mem_of_getElem? (i := 526) (by decide +kernel), List.mem_of_getElem? (i := 527) (by decide +kernel)⟩
theorem lw_p12 : lw_okq (⟨"AncestorLooks$Shapes", "enter", "(I)V"⟩, 5) := ⟨⟨by decide +kernel, by decide +kernel⟩, List.mem_of_getElem? (i := 179) (by decide +kernel), List.mem_of_getElem? (i := 587) (by decide +kernel), List.mem_of_getElem? (i := 588) (by decide +kernel)⟩
def lw_privs_1 : List (MethodName × Nat) := [(⟨"AncestorLooks", "lookAround", "()V"⟩, 6), (⟨"AncestorLooks$Survey", "linkChildren", "()V"⟩, 12), (⟨"AncestorLooks$Survey", "goDown", "()V"⟩, 12), (⟨"AncestorLooks$Survey", "goUp", "()V"⟩, 12), (⟨"AncestorLooks$Survey", "measure", "(I)V"⟩, 12), (⟨"AncestorLooks$Survey", "findTops", "()V"⟩, 12), (⟨"AncestorLooks$History", "dropOldest", "()V"⟩, 4), (⟨"AncestorLooks$History", "stateAt", "(I)LAncestorLooks$Tree;"⟩, 4), (⟨"AncestorLooks$Ways", "findMeetings", "(I)V"⟩, 7), (⟨"AncestorLooks$Ways", "farthestFromOn", "(II)I"⟩, 7), (⟨"AncestorLooks$Ways", "measured", "(II)F"⟩, 7), (⟨"AncestorLooks$Shapes", "join", "(I)I"⟩, 5), (⟨"AncestorLooks$Shapes", "enter", "(I)V"⟩, 5)]
theorem lw_r1 : ∀ q ∈ lw_privs_1, lw_okq q := List.forall_mem_cons.mpr ⟨lw_p0, List.forall_mem_cons.mpr ⟨lw_p1, List.forall_mem_cons.mpr ⟨lw_p2, List.forall_mem_cons.mpr ⟨lw_p3, List.forall_mem_cons.mpr ⟨lw_p4, List.forall_mem_cons.mpr ⟨lw_p5, List.forall_mem_cons.mpr ⟨lw_p6, List.forall_mem_cons.mpr ⟨lw_p7, List.forall_mem_cons.mpr ⟨lw_p8, List.forall_mem_cons.mpr ⟨lw_p9, List.forall_mem_cons.mpr ⟨lw_p10, List.forall_mem_cons.mpr ⟨lw_p11, List.forall_mem_cons.mpr ⟨lw_p12, fun _ h => absurd h List.not_mem_nil⟩⟩⟩⟩⟩⟩⟩⟩⟩⟩⟩⟩⟩
def lw_privs : List (MethodName × Nat) := lw_privs_1
def lw_tbl : List Cond := k2_sels lw_privs ++ tables_1
theorem lw_privs_ok : ∀ q ∈ lw_privs, lw_okq q := lw_r1
/-- the streams that the claim lets the run draw from -/
abbrev lw_cs : List Choice := [Jvm.Choice.named "NaN.bits"]
theorem lw_bits : nanBits ∈ lw_cs := by first | decide | exact List.mem_cons_self | simp [lw_cs, nanBits]
-- ===== end of PART A; then your names; then what follows =====

def RX0 : String := "AncestorLooks$FloatRow"
def TX0 : u_T := fun k => match k with
  | _ => ("AncestorLooks$FloatRow", "cells", "[F", true)
def tyX0 : Nat → FieldType := fun k => match k with
  | _ => .array .float
abbrev wsX00 : List Cond := u_ws RX0 TX0 1
theorem nmX0 : ∀ a, a < 1 → ∀ b, b < 1 → a ≠ b → (TX0 a).2.1 ≠ (TX0 b).2.1 := by decide +kernel
theorem tyX0_ok : ∀ k, k < 1 → parseFieldDescriptor (TX0 k).2.2.1 = some (tyX0 k) := by decide +kernel
abbrev cX0_init : ByteArray := prog_2_method_1_code
def yX0_init : MethodName := ⟨RX0, "<init>", "()V"⟩
abbrev cX0_get : ByteArray := prog_2_method_2_code
def yX0_get : MethodName := ⟨RX0, "get", "(I)F"⟩
abbrev cX0_set : ByteArray := prog_2_method_3_code
def yX0_set : MethodName := ⟨RX0, "set", "(IF)V"⟩
abbrev cX0_copyFrom : ByteArray := prog_2_method_4_code
def yX0_copyFrom : MethodName := ⟨RX0, "copyFrom", "(LAncestorLooks$FloatRow;)V"⟩
def RX1 : String := "AncestorLooks$History"
def TX1 : u_T := fun k => match k with
  | 0 => ("AncestorLooks$History", "states", "[LAncestorLooks$Tree;", true)
  | 1 => ("AncestorLooks$History", "snapshot", "LAncestorLooks$Tree;", true)
  | 2 => ("AncestorLooks$History", "used", "I", false)
  | _ => ("AncestorLooks$History", "kept", "Z", false)
def tyX1 : Nat → FieldType := fun k => match k with
  | 0 => .array (.object "AncestorLooks$Tree")
  | 1 => .object "AncestorLooks$Tree"
  | 2 => .int
  | _ => .boolean
abbrev wsX10 : List Cond := u_ws RX1 TX1 4
theorem nmX1 : ∀ a, a < 4 → ∀ b, b < 4 → a ≠ b → (TX1 a).2.1 ≠ (TX1 b).2.1 := by decide +kernel
theorem tyX1_ok : ∀ k, k < 4 → parseFieldDescriptor (TX1 k).2.2.1 = some (tyX1 k) := by decide +kernel
abbrev cX1_init : ByteArray := prog_3_method_1_code
def yX1_init : MethodName := ⟨RX1, "<init>", "()V"⟩
abbrev cX1_length : ByteArray := prog_3_method_2_code
def yX1_length : MethodName := ⟨RX1, "length", "()I"⟩
abbrev cX1_hasSnapshot : ByteArray := prog_3_method_3_code
def yX1_hasSnapshot : MethodName := ⟨RX1, "hasSnapshot", "()Z"⟩
abbrev cX1_record : ByteArray := prog_3_method_4_code
def yX1_record : MethodName := ⟨RX1, "record", "(LAncestorLooks$Tree;)V"⟩
abbrev cX1_takeBack : ByteArray := prog_3_method_5_code
def yX1_takeBack : MethodName := ⟨RX1, "takeBack", "(LAncestorLooks$Tree;)V"⟩
abbrev cX1_keepSnapshot : ByteArray := prog_3_method_6_code
def yX1_keepSnapshot : MethodName := ⟨RX1, "keepSnapshot", "(LAncestorLooks$Tree;)V"⟩
abbrev cX1_showSnapshot : ByteArray := prog_3_method_7_code
def yX1_showSnapshot : MethodName := ⟨RX1, "showSnapshot", "(LAncestorLooks$Tree;)V"⟩
abbrev cX1_dropOldest : ByteArray := prog_3_method_8_code
def yX1_dropOldest : MethodName := ⟨RX1, "dropOldest", "()V"⟩
abbrev cX1_stateAt : ByteArray := prog_3_method_9_code
def yX1_stateAt : MethodName := ⟨RX1, "stateAt", "(I)LAncestorLooks$Tree;"⟩
def RX2 : String := "AncestorLooks$Row"
def TX2 : u_T := fun k => match k with
  | _ => ("AncestorLooks$Row", "cells", "[I", true)
def tyX2 : Nat → FieldType := fun k => match k with
  | _ => .array .int
abbrev wsX20 : List Cond := u_ws RX2 TX2 1
theorem nmX2 : ∀ a, a < 1 → ∀ b, b < 1 → a ≠ b → (TX2 a).2.1 ≠ (TX2 b).2.1 := by decide +kernel
theorem tyX2_ok : ∀ k, k < 1 → parseFieldDescriptor (TX2 k).2.2.1 = some (tyX2 k) := by decide +kernel
abbrev cX2_init : ByteArray := prog_4_method_1_code
def yX2_init : MethodName := ⟨RX2, "<init>", "()V"⟩
abbrev cX2_get : ByteArray := prog_4_method_2_code
def yX2_get : MethodName := ⟨RX2, "get", "(I)I"⟩
abbrev cX2_set : ByteArray := prog_4_method_3_code
def yX2_set : MethodName := ⟨RX2, "set", "(II)V"⟩
abbrev cX2_fill : ByteArray := prog_4_method_4_code
def yX2_fill : MethodName := ⟨RX2, "fill", "(I)V"⟩
abbrev cX2_copyFrom : ByteArray := prog_4_method_5_code
def yX2_copyFrom : MethodName := ⟨RX2, "copyFrom", "(LAncestorLooks$Row;)V"⟩
def RX3 : String := "AncestorLooks$Shapes"
def TX3 : u_T := fun k => match k with
  | 0 => ("AncestorLooks$Shapes", "tree", "LAncestorLooks$Tree;", true)
  | 1 => ("AncestorLooks$Shapes", "survey", "LAncestorLooks$Survey;", true)
  | 2 => ("AncestorLooks$Shapes", "shapes", "LAncestorLooks$Row;", true)
  | 3 => ("AncestorLooks$Shapes", "table", "LAncestorLooks$Row;", true)
  | _ => ("AncestorLooks$Shapes", "kinds", "I", false)
def tyX3 : Nat → FieldType := fun k => match k with
  | 0 => .object "AncestorLooks$Tree"
  | 1 => .object "AncestorLooks$Survey"
  | 2 => .object "AncestorLooks$Row"
  | 3 => .object "AncestorLooks$Row"
  | _ => .int
abbrev wsX30 : List Cond := u_ws RX3 TX3 5
theorem nmX3 : ∀ a, a < 5 → ∀ b, b < 5 → a ≠ b → (TX3 a).2.1 ≠ (TX3 b).2.1 := by decide +kernel
theorem tyX3_ok : ∀ k, k < 5 → parseFieldDescriptor (TX3 k).2.2.1 = some (tyX3 k) := by decide +kernel
abbrev cX3_init : ByteArray := prog_5_method_1_code
def yX3_init : MethodName := ⟨RX3, "<init>", "(LAncestorLooks$Tree;LAncestorLooks$Survey;)V"⟩
abbrev cX3_write : ByteArray := prog_5_method_2_code
def yX3_write : MethodName := ⟨RX3, "write", "()V"⟩
abbrev cX3_join : ByteArray := prog_5_method_3_code
def yX3_join : MethodName := ⟨RX3, "join", "(I)I"⟩
abbrev cX3_shapeOf : ByteArray := prog_5_method_4_code
def yX3_shapeOf : MethodName := ⟨RX3, "shapeOf", "(I)I"⟩
abbrev cX3_countLike : ByteArray := prog_5_method_5_code
def yX3_countLike : MethodName := ⟨RX3, "countLike", "(I)I"⟩
abbrev cX3_sort : ByteArray := prog_5_method_6_code
def yX3_sort : MethodName := ⟨RX3, "sort", "()V"⟩
abbrev cX3_enter : ByteArray := prog_5_method_7_code
def yX3_enter : MethodName := ⟨RX3, "enter", "(I)V"⟩
abbrev cX3_kinds : ByteArray := prog_5_method_8_code
def yX3_kinds : MethodName := ⟨RX3, "kinds", "()I"⟩
def RX4 : String := "AncestorLooks$Survey"
def TX4 : u_T := fun k => match k with
  | 0 => ("AncestorLooks$Survey", "tree", "LAncestorLooks$Tree;", true)
  | 1 => ("AncestorLooks$Survey", "firstChild", "LAncestorLooks$Row;", true)
  | 2 => ("AncestorLooks$Survey", "nextChild", "LAncestorLooks$Row;", true)
  | 3 => ("AncestorLooks$Survey", "downward", "LAncestorLooks$Row;", true)
  | 4 => ("AncestorLooks$Survey", "depths", "LAncestorLooks$Row;", true)
  | 5 => ("AncestorLooks$Survey", "heights", "LAncestorLooks$Row;", true)
  | 6 => ("AncestorLooks$Survey", "children", "LAncestorLooks$Row;", true)
  | 7 => ("AncestorLooks$Survey", "sizes", "LAncestorLooks$Row;", true)
  | 8 => ("AncestorLooks$Survey", "longChildren", "LAncestorLooks$Row;", true)
  | 9 => ("AncestorLooks$Survey", "tops", "LAncestorLooks$Row;", true)
  | 10 => ("AncestorLooks$Survey", "feet", "LAncestorLooks$Row;", true)
  | _ => ("AncestorLooks$Survey", "present", "I", false)
def tyX4 : Nat → FieldType := fun k => match k with
  | 0 => .object "AncestorLooks$Tree"
  | 1 => .object "AncestorLooks$Row"
  | 2 => .object "AncestorLooks$Row"
  | 3 => .object "AncestorLooks$Row"
  | 4 => .object "AncestorLooks$Row"
  | 5 => .object "AncestorLooks$Row"
  | 6 => .object "AncestorLooks$Row"
  | 7 => .object "AncestorLooks$Row"
  | 8 => .object "AncestorLooks$Row"
  | 9 => .object "AncestorLooks$Row"
  | 10 => .object "AncestorLooks$Row"
  | _ => .int
abbrev wsX40 : List Cond := u_ws RX4 TX4 12
theorem nmX4 : ∀ a, a < 12 → ∀ b, b < 12 → a ≠ b → (TX4 a).2.1 ≠ (TX4 b).2.1 := by decide +kernel
theorem tyX4_ok : ∀ k, k < 12 → parseFieldDescriptor (TX4 k).2.2.1 = some (tyX4 k) := by decide +kernel
abbrev cX4_init : ByteArray := prog_6_method_1_code
def yX4_init : MethodName := ⟨RX4, "<init>", "(LAncestorLooks$Tree;)V"⟩
abbrev cX4_take : ByteArray := prog_6_method_2_code
def yX4_take : MethodName := ⟨RX4, "take", "()V"⟩
abbrev cX4_linkChildren : ByteArray := prog_6_method_3_code
def yX4_linkChildren : MethodName := ⟨RX4, "linkChildren", "()V"⟩
abbrev cX4_goDown : ByteArray := prog_6_method_4_code
def yX4_goDown : MethodName := ⟨RX4, "goDown", "()V"⟩
abbrev cX4_goUp : ByteArray := prog_6_method_5_code
def yX4_goUp : MethodName := ⟨RX4, "goUp", "()V"⟩
abbrev cX4_measure : ByteArray := prog_6_method_6_code
def yX4_measure : MethodName := ⟨RX4, "measure", "(I)V"⟩
abbrev cX4_findTops : ByteArray := prog_6_method_7_code
def yX4_findTops : MethodName := ⟨RX4, "findTops", "()V"⟩
abbrev cX4_present : ByteArray := prog_6_method_8_code
def yX4_present : MethodName := ⟨RX4, "present", "()I"⟩
abbrev cX4_downwardAt : ByteArray := prog_6_method_9_code
def yX4_downwardAt : MethodName := ⟨RX4, "downwardAt", "(I)I"⟩
abbrev cX4_firstChildOf : ByteArray := prog_6_method_10_code
def yX4_firstChildOf : MethodName := ⟨RX4, "firstChildOf", "(I)I"⟩
abbrev cX4_nextChildOf : ByteArray := prog_6_method_11_code
def yX4_nextChildOf : MethodName := ⟨RX4, "nextChildOf", "(I)I"⟩
abbrev cX4_depthOf : ByteArray := prog_6_method_12_code
def yX4_depthOf : MethodName := ⟨RX4, "depthOf", "(I)I"⟩
abbrev cX4_heightOf : ByteArray := prog_6_method_13_code
def yX4_heightOf : MethodName := ⟨RX4, "heightOf", "(I)I"⟩
abbrev cX4_childrenOf : ByteArray := prog_6_method_14_code
def yX4_childrenOf : MethodName := ⟨RX4, "childrenOf", "(I)I"⟩
abbrev cX4_sizeOf : ByteArray := prog_6_method_15_code
def yX4_sizeOf : MethodName := ⟨RX4, "sizeOf", "(I)I"⟩
abbrev cX4_longChildOf : ByteArray := prog_6_method_16_code
def yX4_longChildOf : MethodName := ⟨RX4, "longChildOf", "(I)I"⟩
abbrev cX4_topOf : ByteArray := prog_6_method_17_code
def yX4_topOf : MethodName := ⟨RX4, "topOf", "(I)I"⟩
abbrev cX4_footOf : ByteArray := prog_6_method_18_code
def yX4_footOf : MethodName := ⟨RX4, "footOf", "(I)I"⟩
abbrev cX4_isLeaf : ByteArray := prog_6_method_19_code
def yX4_isLeaf : MethodName := ⟨RX4, "isLeaf", "(I)Z"⟩
abbrev cX4_longWayOf : ByteArray := prog_6_method_20_code
def yX4_longWayOf : MethodName := ⟨RX4, "longWayOf", "(I)I"⟩
abbrev cX4_ladderOf : ByteArray := prog_6_method_21_code
def yX4_ladderOf : MethodName := ⟨RX4, "ladderOf", "(I)I"⟩
abbrev cX4_climb : ByteArray := prog_6_method_22_code
def yX4_climb : MethodName := ⟨RX4, "climb", "(II)I"⟩
abbrev cX4_isInBranch : ByteArray := prog_6_method_23_code
def yX4_isInBranch : MethodName := ⟨RX4, "isInBranch", "(II)Z"⟩
abbrev cX4_meetingOf : ByteArray := prog_6_method_24_code
def yX4_meetingOf : MethodName := ⟨RX4, "meetingOf", "(II)I"⟩
abbrev cX4_looksFor : ByteArray := prog_6_method_25_code
def yX4_looksFor : MethodName := ⟨RX4, "looksFor", "(II)I"⟩
abbrev cX4_countLeaves : ByteArray := prog_6_method_26_code
def yX4_countLeaves : MethodName := ⟨RX4, "countLeaves", "()I"⟩
abbrev cX4_countLadders : ByteArray := prog_6_method_27_code
def yX4_countLadders : MethodName := ⟨RX4, "countLadders", "()I"⟩
abbrev cX4_countJumps : ByteArray := prog_6_method_28_code
def yX4_countJumps : MethodName := ⟨RX4, "countJumps", "()I"⟩
abbrev cX4_jumpsFrom : ByteArray := prog_6_method_29_code
def yX4_jumpsFrom : MethodName := ⟨RX4, "jumpsFrom", "(I)I"⟩
def RX5 : String := "AncestorLooks$Text"
def TX5 : u_T := fun k => match k with
  | 0 => ("AncestorLooks$Text", "signs", "[C", true)
  | _ => ("AncestorLooks$Text", "used", "I", false)
def tyX5 : Nat → FieldType := fun k => match k with
  | 0 => .array .char
  | _ => .int
abbrev wsX50 : List Cond := u_ws RX5 TX5 2
theorem nmX5 : ∀ a, a < 2 → ∀ b, b < 2 → a ≠ b → (TX5 a).2.1 ≠ (TX5 b).2.1 := by decide +kernel
theorem tyX5_ok : ∀ k, k < 2 → parseFieldDescriptor (TX5 k).2.2.1 = some (tyX5 k) := by decide +kernel
abbrev cX5_init : ByteArray := prog_7_method_1_code
def yX5_init : MethodName := ⟨RX5, "<init>", "()V"⟩
abbrev cX5_length : ByteArray := prog_7_method_2_code
def yX5_length : MethodName := ⟨RX5, "length", "()I"⟩
abbrev cX5_put : ByteArray := prog_7_method_3_code
def yX5_put : MethodName := ⟨RX5, "put", "(C)Z"⟩
abbrev cX5_fault : ByteArray := prog_7_method_5_code
def yX5_fault : MethodName := ⟨RX5, "fault", "()I"⟩
abbrev cX5_branches : ByteArray := prog_7_method_6_code
def yX5_branches : MethodName := ⟨RX5, "branches", "()I"⟩
abbrev cX5_plant : ByteArray := prog_7_method_7_code
def yX5_plant : MethodName := ⟨RX5, "plant", "(LAncestorLooks$Tree;I)V"⟩
def RX6 : String := "AncestorLooks$Tree"
def TX6 : u_T := fun k => match k with
  | 0 => ("AncestorLooks$Tree", "parents", "LAncestorLooks$Row;", true)
  | 1 => ("AncestorLooks$Tree", "bits", "LAncestorLooks$Row;", true)
  | 2 => ("AncestorLooks$Tree", "lengths", "LAncestorLooks$FloatRow;", true)
  | _ => ("AncestorLooks$Tree", "ever", "I", false)
def tyX6 : Nat → FieldType := fun k => match k with
  | 0 => .object "AncestorLooks$Row"
  | 1 => .object "AncestorLooks$Row"
  | 2 => .object "AncestorLooks$FloatRow"
  | _ => .int
abbrev wsX60 : List Cond := u_ws RX6 TX6 4
theorem nmX6 : ∀ a, a < 4 → ∀ b, b < 4 → a ≠ b → (TX6 a).2.1 ≠ (TX6 b).2.1 := by decide +kernel
theorem tyX6_ok : ∀ k, k < 4 → parseFieldDescriptor (TX6 k).2.2.1 = some (tyX6 k) := by decide +kernel
abbrev cX6_init : ByteArray := prog_8_method_1_code
def yX6_init : MethodName := ⟨RX6, "<init>", "()V"⟩
abbrev cX6_ever : ByteArray := prog_8_method_2_code
def yX6_ever : MethodName := ⟨RX6, "ever", "()I"⟩
abbrev cX6_isNode : ByteArray := prog_8_method_3_code
def yX6_isNode : MethodName := ⟨RX6, "isNode", "(I)Z"⟩
abbrev cX6_hasRoomFor : ByteArray := prog_8_method_4_code
def yX6_hasRoomFor : MethodName := ⟨RX6, "hasRoomFor", "(I)Z"⟩
abbrev cX6_parentOf : ByteArray := prog_8_method_5_code
def yX6_parentOf : MethodName := ⟨RX6, "parentOf", "(I)I"⟩
abbrev cX6_bitsOf : ByteArray := prog_8_method_6_code
def yX6_bitsOf : MethodName := ⟨RX6, "bitsOf", "(I)I"⟩
abbrev cX6_lengthOf : ByteArray := prog_8_method_7_code
def yX6_lengthOf : MethodName := ⟨RX6, "lengthOf", "(I)F"⟩
abbrev cX6_append : ByteArray := prog_8_method_8_code
def yX6_append : MethodName := ⟨RX6, "append", "(IIF)I"⟩
abbrev cX6_remove : ByteArray := prog_8_method_9_code
def yX6_remove : MethodName := ⟨RX6, "remove", "(I)V"⟩
abbrev cX6_hang : ByteArray := prog_8_method_10_code
def yX6_hang : MethodName := ⟨RX6, "hang", "(II)V"⟩
abbrev cX6_stretch : ByteArray := prog_8_method_11_code
def yX6_stretch : MethodName := ⟨RX6, "stretch", "(IIF)V"⟩
abbrev cX6_copyFrom : ByteArray := prog_8_method_12_code
def yX6_copyFrom : MethodName := ⟨RX6, "copyFrom", "(LAncestorLooks$Tree;)V"⟩
def RX7 : String := "AncestorLooks$Ways"
def TX7 : u_T := fun k => match k with
  | 0 => ("AncestorLooks$Ways", "tree", "LAncestorLooks$Tree;", true)
  | 1 => ("AncestorLooks$Ways", "survey", "LAncestorLooks$Survey;", true)
  | 2 => ("AncestorLooks$Ways", "paths", "LAncestorLooks$FloatRow;", true)
  | 3 => ("AncestorLooks$Ways", "meetingPaths", "LAncestorLooks$FloatRow;", true)
  | 4 => ("AncestorLooks$Ways", "marks", "LAncestorLooks$Row;", true)
  | 5 => ("AncestorLooks$Ways", "pairFirst", "I", false)
  | _ => ("AncestorLooks$Ways", "pairSecond", "I", false)
def tyX7 : Nat → FieldType := fun k => match k with
  | 0 => .object "AncestorLooks$Tree"
  | 1 => .object "AncestorLooks$Survey"
  | 2 => .object "AncestorLooks$FloatRow"
  | 3 => .object "AncestorLooks$FloatRow"
  | 4 => .object "AncestorLooks$Row"
  | 5 => .int
  | _ => .int
abbrev wsX70 : List Cond := u_ws RX7 TX7 7
theorem nmX7 : ∀ a, a < 7 → ∀ b, b < 7 → a ≠ b → (TX7 a).2.1 ≠ (TX7 b).2.1 := by decide +kernel
theorem tyX7_ok : ∀ k, k < 7 → parseFieldDescriptor (TX7 k).2.2.1 = some (tyX7 k) := by decide +kernel
abbrev cX7_init : ByteArray := prog_9_method_1_code
def yX7_init : MethodName := ⟨RX7, "<init>", "(LAncestorLooks$Tree;LAncestorLooks$Survey;)V"⟩
abbrev cX7_take : ByteArray := prog_9_method_2_code
def yX7_take : MethodName := ⟨RX7, "take", "()V"⟩
abbrev cX7_pathOf : ByteArray := prog_9_method_3_code
def yX7_pathOf : MethodName := ⟨RX7, "pathOf", "(I)F"⟩
abbrev cX7_between : ByteArray := prog_9_method_4_code
def yX7_between : MethodName := ⟨RX7, "between", "(II)F"⟩
abbrev cX7_sum : ByteArray := prog_9_method_5_code
def yX7_sum : MethodName := ⟨RX7, "sum", "(FFF)F"⟩
abbrev cX7_onWay : ByteArray := prog_9_method_6_code
def yX7_onWay : MethodName := ⟨RX7, "onWay", "(III)I"⟩
abbrev cX7_highestWithin : ByteArray := prog_9_method_7_code
def yX7_highestWithin : MethodName := ⟨RX7, "highestWithin", "(IF)I"⟩
abbrev cX7_farthestFrom : ByteArray := prog_9_method_8_code
def yX7_farthestFrom : MethodName := ⟨RX7, "farthestFrom", "(I)I"⟩
abbrev cX7_findPair : ByteArray := prog_9_method_9_code
def yX7_findPair : MethodName := ⟨RX7, "findPair", "()V"⟩
abbrev cX7_pairFirst : ByteArray := prog_9_method_10_code
def yX7_pairFirst : MethodName := ⟨RX7, "pairFirst", "()I"⟩
abbrev cX7_pairSecond : ByteArray := prog_9_method_11_code
def yX7_pairSecond : MethodName := ⟨RX7, "pairSecond", "()I"⟩
abbrev cX7_findMeetings : ByteArray := prog_9_method_12_code
def yX7_findMeetings : MethodName := ⟨RX7, "findMeetings", "(I)V"⟩
abbrev cX7_measured : ByteArray := prog_9_method_13_code
def yX7_measured : MethodName := ⟨RX7, "measured", "(II)F"⟩
abbrev cX7_farthestFromOn : ByteArray := prog_9_method_14_code
def yX7_farthestFromOn : MethodName := ⟨RX7, "farthestFromOn", "(II)I"⟩
def RX8 : String := "AncestorLooks"
def TX8 : u_T := fun k => match k with
  | 0 => ("AncestorLooks", "tree", "LAncestorLooks$Tree;", true)
  | 1 => ("AncestorLooks", "text", "LAncestorLooks$Text;", true)
  | 2 => ("AncestorLooks", "history", "LAncestorLooks$History;", true)
  | 3 => ("AncestorLooks", "survey", "LAncestorLooks$Survey;", true)
  | 4 => ("AncestorLooks", "ways", "LAncestorLooks$Ways;", true)
  | _ => ("AncestorLooks", "shapes", "LAncestorLooks$Shapes;", true)
def tyX8 : Nat → FieldType := fun k => match k with
  | 0 => .object "AncestorLooks$Tree"
  | 1 => .object "AncestorLooks$Text"
  | 2 => .object "AncestorLooks$History"
  | 3 => .object "AncestorLooks$Survey"
  | 4 => .object "AncestorLooks$Ways"
  | _ => .object "AncestorLooks$Shapes"
abbrev wsX80 : List Cond := u_ws RX8 TX8 6
theorem nmX8 : ∀ a, a < 6 → ∀ b, b < 6 → a ≠ b → (TX8 a).2.1 ≠ (TX8 b).2.1 := by decide +kernel
theorem tyX8_ok : ∀ k, k < 6 → parseFieldDescriptor (TX8 k).2.2.1 = some (tyX8 k) := by decide +kernel
abbrev cX8_init : ByteArray := prog_1_method_1_code
def yX8_init : MethodName := ⟨RX8, "<init>", "()V"⟩
abbrev cX8_addLeaf : ByteArray := prog_1_method_2_code
def yX8_addLeaf : MethodName := ⟨RX8, "addLeaf", "(II)I"⟩
abbrev cX8_prune : ByteArray := prog_1_method_3_code
def yX8_prune : MethodName := ⟨RX8, "prune", "(I)I"⟩
abbrev cX8_graft : ByteArray := prog_1_method_4_code
def yX8_graft : MethodName := ⟨RX8, "graft", "(II)I"⟩
abbrev cX8_setLength : ByteArray := prog_1_method_5_code
def yX8_setLength : MethodName := ⟨RX8, "setLength", "(II)I"⟩
abbrev cX8_type : ByteArray := prog_1_method_6_code
def yX8_type : MethodName := ⟨RX8, "type", "(C)I"⟩
abbrev cX8_grow : ByteArray := prog_1_method_8_code
def yX8_grow : MethodName := ⟨RX8, "grow", "(I)I"⟩
abbrev cX8_undo : ByteArray := prog_1_method_9_code
def yX8_undo : MethodName := ⟨RX8, "undo", "()I"⟩
abbrev cX8_keep : ByteArray := prog_1_method_10_code
def yX8_keep : MethodName := ⟨RX8, "keep", "()I"⟩
abbrev cX8_restore : ByteArray := prog_1_method_11_code
def yX8_restore : MethodName := ⟨RX8, "restore", "()I"⟩
abbrev cX8_ancestor : ByteArray := prog_1_method_12_code
def yX8_ancestor : MethodName := ⟨RX8, "ancestor", "(II)I"⟩
abbrev cX8_looks : ByteArray := prog_1_method_13_code
def yX8_looks : MethodName := ⟨RX8, "looks", "(II)I"⟩
abbrev cX8_jump : ByteArray := prog_1_method_14_code
def yX8_jump : MethodName := ⟨RX8, "jump", "(II)I"⟩
abbrev cX8_ladderAt : ByteArray := prog_1_method_15_code
def yX8_ladderAt : MethodName := ⟨RX8, "ladderAt", "(II)I"⟩
abbrev cX8_node : ByteArray := prog_1_method_16_code
def yX8_node : MethodName := ⟨RX8, "node", "(II)I"⟩
abbrev cX8_meeting : ByteArray := prog_1_method_17_code
def yX8_meeting : MethodName := ⟨RX8, "meeting", "(II)I"⟩
abbrev cX8_wayAt : ByteArray := prog_1_method_18_code
def yX8_wayAt : MethodName := ⟨RX8, "wayAt", "(III)I"⟩
abbrev cX8_real : ByteArray := prog_1_method_19_code
def yX8_real : MethodName := ⟨RX8, "real", "(II)F"⟩
abbrev cX8_distance : ByteArray := prog_1_method_20_code
def yX8_distance : MethodName := ⟨RX8, "distance", "(II)F"⟩
abbrev cX8_reach : ByteArray := prog_1_method_21_code
def yX8_reach : MethodName := ⟨RX8, "reach", "(II)I"⟩
abbrev cX8_farthest : ByteArray := prog_1_method_22_code
def yX8_farthest : MethodName := ⟨RX8, "farthest", "(I)I"⟩
abbrev cX8_apart : ByteArray := prog_1_method_23_code
def yX8_apart : MethodName := ⟨RX8, "apart", "(I)I"⟩
abbrev cX8_shape : ByteArray := prog_1_method_24_code
def yX8_shape : MethodName := ⟨RX8, "shape", "(I)I"⟩
abbrev cX8_alike : ByteArray := prog_1_method_25_code
def yX8_alike : MethodName := ⟨RX8, "alike", "(I)I"⟩
abbrev cX8_count : ByteArray := prog_1_method_27_code
def yX8_count : MethodName := ⟨RX8, "count", "(I)I"⟩
abbrev cX8_lookAround : ByteArray := prog_1_method_28_code
def yX8_lookAround : MethodName := ⟨RX8, "lookAround", "()V"⟩
abbrev cX8_orNone : ByteArray := prog_1_method_29_code
def yX8_orNone : MethodName := ⟨RX8, "orNone", "(I)I"⟩
abbrev cX8_noFloat : ByteArray := prog_1_method_30_code
def yX8_noFloat : MethodName := ⟨RX8, "noFloat", "()F"⟩
abbrev cX8_isLength : ByteArray := prog_1_method_31_code
def yX8_isLength : MethodName := ⟨RX8, "isLength", "(I)Z"⟩
abbrev cX8_toFloat : ByteArray := prog_1_method_32_code
def yX8_toFloat : MethodName := ⟨RX8, "toFloat", "(I)F"⟩
def RX9 : String := "AncestorLooksModel"
def TX9 : u_T := fun k => match k with
  | _ => ("", "", "", false)
def tyX9 : Nat → FieldType := fun k => match k with
  | _ => .int
abbrev wsX90 : List Cond := u_ws RX9 TX9 0
theorem nmX9 : ∀ a, a < 0 → ∀ b, b < 0 → a ≠ b → (TX9 a).2.1 ≠ (TX9 b).2.1 := by decide +kernel
theorem tyX9_ok : ∀ k, k < 0 → parseFieldDescriptor (TX9 k).2.2.1 = some (tyX9 k) := by decide +kernel
def RJ6 : String := "java/lang/Integer"
def TJ6 : u_T := fun k => match k with
  | _ => ("", "", "", false)
def tyJ6 : Nat → FieldType := fun k => match k with
  | _ => .int
theorem nmJ6 : ∀ a, a < 0 → ∀ b, b < 0 → a ≠ b → (TJ6 a).2.1 ≠ (TJ6 b).2.1 := by decide +kernel
theorem tyJ6_ok : ∀ k, k < 0 → parseFieldDescriptor (TJ6 k).2.2.1 = some (tyJ6 k) := by decide +kernel
abbrev cJ6_bitCount_0f7a4 : ByteArray := prog_12_method_49_code
def yJ6_bitCount_0f7a4 : MethodName := ⟨RJ6, "bitCount", "(I)I"⟩
def RJ9 : String := "java/lang/Math"
def TJ9 : u_T := fun k => match k with
  | _ => ("", "", "", false)
def tyJ9 : Nat → FieldType := fun k => match k with
  | _ => .int
theorem nmJ9 : ∀ a, a < 0 → ∀ b, b < 0 → a ≠ b → (TJ9 a).2.1 ≠ (TJ9 b).2.1 := by decide +kernel
theorem tyJ9_ok : ∀ k, k < 0 → parseFieldDescriptor (TJ9 k).2.2.1 = some (tyJ9 k) := by decide +kernel
abbrev cJ9_min_7cf53 : ByteArray := prog_13_method_69_code
def yJ9_min_7cf53 : MethodName := ⟨RJ9, "min", "(II)I"⟩
def RL : String := "AncestorLooksLaw"
abbrev cL_cell : ByteArray := method_2_code
def yL_cell : MethodName := ⟨RL, "cell", "([II)I"⟩
abbrev cL_low : ByteArray := method_3_code
def yL_low : MethodName := ⟨RL, "low", "(II)I"⟩
abbrev cL_all : ByteArray := method_4_code
def yL_all : MethodName := ⟨RL, "all", "(LAncestorLooks;)J"⟩
abbrev cL_is : ByteArray := method_5_code
def yL_is : MethodName := ⟨RL, "is", "(LAncestorLooks;I)Z"⟩
abbrev cL_isSound : ByteArray := method_6_code
def yL_isSound : MethodName := ⟨RL, "isSound", "(LAncestorLooks;)Z"⟩
abbrev cL_isLooked : ByteArray := method_7_code
def yL_isLooked : MethodName := ⟨RL, "isLooked", "(LAncestorLooks;II)Z"⟩
abbrev cL_acts : ByteArray := method_8_code
def yL_acts : MethodName := ⟨RL, "acts", "(LAncestorLooks;I)I"⟩
abbrev cL_law : ByteArray := code
def yL_law : MethodName := ⟨RL, "law", "([I)Z"⟩
abbrev vwCl : List vw_C := [(RX0, TX0, 1), (RX1, TX1, 4), (RX2, TX2, 1), (RX3, TX3, 5), (RX4, TX4, 12), (RX5, TX5, 2), (RX6, TX6, 4), (RX7, TX7, 7), (RX8, TX8, 6)]
end
section
/-! the tables' words, by their places -/
theorem al_t1 {w : Cond} (h : w ∈ tables_1_1) : w ∈ lw_tbl := List.mem_append_right _ (List.mem_append_left _ h)
theorem al_t2 {w : Cond} (h : w ∈ tables_1_2) : w ∈ lw_tbl := List.mem_append_right _ (List.mem_append_right _ (List.mem_append_left _ h))
theorem al_t3 {w : Cond} (h : w ∈ tables_1_3) : w ∈ lw_tbl := List.mem_append_right _ (List.mem_append_right _ (List.mem_append_right _ h))
theorem al_t0 {w : Cond} (h : w ∈ k2_sels lw_privs) : w ∈ lw_tbl := List.mem_append_left _ h
def al_G : List Cond := lw_tbl.filter goodWord
theorem al_g {w : Cond} (h : w ∈ lw_tbl) (g : goodWord w = true) : w ∈ al_G := List.mem_filter.mpr ⟨h, g⟩
theorem al_good {w : Cond} (h : w ∈ al_G) : w ∈ lw_tbl ∧ goodWord w = true := List.mem_filter.mp h
theorem al_Gts {args : Array Value} {s : State} (h : ∀ w ∈ lw_tbl, w.before args s = true) : ∀ w ∈ al_G, w.before args s = true := fun w hw => h w (al_good hw).1
theorem al_GoodIn {y : MethodName} {bytes : ByteArray} {maxL : Nat} {ret : Option FieldType} (h : Cond.code y bytes maxL ret ∈ al_G) : GoodIn al_G (Cond.code y bytes maxL ret :: al_G) := fun w hw => by
  have h1 : w ∈ al_G := by
    rcases List.mem_cons.mp hw with e | e
    · rw [e]; exact h
    · exact e
  exact ⟨h1, good_of_word (al_good h1).2⟩
theorem al_ini_RL : Cond.initialized RL ∈ al_G := al_g (al_t1 (List.mem_of_getElem? (i := 0) rfl)) rfl
theorem al_ini_RX8 : Cond.initialized RX8 ∈ al_G := al_g (al_t1 (List.mem_of_getElem? (i := 1) rfl)) rfl
theorem al_ini_RX6 : Cond.initialized RX6 ∈ al_G := al_g (al_t1 (List.mem_of_getElem? (i := 2) rfl)) rfl
theorem al_ini_RX2 : Cond.initialized RX2 ∈ al_G := al_g (al_t1 (List.mem_of_getElem? (i := 3) rfl)) rfl
theorem al_ini_RX0 : Cond.initialized RX0 ∈ al_G := al_g (al_t1 (List.mem_of_getElem? (i := 4) rfl)) rfl
theorem al_ini_RX5 : Cond.initialized RX5 ∈ al_G := al_g (al_t1 (List.mem_of_getElem? (i := 5) rfl)) rfl
theorem al_ini_RX1 : Cond.initialized RX1 ∈ al_G := al_g (al_t1 (List.mem_of_getElem? (i := 6) rfl)) rfl
theorem al_ini_RX4 : Cond.initialized RX4 ∈ al_G := al_g (al_t1 (List.mem_of_getElem? (i := 7) rfl)) rfl
theorem al_ini_RX7 : Cond.initialized RX7 ∈ al_G := al_g (al_t1 (List.mem_of_getElem? (i := 8) rfl)) rfl
theorem al_ini_RX3 : Cond.initialized RX3 ∈ al_G := al_g (al_t1 (List.mem_of_getElem? (i := 9) rfl)) rfl
theorem al_ini_RJ9 : Cond.initialized RJ9 ∈ al_G := al_g (al_t1 (List.mem_of_getElem? (i := 10) rfl)) rfl
theorem al_ini_RJ6 : Cond.initialized RJ6 ∈ al_G := al_g (al_t1 (List.mem_of_getElem? (i := 11) rfl)) rfl
theorem al_cl_RL_13 : Cond.classLink RL 13 RX8 ∈ lw_tbl := al_t1 (List.mem_of_getElem? (i := 12) rfl)
theorem al_new_RX8 : Cond.instantiable RX8 6 ∈ lw_tbl := al_t1 (List.mem_of_getElem? (i := 13) rfl)
theorem al_ml_RL_87 : Cond.methodLink RL 87 yX8_init ∈ al_G := al_g (al_t1 (List.mem_of_getElem? (i := 14) rfl)) rfl
theorem al_in_X8_init : Cond.instanceMethod yX8_init ∈ al_G := al_g (al_t1 (List.mem_of_getElem? (i := 15) rfl)) rfl
theorem al_c_X8_init : Cond.code yX8_init cX8_init 1 none ∈ al_G := al_g (al_t1 (List.mem_of_getElem? (i := 16) rfl)) rfl
theorem al_ml_RX8_1 : Cond.methodLink RX8 1 ⟨"java/lang/Object", "<init>", "()V"⟩ ∈ al_G := al_g (al_t1 (List.mem_of_getElem? (i := 17) rfl)) rfl
theorem al_cl_RX8_7 : Cond.classLink RX8 7 RX6 ∈ lw_tbl := al_t1 (List.mem_of_getElem? (i := 20) rfl)
theorem al_new_RX6 : Cond.instantiable RX6 4 ∈ lw_tbl := al_t1 (List.mem_of_getElem? (i := 21) rfl)
theorem al_ml_RX8_9 : Cond.methodLink RX8 9 yX6_init ∈ al_G := al_g (al_t1 (List.mem_of_getElem? (i := 22) rfl)) rfl
theorem al_in_X6_init : Cond.instanceMethod yX6_init ∈ al_G := al_g (al_t1 (List.mem_of_getElem? (i := 23) rfl)) rfl
theorem al_c_X6_init : Cond.code yX6_init cX6_init 1 none ∈ al_G := al_g (al_t1 (List.mem_of_getElem? (i := 24) rfl)) rfl
theorem al_ml_RX6_3 : Cond.methodLink RX6 3 ⟨"java/lang/Object", "<init>", "()V"⟩ ∈ al_G := al_g (al_t1 (List.mem_of_getElem? (i := 25) rfl)) rfl
theorem al_cl_RX6_9 : Cond.classLink RX6 9 RX2 ∈ lw_tbl := al_t1 (List.mem_of_getElem? (i := 26) rfl)
theorem al_new_RX2 : Cond.instantiable RX2 1 ∈ lw_tbl := al_t1 (List.mem_of_getElem? (i := 27) rfl)
theorem al_ml_RX6_11 : Cond.methodLink RX6 11 yX2_init ∈ al_G := al_g (al_t1 (List.mem_of_getElem? (i := 28) rfl)) rfl
theorem al_in_X2_init : Cond.instanceMethod yX2_init ∈ al_G := al_g (al_t1 (List.mem_of_getElem? (i := 29) rfl)) rfl
theorem al_c_X2_init : Cond.code yX2_init cX2_init 1 none ∈ al_G := al_g (al_t1 (List.mem_of_getElem? (i := 30) rfl)) rfl
theorem al_ml_RX2_3 : Cond.methodLink RX2 3 ⟨"java/lang/Object", "<init>", "()V"⟩ ∈ al_G := al_g (al_t1 (List.mem_of_getElem? (i := 31) rfl)) rfl
theorem al_fl_RX2_9 : Cond.fieldLink RX2 9 "AncestorLooks$Row" "cells" "[I" ∈ al_G := al_g (al_t1 (List.mem_of_getElem? (i := 32) rfl)) rfl
theorem al_ac_int : Cond.arrayClass .int ∈ lw_tbl := al_t1 (List.mem_of_getElem? (i := 36) rfl)
theorem al_cl_RX6_21 : Cond.classLink RX6 21 RX0 ∈ lw_tbl := al_t1 (List.mem_of_getElem? (i := 37) rfl)
theorem al_new_RX0 : Cond.instantiable RX0 1 ∈ lw_tbl := al_t1 (List.mem_of_getElem? (i := 38) rfl)
theorem al_ml_RX6_23 : Cond.methodLink RX6 23 yX0_init ∈ al_G := al_g (al_t1 (List.mem_of_getElem? (i := 39) rfl)) rfl
theorem al_in_X0_init : Cond.instanceMethod yX0_init ∈ al_G := al_g (al_t1 (List.mem_of_getElem? (i := 40) rfl)) rfl
theorem al_c_X0_init : Cond.code yX0_init cX0_init 1 none ∈ al_G := al_g (al_t1 (List.mem_of_getElem? (i := 41) rfl)) rfl
theorem al_ml_RX0_3 : Cond.methodLink RX0 3 ⟨"java/lang/Object", "<init>", "()V"⟩ ∈ al_G := al_g (al_t1 (List.mem_of_getElem? (i := 42) rfl)) rfl
theorem al_fl_RX0_9 : Cond.fieldLink RX0 9 "AncestorLooks$FloatRow" "cells" "[F" ∈ al_G := al_g (al_t1 (List.mem_of_getElem? (i := 43) rfl)) rfl
theorem al_ac_float : Cond.arrayClass .float ∈ lw_tbl := al_t1 (List.mem_of_getElem? (i := 47) rfl)
theorem al_ml_RX6_28 : Cond.methodLink RX6 28 yX2_set ∈ al_G := al_g (al_t1 (List.mem_of_getElem? (i := 48) rfl)) rfl
theorem al_in_X2_set : Cond.instanceMethod yX2_set ∈ al_G := al_g (al_t1 (List.mem_of_getElem? (i := 49) rfl)) rfl
theorem al_se_X2_set : Cond.selects yX2_set.cls yX2_set yX2_set ∈ al_G := al_g (al_t1 (List.mem_of_getElem? (i := 50) rfl)) rfl
theorem al_c_X2_set : Cond.code yX2_set cX2_set 3 none ∈ al_G := al_g (al_t1 (List.mem_of_getElem? (i := 51) rfl)) rfl
theorem al_fl_RX6_12 : Cond.fieldLink RX6 12 "AncestorLooks$Tree" "parents" "LAncestorLooks$Row;" ∈ al_G := al_g (al_t1 (List.mem_of_getElem? (i := 52) rfl)) rfl
theorem al_fl_RX6_18 : Cond.fieldLink RX6 18 "AncestorLooks$Tree" "bits" "LAncestorLooks$Row;" ∈ al_G := al_g (al_t1 (List.mem_of_getElem? (i := 53) rfl)) rfl
theorem al_fl_RX6_24 : Cond.fieldLink RX6 24 "AncestorLooks$Tree" "lengths" "LAncestorLooks$FloatRow;" ∈ al_G := al_g (al_t1 (List.mem_of_getElem? (i := 54) rfl)) rfl
theorem al_fl_RX6_32 : Cond.fieldLink RX6 32 "AncestorLooks$Tree" "ever" "I" ∈ al_G := al_g (al_t1 (List.mem_of_getElem? (i := 55) rfl)) rfl
theorem al_cl_RX8_16 : Cond.classLink RX8 16 RX5 ∈ lw_tbl := al_t1 (List.mem_of_getElem? (i := 65) rfl)
theorem al_new_RX5 : Cond.instantiable RX5 2 ∈ lw_tbl := al_t1 (List.mem_of_getElem? (i := 66) rfl)
theorem al_ml_RX8_18 : Cond.methodLink RX8 18 yX5_init ∈ al_G := al_g (al_t1 (List.mem_of_getElem? (i := 67) rfl)) rfl
theorem al_in_X5_init : Cond.instanceMethod yX5_init ∈ al_G := al_g (al_t1 (List.mem_of_getElem? (i := 68) rfl)) rfl
theorem al_c_X5_init : Cond.code yX5_init cX5_init 1 none ∈ al_G := al_g (al_t1 (List.mem_of_getElem? (i := 69) rfl)) rfl
theorem al_ml_RX5_3 : Cond.methodLink RX5 3 ⟨"java/lang/Object", "<init>", "()V"⟩ ∈ al_G := al_g (al_t1 (List.mem_of_getElem? (i := 70) rfl)) rfl
theorem al_fl_RX5_9 : Cond.fieldLink RX5 9 "AncestorLooks$Text" "signs" "[C" ∈ al_G := al_g (al_t1 (List.mem_of_getElem? (i := 71) rfl)) rfl
theorem al_fl_RX5_15 : Cond.fieldLink RX5 15 "AncestorLooks$Text" "used" "I" ∈ al_G := al_g (al_t1 (List.mem_of_getElem? (i := 72) rfl)) rfl
theorem al_ac_char : Cond.arrayClass .char ∈ lw_tbl := al_t1 (List.mem_of_getElem? (i := 78) rfl)
theorem al_cl_RX8_23 : Cond.classLink RX8 23 RX1 ∈ lw_tbl := al_t1 (List.mem_of_getElem? (i := 79) rfl)
theorem al_new_RX1 : Cond.instantiable RX1 4 ∈ lw_tbl := al_t1 (List.mem_of_getElem? (i := 80) rfl)
theorem al_ml_RX8_25 : Cond.methodLink RX8 25 yX1_init ∈ al_G := al_g (al_t1 (List.mem_of_getElem? (i := 81) rfl)) rfl
theorem al_in_X1_init : Cond.instanceMethod yX1_init ∈ al_G := al_g (al_t1 (List.mem_of_getElem? (i := 82) rfl)) rfl
theorem al_c_X1_init : Cond.code yX1_init cX1_init 2 none ∈ al_G := al_g (al_t1 (List.mem_of_getElem? (i := 83) rfl)) rfl
theorem al_ml_RX1_3 : Cond.methodLink RX1 3 ⟨"java/lang/Object", "<init>", "()V"⟩ ∈ al_G := al_g (al_t1 (List.mem_of_getElem? (i := 84) rfl)) rfl
theorem al_cl_RX1_9 : Cond.classLink RX1 9 RX6 ∈ lw_tbl := al_t1 (List.mem_of_getElem? (i := 85) rfl)
theorem al_ml_RX1_17 : Cond.methodLink RX1 17 yX6_init ∈ al_G := al_g (al_t1 (List.mem_of_getElem? (i := 87) rfl)) rfl
theorem al_fl_RX1_11 : Cond.fieldLink RX1 11 "AncestorLooks$History" "states" "[LAncestorLooks$Tree;" ∈ al_G := al_g (al_t1 (List.mem_of_getElem? (i := 88) rfl)) rfl
theorem al_fl_RX1_18 : Cond.fieldLink RX1 18 "AncestorLooks$History" "snapshot" "LAncestorLooks$Tree;" ∈ al_G := al_g (al_t1 (List.mem_of_getElem? (i := 89) rfl)) rfl
theorem al_fl_RX1_22 : Cond.fieldLink RX1 22 "AncestorLooks$History" "used" "I" ∈ al_G := al_g (al_t1 (List.mem_of_getElem? (i := 90) rfl)) rfl
theorem al_fl_RX1_26 : Cond.fieldLink RX1 26 "AncestorLooks$History" "kept" "Z" ∈ al_G := al_g (al_t1 (List.mem_of_getElem? (i := 91) rfl)) rfl
theorem al_cl_RX8_30 : Cond.classLink RX8 30 RX4 ∈ lw_tbl := al_t1 (List.mem_of_getElem? (i := 101) rfl)
theorem al_new_RX4 : Cond.instantiable RX4 12 ∈ lw_tbl := al_t1 (List.mem_of_getElem? (i := 102) rfl)
theorem al_ml_RX8_32 : Cond.methodLink RX8 32 yX4_init ∈ al_G := al_g (al_t1 (List.mem_of_getElem? (i := 103) rfl)) rfl
theorem al_in_X4_init : Cond.instanceMethod yX4_init ∈ al_G := al_g (al_t1 (List.mem_of_getElem? (i := 104) rfl)) rfl
theorem al_c_X4_init : Cond.code yX4_init cX4_init 2 none ∈ al_G := al_g (al_t1 (List.mem_of_getElem? (i := 105) rfl)) rfl
theorem al_ml_RX4_3 : Cond.methodLink RX4 3 ⟨"java/lang/Object", "<init>", "()V"⟩ ∈ al_G := al_g (al_t1 (List.mem_of_getElem? (i := 106) rfl)) rfl
theorem al_cl_RX4_15 : Cond.classLink RX4 15 RX2 ∈ lw_tbl := al_t1 (List.mem_of_getElem? (i := 107) rfl)
theorem al_ml_RX4_17 : Cond.methodLink RX4 17 yX2_init ∈ al_G := al_g (al_t1 (List.mem_of_getElem? (i := 108) rfl)) rfl
theorem al_fl_RX4_9 : Cond.fieldLink RX4 9 "AncestorLooks$Survey" "tree" "LAncestorLooks$Tree;" ∈ al_G := al_g (al_t1 (List.mem_of_getElem? (i := 109) rfl)) rfl
theorem al_fl_RX4_18 : Cond.fieldLink RX4 18 "AncestorLooks$Survey" "firstChild" "LAncestorLooks$Row;" ∈ al_G := al_g (al_t1 (List.mem_of_getElem? (i := 110) rfl)) rfl
theorem al_fl_RX4_22 : Cond.fieldLink RX4 22 "AncestorLooks$Survey" "nextChild" "LAncestorLooks$Row;" ∈ al_G := al_g (al_t1 (List.mem_of_getElem? (i := 111) rfl)) rfl
theorem al_fl_RX4_25 : Cond.fieldLink RX4 25 "AncestorLooks$Survey" "downward" "LAncestorLooks$Row;" ∈ al_G := al_g (al_t1 (List.mem_of_getElem? (i := 112) rfl)) rfl
theorem al_fl_RX4_28 : Cond.fieldLink RX4 28 "AncestorLooks$Survey" "depths" "LAncestorLooks$Row;" ∈ al_G := al_g (al_t1 (List.mem_of_getElem? (i := 113) rfl)) rfl
theorem al_fl_RX4_31 : Cond.fieldLink RX4 31 "AncestorLooks$Survey" "heights" "LAncestorLooks$Row;" ∈ al_G := al_g (al_t1 (List.mem_of_getElem? (i := 114) rfl)) rfl
theorem al_fl_RX4_34 : Cond.fieldLink RX4 34 "AncestorLooks$Survey" "children" "LAncestorLooks$Row;" ∈ al_G := al_g (al_t1 (List.mem_of_getElem? (i := 115) rfl)) rfl
theorem al_fl_RX4_37 : Cond.fieldLink RX4 37 "AncestorLooks$Survey" "sizes" "LAncestorLooks$Row;" ∈ al_G := al_g (al_t1 (List.mem_of_getElem? (i := 116) rfl)) rfl
theorem al_fl_RX4_40 : Cond.fieldLink RX4 40 "AncestorLooks$Survey" "longChildren" "LAncestorLooks$Row;" ∈ al_G := al_g (al_t1 (List.mem_of_getElem? (i := 117) rfl)) rfl
theorem al_fl_RX4_43 : Cond.fieldLink RX4 43 "AncestorLooks$Survey" "tops" "LAncestorLooks$Row;" ∈ al_G := al_g (al_t1 (List.mem_of_getElem? (i := 118) rfl)) rfl
theorem al_fl_RX4_46 : Cond.fieldLink RX4 46 "AncestorLooks$Survey" "feet" "LAncestorLooks$Row;" ∈ al_G := al_g (al_t1 (List.mem_of_getElem? (i := 119) rfl)) rfl
theorem al_fl_RX4_49 : Cond.fieldLink RX4 49 "AncestorLooks$Survey" "present" "I" ∈ al_G := al_g (al_t1 (List.mem_of_getElem? (i := 120) rfl)) rfl
theorem al_cl_RX8_39 : Cond.classLink RX8 39 RX7 ∈ lw_tbl := al_t1 (List.mem_of_getElem? (i := 146) rfl)
theorem al_new_RX7 : Cond.instantiable RX7 7 ∈ lw_tbl := al_t1 (List.mem_of_getElem? (i := 147) rfl)
theorem al_ml_RX8_41 : Cond.methodLink RX8 41 yX7_init ∈ al_G := al_g (al_t1 (List.mem_of_getElem? (i := 148) rfl)) rfl
theorem al_in_X7_init : Cond.instanceMethod yX7_init ∈ al_G := al_g (al_t1 (List.mem_of_getElem? (i := 149) rfl)) rfl
theorem al_c_X7_init : Cond.code yX7_init cX7_init 3 none ∈ al_G := al_g (al_t1 (List.mem_of_getElem? (i := 150) rfl)) rfl
theorem al_ml_RX7_3 : Cond.methodLink RX7 3 ⟨"java/lang/Object", "<init>", "()V"⟩ ∈ al_G := al_g (al_t1 (List.mem_of_getElem? (i := 151) rfl)) rfl
theorem al_cl_RX7_19 : Cond.classLink RX7 19 RX0 ∈ lw_tbl := al_t1 (List.mem_of_getElem? (i := 152) rfl)
theorem al_ml_RX7_21 : Cond.methodLink RX7 21 yX0_init ∈ al_G := al_g (al_t1 (List.mem_of_getElem? (i := 153) rfl)) rfl
theorem al_cl_RX7_29 : Cond.classLink RX7 29 RX2 ∈ lw_tbl := al_t1 (List.mem_of_getElem? (i := 154) rfl)
theorem al_ml_RX7_31 : Cond.methodLink RX7 31 yX2_init ∈ al_G := al_g (al_t1 (List.mem_of_getElem? (i := 155) rfl)) rfl
theorem al_fl_RX7_9 : Cond.fieldLink RX7 9 "AncestorLooks$Ways" "tree" "LAncestorLooks$Tree;" ∈ al_G := al_g (al_t1 (List.mem_of_getElem? (i := 156) rfl)) rfl
theorem al_fl_RX7_15 : Cond.fieldLink RX7 15 "AncestorLooks$Ways" "survey" "LAncestorLooks$Survey;" ∈ al_G := al_g (al_t1 (List.mem_of_getElem? (i := 157) rfl)) rfl
theorem al_fl_RX7_22 : Cond.fieldLink RX7 22 "AncestorLooks$Ways" "paths" "LAncestorLooks$FloatRow;" ∈ al_G := al_g (al_t1 (List.mem_of_getElem? (i := 158) rfl)) rfl
theorem al_fl_RX7_26 : Cond.fieldLink RX7 26 "AncestorLooks$Ways" "meetingPaths" "LAncestorLooks$FloatRow;" ∈ al_G := al_g (al_t1 (List.mem_of_getElem? (i := 159) rfl)) rfl
theorem al_fl_RX7_32 : Cond.fieldLink RX7 32 "AncestorLooks$Ways" "marks" "LAncestorLooks$Row;" ∈ al_G := al_g (al_t1 (List.mem_of_getElem? (i := 160) rfl)) rfl
theorem al_fl_RX7_36 : Cond.fieldLink RX7 36 "AncestorLooks$Ways" "pairFirst" "I" ∈ al_G := al_g (al_t1 (List.mem_of_getElem? (i := 161) rfl)) rfl
theorem al_fl_RX7_40 : Cond.fieldLink RX7 40 "AncestorLooks$Ways" "pairSecond" "I" ∈ al_G := al_g (al_t1 (List.mem_of_getElem? (i := 162) rfl)) rfl
theorem al_cl_RX8_48 : Cond.classLink RX8 48 RX3 ∈ lw_tbl := al_t1 (List.mem_of_getElem? (i := 178) rfl)
theorem al_new_RX3 : Cond.instantiable RX3 5 ∈ lw_tbl := al_t1 (List.mem_of_getElem? (i := 179) rfl)
theorem al_ml_RX8_50 : Cond.methodLink RX8 50 yX3_init ∈ al_G := al_g (al_t1 (List.mem_of_getElem? (i := 180) rfl)) rfl
theorem al_in_X3_init : Cond.instanceMethod yX3_init ∈ al_G := al_g (al_t1 (List.mem_of_getElem? (i := 181) rfl)) rfl
theorem al_c_X3_init : Cond.code yX3_init cX3_init 3 none ∈ al_G := al_g (al_t1 (List.mem_of_getElem? (i := 182) rfl)) rfl
theorem al_ml_RX3_3 : Cond.methodLink RX3 3 ⟨"java/lang/Object", "<init>", "()V"⟩ ∈ al_G := al_g (al_t1 (List.mem_of_getElem? (i := 183) rfl)) rfl
theorem al_cl_RX3_19 : Cond.classLink RX3 19 RX2 ∈ lw_tbl := al_t1 (List.mem_of_getElem? (i := 184) rfl)
theorem al_ml_RX3_21 : Cond.methodLink RX3 21 yX2_init ∈ al_G := al_g (al_t1 (List.mem_of_getElem? (i := 185) rfl)) rfl
theorem al_fl_RX3_9 : Cond.fieldLink RX3 9 "AncestorLooks$Shapes" "tree" "LAncestorLooks$Tree;" ∈ al_G := al_g (al_t1 (List.mem_of_getElem? (i := 186) rfl)) rfl
theorem al_fl_RX3_15 : Cond.fieldLink RX3 15 "AncestorLooks$Shapes" "survey" "LAncestorLooks$Survey;" ∈ al_G := al_g (al_t1 (List.mem_of_getElem? (i := 187) rfl)) rfl
theorem al_fl_RX3_22 : Cond.fieldLink RX3 22 "AncestorLooks$Shapes" "shapes" "LAncestorLooks$Row;" ∈ al_G := al_g (al_t1 (List.mem_of_getElem? (i := 188) rfl)) rfl
theorem al_fl_RX3_26 : Cond.fieldLink RX3 26 "AncestorLooks$Shapes" "table" "LAncestorLooks$Row;" ∈ al_G := al_g (al_t1 (List.mem_of_getElem? (i := 189) rfl)) rfl
theorem al_fl_RX3_29 : Cond.fieldLink RX3 29 "AncestorLooks$Shapes" "kinds" "I" ∈ al_G := al_g (al_t1 (List.mem_of_getElem? (i := 190) rfl)) rfl
theorem al_ml_RX8_55 : Cond.methodLink RX8 55 yX8_lookAround ∈ al_G := al_g (al_t1 (List.mem_of_getElem? (i := 202) rfl)) rfl
theorem al_in_X8_lookAround : Cond.instanceMethod yX8_lookAround ∈ al_G := al_g (al_t1 (List.mem_of_getElem? (i := 204) rfl)) rfl
theorem al_c_X8_lookAround : Cond.code yX8_lookAround cX8_lookAround 1 none ∈ al_G := al_g (al_t1 (List.mem_of_getElem? (i := 205) rfl)) rfl
theorem al_ml_RX8_247 : Cond.methodLink RX8 247 yX4_take ∈ al_G := al_g (al_t1 (List.mem_of_getElem? (i := 206) rfl)) rfl
theorem al_in_X4_take : Cond.instanceMethod yX4_take ∈ al_G := al_g (al_t1 (List.mem_of_getElem? (i := 207) rfl)) rfl
theorem al_se_X4_take : Cond.selects yX4_take.cls yX4_take yX4_take ∈ al_G := al_g (al_t1 (List.mem_of_getElem? (i := 208) rfl)) rfl
theorem al_c_X4_take : Cond.code yX4_take cX4_take 1 none ∈ al_G := al_g (al_t1 (List.mem_of_getElem? (i := 209) rfl)) rfl
theorem al_ml_RX4_53 : Cond.methodLink RX4 53 yX4_linkChildren ∈ al_G := al_g (al_t1 (List.mem_of_getElem? (i := 210) rfl)) rfl
theorem al_in_X4_linkChildren : Cond.instanceMethod yX4_linkChildren ∈ al_G := al_g (al_t1 (List.mem_of_getElem? (i := 212) rfl)) rfl
theorem al_c_X4_linkChildren : Cond.code yX4_linkChildren cX4_linkChildren 3 none ∈ al_G := al_g (al_t1 (List.mem_of_getElem? (i := 213) rfl)) rfl
theorem al_ml_RX4_65 : Cond.methodLink RX4 65 yX2_fill ∈ al_G := al_g (al_t1 (List.mem_of_getElem? (i := 214) rfl)) rfl
theorem al_in_X2_fill : Cond.instanceMethod yX2_fill ∈ al_G := al_g (al_t1 (List.mem_of_getElem? (i := 215) rfl)) rfl
theorem al_se_X2_fill : Cond.selects yX2_fill.cls yX2_fill yX2_fill ∈ al_G := al_g (al_t1 (List.mem_of_getElem? (i := 216) rfl)) rfl
theorem al_c_X2_fill : Cond.code yX2_fill cX2_fill 3 none ∈ al_G := al_g (al_t1 (List.mem_of_getElem? (i := 217) rfl)) rfl
theorem al_ml_RX4_69 : Cond.methodLink RX4 69 yX6_isNode ∈ al_G := al_g (al_t1 (List.mem_of_getElem? (i := 218) rfl)) rfl
theorem al_in_X6_isNode : Cond.instanceMethod yX6_isNode ∈ al_G := al_g (al_t1 (List.mem_of_getElem? (i := 219) rfl)) rfl
theorem al_se_X6_isNode : Cond.selects yX6_isNode.cls yX6_isNode yX6_isNode ∈ al_G := al_g (al_t1 (List.mem_of_getElem? (i := 220) rfl)) rfl
theorem al_c_X6_isNode : Cond.code yX6_isNode cX6_isNode 2 (some .boolean) ∈ al_G := al_g (al_t1 (List.mem_of_getElem? (i := 221) rfl)) rfl
theorem al_ml_RX6_36 : Cond.methodLink RX6 36 yX2_get ∈ al_G := al_g (al_t1 (List.mem_of_getElem? (i := 222) rfl)) rfl
theorem al_in_X2_get : Cond.instanceMethod yX2_get ∈ al_G := al_g (al_t1 (List.mem_of_getElem? (i := 223) rfl)) rfl
theorem al_se_X2_get : Cond.selects yX2_get.cls yX2_get yX2_get ∈ al_G := al_g (al_t1 (List.mem_of_getElem? (i := 224) rfl)) rfl
theorem al_c_X2_get : Cond.code yX2_get cX2_get 2 (some .int) ∈ al_G := al_g (al_t1 (List.mem_of_getElem? (i := 225) rfl)) rfl
theorem al_ml_RX4_75 : Cond.methodLink RX4 75 yX6_parentOf ∈ al_G := al_g (al_t1 (List.mem_of_getElem? (i := 226) rfl)) rfl
theorem al_in_X6_parentOf : Cond.instanceMethod yX6_parentOf ∈ al_G := al_g (al_t1 (List.mem_of_getElem? (i := 227) rfl)) rfl
theorem al_se_X6_parentOf : Cond.selects yX6_parentOf.cls yX6_parentOf yX6_parentOf ∈ al_G := al_g (al_t1 (List.mem_of_getElem? (i := 228) rfl)) rfl
theorem al_c_X6_parentOf : Cond.code yX6_parentOf cX6_parentOf 2 (some .int) ∈ al_G := al_g (al_t1 (List.mem_of_getElem? (i := 229) rfl)) rfl
theorem al_ml_RX4_79 : Cond.methodLink RX4 79 yX2_get ∈ al_G := al_g (al_t1 (List.mem_of_getElem? (i := 230) rfl)) rfl
theorem al_ml_RX4_82 : Cond.methodLink RX4 82 yX2_set ∈ al_G := al_g (al_t1 (List.mem_of_getElem? (i := 231) rfl)) rfl
theorem al_ml_RX4_56 : Cond.methodLink RX4 56 yX4_goDown ∈ al_G := al_g (al_t1 (List.mem_of_getElem? (i := 232) rfl)) rfl
theorem al_in_X4_goDown : Cond.instanceMethod yX4_goDown ∈ al_G := al_g (al_t1 (List.mem_of_getElem? (i := 234) rfl)) rfl
theorem al_c_X4_goDown : Cond.code yX4_goDown cX4_goDown 5 none ∈ al_G := al_g (al_t1 (List.mem_of_getElem? (i := 235) rfl)) rfl
theorem al_ml_RX4_59 : Cond.methodLink RX4 59 yX4_goUp ∈ al_G := al_g (al_t1 (List.mem_of_getElem? (i := 236) rfl)) rfl
theorem al_in_X4_goUp : Cond.instanceMethod yX4_goUp ∈ al_G := al_g (al_t1 (List.mem_of_getElem? (i := 238) rfl)) rfl
theorem al_c_X4_goUp : Cond.code yX4_goUp cX4_goUp 2 none ∈ al_G := al_g (al_t1 (List.mem_of_getElem? (i := 239) rfl)) rfl
theorem al_ml_RX4_86 : Cond.methodLink RX4 86 yX4_measure ∈ al_G := al_g (al_t2 (List.mem_of_getElem? (i := 0) rfl)) rfl
theorem al_in_X4_measure : Cond.instanceMethod yX4_measure ∈ al_G := al_g (al_t2 (List.mem_of_getElem? (i := 2) rfl)) rfl
theorem al_c_X4_measure : Cond.code yX4_measure cX4_measure 7 none ∈ al_G := al_g (al_t2 (List.mem_of_getElem? (i := 3) rfl)) rfl
theorem al_ml_RX4_62 : Cond.methodLink RX4 62 yX4_findTops ∈ al_G := al_g (al_t2 (List.mem_of_getElem? (i := 4) rfl)) rfl
theorem al_in_X4_findTops : Cond.instanceMethod yX4_findTops ∈ al_G := al_g (al_t2 (List.mem_of_getElem? (i := 6) rfl)) rfl
theorem al_c_X4_findTops : Cond.code yX4_findTops cX4_findTops 5 none ∈ al_G := al_g (al_t2 (List.mem_of_getElem? (i := 7) rfl)) rfl
theorem al_ml_RX8_250 : Cond.methodLink RX8 250 yX7_take ∈ al_G := al_g (al_t2 (List.mem_of_getElem? (i := 8) rfl)) rfl
theorem al_in_X7_take : Cond.instanceMethod yX7_take ∈ al_G := al_g (al_t2 (List.mem_of_getElem? (i := 9) rfl)) rfl
theorem al_se_X7_take : Cond.selects yX7_take.cls yX7_take yX7_take ∈ al_G := al_g (al_t2 (List.mem_of_getElem? (i := 10) rfl)) rfl
theorem al_c_X7_take : Cond.code yX7_take cX7_take 3 none ∈ al_G := al_g (al_t2 (List.mem_of_getElem? (i := 11) rfl)) rfl
theorem al_ml_RX7_43 : Cond.methodLink RX7 43 yX0_set ∈ al_G := al_g (al_t2 (List.mem_of_getElem? (i := 12) rfl)) rfl
theorem al_in_X0_set : Cond.instanceMethod yX0_set ∈ al_G := al_g (al_t2 (List.mem_of_getElem? (i := 13) rfl)) rfl
theorem al_se_X0_set : Cond.selects yX0_set.cls yX0_set yX0_set ∈ al_G := al_g (al_t2 (List.mem_of_getElem? (i := 14) rfl)) rfl
theorem al_c_X0_set : Cond.code yX0_set cX0_set 3 none ∈ al_G := al_g (al_t2 (List.mem_of_getElem? (i := 15) rfl)) rfl
theorem al_ml_RX7_47 : Cond.methodLink RX7 47 yX4_present ∈ al_G := al_g (al_t2 (List.mem_of_getElem? (i := 16) rfl)) rfl
theorem al_in_X4_present : Cond.instanceMethod yX4_present ∈ al_G := al_g (al_t2 (List.mem_of_getElem? (i := 17) rfl)) rfl
theorem al_se_X4_present : Cond.selects yX4_present.cls yX4_present yX4_present ∈ al_G := al_g (al_t2 (List.mem_of_getElem? (i := 18) rfl)) rfl
theorem al_c_X4_present : Cond.code yX4_present cX4_present 1 (some .int) ∈ al_G := al_g (al_t2 (List.mem_of_getElem? (i := 19) rfl)) rfl
theorem al_ml_RX7_53 : Cond.methodLink RX7 53 yX4_downwardAt ∈ al_G := al_g (al_t2 (List.mem_of_getElem? (i := 20) rfl)) rfl
theorem al_in_X4_downwardAt : Cond.instanceMethod yX4_downwardAt ∈ al_G := al_g (al_t2 (List.mem_of_getElem? (i := 21) rfl)) rfl
theorem al_se_X4_downwardAt : Cond.selects yX4_downwardAt.cls yX4_downwardAt yX4_downwardAt ∈ al_G := al_g (al_t2 (List.mem_of_getElem? (i := 22) rfl)) rfl
theorem al_c_X4_downwardAt : Cond.code yX4_downwardAt cX4_downwardAt 2 (some .int) ∈ al_G := al_g (al_t2 (List.mem_of_getElem? (i := 23) rfl)) rfl
theorem al_ml_RX7_57 : Cond.methodLink RX7 57 yX6_parentOf ∈ al_G := al_g (al_t2 (List.mem_of_getElem? (i := 24) rfl)) rfl
theorem al_ml_RX7_62 : Cond.methodLink RX7 62 yX0_get ∈ al_G := al_g (al_t2 (List.mem_of_getElem? (i := 25) rfl)) rfl
theorem al_in_X0_get : Cond.instanceMethod yX0_get ∈ al_G := al_g (al_t2 (List.mem_of_getElem? (i := 26) rfl)) rfl
theorem al_se_X0_get : Cond.selects yX0_get.cls yX0_get yX0_get ∈ al_G := al_g (al_t2 (List.mem_of_getElem? (i := 27) rfl)) rfl
theorem al_c_X0_get : Cond.code yX0_get cX0_get 2 (some .float) ∈ al_G := al_g (al_t2 (List.mem_of_getElem? (i := 28) rfl)) rfl
theorem al_ml_RX7_66 : Cond.methodLink RX7 66 yX6_lengthOf ∈ al_G := al_g (al_t2 (List.mem_of_getElem? (i := 29) rfl)) rfl
theorem al_in_X6_lengthOf : Cond.instanceMethod yX6_lengthOf ∈ al_G := al_g (al_t2 (List.mem_of_getElem? (i := 30) rfl)) rfl
theorem al_se_X6_lengthOf : Cond.selects yX6_lengthOf.cls yX6_lengthOf yX6_lengthOf ∈ al_G := al_g (al_t2 (List.mem_of_getElem? (i := 31) rfl)) rfl
theorem al_c_X6_lengthOf : Cond.code yX6_lengthOf cX6_lengthOf 2 (some .float) ∈ al_G := al_g (al_t2 (List.mem_of_getElem? (i := 32) rfl)) rfl
theorem al_ml_RX6_40 : Cond.methodLink RX6 40 yX0_get ∈ al_G := al_g (al_t2 (List.mem_of_getElem? (i := 33) rfl)) rfl
theorem al_fl_RX8_10 : Cond.fieldLink RX8 10 "AncestorLooks" "tree" "LAncestorLooks$Tree;" ∈ al_G := al_g (al_t2 (List.mem_of_getElem? (i := 34) rfl)) rfl
theorem al_fl_RX8_19 : Cond.fieldLink RX8 19 "AncestorLooks" "text" "LAncestorLooks$Text;" ∈ al_G := al_g (al_t2 (List.mem_of_getElem? (i := 35) rfl)) rfl
theorem al_fl_RX8_26 : Cond.fieldLink RX8 26 "AncestorLooks" "history" "LAncestorLooks$History;" ∈ al_G := al_g (al_t2 (List.mem_of_getElem? (i := 36) rfl)) rfl
theorem al_fl_RX8_35 : Cond.fieldLink RX8 35 "AncestorLooks" "survey" "LAncestorLooks$Survey;" ∈ al_G := al_g (al_t2 (List.mem_of_getElem? (i := 37) rfl)) rfl
theorem al_fl_RX8_44 : Cond.fieldLink RX8 44 "AncestorLooks" "ways" "LAncestorLooks$Ways;" ∈ al_G := al_g (al_t2 (List.mem_of_getElem? (i := 38) rfl)) rfl
theorem al_fl_RX8_51 : Cond.fieldLink RX8 51 "AncestorLooks" "shapes" "LAncestorLooks$Shapes;" ∈ al_G := al_g (al_t2 (List.mem_of_getElem? (i := 39) rfl)) rfl
theorem al_ml_RL_72 : Cond.methodLink RL 72 yX8_addLeaf ∈ al_G := al_g (al_t2 (List.mem_of_getElem? (i := 53) rfl)) rfl
theorem al_in_X8_addLeaf : Cond.instanceMethod yX8_addLeaf ∈ al_G := al_g (al_t2 (List.mem_of_getElem? (i := 54) rfl)) rfl
theorem al_se_X8_addLeaf : Cond.selects yX8_addLeaf.cls yX8_addLeaf yX8_addLeaf ∈ al_G := al_g (al_t2 (List.mem_of_getElem? (i := 55) rfl)) rfl
theorem al_c_X8_addLeaf : Cond.code yX8_addLeaf cX8_addLeaf 4 (some .int) ∈ al_G := al_g (al_t2 (List.mem_of_getElem? (i := 56) rfl)) rfl
theorem al_ml_RX8_58 : Cond.methodLink RX8 58 yX6_isNode ∈ al_G := al_g (al_t2 (List.mem_of_getElem? (i := 57) rfl)) rfl
theorem al_ml_RX8_62 : Cond.methodLink RX8 62 yX8_isLength ∈ al_G := al_g (al_t2 (List.mem_of_getElem? (i := 58) rfl)) rfl
theorem al_st_X8_isLength : Cond.static yX8_isLength ∈ al_G := al_g (al_t2 (List.mem_of_getElem? (i := 59) rfl)) rfl
theorem al_c_X8_isLength : Cond.code yX8_isLength cX8_isLength 1 (some .boolean) ∈ al_G := al_g (al_t2 (List.mem_of_getElem? (i := 60) rfl)) rfl
theorem al_k_RX8_252 : Cond.constant RX8 252 1148846080 ∈ al_G := al_g (al_t2 (List.mem_of_getElem? (i := 61) rfl)) rfl
theorem al_ml_RX8_65 : Cond.methodLink RX8 65 yX6_hasRoomFor ∈ al_G := al_g (al_t2 (List.mem_of_getElem? (i := 62) rfl)) rfl
theorem al_in_X6_hasRoomFor : Cond.instanceMethod yX6_hasRoomFor ∈ al_G := al_g (al_t2 (List.mem_of_getElem? (i := 63) rfl)) rfl
theorem al_se_X6_hasRoomFor : Cond.selects yX6_hasRoomFor.cls yX6_hasRoomFor yX6_hasRoomFor ∈ al_G := al_g (al_t2 (List.mem_of_getElem? (i := 64) rfl)) rfl
theorem al_c_X6_hasRoomFor : Cond.code yX6_hasRoomFor cX6_hasRoomFor 2 (some .boolean) ∈ al_G := al_g (al_t2 (List.mem_of_getElem? (i := 65) rfl)) rfl
theorem al_ml_RX8_68 : Cond.methodLink RX8 68 yX1_record ∈ al_G := al_g (al_t2 (List.mem_of_getElem? (i := 66) rfl)) rfl
theorem al_in_X1_record : Cond.instanceMethod yX1_record ∈ al_G := al_g (al_t2 (List.mem_of_getElem? (i := 67) rfl)) rfl
theorem al_se_X1_record : Cond.selects yX1_record.cls yX1_record yX1_record ∈ al_G := al_g (al_t2 (List.mem_of_getElem? (i := 68) rfl)) rfl
theorem al_c_X1_record : Cond.code yX1_record cX1_record 3 none ∈ al_G := al_g (al_t2 (List.mem_of_getElem? (i := 69) rfl)) rfl
theorem al_ml_RX1_30 : Cond.methodLink RX1 30 yX1_dropOldest ∈ al_G := al_g (al_t2 (List.mem_of_getElem? (i := 70) rfl)) rfl
theorem al_in_X1_dropOldest : Cond.instanceMethod yX1_dropOldest ∈ al_G := al_g (al_t2 (List.mem_of_getElem? (i := 72) rfl)) rfl
theorem al_c_X1_dropOldest : Cond.code yX1_dropOldest cX1_dropOldest 3 none ∈ al_G := al_g (al_t2 (List.mem_of_getElem? (i := 73) rfl)) rfl
theorem al_ml_RX1_33 : Cond.methodLink RX1 33 yX1_stateAt ∈ al_G := al_g (al_t2 (List.mem_of_getElem? (i := 74) rfl)) rfl
theorem al_in_X1_stateAt : Cond.instanceMethod yX1_stateAt ∈ al_G := al_g (al_t2 (List.mem_of_getElem? (i := 76) rfl)) rfl
theorem al_c_X1_stateAt : Cond.code yX1_stateAt cX1_stateAt 2 (some (.object "AncestorLooks$Tree")) ∈ al_G := al_g (al_t2 (List.mem_of_getElem? (i := 77) rfl)) rfl
theorem al_ml_RX1_37 : Cond.methodLink RX1 37 yX6_copyFrom ∈ al_G := al_g (al_t2 (List.mem_of_getElem? (i := 78) rfl)) rfl
theorem al_in_X6_copyFrom : Cond.instanceMethod yX6_copyFrom ∈ al_G := al_g (al_t2 (List.mem_of_getElem? (i := 79) rfl)) rfl
theorem al_se_X6_copyFrom : Cond.selects yX6_copyFrom.cls yX6_copyFrom yX6_copyFrom ∈ al_G := al_g (al_t2 (List.mem_of_getElem? (i := 80) rfl)) rfl
theorem al_c_X6_copyFrom : Cond.code yX6_copyFrom cX6_copyFrom 2 none ∈ al_G := al_g (al_t2 (List.mem_of_getElem? (i := 81) rfl)) rfl
theorem al_ml_RX6_50 : Cond.methodLink RX6 50 yX2_copyFrom ∈ al_G := al_g (al_t2 (List.mem_of_getElem? (i := 82) rfl)) rfl
theorem al_in_X2_copyFrom : Cond.instanceMethod yX2_copyFrom ∈ al_G := al_g (al_t2 (List.mem_of_getElem? (i := 83) rfl)) rfl
theorem al_se_X2_copyFrom : Cond.selects yX2_copyFrom.cls yX2_copyFrom yX2_copyFrom ∈ al_G := al_g (al_t2 (List.mem_of_getElem? (i := 84) rfl)) rfl
theorem al_c_X2_copyFrom : Cond.code yX2_copyFrom cX2_copyFrom 3 none ∈ al_G := al_g (al_t2 (List.mem_of_getElem? (i := 85) rfl)) rfl
theorem al_ml_RX2_15 : Cond.methodLink RX2 15 yX2_get ∈ al_G := al_g (al_t2 (List.mem_of_getElem? (i := 86) rfl)) rfl
theorem al_ml_RX6_54 : Cond.methodLink RX6 54 yX0_copyFrom ∈ al_G := al_g (al_t2 (List.mem_of_getElem? (i := 87) rfl)) rfl
theorem al_in_X0_copyFrom : Cond.instanceMethod yX0_copyFrom ∈ al_G := al_g (al_t2 (List.mem_of_getElem? (i := 88) rfl)) rfl
theorem al_se_X0_copyFrom : Cond.selects yX0_copyFrom.cls yX0_copyFrom yX0_copyFrom ∈ al_G := al_g (al_t2 (List.mem_of_getElem? (i := 89) rfl)) rfl
theorem al_c_X0_copyFrom : Cond.code yX0_copyFrom cX0_copyFrom 3 none ∈ al_G := al_g (al_t2 (List.mem_of_getElem? (i := 90) rfl)) rfl
theorem al_ml_RX0_15 : Cond.methodLink RX0 15 yX0_get ∈ al_G := al_g (al_t2 (List.mem_of_getElem? (i := 91) rfl)) rfl
theorem al_ml_RX8_71 : Cond.methodLink RX8 71 yX8_toFloat ∈ al_G := al_g (al_t2 (List.mem_of_getElem? (i := 92) rfl)) rfl
theorem al_st_X8_toFloat : Cond.static yX8_toFloat ∈ al_G := al_g (al_t2 (List.mem_of_getElem? (i := 93) rfl)) rfl
theorem al_c_X8_toFloat : Cond.code yX8_toFloat cX8_toFloat 5 (some .float) ∈ al_G := al_g (al_t2 (List.mem_of_getElem? (i := 94) rfl)) rfl
theorem al_k_RX8_253 : Cond.constant RX8 253 8388607 ∈ al_G := al_g (al_t2 (List.mem_of_getElem? (i := 95) rfl)) rfl
theorem al_k_RX8_254 : Cond.constant RX8 254 8388608 ∈ al_G := al_g (al_t2 (List.mem_of_getElem? (i := 96) rfl)) rfl
theorem al_k_RX8_255 : Cond.constantFloat RX8 255 1056964608 ∈ al_G := al_g (al_t2 (List.mem_of_getElem? (i := 97) rfl)) rfl
theorem al_ml_RX8_75 : Cond.methodLink RX8 75 yX6_append ∈ al_G := al_g (al_t2 (List.mem_of_getElem? (i := 98) rfl)) rfl
theorem al_in_X6_append : Cond.instanceMethod yX6_append ∈ al_G := al_g (al_t2 (List.mem_of_getElem? (i := 99) rfl)) rfl
theorem al_se_X6_append : Cond.selects yX6_append.cls yX6_append yX6_append ∈ al_G := al_g (al_t2 (List.mem_of_getElem? (i := 100) rfl)) rfl
theorem al_c_X6_append : Cond.code yX6_append cX6_append 5 (some .int) ∈ al_G := al_g (al_t2 (List.mem_of_getElem? (i := 101) rfl)) rfl
theorem al_ml_RX6_43 : Cond.methodLink RX6 43 yX6_stretch ∈ al_G := al_g (al_t2 (List.mem_of_getElem? (i := 102) rfl)) rfl
theorem al_in_X6_stretch : Cond.instanceMethod yX6_stretch ∈ al_G := al_g (al_t2 (List.mem_of_getElem? (i := 103) rfl)) rfl
theorem al_se_X6_stretch : Cond.selects yX6_stretch.cls yX6_stretch yX6_stretch ∈ al_G := al_g (al_t2 (List.mem_of_getElem? (i := 104) rfl)) rfl
theorem al_c_X6_stretch : Cond.code yX6_stretch cX6_stretch 4 none ∈ al_G := al_g (al_t2 (List.mem_of_getElem? (i := 105) rfl)) rfl
theorem al_ml_RX6_47 : Cond.methodLink RX6 47 yX0_set ∈ al_G := al_g (al_t2 (List.mem_of_getElem? (i := 106) rfl)) rfl
theorem al_ml_RL_78 : Cond.methodLink RL 78 yX8_graft ∈ al_G := al_g (al_t2 (List.mem_of_getElem? (i := 107) rfl)) rfl
theorem al_in_X8_graft : Cond.instanceMethod yX8_graft ∈ al_G := al_g (al_t2 (List.mem_of_getElem? (i := 108) rfl)) rfl
theorem al_se_X8_graft : Cond.selects yX8_graft.cls yX8_graft yX8_graft ∈ al_G := al_g (al_t2 (List.mem_of_getElem? (i := 109) rfl)) rfl
theorem al_c_X8_graft : Cond.code yX8_graft cX8_graft 4 (some .int) ∈ al_G := al_g (al_t2 (List.mem_of_getElem? (i := 110) rfl)) rfl
theorem al_ml_RX8_93 : Cond.methodLink RX8 93 yX4_isInBranch ∈ al_G := al_g (al_t2 (List.mem_of_getElem? (i := 111) rfl)) rfl
theorem al_in_X4_isInBranch : Cond.instanceMethod yX4_isInBranch ∈ al_G := al_g (al_t2 (List.mem_of_getElem? (i := 112) rfl)) rfl
theorem al_se_X4_isInBranch : Cond.selects yX4_isInBranch.cls yX4_isInBranch yX4_isInBranch ∈ al_G := al_g (al_t2 (List.mem_of_getElem? (i := 113) rfl)) rfl
theorem al_c_X4_isInBranch : Cond.code yX4_isInBranch cX4_isInBranch 4 (some .boolean) ∈ al_G := al_g (al_t2 (List.mem_of_getElem? (i := 114) rfl)) rfl
theorem al_ml_RX4_98 : Cond.methodLink RX4 98 yX4_climb ∈ al_G := al_g (al_t2 (List.mem_of_getElem? (i := 115) rfl)) rfl
theorem al_in_X4_climb : Cond.instanceMethod yX4_climb ∈ al_G := al_g (al_t2 (List.mem_of_getElem? (i := 116) rfl)) rfl
theorem al_se_X4_climb : Cond.selects yX4_climb.cls yX4_climb yX4_climb ∈ al_G := al_g (al_t2 (List.mem_of_getElem? (i := 117) rfl)) rfl
theorem al_c_X4_climb : Cond.code yX4_climb cX4_climb 5 (some .int) ∈ al_G := al_g (al_t2 (List.mem_of_getElem? (i := 118) rfl)) rfl
theorem al_ml_RX8_82 : Cond.methodLink RX8 82 yX6_parentOf ∈ al_G := al_g (al_t2 (List.mem_of_getElem? (i := 119) rfl)) rfl
theorem al_ml_RX8_97 : Cond.methodLink RX8 97 yX6_hang ∈ al_G := al_g (al_t2 (List.mem_of_getElem? (i := 120) rfl)) rfl
theorem al_in_X6_hang : Cond.instanceMethod yX6_hang ∈ al_G := al_g (al_t2 (List.mem_of_getElem? (i := 121) rfl)) rfl
theorem al_se_X6_hang : Cond.selects yX6_hang.cls yX6_hang yX6_hang ∈ al_G := al_g (al_t2 (List.mem_of_getElem? (i := 122) rfl)) rfl
theorem al_c_X6_hang : Cond.code yX6_hang cX6_hang 3 none ∈ al_G := al_g (al_t2 (List.mem_of_getElem? (i := 123) rfl)) rfl
theorem al_ml_RL_92 : Cond.methodLink RL 92 yX8_type ∈ al_G := al_g (al_t2 (List.mem_of_getElem? (i := 124) rfl)) rfl
theorem al_in_X8_type : Cond.instanceMethod yX8_type ∈ al_G := al_g (al_t2 (List.mem_of_getElem? (i := 125) rfl)) rfl
theorem al_se_X8_type : Cond.selects yX8_type.cls yX8_type yX8_type ∈ al_G := al_g (al_t2 (List.mem_of_getElem? (i := 126) rfl)) rfl
theorem al_c_X8_type : Cond.code yX8_type cX8_type 2 (some .int) ∈ al_G := al_g (al_t2 (List.mem_of_getElem? (i := 127) rfl)) rfl
theorem al_ml_RX8_108 : Cond.methodLink RX8 108 yX5_put ∈ al_G := al_g (al_t2 (List.mem_of_getElem? (i := 128) rfl)) rfl
theorem al_in_X5_put : Cond.instanceMethod yX5_put ∈ al_G := al_g (al_t2 (List.mem_of_getElem? (i := 129) rfl)) rfl
theorem al_se_X5_put : Cond.selects yX5_put.cls yX5_put yX5_put ∈ al_G := al_g (al_t2 (List.mem_of_getElem? (i := 130) rfl)) rfl
theorem al_c_X5_put : Cond.code yX5_put cX5_put 2 (some .boolean) ∈ al_G := al_g (al_t2 (List.mem_of_getElem? (i := 131) rfl)) rfl
theorem al_ml_RX8_112 : Cond.methodLink RX8 112 yX5_length ∈ al_G := al_g (al_t2 (List.mem_of_getElem? (i := 132) rfl)) rfl
theorem al_in_X5_length : Cond.instanceMethod yX5_length ∈ al_G := al_g (al_t2 (List.mem_of_getElem? (i := 133) rfl)) rfl
theorem al_se_X5_length : Cond.selects yX5_length.cls yX5_length yX5_length ∈ al_G := al_g (al_t2 (List.mem_of_getElem? (i := 134) rfl)) rfl
theorem al_c_X5_length : Cond.code yX5_length cX5_length 1 (some .int) ∈ al_G := al_g (al_t2 (List.mem_of_getElem? (i := 135) rfl)) rfl
theorem al_ml_RL_84 : Cond.methodLink RL 84 yX8_grow ∈ al_G := al_g (al_t2 (List.mem_of_getElem? (i := 136) rfl)) rfl
theorem al_in_X8_grow : Cond.instanceMethod yX8_grow ∈ al_G := al_g (al_t2 (List.mem_of_getElem? (i := 137) rfl)) rfl
theorem al_se_X8_grow : Cond.selects yX8_grow.cls yX8_grow yX8_grow ∈ al_G := al_g (al_t2 (List.mem_of_getElem? (i := 138) rfl)) rfl
theorem al_c_X8_grow : Cond.code yX8_grow cX8_grow 4 (some .int) ∈ al_G := al_g (al_t2 (List.mem_of_getElem? (i := 139) rfl)) rfl
theorem al_ml_RX8_119 : Cond.methodLink RX8 119 yX5_fault ∈ al_G := al_g (al_t2 (List.mem_of_getElem? (i := 140) rfl)) rfl
theorem al_in_X5_fault : Cond.instanceMethod yX5_fault ∈ al_G := al_g (al_t2 (List.mem_of_getElem? (i := 141) rfl)) rfl
theorem al_se_X5_fault : Cond.selects yX5_fault.cls yX5_fault yX5_fault ∈ al_G := al_g (al_t2 (List.mem_of_getElem? (i := 142) rfl)) rfl
theorem al_c_X5_fault : Cond.code yX5_fault cX5_fault 3 (some .int) ∈ al_G := al_g (al_t2 (List.mem_of_getElem? (i := 143) rfl)) rfl
theorem al_ml_RX8_122 : Cond.methodLink RX8 122 yX5_branches ∈ al_G := al_g (al_t2 (List.mem_of_getElem? (i := 144) rfl)) rfl
theorem al_in_X5_branches : Cond.instanceMethod yX5_branches ∈ al_G := al_g (al_t2 (List.mem_of_getElem? (i := 145) rfl)) rfl
theorem al_se_X5_branches : Cond.selects yX5_branches.cls yX5_branches yX5_branches ∈ al_G := al_g (al_t2 (List.mem_of_getElem? (i := 146) rfl)) rfl
theorem al_c_X5_branches : Cond.code yX5_branches cX5_branches 1 (some .int) ∈ al_G := al_g (al_t2 (List.mem_of_getElem? (i := 147) rfl)) rfl
theorem al_ml_RX8_125 : Cond.methodLink RX8 125 yX5_plant ∈ al_G := al_g (al_t2 (List.mem_of_getElem? (i := 148) rfl)) rfl
theorem al_in_X5_plant : Cond.instanceMethod yX5_plant ∈ al_G := al_g (al_t2 (List.mem_of_getElem? (i := 149) rfl)) rfl
theorem al_se_X5_plant : Cond.selects yX5_plant.cls yX5_plant yX5_plant ∈ al_G := al_g (al_t2 (List.mem_of_getElem? (i := 150) rfl)) rfl
theorem al_c_X5_plant : Cond.code yX5_plant cX5_plant 5 none ∈ al_G := al_g (al_t2 (List.mem_of_getElem? (i := 151) rfl)) rfl
theorem al_k_RX5_19 : Cond.constant RX5 19 1065353216 ∈ al_G := al_g (al_t2 (List.mem_of_getElem? (i := 152) rfl)) rfl
theorem al_ml_RX5_20 : Cond.methodLink RX5 20 yX6_append ∈ al_G := al_g (al_t2 (List.mem_of_getElem? (i := 153) rfl)) rfl
theorem al_ml_RX5_26 : Cond.methodLink RX5 26 yX6_parentOf ∈ al_G := al_g (al_t2 (List.mem_of_getElem? (i := 154) rfl)) rfl
theorem al_ml_RL_104 : Cond.methodLink RL 104 yX8_undo ∈ al_G := al_g (al_t2 (List.mem_of_getElem? (i := 155) rfl)) rfl
theorem al_in_X8_undo : Cond.instanceMethod yX8_undo ∈ al_G := al_g (al_t2 (List.mem_of_getElem? (i := 156) rfl)) rfl
theorem al_se_X8_undo : Cond.selects yX8_undo.cls yX8_undo yX8_undo ∈ al_G := al_g (al_t2 (List.mem_of_getElem? (i := 157) rfl)) rfl
theorem al_c_X8_undo : Cond.code yX8_undo cX8_undo 1 (some .int) ∈ al_G := al_g (al_t2 (List.mem_of_getElem? (i := 158) rfl)) rfl
theorem al_ml_RX8_129 : Cond.methodLink RX8 129 yX1_length ∈ al_G := al_g (al_t2 (List.mem_of_getElem? (i := 159) rfl)) rfl
theorem al_in_X1_length : Cond.instanceMethod yX1_length ∈ al_G := al_g (al_t2 (List.mem_of_getElem? (i := 160) rfl)) rfl
theorem al_se_X1_length : Cond.selects yX1_length.cls yX1_length yX1_length ∈ al_G := al_g (al_t2 (List.mem_of_getElem? (i := 161) rfl)) rfl
theorem al_c_X1_length : Cond.code yX1_length cX1_length 1 (some .int) ∈ al_G := al_g (al_t2 (List.mem_of_getElem? (i := 162) rfl)) rfl
theorem al_ml_RX8_130 : Cond.methodLink RX8 130 yX1_takeBack ∈ al_G := al_g (al_t2 (List.mem_of_getElem? (i := 163) rfl)) rfl
theorem al_in_X1_takeBack : Cond.instanceMethod yX1_takeBack ∈ al_G := al_g (al_t2 (List.mem_of_getElem? (i := 164) rfl)) rfl
theorem al_se_X1_takeBack : Cond.selects yX1_takeBack.cls yX1_takeBack yX1_takeBack ∈ al_G := al_g (al_t2 (List.mem_of_getElem? (i := 165) rfl)) rfl
theorem al_c_X1_takeBack : Cond.code yX1_takeBack cX1_takeBack 3 none ∈ al_G := al_g (al_t2 (List.mem_of_getElem? (i := 166) rfl)) rfl
theorem al_ml_RL_116 : Cond.methodLink RL 116 yX8_keep ∈ al_G := al_g (al_t2 (List.mem_of_getElem? (i := 167) rfl)) rfl
theorem al_in_X8_keep : Cond.instanceMethod yX8_keep ∈ al_G := al_g (al_t2 (List.mem_of_getElem? (i := 168) rfl)) rfl
theorem al_se_X8_keep : Cond.selects yX8_keep.cls yX8_keep yX8_keep ∈ al_G := al_g (al_t2 (List.mem_of_getElem? (i := 169) rfl)) rfl
theorem al_c_X8_keep : Cond.code yX8_keep cX8_keep 1 (some .int) ∈ al_G := al_g (al_t2 (List.mem_of_getElem? (i := 170) rfl)) rfl
theorem al_ml_RX8_133 : Cond.methodLink RX8 133 yX1_keepSnapshot ∈ al_G := al_g (al_t2 (List.mem_of_getElem? (i := 171) rfl)) rfl
theorem al_in_X1_keepSnapshot : Cond.instanceMethod yX1_keepSnapshot ∈ al_G := al_g (al_t2 (List.mem_of_getElem? (i := 172) rfl)) rfl
theorem al_se_X1_keepSnapshot : Cond.selects yX1_keepSnapshot.cls yX1_keepSnapshot yX1_keepSnapshot ∈ al_G := al_g (al_t2 (List.mem_of_getElem? (i := 173) rfl)) rfl
theorem al_c_X1_keepSnapshot : Cond.code yX1_keepSnapshot cX1_keepSnapshot 2 none ∈ al_G := al_g (al_t2 (List.mem_of_getElem? (i := 174) rfl)) rfl
theorem al_ml_RX8_136 : Cond.methodLink RX8 136 yX4_present ∈ al_G := al_g (al_t2 (List.mem_of_getElem? (i := 175) rfl)) rfl
theorem al_ml_RL_119 : Cond.methodLink RL 119 yX8_restore ∈ al_G := al_g (al_t2 (List.mem_of_getElem? (i := 176) rfl)) rfl
theorem al_in_X8_restore : Cond.instanceMethod yX8_restore ∈ al_G := al_g (al_t2 (List.mem_of_getElem? (i := 177) rfl)) rfl
theorem al_se_X8_restore : Cond.selects yX8_restore.cls yX8_restore yX8_restore ∈ al_G := al_g (al_t2 (List.mem_of_getElem? (i := 178) rfl)) rfl
theorem al_c_X8_restore : Cond.code yX8_restore cX8_restore 1 (some .int) ∈ al_G := al_g (al_t2 (List.mem_of_getElem? (i := 179) rfl)) rfl
theorem al_ml_RX8_139 : Cond.methodLink RX8 139 yX1_hasSnapshot ∈ al_G := al_g (al_t2 (List.mem_of_getElem? (i := 180) rfl)) rfl
theorem al_in_X1_hasSnapshot : Cond.instanceMethod yX1_hasSnapshot ∈ al_G := al_g (al_t2 (List.mem_of_getElem? (i := 181) rfl)) rfl
theorem al_se_X1_hasSnapshot : Cond.selects yX1_hasSnapshot.cls yX1_hasSnapshot yX1_hasSnapshot ∈ al_G := al_g (al_t2 (List.mem_of_getElem? (i := 182) rfl)) rfl
theorem al_c_X1_hasSnapshot : Cond.code yX1_hasSnapshot cX1_hasSnapshot 1 (some .boolean) ∈ al_G := al_g (al_t2 (List.mem_of_getElem? (i := 183) rfl)) rfl
theorem al_ml_RX8_143 : Cond.methodLink RX8 143 yX1_showSnapshot ∈ al_G := al_g (al_t2 (List.mem_of_getElem? (i := 184) rfl)) rfl
theorem al_in_X1_showSnapshot : Cond.instanceMethod yX1_showSnapshot ∈ al_G := al_g (al_t2 (List.mem_of_getElem? (i := 185) rfl)) rfl
theorem al_se_X1_showSnapshot : Cond.selects yX1_showSnapshot.cls yX1_showSnapshot yX1_showSnapshot ∈ al_G := al_g (al_t2 (List.mem_of_getElem? (i := 186) rfl)) rfl
theorem al_c_X1_showSnapshot : Cond.code yX1_showSnapshot cX1_showSnapshot 2 none ∈ al_G := al_g (al_t2 (List.mem_of_getElem? (i := 187) rfl)) rfl
theorem al_ml_RL_122 : Cond.methodLink RL 122 yX8_jump ∈ al_G := al_g (al_t2 (List.mem_of_getElem? (i := 188) rfl)) rfl
theorem al_in_X8_jump : Cond.instanceMethod yX8_jump ∈ al_G := al_g (al_t2 (List.mem_of_getElem? (i := 189) rfl)) rfl
theorem al_se_X8_jump : Cond.selects yX8_jump.cls yX8_jump yX8_jump ∈ al_G := al_g (al_t2 (List.mem_of_getElem? (i := 190) rfl)) rfl
theorem al_c_X8_jump : Cond.code yX8_jump cX8_jump 4 (some .int) ∈ al_G := al_g (al_t2 (List.mem_of_getElem? (i := 191) rfl)) rfl
theorem al_ml_RX8_79 : Cond.methodLink RX8 79 yX4_isLeaf ∈ al_G := al_g (al_t2 (List.mem_of_getElem? (i := 192) rfl)) rfl
theorem al_in_X4_isLeaf : Cond.instanceMethod yX4_isLeaf ∈ al_G := al_g (al_t2 (List.mem_of_getElem? (i := 193) rfl)) rfl
theorem al_se_X4_isLeaf : Cond.selects yX4_isLeaf.cls yX4_isLeaf yX4_isLeaf ∈ al_G := al_g (al_t2 (List.mem_of_getElem? (i := 194) rfl)) rfl
theorem al_c_X4_isLeaf : Cond.code yX4_isLeaf cX4_isLeaf 2 (some .boolean) ∈ al_G := al_g (al_t2 (List.mem_of_getElem? (i := 195) rfl)) rfl
theorem al_ml_RX8_146 : Cond.methodLink RX8 146 yX4_depthOf ∈ al_G := al_g (al_t2 (List.mem_of_getElem? (i := 196) rfl)) rfl
theorem al_in_X4_depthOf : Cond.instanceMethod yX4_depthOf ∈ al_G := al_g (al_t2 (List.mem_of_getElem? (i := 197) rfl)) rfl
theorem al_se_X4_depthOf : Cond.selects yX4_depthOf.cls yX4_depthOf yX4_depthOf ∈ al_G := al_g (al_t2 (List.mem_of_getElem? (i := 198) rfl)) rfl
theorem al_c_X4_depthOf : Cond.code yX4_depthOf cX4_depthOf 2 (some .int) ∈ al_G := al_g (al_t2 (List.mem_of_getElem? (i := 199) rfl)) rfl
theorem al_ml_RX8_149 : Cond.methodLink RX8 149 yX4_climb ∈ al_G := al_g (al_t2 (List.mem_of_getElem? (i := 200) rfl)) rfl
theorem al_ml_RL_58 : Cond.methodLink RL 58 yX8_distance ∈ al_G := al_g (al_t2 (List.mem_of_getElem? (i := 201) rfl)) rfl
theorem al_in_X8_distance : Cond.instanceMethod yX8_distance ∈ al_G := al_g (al_t2 (List.mem_of_getElem? (i := 202) rfl)) rfl
theorem al_se_X8_distance : Cond.selects yX8_distance.cls yX8_distance yX8_distance ∈ al_G := al_g (al_t2 (List.mem_of_getElem? (i := 203) rfl)) rfl
theorem al_c_X8_distance : Cond.code yX8_distance cX8_distance 3 (some .float) ∈ al_G := al_g (al_t2 (List.mem_of_getElem? (i := 204) rfl)) rfl
theorem al_ml_RX8_187 : Cond.methodLink RX8 187 yX8_noFloat ∈ al_G := al_g (al_t2 (List.mem_of_getElem? (i := 205) rfl)) rfl
theorem al_st_X8_noFloat : Cond.static yX8_noFloat ∈ al_G := al_g (al_t2 (List.mem_of_getElem? (i := 206) rfl)) rfl
theorem al_c_X8_noFloat : Cond.code yX8_noFloat cX8_noFloat 0 (some .float) ∈ al_G := al_g (al_t2 (List.mem_of_getElem? (i := 207) rfl)) rfl
theorem al_k_RX8_251 : Cond.constantFloat RX8 251 2143289344 ∈ al_G := al_g (al_t2 (List.mem_of_getElem? (i := 208) rfl)) rfl
theorem al_ml_RX8_197 : Cond.methodLink RX8 197 yX7_between ∈ al_G := al_g (al_t2 (List.mem_of_getElem? (i := 209) rfl)) rfl
theorem al_in_X7_between : Cond.instanceMethod yX7_between ∈ al_G := al_g (al_t2 (List.mem_of_getElem? (i := 210) rfl)) rfl
theorem al_se_X7_between : Cond.selects yX7_between.cls yX7_between yX7_between ∈ al_G := al_g (al_t2 (List.mem_of_getElem? (i := 211) rfl)) rfl
theorem al_c_X7_between : Cond.code yX7_between cX7_between 3 (some .float) ∈ al_G := al_g (al_t2 (List.mem_of_getElem? (i := 212) rfl)) rfl
theorem al_ml_RX7_69 : Cond.methodLink RX7 69 yX4_meetingOf ∈ al_G := al_g (al_t2 (List.mem_of_getElem? (i := 213) rfl)) rfl
theorem al_in_X4_meetingOf : Cond.instanceMethod yX4_meetingOf ∈ al_G := al_g (al_t2 (List.mem_of_getElem? (i := 214) rfl)) rfl
theorem al_se_X4_meetingOf : Cond.selects yX4_meetingOf.cls yX4_meetingOf yX4_meetingOf ∈ al_G := al_g (al_t2 (List.mem_of_getElem? (i := 215) rfl)) rfl
theorem al_c_X4_meetingOf : Cond.code yX4_meetingOf cX4_meetingOf 6 (some .int) ∈ al_G := al_g (al_t2 (List.mem_of_getElem? (i := 216) rfl)) rfl
theorem al_ml_RX7_73 : Cond.methodLink RX7 73 yX7_sum ∈ al_G := al_g (al_t2 (List.mem_of_getElem? (i := 217) rfl)) rfl
theorem al_st_X7_sum : Cond.static yX7_sum ∈ al_G := al_g (al_t2 (List.mem_of_getElem? (i := 218) rfl)) rfl
theorem al_c_X7_sum : Cond.code yX7_sum cX7_sum 3 (some .float) ∈ al_G := al_g (al_t2 (List.mem_of_getElem? (i := 219) rfl)) rfl
theorem al_ml_RL_62 : Cond.methodLink RL 62 yX8_reach ∈ al_G := al_g (al_t2 (List.mem_of_getElem? (i := 220) rfl)) rfl
theorem al_in_X8_reach : Cond.instanceMethod yX8_reach ∈ al_G := al_g (al_t2 (List.mem_of_getElem? (i := 221) rfl)) rfl
theorem al_se_X8_reach : Cond.selects yX8_reach.cls yX8_reach yX8_reach ∈ al_G := al_g (al_t2 (List.mem_of_getElem? (i := 222) rfl)) rfl
theorem al_c_X8_reach : Cond.code yX8_reach cX8_reach 3 (some .int) ∈ al_G := al_g (al_t2 (List.mem_of_getElem? (i := 223) rfl)) rfl
theorem al_ml_RX8_201 : Cond.methodLink RX8 201 yX7_highestWithin ∈ al_G := al_g (al_t2 (List.mem_of_getElem? (i := 224) rfl)) rfl
theorem al_in_X7_highestWithin : Cond.instanceMethod yX7_highestWithin ∈ al_G := al_g (al_t2 (List.mem_of_getElem? (i := 225) rfl)) rfl
theorem al_se_X7_highestWithin : Cond.selects yX7_highestWithin.cls yX7_highestWithin yX7_highestWithin ∈ al_G := al_g (al_t2 (List.mem_of_getElem? (i := 226) rfl)) rfl
theorem al_c_X7_highestWithin : Cond.code yX7_highestWithin cX7_highestWithin 7 (some .int) ∈ al_G := al_g (al_t2 (List.mem_of_getElem? (i := 227) rfl)) rfl
theorem al_ml_RL_27 : Cond.methodLink RL 27 yX8_farthest ∈ al_G := al_g (al_t2 (List.mem_of_getElem? (i := 228) rfl)) rfl
theorem al_in_X8_farthest : Cond.instanceMethod yX8_farthest ∈ al_G := al_g (al_t2 (List.mem_of_getElem? (i := 229) rfl)) rfl
theorem al_se_X8_farthest : Cond.selects yX8_farthest.cls yX8_farthest yX8_farthest ∈ al_G := al_g (al_t2 (List.mem_of_getElem? (i := 230) rfl)) rfl
theorem al_c_X8_farthest : Cond.code yX8_farthest cX8_farthest 2 (some .int) ∈ al_G := al_g (al_t2 (List.mem_of_getElem? (i := 231) rfl)) rfl
theorem al_ml_RX8_205 : Cond.methodLink RX8 205 yX7_farthestFrom ∈ al_G := al_g (al_t2 (List.mem_of_getElem? (i := 232) rfl)) rfl
theorem al_in_X7_farthestFrom : Cond.instanceMethod yX7_farthestFrom ∈ al_G := al_g (al_t2 (List.mem_of_getElem? (i := 233) rfl)) rfl
theorem al_se_X7_farthestFrom : Cond.selects yX7_farthestFrom.cls yX7_farthestFrom yX7_farthestFrom ∈ al_G := al_g (al_t2 (List.mem_of_getElem? (i := 234) rfl)) rfl
theorem al_c_X7_farthestFrom : Cond.code yX7_farthestFrom cX7_farthestFrom 2 (some .int) ∈ al_G := al_g (al_t2 (List.mem_of_getElem? (i := 235) rfl)) rfl
theorem al_ml_RX7_83 : Cond.methodLink RX7 83 yX7_findMeetings ∈ al_G := al_g (al_t2 (List.mem_of_getElem? (i := 236) rfl)) rfl
theorem al_in_X7_findMeetings : Cond.instanceMethod yX7_findMeetings ∈ al_G := al_g (al_t2 (List.mem_of_getElem? (i := 238) rfl)) rfl
theorem al_c_X7_findMeetings : Cond.code yX7_findMeetings cX7_findMeetings 6 none ∈ al_G := al_g (al_t2 (List.mem_of_getElem? (i := 239) rfl)) rfl
theorem al_ml_RX7_99 : Cond.methodLink RX7 99 yX2_fill ∈ al_G := al_g (al_t3 (List.mem_of_getElem? (i := 0) rfl)) rfl
theorem al_ml_RX7_102 : Cond.methodLink RX7 102 yX2_set ∈ al_G := al_g (al_t3 (List.mem_of_getElem? (i := 1) rfl)) rfl
theorem al_ml_RX7_105 : Cond.methodLink RX7 105 yX2_get ∈ al_G := al_g (al_t3 (List.mem_of_getElem? (i := 2) rfl)) rfl
theorem al_ml_RX7_87 : Cond.methodLink RX7 87 yX7_farthestFromOn ∈ al_G := al_g (al_t3 (List.mem_of_getElem? (i := 3) rfl)) rfl
theorem al_in_X7_farthestFromOn : Cond.instanceMethod yX7_farthestFromOn ∈ al_G := al_g (al_t3 (List.mem_of_getElem? (i := 5) rfl)) rfl
theorem al_c_X7_farthestFromOn : Cond.code yX7_farthestFromOn cX7_farthestFromOn 6 (some .int) ∈ al_G := al_g (al_t3 (List.mem_of_getElem? (i := 6) rfl)) rfl
theorem al_k_RX7_90 : Cond.constantFloat RX7 90 3212836864 ∈ al_G := al_g (al_t3 (List.mem_of_getElem? (i := 7) rfl)) rfl
theorem al_ml_RX7_91 : Cond.methodLink RX7 91 yX6_isNode ∈ al_G := al_g (al_t3 (List.mem_of_getElem? (i := 8) rfl)) rfl
theorem al_ml_RX7_95 : Cond.methodLink RX7 95 yX7_measured ∈ al_G := al_g (al_t3 (List.mem_of_getElem? (i := 9) rfl)) rfl
theorem al_in_X7_measured : Cond.instanceMethod yX7_measured ∈ al_G := al_g (al_t3 (List.mem_of_getElem? (i := 11) rfl)) rfl
theorem al_c_X7_measured : Cond.code yX7_measured cX7_measured 3 (some .float) ∈ al_G := al_g (al_t3 (List.mem_of_getElem? (i := 12) rfl)) rfl
theorem al_ml_RL_55 : Cond.methodLink RL 55 yX8_apart ∈ al_G := al_g (al_t3 (List.mem_of_getElem? (i := 13) rfl)) rfl
theorem al_in_X8_apart : Cond.instanceMethod yX8_apart ∈ al_G := al_g (al_t3 (List.mem_of_getElem? (i := 14) rfl)) rfl
theorem al_se_X8_apart : Cond.selects yX8_apart.cls yX8_apart yX8_apart ∈ al_G := al_g (al_t3 (List.mem_of_getElem? (i := 15) rfl)) rfl
theorem al_c_X8_apart : Cond.code yX8_apart cX8_apart 2 (some .int) ∈ al_G := al_g (al_t3 (List.mem_of_getElem? (i := 16) rfl)) rfl
theorem al_ml_RX8_208 : Cond.methodLink RX8 208 yX7_findPair ∈ al_G := al_g (al_t3 (List.mem_of_getElem? (i := 17) rfl)) rfl
theorem al_in_X7_findPair : Cond.instanceMethod yX7_findPair ∈ al_G := al_g (al_t3 (List.mem_of_getElem? (i := 18) rfl)) rfl
theorem al_se_X7_findPair : Cond.selects yX7_findPair.cls yX7_findPair yX7_findPair ∈ al_G := al_g (al_t3 (List.mem_of_getElem? (i := 19) rfl)) rfl
theorem al_c_X7_findPair : Cond.code yX7_findPair cX7_findPair 4 none ∈ al_G := al_g (al_t3 (List.mem_of_getElem? (i := 20) rfl)) rfl
theorem al_ml_RX8_211 : Cond.methodLink RX8 211 yX7_pairFirst ∈ al_G := al_g (al_t3 (List.mem_of_getElem? (i := 21) rfl)) rfl
theorem al_in_X7_pairFirst : Cond.instanceMethod yX7_pairFirst ∈ al_G := al_g (al_t3 (List.mem_of_getElem? (i := 22) rfl)) rfl
theorem al_se_X7_pairFirst : Cond.selects yX7_pairFirst.cls yX7_pairFirst yX7_pairFirst ∈ al_G := al_g (al_t3 (List.mem_of_getElem? (i := 23) rfl)) rfl
theorem al_c_X7_pairFirst : Cond.code yX7_pairFirst cX7_pairFirst 1 (some .int) ∈ al_G := al_g (al_t3 (List.mem_of_getElem? (i := 24) rfl)) rfl
theorem al_ml_RX8_214 : Cond.methodLink RX8 214 yX7_pairSecond ∈ al_G := al_g (al_t3 (List.mem_of_getElem? (i := 25) rfl)) rfl
theorem al_in_X7_pairSecond : Cond.instanceMethod yX7_pairSecond ∈ al_G := al_g (al_t3 (List.mem_of_getElem? (i := 26) rfl)) rfl
theorem al_se_X7_pairSecond : Cond.selects yX7_pairSecond.cls yX7_pairSecond yX7_pairSecond ∈ al_G := al_g (al_t3 (List.mem_of_getElem? (i := 27) rfl)) rfl
theorem al_c_X7_pairSecond : Cond.code yX7_pairSecond cX7_pairSecond 1 (some .int) ∈ al_G := al_g (al_t3 (List.mem_of_getElem? (i := 28) rfl)) rfl
theorem al_ml_RL_22 : Cond.methodLink RL 22 yX8_shape ∈ al_G := al_g (al_t3 (List.mem_of_getElem? (i := 29) rfl)) rfl
theorem al_in_X8_shape : Cond.instanceMethod yX8_shape ∈ al_G := al_g (al_t3 (List.mem_of_getElem? (i := 30) rfl)) rfl
theorem al_se_X8_shape : Cond.selects yX8_shape.cls yX8_shape yX8_shape ∈ al_G := al_g (al_t3 (List.mem_of_getElem? (i := 31) rfl)) rfl
theorem al_c_X8_shape : Cond.code yX8_shape cX8_shape 2 (some .int) ∈ al_G := al_g (al_t3 (List.mem_of_getElem? (i := 32) rfl)) rfl
theorem al_ml_RX8_168 : Cond.methodLink RX8 168 yX4_sizeOf ∈ al_G := al_g (al_t3 (List.mem_of_getElem? (i := 33) rfl)) rfl
theorem al_in_X4_sizeOf : Cond.instanceMethod yX4_sizeOf ∈ al_G := al_g (al_t3 (List.mem_of_getElem? (i := 34) rfl)) rfl
theorem al_se_X4_sizeOf : Cond.selects yX4_sizeOf.cls yX4_sizeOf yX4_sizeOf ∈ al_G := al_g (al_t3 (List.mem_of_getElem? (i := 35) rfl)) rfl
theorem al_c_X4_sizeOf : Cond.code yX4_sizeOf cX4_sizeOf 2 (some .int) ∈ al_G := al_g (al_t3 (List.mem_of_getElem? (i := 36) rfl)) rfl
theorem al_ml_RX8_217 : Cond.methodLink RX8 217 yX3_write ∈ al_G := al_g (al_t3 (List.mem_of_getElem? (i := 37) rfl)) rfl
theorem al_in_X3_write : Cond.instanceMethod yX3_write ∈ al_G := al_g (al_t3 (List.mem_of_getElem? (i := 38) rfl)) rfl
theorem al_se_X3_write : Cond.selects yX3_write.cls yX3_write yX3_write ∈ al_G := al_g (al_t3 (List.mem_of_getElem? (i := 39) rfl)) rfl
theorem al_c_X3_write : Cond.code yX3_write cX3_write 3 none ∈ al_G := al_g (al_t3 (List.mem_of_getElem? (i := 40) rfl)) rfl
theorem al_ml_RX3_33 : Cond.methodLink RX3 33 yX2_fill ∈ al_G := al_g (al_t3 (List.mem_of_getElem? (i := 41) rfl)) rfl
theorem al_ml_RX3_37 : Cond.methodLink RX3 37 yX4_present ∈ al_G := al_g (al_t3 (List.mem_of_getElem? (i := 42) rfl)) rfl
theorem al_ml_RX3_43 : Cond.methodLink RX3 43 yX4_downwardAt ∈ al_G := al_g (al_t3 (List.mem_of_getElem? (i := 43) rfl)) rfl
theorem al_ml_RX3_47 : Cond.methodLink RX3 47 yX4_sizeOf ∈ al_G := al_g (al_t3 (List.mem_of_getElem? (i := 44) rfl)) rfl
theorem al_ml_RX3_50 : Cond.methodLink RX3 50 yX3_join ∈ al_G := al_g (al_t3 (List.mem_of_getElem? (i := 45) rfl)) rfl
theorem al_in_X3_join : Cond.instanceMethod yX3_join ∈ al_G := al_g (al_t3 (List.mem_of_getElem? (i := 47) rfl)) rfl
theorem al_c_X3_join : Cond.code yX3_join cX3_join 5 (some .int) ∈ al_G := al_g (al_t3 (List.mem_of_getElem? (i := 48) rfl)) rfl
theorem al_ml_RX3_57 : Cond.methodLink RX3 57 yX4_firstChildOf ∈ al_G := al_g (al_t3 (List.mem_of_getElem? (i := 49) rfl)) rfl
theorem al_in_X4_firstChildOf : Cond.instanceMethod yX4_firstChildOf ∈ al_G := al_g (al_t3 (List.mem_of_getElem? (i := 50) rfl)) rfl
theorem al_se_X4_firstChildOf : Cond.selects yX4_firstChildOf.cls yX4_firstChildOf yX4_firstChildOf ∈ al_G := al_g (al_t3 (List.mem_of_getElem? (i := 51) rfl)) rfl
theorem al_c_X4_firstChildOf : Cond.code yX4_firstChildOf cX4_firstChildOf 2 (some .int) ∈ al_G := al_g (al_t3 (List.mem_of_getElem? (i := 52) rfl)) rfl
theorem al_ml_RX3_60 : Cond.methodLink RX3 60 yX2_get ∈ al_G := al_g (al_t3 (List.mem_of_getElem? (i := 53) rfl)) rfl
theorem al_ml_RX3_63 : Cond.methodLink RX3 63 yX4_nextChildOf ∈ al_G := al_g (al_t3 (List.mem_of_getElem? (i := 54) rfl)) rfl
theorem al_in_X4_nextChildOf : Cond.instanceMethod yX4_nextChildOf ∈ al_G := al_g (al_t3 (List.mem_of_getElem? (i := 55) rfl)) rfl
theorem al_se_X4_nextChildOf : Cond.selects yX4_nextChildOf.cls yX4_nextChildOf yX4_nextChildOf ∈ al_G := al_g (al_t3 (List.mem_of_getElem? (i := 56) rfl)) rfl
theorem al_c_X4_nextChildOf : Cond.code yX4_nextChildOf cX4_nextChildOf 2 (some .int) ∈ al_G := al_g (al_t3 (List.mem_of_getElem? (i := 57) rfl)) rfl
theorem al_ml_RX3_53 : Cond.methodLink RX3 53 yX2_set ∈ al_G := al_g (al_t3 (List.mem_of_getElem? (i := 58) rfl)) rfl
theorem al_ml_RX8_220 : Cond.methodLink RX8 220 yX3_shapeOf ∈ al_G := al_g (al_t3 (List.mem_of_getElem? (i := 59) rfl)) rfl
theorem al_in_X3_shapeOf : Cond.instanceMethod yX3_shapeOf ∈ al_G := al_g (al_t3 (List.mem_of_getElem? (i := 60) rfl)) rfl
theorem al_se_X3_shapeOf : Cond.selects yX3_shapeOf.cls yX3_shapeOf yX3_shapeOf ∈ al_G := al_g (al_t3 (List.mem_of_getElem? (i := 61) rfl)) rfl
theorem al_c_X3_shapeOf : Cond.code yX3_shapeOf cX3_shapeOf 2 (some .int) ∈ al_G := al_g (al_t3 (List.mem_of_getElem? (i := 62) rfl)) rfl
theorem al_ml_RL_12 : Cond.methodLink RL 12 yX8_count ∈ al_G := al_g (al_t3 (List.mem_of_getElem? (i := 63) rfl)) rfl
theorem al_in_X8_count : Cond.instanceMethod yX8_count ∈ al_G := al_g (al_t3 (List.mem_of_getElem? (i := 64) rfl)) rfl
theorem al_se_X8_count : Cond.selects yX8_count.cls yX8_count yX8_count ∈ al_G := al_g (al_t3 (List.mem_of_getElem? (i := 65) rfl)) rfl
theorem al_c_X8_count : Cond.code yX8_count cX8_count 2 (some .int) ∈ al_G := al_g (al_t3 (List.mem_of_getElem? (i := 66) rfl)) rfl
theorem al_ml_RX8_235 : Cond.methodLink RX8 235 yX6_ever ∈ al_G := al_g (al_t3 (List.mem_of_getElem? (i := 67) rfl)) rfl
theorem al_in_X6_ever : Cond.instanceMethod yX6_ever ∈ al_G := al_g (al_t3 (List.mem_of_getElem? (i := 68) rfl)) rfl
theorem al_se_X6_ever : Cond.selects yX6_ever.cls yX6_ever yX6_ever ∈ al_G := al_g (al_t3 (List.mem_of_getElem? (i := 69) rfl)) rfl
theorem al_c_X6_ever : Cond.code yX6_ever cX6_ever 1 (some .int) ∈ al_G := al_g (al_t3 (List.mem_of_getElem? (i := 70) rfl)) rfl
theorem al_ml_RX8_238 : Cond.methodLink RX8 238 yX4_countLeaves ∈ al_G := al_g (al_t3 (List.mem_of_getElem? (i := 71) rfl)) rfl
theorem al_in_X4_countLeaves : Cond.instanceMethod yX4_countLeaves ∈ al_G := al_g (al_t3 (List.mem_of_getElem? (i := 72) rfl)) rfl
theorem al_se_X4_countLeaves : Cond.selects yX4_countLeaves.cls yX4_countLeaves yX4_countLeaves ∈ al_G := al_g (al_t3 (List.mem_of_getElem? (i := 73) rfl)) rfl
theorem al_c_X4_countLeaves : Cond.code yX4_countLeaves cX4_countLeaves 3 (some .int) ∈ al_G := al_g (al_t3 (List.mem_of_getElem? (i := 74) rfl)) rfl
theorem al_ml_RX4_109 : Cond.methodLink RX4 109 yX4_isLeaf ∈ al_G := al_g (al_t3 (List.mem_of_getElem? (i := 75) rfl)) rfl
theorem al_ml_RX8_241 : Cond.methodLink RX8 241 yX4_countLadders ∈ al_G := al_g (al_t3 (List.mem_of_getElem? (i := 76) rfl)) rfl
theorem al_in_X4_countLadders : Cond.instanceMethod yX4_countLadders ∈ al_G := al_g (al_t3 (List.mem_of_getElem? (i := 77) rfl)) rfl
theorem al_se_X4_countLadders : Cond.selects yX4_countLadders.cls yX4_countLadders yX4_countLadders ∈ al_G := al_g (al_t3 (List.mem_of_getElem? (i := 78) rfl)) rfl
theorem al_c_X4_countLadders : Cond.code yX4_countLadders cX4_countLadders 4 (some .int) ∈ al_G := al_g (al_t3 (List.mem_of_getElem? (i := 79) rfl)) rfl
theorem al_ml_RX4_101 : Cond.methodLink RX4 101 yX4_ladderOf ∈ al_G := al_g (al_t3 (List.mem_of_getElem? (i := 80) rfl)) rfl
theorem al_in_X4_ladderOf : Cond.instanceMethod yX4_ladderOf ∈ al_G := al_g (al_t3 (List.mem_of_getElem? (i := 81) rfl)) rfl
theorem al_se_X4_ladderOf : Cond.selects yX4_ladderOf.cls yX4_ladderOf yX4_ladderOf ∈ al_G := al_g (al_t3 (List.mem_of_getElem? (i := 82) rfl)) rfl
theorem al_c_X4_ladderOf : Cond.code yX4_ladderOf cX4_ladderOf 2 (some .int) ∈ al_G := al_g (al_t3 (List.mem_of_getElem? (i := 83) rfl)) rfl
theorem al_ml_RX4_89 : Cond.methodLink RX4 89 yX4_longWayOf ∈ al_G := al_g (al_t3 (List.mem_of_getElem? (i := 84) rfl)) rfl
theorem al_in_X4_longWayOf : Cond.instanceMethod yX4_longWayOf ∈ al_G := al_g (al_t3 (List.mem_of_getElem? (i := 85) rfl)) rfl
theorem al_se_X4_longWayOf : Cond.selects yX4_longWayOf.cls yX4_longWayOf yX4_longWayOf ∈ al_G := al_g (al_t3 (List.mem_of_getElem? (i := 86) rfl)) rfl
theorem al_c_X4_longWayOf : Cond.code yX4_longWayOf cX4_longWayOf 2 (some .int) ∈ al_G := al_g (al_t3 (List.mem_of_getElem? (i := 87) rfl)) rfl
theorem al_ml_RX4_92 : Cond.methodLink RX4 92 yJ9_min_7cf53 ∈ al_G := al_g (al_t3 (List.mem_of_getElem? (i := 88) rfl)) rfl
theorem al_st_J9_min_7cf53 : Cond.static yJ9_min_7cf53 ∈ al_G := al_g (al_t3 (List.mem_of_getElem? (i := 89) rfl)) rfl
theorem al_c_J9_min_7cf53 : Cond.code yJ9_min_7cf53 cJ9_min_7cf53 2 (some .int) ∈ al_G := al_g (al_t3 (List.mem_of_getElem? (i := 90) rfl)) rfl
theorem al_ml_RX8_244 : Cond.methodLink RX8 244 yX4_countJumps ∈ al_G := al_g (al_t3 (List.mem_of_getElem? (i := 91) rfl)) rfl
theorem al_in_X4_countJumps : Cond.instanceMethod yX4_countJumps ∈ al_G := al_g (al_t3 (List.mem_of_getElem? (i := 92) rfl)) rfl
theorem al_se_X4_countJumps : Cond.selects yX4_countJumps.cls yX4_countJumps yX4_countJumps ∈ al_G := al_g (al_t3 (List.mem_of_getElem? (i := 93) rfl)) rfl
theorem al_c_X4_countJumps : Cond.code yX4_countJumps cX4_countJumps 4 (some .int) ∈ al_G := al_g (al_t3 (List.mem_of_getElem? (i := 94) rfl)) rfl
theorem al_ml_RX4_112 : Cond.methodLink RX4 112 yX4_jumpsFrom ∈ al_G := al_g (al_t3 (List.mem_of_getElem? (i := 95) rfl)) rfl
theorem al_st_X4_jumpsFrom : Cond.static yX4_jumpsFrom ∈ al_G := al_g (al_t3 (List.mem_of_getElem? (i := 96) rfl)) rfl
theorem al_c_X4_jumpsFrom : Cond.code yX4_jumpsFrom cX4_jumpsFrom 3 (some .int) ∈ al_G := al_g (al_t3 (List.mem_of_getElem? (i := 97) rfl)) rfl
theorem al_ml_RX8_165 : Cond.methodLink RX8 165 yX4_heightOf ∈ al_G := al_g (al_t3 (List.mem_of_getElem? (i := 98) rfl)) rfl
theorem al_in_X4_heightOf : Cond.instanceMethod yX4_heightOf ∈ al_G := al_g (al_t3 (List.mem_of_getElem? (i := 99) rfl)) rfl
theorem al_se_X4_heightOf : Cond.selects yX4_heightOf.cls yX4_heightOf yX4_heightOf ∈ al_G := al_g (al_t3 (List.mem_of_getElem? (i := 100) rfl)) rfl
theorem al_c_X4_heightOf : Cond.code yX4_heightOf cX4_heightOf 2 (some .int) ∈ al_G := al_g (al_t3 (List.mem_of_getElem? (i := 101) rfl)) rfl
theorem al_ml_RX8_226 : Cond.methodLink RX8 226 yX3_sort ∈ al_G := al_g (al_t3 (List.mem_of_getElem? (i := 102) rfl)) rfl
theorem al_in_X3_sort : Cond.instanceMethod yX3_sort ∈ al_G := al_g (al_t3 (List.mem_of_getElem? (i := 103) rfl)) rfl
theorem al_se_X3_sort : Cond.selects yX3_sort.cls yX3_sort yX3_sort ∈ al_G := al_g (al_t3 (List.mem_of_getElem? (i := 104) rfl)) rfl
theorem al_c_X3_sort : Cond.code yX3_sort cX3_sort 2 none ∈ al_G := al_g (al_t3 (List.mem_of_getElem? (i := 105) rfl)) rfl
theorem al_ml_RX3_66 : Cond.methodLink RX3 66 yX3_enter ∈ al_G := al_g (al_t3 (List.mem_of_getElem? (i := 106) rfl)) rfl
theorem al_in_X3_enter : Cond.instanceMethod yX3_enter ∈ al_G := al_g (al_t3 (List.mem_of_getElem? (i := 108) rfl)) rfl
theorem al_c_X3_enter : Cond.code yX3_enter cX3_enter 4 none ∈ al_G := al_g (al_t3 (List.mem_of_getElem? (i := 109) rfl)) rfl
theorem al_ml_RX8_229 : Cond.methodLink RX8 229 yX3_kinds ∈ al_G := al_g (al_t3 (List.mem_of_getElem? (i := 110) rfl)) rfl
theorem al_in_X3_kinds : Cond.instanceMethod yX3_kinds ∈ al_G := al_g (al_t3 (List.mem_of_getElem? (i := 111) rfl)) rfl
theorem al_se_X3_kinds : Cond.selects yX3_kinds.cls yX3_kinds yX3_kinds ∈ al_G := al_g (al_t3 (List.mem_of_getElem? (i := 112) rfl)) rfl
theorem al_c_X3_kinds : Cond.code yX3_kinds cX3_kinds 1 (some .int) ∈ al_G := al_g (al_t3 (List.mem_of_getElem? (i := 113) rfl)) rfl
theorem al_ml_RL_88 : Cond.methodLink RL 88 yL_cell ∈ al_G := al_g (al_t3 (List.mem_of_getElem? (i := 114) rfl)) rfl
theorem al_st_L_cell : Cond.static yL_cell ∈ al_G := al_g (al_t3 (List.mem_of_getElem? (i := 115) rfl)) rfl
theorem al_c_L_cell : Cond.code yL_cell cL_cell 2 (some .int) ∈ al_G := al_g (al_t3 (List.mem_of_getElem? (i := 116) rfl)) rfl
theorem al_ml_RL_68 : Cond.methodLink RL 68 yL_low ∈ al_G := al_g (al_t3 (List.mem_of_getElem? (i := 117) rfl)) rfl
theorem al_st_L_low : Cond.static yL_low ∈ al_G := al_g (al_t3 (List.mem_of_getElem? (i := 118) rfl)) rfl
theorem al_c_L_low : Cond.code yL_low cL_low 2 (some .int) ∈ al_G := al_g (al_t3 (List.mem_of_getElem? (i := 119) rfl)) rfl
theorem al_k_RL_7 : Cond.constant RL 7 2147483647 ∈ al_G := al_g (al_t3 (List.mem_of_getElem? (i := 120) rfl)) rfl
theorem al_ml_RL_96 : Cond.methodLink RL 96 yL_all ∈ al_G := al_g (al_t3 (List.mem_of_getElem? (i := 121) rfl)) rfl
theorem al_st_L_all : Cond.static yL_all ∈ al_G := al_g (al_t3 (List.mem_of_getElem? (i := 122) rfl)) rfl
theorem al_c_L_all : Cond.code yL_all cL_all 5 (some .long) ∈ al_G := al_g (al_t3 (List.mem_of_getElem? (i := 123) rfl)) rfl
theorem al_k_RL_8 : Cond.constantLong RL 8 71 ∈ al_G := al_g (al_t3 (List.mem_of_getElem? (i := 124) rfl)) rfl
theorem al_k_RL_10 : Cond.constantLong RL 10 31 ∈ al_G := al_g (al_t3 (List.mem_of_getElem? (i := 125) rfl)) rfl
theorem al_ml_RL_18 : Cond.methodLink RL 18 yX8_node ∈ al_G := al_g (al_t3 (List.mem_of_getElem? (i := 126) rfl)) rfl
theorem al_in_X8_node : Cond.instanceMethod yX8_node ∈ al_G := al_g (al_t3 (List.mem_of_getElem? (i := 127) rfl)) rfl
theorem al_se_X8_node : Cond.selects yX8_node.cls yX8_node yX8_node ∈ al_G := al_g (al_t3 (List.mem_of_getElem? (i := 128) rfl)) rfl
theorem al_c_X8_node : Cond.code yX8_node cX8_node 3 (some .int) ∈ al_G := al_g (al_t3 (List.mem_of_getElem? (i := 129) rfl)) rfl
theorem al_ml_RX8_162 : Cond.methodLink RX8 162 yX8_orNone ∈ al_G := al_g (al_t3 (List.mem_of_getElem? (i := 130) rfl)) rfl
theorem al_st_X8_orNone : Cond.static yX8_orNone ∈ al_G := al_g (al_t3 (List.mem_of_getElem? (i := 131) rfl)) rfl
theorem al_c_X8_orNone : Cond.code yX8_orNone cX8_orNone 1 (some .int) ∈ al_G := al_g (al_t3 (List.mem_of_getElem? (i := 132) rfl)) rfl
theorem al_ml_RX8_90 : Cond.methodLink RX8 90 yX4_childrenOf ∈ al_G := al_g (al_t3 (List.mem_of_getElem? (i := 133) rfl)) rfl
theorem al_in_X4_childrenOf : Cond.instanceMethod yX4_childrenOf ∈ al_G := al_g (al_t3 (List.mem_of_getElem? (i := 134) rfl)) rfl
theorem al_se_X4_childrenOf : Cond.selects yX4_childrenOf.cls yX4_childrenOf yX4_childrenOf ∈ al_G := al_g (al_t3 (List.mem_of_getElem? (i := 135) rfl)) rfl
theorem al_c_X4_childrenOf : Cond.code yX4_childrenOf cX4_childrenOf 2 (some .int) ∈ al_G := al_g (al_t3 (List.mem_of_getElem? (i := 136) rfl)) rfl
theorem al_ml_RX8_171 : Cond.methodLink RX8 171 yX4_longChildOf ∈ al_G := al_g (al_t3 (List.mem_of_getElem? (i := 137) rfl)) rfl
theorem al_in_X4_longChildOf : Cond.instanceMethod yX4_longChildOf ∈ al_G := al_g (al_t3 (List.mem_of_getElem? (i := 138) rfl)) rfl
theorem al_se_X4_longChildOf : Cond.selects yX4_longChildOf.cls yX4_longChildOf yX4_longChildOf ∈ al_G := al_g (al_t3 (List.mem_of_getElem? (i := 139) rfl)) rfl
theorem al_c_X4_longChildOf : Cond.code yX4_longChildOf cX4_longChildOf 2 (some .int) ∈ al_G := al_g (al_t3 (List.mem_of_getElem? (i := 140) rfl)) rfl
theorem al_ml_RX8_174 : Cond.methodLink RX8 174 yX4_topOf ∈ al_G := al_g (al_t3 (List.mem_of_getElem? (i := 141) rfl)) rfl
theorem al_in_X4_topOf : Cond.instanceMethod yX4_topOf ∈ al_G := al_g (al_t3 (List.mem_of_getElem? (i := 142) rfl)) rfl
theorem al_se_X4_topOf : Cond.selects yX4_topOf.cls yX4_topOf yX4_topOf ∈ al_G := al_g (al_t3 (List.mem_of_getElem? (i := 143) rfl)) rfl
theorem al_c_X4_topOf : Cond.code yX4_topOf cX4_topOf 2 (some .int) ∈ al_G := al_g (al_t3 (List.mem_of_getElem? (i := 144) rfl)) rfl
theorem al_ml_RX8_159 : Cond.methodLink RX8 159 yX4_footOf ∈ al_G := al_g (al_t3 (List.mem_of_getElem? (i := 145) rfl)) rfl
theorem al_in_X4_footOf : Cond.instanceMethod yX4_footOf ∈ al_G := al_g (al_t3 (List.mem_of_getElem? (i := 146) rfl)) rfl
theorem al_se_X4_footOf : Cond.selects yX4_footOf.cls yX4_footOf yX4_footOf ∈ al_G := al_g (al_t3 (List.mem_of_getElem? (i := 147) rfl)) rfl
theorem al_c_X4_footOf : Cond.code yX4_footOf cX4_footOf 2 (some .int) ∈ al_G := al_g (al_t3 (List.mem_of_getElem? (i := 148) rfl)) rfl
theorem al_ml_RX8_177 : Cond.methodLink RX8 177 yX4_longWayOf ∈ al_G := al_g (al_t3 (List.mem_of_getElem? (i := 149) rfl)) rfl
theorem al_ml_RX8_156 : Cond.methodLink RX8 156 yX4_ladderOf ∈ al_G := al_g (al_t3 (List.mem_of_getElem? (i := 150) rfl)) rfl
theorem al_k_RL_25 : Cond.constantLong RL 25 7 ∈ al_G := al_g (al_t3 (List.mem_of_getElem? (i := 151) rfl)) rfl
theorem al_ml_RL_108 : Cond.methodLink RL 108 yL_isSound ∈ al_G := al_g (al_t3 (List.mem_of_getElem? (i := 152) rfl)) rfl
theorem al_st_L_isSound : Cond.static yL_isSound ∈ al_G := al_g (al_t3 (List.mem_of_getElem? (i := 153) rfl)) rfl
theorem al_c_L_isSound : Cond.code yL_isSound cL_isSound 13 (some .boolean) ∈ al_G := al_g (al_t3 (List.mem_of_getElem? (i := 154) rfl)) rfl
theorem al_ml_RL_30 : Cond.methodLink RL 30 yL_is ∈ al_G := al_g (al_t3 (List.mem_of_getElem? (i := 155) rfl)) rfl
theorem al_st_L_is : Cond.static yL_is ∈ al_G := al_g (al_t3 (List.mem_of_getElem? (i := 156) rfl)) rfl
theorem al_c_L_is : Cond.code yL_is cL_is 2 (some .boolean) ∈ al_G := al_g (al_t3 (List.mem_of_getElem? (i := 157) rfl)) rfl
theorem al_ml_RL_36 : Cond.methodLink RL 36 yX8_alike ∈ al_G := al_g (al_t3 (List.mem_of_getElem? (i := 158) rfl)) rfl
theorem al_in_X8_alike : Cond.instanceMethod yX8_alike ∈ al_G := al_g (al_t3 (List.mem_of_getElem? (i := 159) rfl)) rfl
theorem al_se_X8_alike : Cond.selects yX8_alike.cls yX8_alike yX8_alike ∈ al_G := al_g (al_t3 (List.mem_of_getElem? (i := 160) rfl)) rfl
theorem al_c_X8_alike : Cond.code yX8_alike cX8_alike 2 (some .int) ∈ al_G := al_g (al_t3 (List.mem_of_getElem? (i := 161) rfl)) rfl
theorem al_ml_RX8_223 : Cond.methodLink RX8 223 yX3_countLike ∈ al_G := al_g (al_t3 (List.mem_of_getElem? (i := 162) rfl)) rfl
theorem al_in_X3_countLike : Cond.instanceMethod yX3_countLike ∈ al_G := al_g (al_t3 (List.mem_of_getElem? (i := 163) rfl)) rfl
theorem al_se_X3_countLike : Cond.selects yX3_countLike.cls yX3_countLike yX3_countLike ∈ al_G := al_g (al_t3 (List.mem_of_getElem? (i := 164) rfl)) rfl
theorem al_c_X3_countLike : Cond.code yX3_countLike cX3_countLike 4 (some .int) ∈ al_G := al_g (al_t3 (List.mem_of_getElem? (i := 165) rfl)) rfl
theorem al_ml_RL_39 : Cond.methodLink RL 39 yX8_ancestor ∈ al_G := al_g (al_t3 (List.mem_of_getElem? (i := 166) rfl)) rfl
theorem al_in_X8_ancestor : Cond.instanceMethod yX8_ancestor ∈ al_G := al_g (al_t3 (List.mem_of_getElem? (i := 167) rfl)) rfl
theorem al_se_X8_ancestor : Cond.selects yX8_ancestor.cls yX8_ancestor yX8_ancestor ∈ al_G := al_g (al_t3 (List.mem_of_getElem? (i := 168) rfl)) rfl
theorem al_c_X8_ancestor : Cond.code yX8_ancestor cX8_ancestor 3 (some .int) ∈ al_G := al_g (al_t3 (List.mem_of_getElem? (i := 169) rfl)) rfl
theorem al_ml_RL_42 : Cond.methodLink RL 42 yX8_meeting ∈ al_G := al_g (al_t3 (List.mem_of_getElem? (i := 170) rfl)) rfl
theorem al_in_X8_meeting : Cond.instanceMethod yX8_meeting ∈ al_G := al_g (al_t3 (List.mem_of_getElem? (i := 171) rfl)) rfl
theorem al_se_X8_meeting : Cond.selects yX8_meeting.cls yX8_meeting yX8_meeting ∈ al_G := al_g (al_t3 (List.mem_of_getElem? (i := 172) rfl)) rfl
theorem al_c_X8_meeting : Cond.code yX8_meeting cX8_meeting 3 (some .int) ∈ al_G := al_g (al_t3 (List.mem_of_getElem? (i := 173) rfl)) rfl
theorem al_ml_RX8_180 : Cond.methodLink RX8 180 yX4_meetingOf ∈ al_G := al_g (al_t3 (List.mem_of_getElem? (i := 174) rfl)) rfl
theorem al_ml_RL_112 : Cond.methodLink RL 112 yL_isLooked ∈ al_G := al_g (al_t3 (List.mem_of_getElem? (i := 175) rfl)) rfl
theorem al_st_L_isLooked : Cond.static yL_isLooked ∈ al_G := al_g (al_t3 (List.mem_of_getElem? (i := 176) rfl)) rfl
theorem al_c_L_isLooked : Cond.code yL_isLooked cL_isLooked 11 (some .boolean) ∈ al_G := al_g (al_t3 (List.mem_of_getElem? (i := 177) rfl)) rfl
theorem al_ml_RL_45 : Cond.methodLink RL 45 yX8_looks ∈ al_G := al_g (al_t3 (List.mem_of_getElem? (i := 178) rfl)) rfl
theorem al_in_X8_looks : Cond.instanceMethod yX8_looks ∈ al_G := al_g (al_t3 (List.mem_of_getElem? (i := 179) rfl)) rfl
theorem al_se_X8_looks : Cond.selects yX8_looks.cls yX8_looks yX8_looks ∈ al_G := al_g (al_t3 (List.mem_of_getElem? (i := 180) rfl)) rfl
theorem al_c_X8_looks : Cond.code yX8_looks cX8_looks 3 (some .int) ∈ al_G := al_g (al_t3 (List.mem_of_getElem? (i := 181) rfl)) rfl
theorem al_ml_RX8_153 : Cond.methodLink RX8 153 yX4_looksFor ∈ al_G := al_g (al_t3 (List.mem_of_getElem? (i := 182) rfl)) rfl
theorem al_in_X4_looksFor : Cond.instanceMethod yX4_looksFor ∈ al_G := al_g (al_t3 (List.mem_of_getElem? (i := 183) rfl)) rfl
theorem al_se_X4_looksFor : Cond.selects yX4_looksFor.cls yX4_looksFor yX4_looksFor ∈ al_G := al_g (al_t3 (List.mem_of_getElem? (i := 184) rfl)) rfl
theorem al_c_X4_looksFor : Cond.code yX4_looksFor cX4_looksFor 4 (some .int) ∈ al_G := al_g (al_t3 (List.mem_of_getElem? (i := 185) rfl)) rfl
theorem al_ml_RX4_104 : Cond.methodLink RX4 104 yJ6_bitCount_0f7a4 ∈ al_G := al_g (al_t3 (List.mem_of_getElem? (i := 186) rfl)) rfl
theorem al_st_J6_bitCount_0f7a4 : Cond.static yJ6_bitCount_0f7a4 ∈ al_G := al_g (al_t3 (List.mem_of_getElem? (i := 187) rfl)) rfl
theorem al_c_J6_bitCount_0f7a4 : Cond.code yJ6_bitCount_0f7a4 cJ6_bitCount_0f7a4 1 (some .int) ∈ al_G := al_g (al_t3 (List.mem_of_getElem? (i := 188) rfl)) rfl
theorem al_k_RJ6_265 : Cond.constant RJ6 265 1431655765 ∈ al_G := al_g (al_t3 (List.mem_of_getElem? (i := 189) rfl)) rfl
theorem al_k_RJ6_266 : Cond.constant RJ6 266 858993459 ∈ al_G := al_g (al_t3 (List.mem_of_getElem? (i := 190) rfl)) rfl
theorem al_k_RJ6_267 : Cond.constant RJ6 267 252645135 ∈ al_G := al_g (al_t3 (List.mem_of_getElem? (i := 191) rfl)) rfl
theorem al_ml_RL_48 : Cond.methodLink RL 48 yX8_ladderAt ∈ al_G := al_g (al_t3 (List.mem_of_getElem? (i := 192) rfl)) rfl
theorem al_in_X8_ladderAt : Cond.instanceMethod yX8_ladderAt ∈ al_G := al_g (al_t3 (List.mem_of_getElem? (i := 193) rfl)) rfl
theorem al_se_X8_ladderAt : Cond.selects yX8_ladderAt.cls yX8_ladderAt yX8_ladderAt ∈ al_G := al_g (al_t3 (List.mem_of_getElem? (i := 194) rfl)) rfl
theorem al_c_X8_ladderAt : Cond.code yX8_ladderAt cX8_ladderAt 3 (some .int) ∈ al_G := al_g (al_t3 (List.mem_of_getElem? (i := 195) rfl)) rfl
theorem al_ml_RL_51 : Cond.methodLink RL 51 yX8_wayAt ∈ al_G := al_g (al_t3 (List.mem_of_getElem? (i := 196) rfl)) rfl
theorem al_in_X8_wayAt : Cond.instanceMethod yX8_wayAt ∈ al_G := al_g (al_t3 (List.mem_of_getElem? (i := 197) rfl)) rfl
theorem al_se_X8_wayAt : Cond.selects yX8_wayAt.cls yX8_wayAt yX8_wayAt ∈ al_G := al_g (al_t3 (List.mem_of_getElem? (i := 198) rfl)) rfl
theorem al_c_X8_wayAt : Cond.code yX8_wayAt cX8_wayAt 4 (some .int) ∈ al_G := al_g (al_t3 (List.mem_of_getElem? (i := 199) rfl)) rfl
theorem al_ml_RX8_183 : Cond.methodLink RX8 183 yX7_onWay ∈ al_G := al_g (al_t3 (List.mem_of_getElem? (i := 200) rfl)) rfl
theorem al_in_X7_onWay : Cond.instanceMethod yX7_onWay ∈ al_G := al_g (al_t3 (List.mem_of_getElem? (i := 201) rfl)) rfl
theorem al_se_X7_onWay : Cond.selects yX7_onWay.cls yX7_onWay yX7_onWay ∈ al_G := al_g (al_t3 (List.mem_of_getElem? (i := 202) rfl)) rfl
theorem al_c_X7_onWay : Cond.code yX7_onWay cX7_onWay 7 (some .int) ∈ al_G := al_g (al_t3 (List.mem_of_getElem? (i := 203) rfl)) rfl
theorem al_ml_RX7_77 : Cond.methodLink RX7 77 yX4_depthOf ∈ al_G := al_g (al_t3 (List.mem_of_getElem? (i := 204) rfl)) rfl
theorem al_ml_RX7_80 : Cond.methodLink RX7 80 yX4_climb ∈ al_G := al_g (al_t3 (List.mem_of_getElem? (i := 205) rfl)) rfl
theorem al_ml_RL_65 : Cond.methodLink RL 65 yX8_real ∈ al_G := al_g (al_t3 (List.mem_of_getElem? (i := 206) rfl)) rfl
theorem al_in_X8_real : Cond.instanceMethod yX8_real ∈ al_G := al_g (al_t3 (List.mem_of_getElem? (i := 207) rfl)) rfl
theorem al_se_X8_real : Cond.selects yX8_real.cls yX8_real yX8_real ∈ al_G := al_g (al_t3 (List.mem_of_getElem? (i := 208) rfl)) rfl
theorem al_c_X8_real : Cond.code yX8_real cX8_real 3 (some .float) ∈ al_G := al_g (al_t3 (List.mem_of_getElem? (i := 209) rfl)) rfl
theorem al_ml_RX8_191 : Cond.methodLink RX8 191 yX6_lengthOf ∈ al_G := al_g (al_t3 (List.mem_of_getElem? (i := 210) rfl)) rfl
theorem al_ml_RX8_194 : Cond.methodLink RX8 194 yX7_pathOf ∈ al_G := al_g (al_t3 (List.mem_of_getElem? (i := 211) rfl)) rfl
theorem al_in_X7_pathOf : Cond.instanceMethod yX7_pathOf ∈ al_G := al_g (al_t3 (List.mem_of_getElem? (i := 212) rfl)) rfl
theorem al_se_X7_pathOf : Cond.selects yX7_pathOf.cls yX7_pathOf yX7_pathOf ∈ al_G := al_g (al_t3 (List.mem_of_getElem? (i := 213) rfl)) rfl
theorem al_c_X7_pathOf : Cond.code yX7_pathOf cX7_pathOf 2 (some .float) ∈ al_G := al_g (al_t3 (List.mem_of_getElem? (i := 214) rfl)) rfl
theorem al_ml_RL_100 : Cond.methodLink RL 100 yL_acts ∈ al_G := al_g (al_t3 (List.mem_of_getElem? (i := 215) rfl)) rfl
theorem al_st_L_acts : Cond.static yL_acts ∈ al_G := al_g (al_t3 (List.mem_of_getElem? (i := 216) rfl)) rfl
theorem al_c_L_acts : Cond.code yL_acts cL_acts 5 (some .int) ∈ al_G := al_g (al_t3 (List.mem_of_getElem? (i := 217) rfl)) rfl
theorem al_k_RL_71 : Cond.constant RL 71 8388608 ∈ al_G := al_g (al_t3 (List.mem_of_getElem? (i := 218) rfl)) rfl
theorem al_ml_RL_75 : Cond.methodLink RL 75 yX8_prune ∈ al_G := al_g (al_t3 (List.mem_of_getElem? (i := 219) rfl)) rfl
theorem al_in_X8_prune : Cond.instanceMethod yX8_prune ∈ al_G := al_g (al_t3 (List.mem_of_getElem? (i := 220) rfl)) rfl
theorem al_se_X8_prune : Cond.selects yX8_prune.cls yX8_prune yX8_prune ∈ al_G := al_g (al_t3 (List.mem_of_getElem? (i := 221) rfl)) rfl
theorem al_c_X8_prune : Cond.code yX8_prune cX8_prune 3 (some .int) ∈ al_G := al_g (al_t3 (List.mem_of_getElem? (i := 222) rfl)) rfl
theorem al_ml_RX8_86 : Cond.methodLink RX8 86 yX6_remove ∈ al_G := al_g (al_t3 (List.mem_of_getElem? (i := 223) rfl)) rfl
theorem al_in_X6_remove : Cond.instanceMethod yX6_remove ∈ al_G := al_g (al_t3 (List.mem_of_getElem? (i := 224) rfl)) rfl
theorem al_se_X6_remove : Cond.selects yX6_remove.cls yX6_remove yX6_remove ∈ al_G := al_g (al_t3 (List.mem_of_getElem? (i := 225) rfl)) rfl
theorem al_c_X6_remove : Cond.code yX6_remove cX6_remove 2 none ∈ al_G := al_g (al_t3 (List.mem_of_getElem? (i := 226) rfl)) rfl
theorem al_ml_RL_81 : Cond.methodLink RL 81 yX8_setLength ∈ al_G := al_g (al_t3 (List.mem_of_getElem? (i := 227) rfl)) rfl
theorem al_in_X8_setLength : Cond.instanceMethod yX8_setLength ∈ al_G := al_g (al_t3 (List.mem_of_getElem? (i := 228) rfl)) rfl
theorem al_se_X8_setLength : Cond.selects yX8_setLength.cls yX8_setLength yX8_setLength ∈ al_G := al_g (al_t3 (List.mem_of_getElem? (i := 229) rfl)) rfl
theorem al_c_X8_setLength : Cond.code yX8_setLength cX8_setLength 4 (some .int) ∈ al_G := al_g (al_t3 (List.mem_of_getElem? (i := 230) rfl)) rfl
theorem al_ml_RX8_101 : Cond.methodLink RX8 101 yX6_bitsOf ∈ al_G := al_g (al_t3 (List.mem_of_getElem? (i := 231) rfl)) rfl
theorem al_in_X6_bitsOf : Cond.instanceMethod yX6_bitsOf ∈ al_G := al_g (al_t3 (List.mem_of_getElem? (i := 232) rfl)) rfl
theorem al_se_X6_bitsOf : Cond.selects yX6_bitsOf.cls yX6_bitsOf yX6_bitsOf ∈ al_G := al_g (al_t3 (List.mem_of_getElem? (i := 233) rfl)) rfl
theorem al_c_X6_bitsOf : Cond.code yX6_bitsOf cX6_bitsOf 2 (some .int) ∈ al_G := al_g (al_t3 (List.mem_of_getElem? (i := 234) rfl)) rfl
theorem al_ml_RX8_104 : Cond.methodLink RX8 104 yX6_stretch ∈ al_G := al_g (al_t3 (List.mem_of_getElem? (i := 235) rfl)) rfl
theorem al_se_X8_lookAround : Cond.selects yX8_lookAround.cls yX8_lookAround yX8_lookAround ∈ al_G := al_g (al_t0 (List.mem_of_getElem? (i := 0) rfl)) rfl
theorem al_se_X4_linkChildren : Cond.selects yX4_linkChildren.cls yX4_linkChildren yX4_linkChildren ∈ al_G := al_g (al_t0 (List.mem_of_getElem? (i := 1) rfl)) rfl
theorem al_se_X4_goDown : Cond.selects yX4_goDown.cls yX4_goDown yX4_goDown ∈ al_G := al_g (al_t0 (List.mem_of_getElem? (i := 2) rfl)) rfl
theorem al_se_X4_goUp : Cond.selects yX4_goUp.cls yX4_goUp yX4_goUp ∈ al_G := al_g (al_t0 (List.mem_of_getElem? (i := 3) rfl)) rfl
theorem al_se_X4_measure : Cond.selects yX4_measure.cls yX4_measure yX4_measure ∈ al_G := al_g (al_t0 (List.mem_of_getElem? (i := 4) rfl)) rfl
theorem al_se_X4_findTops : Cond.selects yX4_findTops.cls yX4_findTops yX4_findTops ∈ al_G := al_g (al_t0 (List.mem_of_getElem? (i := 5) rfl)) rfl
theorem al_se_X1_dropOldest : Cond.selects yX1_dropOldest.cls yX1_dropOldest yX1_dropOldest ∈ al_G := al_g (al_t0 (List.mem_of_getElem? (i := 6) rfl)) rfl
theorem al_se_X1_stateAt : Cond.selects yX1_stateAt.cls yX1_stateAt yX1_stateAt ∈ al_G := al_g (al_t0 (List.mem_of_getElem? (i := 7) rfl)) rfl
theorem al_se_X7_findMeetings : Cond.selects yX7_findMeetings.cls yX7_findMeetings yX7_findMeetings ∈ al_G := al_g (al_t0 (List.mem_of_getElem? (i := 8) rfl)) rfl
theorem al_se_X7_farthestFromOn : Cond.selects yX7_farthestFromOn.cls yX7_farthestFromOn yX7_farthestFromOn ∈ al_G := al_g (al_t0 (List.mem_of_getElem? (i := 9) rfl)) rfl
theorem al_se_X7_measured : Cond.selects yX7_measured.cls yX7_measured yX7_measured ∈ al_G := al_g (al_t0 (List.mem_of_getElem? (i := 10) rfl)) rfl
theorem al_se_X3_join : Cond.selects yX3_join.cls yX3_join yX3_join ∈ al_G := al_g (al_t0 (List.mem_of_getElem? (i := 11) rfl)) rfl
theorem al_se_X3_enter : Cond.selects yX3_enter.cls yX3_enter yX3_enter ∈ al_G := al_g (al_t0 (List.mem_of_getElem? (i := 12) rfl)) rfl
theorem al_in0 : ∀ w ∈ u_ws RX0 TX0 1, w ∈ al_G := by
  have h : ∀ w ∈ ([u_lay RX0 TX0 0] : List Cond), w ∈ al_G := by
    intro w hw
    simp only [List.mem_cons, List.not_mem_nil, or_false] at hw
    rcases hw with rfl
    · exact al_g (al_t1 (List.mem_of_getElem? (i := 44) rfl)) rfl
  exact h
theorem al_in1 : ∀ w ∈ u_ws RX1 TX1 4, w ∈ al_G := by
  have h : ∀ w ∈ ([u_lay RX1 TX1 0, u_lay RX1 TX1 1, u_lay RX1 TX1 2, u_lay RX1 TX1 3] : List Cond), w ∈ al_G := by
    intro w hw
    simp only [List.mem_cons, List.not_mem_nil, or_false] at hw
    rcases hw with rfl | rfl | rfl | rfl
    · exact al_g (al_t1 (List.mem_of_getElem? (i := 92) rfl)) rfl
    · exact al_g (al_t1 (List.mem_of_getElem? (i := 94) rfl)) rfl
    · exact al_g (al_t1 (List.mem_of_getElem? (i := 96) rfl)) rfl
    · exact al_g (al_t1 (List.mem_of_getElem? (i := 98) rfl)) rfl
  exact h
theorem al_in2 : ∀ w ∈ u_ws RX2 TX2 1, w ∈ al_G := by
  have h : ∀ w ∈ ([u_lay RX2 TX2 0] : List Cond), w ∈ al_G := by
    intro w hw
    simp only [List.mem_cons, List.not_mem_nil, or_false] at hw
    rcases hw with rfl
    · exact al_g (al_t1 (List.mem_of_getElem? (i := 33) rfl)) rfl
  exact h
theorem al_in3 : ∀ w ∈ u_ws RX3 TX3 5, w ∈ al_G := by
  have h : ∀ w ∈ ([u_lay RX3 TX3 0, u_lay RX3 TX3 1, u_lay RX3 TX3 2, u_lay RX3 TX3 3, u_lay RX3 TX3 4] : List Cond), w ∈ al_G := by
    intro w hw
    simp only [List.mem_cons, List.not_mem_nil, or_false] at hw
    rcases hw with rfl | rfl | rfl | rfl | rfl
    · exact al_g (al_t1 (List.mem_of_getElem? (i := 191) rfl)) rfl
    · exact al_g (al_t1 (List.mem_of_getElem? (i := 193) rfl)) rfl
    · exact al_g (al_t1 (List.mem_of_getElem? (i := 195) rfl)) rfl
    · exact al_g (al_t1 (List.mem_of_getElem? (i := 197) rfl)) rfl
    · exact al_g (al_t1 (List.mem_of_getElem? (i := 199) rfl)) rfl
  exact h
theorem al_in4 : ∀ w ∈ u_ws RX4 TX4 12, w ∈ al_G := by
  have h : ∀ w ∈ ([u_lay RX4 TX4 0, u_lay RX4 TX4 1, u_lay RX4 TX4 2, u_lay RX4 TX4 3, u_lay RX4 TX4 4, u_lay RX4 TX4 5, u_lay RX4 TX4 6, u_lay RX4 TX4 7, u_lay RX4 TX4 8, u_lay RX4 TX4 9, u_lay RX4 TX4 10, u_lay RX4 TX4 11] : List Cond), w ∈ al_G := by
    intro w hw
    simp only [List.mem_cons, List.not_mem_nil, or_false] at hw
    rcases hw with rfl | rfl | rfl | rfl | rfl | rfl | rfl | rfl | rfl | rfl | rfl | rfl
    · exact al_g (al_t1 (List.mem_of_getElem? (i := 121) rfl)) rfl
    · exact al_g (al_t1 (List.mem_of_getElem? (i := 123) rfl)) rfl
    · exact al_g (al_t1 (List.mem_of_getElem? (i := 125) rfl)) rfl
    · exact al_g (al_t1 (List.mem_of_getElem? (i := 127) rfl)) rfl
    · exact al_g (al_t1 (List.mem_of_getElem? (i := 129) rfl)) rfl
    · exact al_g (al_t1 (List.mem_of_getElem? (i := 131) rfl)) rfl
    · exact al_g (al_t1 (List.mem_of_getElem? (i := 133) rfl)) rfl
    · exact al_g (al_t1 (List.mem_of_getElem? (i := 135) rfl)) rfl
    · exact al_g (al_t1 (List.mem_of_getElem? (i := 137) rfl)) rfl
    · exact al_g (al_t1 (List.mem_of_getElem? (i := 139) rfl)) rfl
    · exact al_g (al_t1 (List.mem_of_getElem? (i := 141) rfl)) rfl
    · exact al_g (al_t1 (List.mem_of_getElem? (i := 143) rfl)) rfl
  exact h
theorem al_in5 : ∀ w ∈ u_ws RX5 TX5 2, w ∈ al_G := by
  have h : ∀ w ∈ ([u_lay RX5 TX5 0, u_lay RX5 TX5 1] : List Cond), w ∈ al_G := by
    intro w hw
    simp only [List.mem_cons, List.not_mem_nil, or_false] at hw
    rcases hw with rfl | rfl
    · exact al_g (al_t1 (List.mem_of_getElem? (i := 73) rfl)) rfl
    · exact al_g (al_t1 (List.mem_of_getElem? (i := 75) rfl)) rfl
  exact h
theorem al_in6 : ∀ w ∈ u_ws RX6 TX6 4, w ∈ al_G := by
  have h : ∀ w ∈ ([u_lay RX6 TX6 0, u_lay RX6 TX6 1, u_lay RX6 TX6 2, u_lay RX6 TX6 3] : List Cond), w ∈ al_G := by
    intro w hw
    simp only [List.mem_cons, List.not_mem_nil, or_false] at hw
    rcases hw with rfl | rfl | rfl | rfl
    · exact al_g (al_t1 (List.mem_of_getElem? (i := 56) rfl)) rfl
    · exact al_g (al_t1 (List.mem_of_getElem? (i := 58) rfl)) rfl
    · exact al_g (al_t1 (List.mem_of_getElem? (i := 60) rfl)) rfl
    · exact al_g (al_t1 (List.mem_of_getElem? (i := 62) rfl)) rfl
  exact h
theorem al_in7 : ∀ w ∈ u_ws RX7 TX7 7, w ∈ al_G := by
  have h : ∀ w ∈ ([u_lay RX7 TX7 0, u_lay RX7 TX7 1, u_lay RX7 TX7 2, u_lay RX7 TX7 3, u_lay RX7 TX7 4, u_lay RX7 TX7 5, u_lay RX7 TX7 6] : List Cond), w ∈ al_G := by
    intro w hw
    simp only [List.mem_cons, List.not_mem_nil, or_false] at hw
    rcases hw with rfl | rfl | rfl | rfl | rfl | rfl | rfl
    · exact al_g (al_t1 (List.mem_of_getElem? (i := 163) rfl)) rfl
    · exact al_g (al_t1 (List.mem_of_getElem? (i := 165) rfl)) rfl
    · exact al_g (al_t1 (List.mem_of_getElem? (i := 167) rfl)) rfl
    · exact al_g (al_t1 (List.mem_of_getElem? (i := 169) rfl)) rfl
    · exact al_g (al_t1 (List.mem_of_getElem? (i := 171) rfl)) rfl
    · exact al_g (al_t1 (List.mem_of_getElem? (i := 173) rfl)) rfl
    · exact al_g (al_t1 (List.mem_of_getElem? (i := 175) rfl)) rfl
  exact h
theorem al_in8 : ∀ w ∈ u_ws RX8 TX8 6, w ∈ al_G := by
  have h : ∀ w ∈ ([u_lay RX8 TX8 0, u_lay RX8 TX8 1, u_lay RX8 TX8 2, u_lay RX8 TX8 3, u_lay RX8 TX8 4, u_lay RX8 TX8 5] : List Cond), w ∈ al_G := by
    intro w hw
    simp only [List.mem_cons, List.not_mem_nil, or_false] at hw
    rcases hw with rfl | rfl | rfl | rfl | rfl | rfl
    · exact al_g (al_t2 (List.mem_of_getElem? (i := 40) rfl)) rfl
    · exact al_g (al_t2 (List.mem_of_getElem? (i := 42) rfl)) rfl
    · exact al_g (al_t2 (List.mem_of_getElem? (i := 44) rfl)) rfl
    · exact al_g (al_t2 (List.mem_of_getElem? (i := 46) rfl)) rfl
    · exact al_g (al_t2 (List.mem_of_getElem? (i := 48) rfl)) rfl
    · exact al_g (al_t2 (List.mem_of_getElem? (i := 50) rfl)) rfl
  exact h
end
