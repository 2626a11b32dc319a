section
-- ===== PART A: goes FIRST, ahead of the names: the tables' words, and 'selects' of the private methods out of them =====
/-- a private method of a class that the tables say can be made, by its rows of tables_1 -/
def lw_okq (q : MethodName × Nat) : Prop := (q.1.cls ≠ "java/lang/invoke/MethodHandle" ∧ q.1.cls ≠ "java/lang/invoke/VarHandle") ∧ Cond.instantiable q.1.cls q.2 ∈ tables_1 ∧ Cond.privateMethod q.1 ∈ tables_1 ∧ Cond.instanceMethod q.1 ∈ tables_1
theorem lw_p0 : lw_okq (⟨"AncestorLooks", "lookAround", "()V"⟩, 6) := ⟨⟨by decide +kernel, by decide +kernel⟩, List.mem_of_getElem? (i := 13) (by decide +kernel), List.mem_of_getElem? (i := 203) (by decide +kernel), List.mem_of_getElem? (i := 204) (by decide +kernel)⟩
theorem lw_p1 : lw_okq (⟨"AncestorLooks$Survey", "linkChildren", "()V"⟩, 12) := ⟨⟨by decide +kernel, by decide +kernel⟩, List.mem_of_getElem? (i := 102) (by decide +kernel), List.mem_of_getElem? (i := 211) (by decide +kernel), List.mem_of_getElem? (i := 212) (by decide +kernel)⟩
theorem lw_p2 : lw_okq (⟨"AncestorLooks$Survey", "goDown", "()V"⟩, 12) := ⟨⟨by decide +kernel, by decide +kernel⟩, List.mem_of_getElem? (i := 102) (by decide +kernel), List.mem_of_getElem? (i := 233) (by decide +kernel), List.mem_of_getElem? (i := 234) (by decide +kernel)⟩
theorem lw_p3 : lw_okq (⟨"AncestorLooks$Survey", "goUp", "()V"⟩, 12) := ⟨⟨by decide +kernel, by decide +kernel⟩, List.mem_of_getElem? (i := 102) (by decide +kernel), List.mem_of_getElem? (i := 237) (by decide +kernel), List.mem_of_getElem? (i := 238) (by decide +kernel)⟩
theorem lw_p4 : lw_okq (⟨"AncestorLooks$Survey", "measure", "(I)V"⟩, 12) := ⟨⟨by decide +kernel, by decide +kernel⟩, List.mem_of_getElem? (i := 102) (by decide +kernel), List.mem_of_getElem? (i := 241) (by decide +kernel), List.mem_of_getElem? (i := 242) (by decide +kernel)⟩
theorem lw_p5 : lw_okq (⟨"AncestorLooks$Survey", "findTops", "()V"⟩, 12) := ⟨⟨by decide +kernel, by decide +kernel⟩, List.mem_of_getElem? (i := 102) (by decide +kernel), List.mem_of_getElem? (i := 245) (by decide +kernel), List.mem_of_getElem? (i := 246) (by decide +kernel)⟩
theorem lw_p6 : lw_okq (⟨"AncestorLooks$History", "dropOldest", "()V"⟩, 4) := ⟨⟨by decide +kernel, by decide +kernel⟩, List.mem_of_getElem? (i := 80) (by decide +kernel), List.mem_of_getElem? (i := 311) (by decide +kernel), List.mem_of_getElem? (i := 312) (by decide +kernel)⟩
theorem lw_p7 : lw_okq (⟨"AncestorLooks$History", "stateAt", "(I)LAncestorLooks$Tree;"⟩, 4) := ⟨⟨by decide +kernel, by decide +kernel⟩, List.mem_of_getElem? (i := 80) (by decide +kernel), List.mem_of_getElem? (i := 315) (by decide +kernel), List.mem_of_getElem? (i := 316) (by decide +kernel)⟩
theorem lw_p8 : lw_okq (⟨"AncestorLooks$Ways", "findMeetings", "(I)V"⟩, 7) := ⟨⟨by decide +kernel, by decide +kernel⟩, List.mem_of_getElem? (i := 147) (by decide +kernel), List.mem_of_getElem? (i := 477) (by decide +kernel), List.mem_of_getElem? (i := 478) (by decide +kernel)⟩
theorem lw_p9 : lw_okq (⟨"AncestorLooks$Ways", "farthestFromOn", "(II)I"⟩, 7) := ⟨⟨by decide +kernel, by decide +kernel⟩, List.mem_of_getElem? (i := 147) (by decide +kernel), List.mem_of_getElem? (i := 484) (by decide +kernel), List.mem_of_getElem? (i := 485) (by decide +kernel)⟩
theorem lw_p10 : lw_okq (⟨"AncestorLooks$Ways", "measured", "(II)F"⟩, 7) := ⟨⟨by decide +kernel, by decide +kernel⟩, List.mem_of_getElem? (i := 147) (by decide +kernel), List.mem_of_getElem? (i := 490) (by decide +kernel), List.mem_of_getElem? (i := 491) (by decide +kernel)⟩
theorem lw_p11 : lw_okq (⟨"AncestorLooks$Shapes", "join", "(I)I"⟩, 5) := ⟨⟨by decide +kernel, by decide +kernel⟩, List.mem_of_getElem? (i := 179) (by decide +kernel), List.mem_of_getElem? (i := 526) (by decide +kernel), List.mem_of_getElem? (i := 527) (by decide +kernel)⟩
theorem lw_p12 : lw_okq (⟨"AncestorLooks$Shapes", "enter", "(I)V"⟩, 5) := ⟨⟨by decide +kernel, by decide +kernel⟩, List.mem_of_getElem? (i := 179) (by decide +kernel), List.mem_of_getElem? (i := 587) (by decide +kernel), List.mem_of_getElem? (i := 588) (by decide +kernel)⟩
def lw_privs_1 : List (MethodName × Nat) := [(⟨"AncestorLooks", "lookAround", "()V"⟩, 6), (⟨"AncestorLooks$Survey", "linkChildren", "()V"⟩, 12), (⟨"AncestorLooks$Survey", "goDown", "()V"⟩, 12), (⟨"AncestorLooks$Survey", "goUp", "()V"⟩, 12), (⟨"AncestorLooks$Survey", "measure", "(I)V"⟩, 12), (⟨"AncestorLooks$Survey", "findTops", "()V"⟩, 12), (⟨"AncestorLooks$History", "dropOldest", "()V"⟩, 4), (⟨"AncestorLooks$History", "stateAt", "(I)LAncestorLooks$Tree;"⟩, 4), (⟨"AncestorLooks$Ways", "findMeetings", "(I)V"⟩, 7), (⟨"AncestorLooks$Ways", "farthestFromOn", "(II)I"⟩, 7), (⟨"AncestorLooks$Ways", "measured", "(II)F"⟩, 7), (⟨"AncestorLooks$Shapes", "join", "(I)I"⟩, 5), (⟨"AncestorLooks$Shapes", "enter", "(I)V"⟩, 5)]
theorem lw_r1 : ∀ q ∈ lw_privs_1, lw_okq q := List.forall_mem_cons.mpr ⟨lw_p0, List.forall_mem_cons.mpr ⟨lw_p1, List.forall_mem_cons.mpr ⟨lw_p2, List.forall_mem_cons.mpr ⟨lw_p3, List.forall_mem_cons.mpr ⟨lw_p4, List.forall_mem_cons.mpr ⟨lw_p5, List.forall_mem_cons.mpr ⟨lw_p6, List.forall_mem_cons.mpr ⟨lw_p7, List.forall_mem_cons.mpr ⟨lw_p8, List.forall_mem_cons.mpr ⟨lw_p9, List.forall_mem_cons.mpr ⟨lw_p10, List.forall_mem_cons.mpr ⟨lw_p11, List.forall_mem_cons.mpr ⟨lw_p12, fun _ h => absurd h List.not_mem_nil⟩⟩⟩⟩⟩⟩⟩⟩⟩⟩⟩⟩⟩
def lw_privs : List (MethodName × Nat) := lw_privs_1
def lw_tbl : List Cond := k2_sels lw_privs ++ tables_1
theorem lw_privs_ok : ∀ q ∈ lw_privs, lw_okq q := lw_r1
/-- the streams that the claim lets the run draw from -/
abbrev lw_cs : List Choice := [Jvm.Choice.named "NaN.bits"]
theorem lw_bits : nanBits ∈ lw_cs := by first | decide | exact List.mem_cons_self | simp [lw_cs, nanBits]
-- ===== end of PART A; then your names; then what follows =====

def RX0 : String := "AncestorLooks$FloatRow"
def TX0 : u_T := fun k => match k with
  | _ => ("AncestorLooks$FloatRow", "cells", "[F", true)
def tyX0 : Nat → FieldType := fun k => match k with
  | _ => .array .float
abbrev wsX00 : List Cond := u_ws RX0 TX0 1
theorem nmX0 : ∀ a, a < 1 → ∀ b, b < 1 → a ≠ b → (TX0 a).2.1 ≠ (TX0 b).2.1 := by decide +kernel
theorem tyX0_ok : ∀ k, k < 1 → parseFieldDescriptor (TX0 k).2.2.1 = some (tyX0 k) := by decide +kernel
abbrev cX0_init : ByteArray := prog_2_method_1_code
def yX0_init : MethodName := ⟨RX0, "<init>", "()V"⟩
abbrev cX0_get : ByteArray := prog_2_method_2_code
def yX0_get : MethodName := ⟨RX0, "get", "(I)F"⟩
abbrev cX0_set : ByteArray := prog_2_method_3_code
def yX0_set : MethodName := ⟨RX0, "set", "(IF)V"⟩
abbrev cX0_copyFrom : ByteArray := prog_2_method_4_code
def yX0_copyFrom : MethodName := ⟨RX0, "copyFrom", "(LAncestorLooks$FloatRow;)V"⟩
def RX1 : String := "AncestorLooks$History"
def TX1 : u_T := fun k => match k with
  | 0 => ("AncestorLooks$History", "states", "[LAncestorLooks$Tree;", true)
  | 1 => ("AncestorLooks$History", "snapshot", "LAncestorLooks$Tree;", true)
  | 2 => ("AncestorLooks$History", "used", "I", false)
  | _ => ("AncestorLooks$History", "kept", "Z", false)
def tyX1 : Nat → FieldType := fun k => match k with
  | 0 => .array (.object "AncestorLooks$Tree")
  | 1 => .object "AncestorLooks$Tree"
  | 2 => .int
  | _ => .boolean
abbrev wsX10 : List Cond := u_ws RX1 TX1 4
theorem nmX1 : ∀ a, a < 4 → ∀ b, b < 4 → a ≠ b → (TX1 a).2.1 ≠ (TX1 b).2.1 := by decide +kernel
theorem tyX1_ok : ∀ k, k < 4 → parseFieldDescriptor (TX1 k).2.2.1 = some (tyX1 k) := by decide +kernel
abbrev cX1_init : ByteArray := prog_3_method_1_code
def yX1_init : MethodName := ⟨RX1, "<init>", "()V"⟩
abbrev cX1_length : ByteArray := prog_3_method_2_code
def yX1_length : MethodName := ⟨RX1, "length", "()I"⟩
abbrev cX1_hasSnapshot : ByteArray := prog_3_method_3_code
def yX1_hasSnapshot : MethodName := ⟨RX1, "hasSnapshot", "()Z"⟩
abbrev cX1_record : ByteArray := prog_3_method_4_code
def yX1_record : MethodName := ⟨RX1, "record", "(LAncestorLooks$Tree;)V"⟩
abbrev cX1_takeBack : ByteArray := prog_3_method_5_code
def yX1_takeBack : MethodName := ⟨RX1, "takeBack", "(LAncestorLooks$Tree;)V"⟩
abbrev cX1_keepSnapshot : ByteArray := prog_3_method_6_code
def yX1_keepSnapshot : MethodName := ⟨RX1, "keepSnapshot", "(LAncestorLooks$Tree;)V"⟩
abbrev cX1_showSnapshot : ByteArray := prog_3_method_7_code
def yX1_showSnapshot : MethodName := ⟨RX1, "showSnapshot", "(LAncestorLooks$Tree;)V"⟩
abbrev cX1_dropOldest : ByteArray := prog_3_method_8_code
def yX1_dropOldest : MethodName := ⟨RX1, "dropOldest", "()V"⟩
abbrev cX1_stateAt : ByteArray := prog_3_method_9_code
def yX1_stateAt : MethodName := ⟨RX1, "stateAt", "(I)LAncestorLooks$Tree;"⟩
def RX2 : String := "AncestorLooks$Row"
def TX2 : u_T := fun k => match k with
  | _ => ("AncestorLooks$Row", "cells", "[I", true)
def tyX2 : Nat → FieldType := fun k => match k with
  | _ => .array .int
abbrev wsX20 : List Cond := u_ws RX2 TX2 1
theorem nmX2 : ∀ a, a < 1 → ∀ b, b < 1 → a ≠ b → (TX2 a).2.1 ≠ (TX2 b).2.1 := by decide +kernel
theorem tyX2_ok : ∀ k, k < 1 → parseFieldDescriptor (TX2 k).2.2.1 = some (tyX2 k) := by decide +kernel
abbrev cX2_init : ByteArray := prog_4_method_1_code
def yX2_init : MethodName := ⟨RX2, "<init>", "()V"⟩
abbrev cX2_get : ByteArray := prog_4_method_2_code
def yX2_get : MethodName := ⟨RX2, "get", "(I)I"⟩
abbrev cX2_set : ByteArray := prog_4_method_3_code
def yX2_set : MethodName := ⟨RX2, "set", "(II)V"⟩
abbrev cX2_fill : ByteArray := prog_4_method_4_code
def yX2_fill : MethodName := ⟨RX2, "fill", "(I)V"⟩
abbrev cX2_copyFrom : ByteArray := prog_4_method_5_code
def yX2_copyFrom : MethodName := ⟨RX2, "copyFrom", "(LAncestorLooks$Row;)V"⟩
def RX3 : String := "AncestorLooks$Shapes"
def TX3 : u_T := fun k => match k with
  | 0 => ("AncestorLooks$Shapes", "tree", "LAncestorLooks$Tree;", true)
  | 1 => ("AncestorLooks$Shapes", "survey", "LAncestorLooks$Survey;", true)
  | 2 => ("AncestorLooks$Shapes", "shapes", "LAncestorLooks$Row;", true)
  | 3 => ("AncestorLooks$Shapes", "table", "LAncestorLooks$Row;", true)
  | _ => ("AncestorLooks$Shapes", "kinds", "I", false)
def tyX3 : Nat → FieldType := fun k => match k with
  | 0 => .object "AncestorLooks$Tree"
  | 1 => .object "AncestorLooks$Survey"
  | 2 => .object "AncestorLooks$Row"
  | 3 => .object "AncestorLooks$Row"
  | _ => .int
abbrev wsX30 : List Cond := u_ws RX3 TX3 5
theorem nmX3 : ∀ a, a < 5 → ∀ b, b < 5 → a ≠ b → (TX3 a).2.1 ≠ (TX3 b).2.1 := by decide +kernel
theorem tyX3_ok : ∀ k, k < 5 → parseFieldDescriptor (TX3 k).2.2.1 = some (tyX3 k) := by decide +kernel
abbrev cX3_init : ByteArray := prog_5_method_1_code
def yX3_init : MethodName := ⟨RX3, "<init>", "(LAncestorLooks$Tree;LAncestorLooks$Survey;)V"⟩
abbrev cX3_write : ByteArray := prog_5_method_2_code
def yX3_write : MethodName := ⟨RX3, "write", "()V"⟩
abbrev cX3_join : ByteArray := prog_5_method_3_code
def yX3_join : MethodName := ⟨RX3, "join", "(I)I"⟩
abbrev cX3_shapeOf : ByteArray := prog_5_method_4_code
def yX3_shapeOf : MethodName := ⟨RX3, "shapeOf", "(I)I"⟩
abbrev cX3_countLike : ByteArray := prog_5_method_5_code
def yX3_countLike : MethodName := ⟨RX3, "countLike", "(I)I"⟩
abbrev cX3_sort : ByteArray := prog_5_method_6_code
def yX3_sort : MethodName := ⟨RX3, "sort", "()V"⟩
abbrev cX3_enter : ByteArray := prog_5_method_7_code
def yX3_enter : MethodName := ⟨RX3, "enter", "(I)V"⟩
abbrev cX3_kinds : ByteArray := prog_5_method_8_code
def yX3_kinds : MethodName := ⟨RX3, "kinds", "()I"⟩
def RX4 : String := "AncestorLooks$Survey"
def TX4 : u_T := fun k => match k with
  | 0 => ("AncestorLooks$Survey", "tree", "LAncestorLooks$Tree;", true)
  | 1 => ("AncestorLooks$Survey", "firstChild", "LAncestorLooks$Row;", true)
  | 2 => ("AncestorLooks$Survey", "nextChild", "LAncestorLooks$Row;", true)
  | 3 => ("AncestorLooks$Survey", "downward", "LAncestorLooks$Row;", true)
  | 4 => ("AncestorLooks$Survey", "depths", "LAncestorLooks$Row;", true)
  | 5 => ("AncestorLooks$Survey", "heights", "LAncestorLooks$Row;", true)
  | 6 => ("AncestorLooks$Survey", "children", "LAncestorLooks$Row;", true)
  | 7 => ("AncestorLooks$Survey", "sizes", "LAncestorLooks$Row;", true)
  | 8 => ("AncestorLooks$Survey", "longChildren", "LAncestorLooks$Row;", true)
  | 9 => ("AncestorLooks$Survey", "tops", "LAncestorLooks$Row;", true)
  | 10 => ("AncestorLooks$Survey", "feet", "LAncestorLooks$Row;", true)
  | _ => ("AncestorLooks$Survey", "present", "I", false)
def tyX4 : Nat → FieldType := fun k => match k with
  | 0 => .object "AncestorLooks$Tree"
  | 1 => .object "AncestorLooks$Row"
  | 2 => .object "AncestorLooks$Row"
  | 3 => .object "AncestorLooks$Row"
  | 4 => .object "AncestorLooks$Row"
  | 5 => .object "AncestorLooks$Row"
  | 6 => .object "AncestorLooks$Row"
  | 7 => .object "AncestorLooks$Row"
  | 8 => .object "AncestorLooks$Row"
  | 9 => .object "AncestorLooks$Row"
  | 10 => .object "AncestorLooks$Row"
  | _ => .int
abbrev wsX40 : List Cond := u_ws RX4 TX4 12
theorem nmX4 : ∀ a, a < 12 → ∀ b, b < 12 → a ≠ b → (TX4 a).2.1 ≠ (TX4 b).2.1 := by decide +kernel
theorem tyX4_ok : ∀ k, k < 12 → parseFieldDescriptor (TX4 k).2.2.1 = some (tyX4 k) := by decide +kernel
abbrev cX4_init : ByteArray := prog_6_method_1_code
def yX4_init : MethodName := ⟨RX4, "<init>", "(LAncestorLooks$Tree;)V"⟩
abbrev cX4_take : ByteArray := prog_6_method_2_code
def yX4_take : MethodName := ⟨RX4, "take", "()V"⟩
abbrev cX4_linkChildren : ByteArray := prog_6_method_3_code
def yX4_linkChildren : MethodName := ⟨RX4, "linkChildren", "()V"⟩
abbrev cX4_goDown : ByteArray := prog_6_method_4_code
def yX4_goDown : MethodName := ⟨RX4, "goDown", "()V"⟩
abbrev cX4_goUp : ByteArray := prog_6_method_5_code
def yX4_goUp : MethodName := ⟨RX4, "goUp", "()V"⟩
abbrev cX4_measure : ByteArray := prog_6_method_6_code
def yX4_measure : MethodName := ⟨RX4, "measure", "(I)V"⟩
abbrev cX4_findTops : ByteArray := prog_6_method_7_code
def yX4_findTops : MethodName := ⟨RX4, "findTops", "()V"⟩
abbrev cX4_present : ByteArray := prog_6_method_8_code
def yX4_present : MethodName := ⟨RX4, "present", "()I"⟩
abbrev cX4_downwardAt : ByteArray := prog_6_method_9_code
def yX4_downwardAt : MethodName := ⟨RX4, "downwardAt", "(I)I"⟩
abbrev cX4_firstChildOf : ByteArray := prog_6_method_10_code
def yX4_firstChildOf : MethodName := ⟨RX4, "firstChildOf", "(I)I"⟩
abbrev cX4_nextChildOf : ByteArray := prog_6_method_11_code
def yX4_nextChildOf : MethodName := ⟨RX4, "nextChildOf", "(I)I"⟩
abbrev cX4_depthOf : ByteArray := prog_6_method_12_code
def yX4_depthOf : MethodName := ⟨RX4, "depthOf", "(I)I"⟩
abbrev cX4_heightOf : ByteArray := prog_6_method_13_code
def yX4_heightOf : MethodName := ⟨RX4, "heightOf", "(I)I"⟩
abbrev cX4_childrenOf : ByteArray := prog_6_method_14_code
def yX4_childrenOf : MethodName := ⟨RX4, "childrenOf", "(I)I"⟩
abbrev cX4_sizeOf : ByteArray := prog_6_method_15_code
def yX4_sizeOf : MethodName := ⟨RX4, "sizeOf", "(I)I"⟩
abbrev cX4_longChildOf : ByteArray := prog_6_method_16_code
def yX4_longChildOf : MethodName := ⟨RX4, "longChildOf", "(I)I"⟩
abbrev cX4_topOf : ByteArray := prog_6_method_17_code
def yX4_topOf : MethodName := ⟨RX4, "topOf", "(I)I"⟩
abbrev cX4_footOf : ByteArray := prog_6_method_18_code
def yX4_footOf : MethodName := ⟨RX4, "footOf", "(I)I"⟩
abbrev cX4_isLeaf : ByteArray := prog_6_method_19_code
def yX4_isLeaf : MethodName := ⟨RX4, "isLeaf", "(I)Z"⟩
abbrev cX4_longWayOf : ByteArray := prog_6_method_20_code
def yX4_longWayOf : MethodName := ⟨RX4, "longWayOf", "(I)I"⟩
abbrev cX4_ladderOf : ByteArray := prog_6_method_21_code
def yX4_ladderOf : MethodName := ⟨RX4, "ladderOf", "(I)I"⟩
abbrev cX4_climb : ByteArray := prog_6_method_22_code
def yX4_climb : MethodName := ⟨RX4, "climb", "(II)I"⟩
abbrev cX4_isInBranch : ByteArray := prog_6_method_23_code
def yX4_isInBranch : MethodName := ⟨RX4, "isInBranch", "(II)Z"⟩
abbrev cX4_meetingOf : ByteArray := prog_6_method_24_code
def yX4_meetingOf : MethodName := ⟨RX4, "meetingOf", "(II)I"⟩
abbrev cX4_looksFor : ByteArray := prog_6_method_25_code
def yX4_looksFor : MethodName := ⟨RX4, "looksFor", "(II)I"⟩
abbrev cX4_countLeaves : ByteArray := prog_6_method_26_code
def yX4_countLeaves : MethodName := ⟨RX4, "countLeaves", "()I"⟩
abbrev cX4_countLadders : ByteArray := prog_6_method_27_code
def yX4_countLadders : MethodName := ⟨RX4, "countLadders", "()I"⟩
abbrev cX4_countJumps : ByteArray := prog_6_method_28_code
def yX4_countJumps : MethodName := ⟨RX4, "countJumps", "()I"⟩
abbrev cX4_jumpsFrom : ByteArray := prog_6_method_29_code
def yX4_jumpsFrom : MethodName := ⟨RX4, "jumpsFrom", "(I)I"⟩
def RX5 : String := "AncestorLooks$Text"
def TX5 : u_T := fun k => match k with
  | 0 => ("AncestorLooks$Text", "signs", "[C", true)
  | _ => ("AncestorLooks$Text", "used", "I", false)
def tyX5 : Nat → FieldType := fun k => match k with
  | 0 => .array .char
  | _ => .int
abbrev wsX50 : List Cond := u_ws RX5 TX5 2
theorem nmX5 : ∀ a, a < 2 → ∀ b, b < 2 → a ≠ b → (TX5 a).2.1 ≠ (TX5 b).2.1 := by decide +kernel
theorem tyX5_ok : ∀ k, k < 2 → parseFieldDescriptor (TX5 k).2.2.1 = some (tyX5 k) := by decide +kernel
abbrev cX5_init : ByteArray := prog_7_method_1_code
def yX5_init : MethodName := ⟨RX5, "<init>", "()V"⟩
abbrev cX5_length : ByteArray := prog_7_method_2_code
def yX5_length : MethodName := ⟨RX5, "length", "()I"⟩
abbrev cX5_put : ByteArray := prog_7_method_3_code
def yX5_put : MethodName := ⟨RX5, "put", "(C)Z"⟩
abbrev cX5_fault : ByteArray := prog_7_method_5_code
def yX5_fault : MethodName := ⟨RX5, "fault", "()I"⟩
abbrev cX5_branches : ByteArray := prog_7_method_6_code
def yX5_branches : MethodName := ⟨RX5, "branches", "()I"⟩
abbrev cX5_plant : ByteArray := prog_7_method_7_code
def yX5_plant : MethodName := ⟨RX5, "plant", "(LAncestorLooks$Tree;I)V"⟩
def RX6 : String := "AncestorLooks$Tree"
def TX6 : u_T := fun k => match k with
  | 0 => ("AncestorLooks$Tree", "parents", "LAncestorLooks$Row;", true)
  | 1 => ("AncestorLooks$Tree", "bits", "LAncestorLooks$Row;", true)
  | 2 => ("AncestorLooks$Tree", "lengths", "LAncestorLooks$FloatRow;", true)
  | _ => ("AncestorLooks$Tree", "ever", "I", false)
def tyX6 : Nat → FieldType := fun k => match k with
  | 0 => .object "AncestorLooks$Row"
  | 1 => .object "AncestorLooks$Row"
  | 2 => .object "AncestorLooks$FloatRow"
  | _ => .int
abbrev wsX60 : List Cond := u_ws RX6 TX6 4
theorem nmX6 : ∀ a, a < 4 → ∀ b, b < 4 → a ≠ b → (TX6 a).2.1 ≠ (TX6 b).2.1 := by decide +kernel
theorem tyX6_ok : ∀ k, k < 4 → parseFieldDescriptor (TX6 k).2.2.1 = some (tyX6 k) := by decide +kernel
abbrev cX6_init : ByteArray := prog_8_method_1_code
def yX6_init : MethodName := ⟨RX6, "<init>", "()V"⟩
abbrev cX6_ever : ByteArray := prog_8_method_2_code
def yX6_ever : MethodName := ⟨RX6, "ever", "()I"⟩
abbrev cX6_isNode : ByteArray := prog_8_method_3_code
def yX6_isNode : MethodName := ⟨RX6, "isNode", "(I)Z"⟩
abbrev cX6_hasRoomFor : ByteArray := prog_8_method_4_code
def yX6_hasRoomFor : MethodName := ⟨RX6, "hasRoomFor", "(I)Z"⟩
abbrev cX6_parentOf : ByteArray := prog_8_method_5_code
def yX6_parentOf : MethodName := ⟨RX6, "parentOf", "(I)I"⟩
abbrev cX6_bitsOf : ByteArray := prog_8_method_6_code
def yX6_bitsOf : MethodName := ⟨RX6, "bitsOf", "(I)I"⟩
abbrev cX6_lengthOf : ByteArray := prog_8_method_7_code
def yX6_lengthOf : MethodName := ⟨RX6, "lengthOf", "(I)F"⟩
abbrev cX6_append : ByteArray := prog_8_method_8_code
def yX6_append : MethodName := ⟨RX6, "append", "(IIF)I"⟩
abbrev cX6_remove : ByteArray := prog_8_method_9_code
def yX6_remove : MethodName := ⟨RX6, "remove", "(I)V"⟩
abbrev cX6_hang : ByteArray := prog_8_method_10_code
def yX6_hang : MethodName := ⟨RX6, "hang", "(II)V"⟩
abbrev cX6_stretch : ByteArray := prog_8_method_11_code
def yX6_stretch : MethodName := ⟨RX6, "stretch", "(IIF)V"⟩
abbrev cX6_copyFrom : ByteArray := prog_8_method_12_code
def yX6_copyFrom : MethodName := ⟨RX6, "copyFrom", "(LAncestorLooks$Tree;)V"⟩
def RX7 : String := "AncestorLooks$Ways"
def TX7 : u_T := fun k => match k with
  | 0 => ("AncestorLooks$Ways", "tree", "LAncestorLooks$Tree;", true)
  | 1 => ("AncestorLooks$Ways", "survey", "LAncestorLooks$Survey;", true)
  | 2 => ("AncestorLooks$Ways", "paths", "LAncestorLooks$FloatRow;", true)
  | 3 => ("AncestorLooks$Ways", "meetingPaths", "LAncestorLooks$FloatRow;", true)
  | 4 => ("AncestorLooks$Ways", "marks", "LAncestorLooks$Row;", true)
  | 5 => ("AncestorLooks$Ways", "pairFirst", "I", false)
  | _ => ("AncestorLooks$Ways", "pairSecond", "I", false)
def tyX7 : Nat → FieldType := fun k => match k with
  | 0 => .object "AncestorLooks$Tree"
  | 1 => .object "AncestorLooks$Survey"
  | 2 => .object "AncestorLooks$FloatRow"
  | 3 => .object "AncestorLooks$FloatRow"
  | 4 => .object "AncestorLooks$Row"
  | 5 => .int
  | _ => .int
abbrev wsX70 : List Cond := u_ws RX7 TX7 7
theorem nmX7 : ∀ a, a < 7 → ∀ b, b < 7 → a ≠ b → (TX7 a).2.1 ≠ (TX7 b).2.1 := by decide +kernel
theorem tyX7_ok : ∀ k, k < 7 → parseFieldDescriptor (TX7 k).2.2.1 = some (tyX7 k) := by decide +kernel
abbrev cX7_init : ByteArray := prog_9_method_1_code
def yX7_init : MethodName := ⟨RX7, "<init>", "(LAncestorLooks$Tree;LAncestorLooks$Survey;)V"⟩
abbrev cX7_take : ByteArray := prog_9_method_2_code
def yX7_take : MethodName := ⟨RX7, "take", "()V"⟩
abbrev cX7_pathOf : ByteArray := prog_9_method_3_code
def yX7_pathOf : MethodName := ⟨RX7, "pathOf", "(I)F"⟩
abbrev cX7_between : ByteArray := prog_9_method_4_code
def yX7_between : MethodName := ⟨RX7, "between", "(II)F"⟩
abbrev cX7_sum : ByteArray := prog_9_method_5_code
def yX7_sum : MethodName := ⟨RX7, "sum", "(FFF)F"⟩
abbrev cX7_onWay : ByteArray := prog_9_method_6_code
def yX7_onWay : MethodName := ⟨RX7, "onWay", "(III)I"⟩
abbrev cX7_highestWithin : ByteArray := prog_9_method_7_code
def yX7_highestWithin : MethodName := ⟨RX7, "highestWithin", "(IF)I"⟩
abbrev cX7_farthestFrom : ByteArray := prog_9_method_8_code
def yX7_farthestFrom : MethodName := ⟨RX7, "farthestFrom", "(I)I"⟩
abbrev cX7_findPair : ByteArray := prog_9_method_9_code
def yX7_findPair : MethodName := ⟨RX7, "findPair", "()V"⟩
abbrev cX7_pairFirst : ByteArray := prog_9_method_10_code
def yX7_pairFirst : MethodName := ⟨RX7, "pairFirst", "()I"⟩
abbrev cX7_pairSecond : ByteArray := prog_9_method_11_code
def yX7_pairSecond : MethodName := ⟨RX7, "pairSecond", "()I"⟩
abbrev cX7_findMeetings : ByteArray := prog_9_method_12_code
def yX7_findMeetings : MethodName := ⟨RX7, "findMeetings", "(I)V"⟩
abbrev cX7_measured : ByteArray := prog_9_method_13_code
def yX7_measured : MethodName := ⟨RX7, "measured", "(II)F"⟩
abbrev cX7_farthestFromOn : ByteArray := prog_9_method_14_code
def yX7_farthestFromOn : MethodName := ⟨RX7, "farthestFromOn", "(II)I"⟩
def RX8 : String := "AncestorLooks"
def TX8 : u_T := fun k => match k with
  | 0 => ("AncestorLooks", "tree", "LAncestorLooks$Tree;", true)
  | 1 => ("AncestorLooks", "text", "LAncestorLooks$Text;", true)
  | 2 => ("AncestorLooks", "history", "LAncestorLooks$History;", true)
  | 3 => ("AncestorLooks", "survey", "LAncestorLooks$Survey;", true)
  | 4 => ("AncestorLooks", "ways", "LAncestorLooks$Ways;", true)
  | _ => ("AncestorLooks", "shapes", "LAncestorLooks$Shapes;", true)
def tyX8 : Nat → FieldType := fun k => match k with
  | 0 => .object "AncestorLooks$Tree"
  | 1 => .object "AncestorLooks$Text"
  | 2 => .object "AncestorLooks$History"
  | 3 => .object "AncestorLooks$Survey"
  | 4 => .object "AncestorLooks$Ways"
  | _ => .object "AncestorLooks$Shapes"
abbrev wsX80 : List Cond := u_ws RX8 TX8 6
theorem nmX8 : ∀ a, a < 6 → ∀ b, b < 6 → a ≠ b → (TX8 a).2.1 ≠ (TX8 b).2.1 := by decide +kernel
theorem tyX8_ok : ∀ k, k < 6 → parseFieldDescriptor (TX8 k).2.2.1 = some (tyX8 k) := by decide +kernel
abbrev cX8_init : ByteArray := prog_1_method_1_code
def yX8_init : MethodName := ⟨RX8, "<init>", "()V"⟩
abbrev cX8_addLeaf : ByteArray := prog_1_method_2_code
def yX8_addLeaf : MethodName := ⟨RX8, "addLeaf", "(II)I"⟩
abbrev cX8_prune : ByteArray := prog_1_method_3_code
def yX8_prune : MethodName := ⟨RX8, "prune", "(I)I"⟩
abbrev cX8_graft : ByteArray := prog_1_method_4_code
def yX8_graft : MethodName := ⟨RX8, "graft", "(II)I"⟩
abbrev cX8_setLength : ByteArray := prog_1_method_5_code
def yX8_setLength : MethodName := ⟨RX8, "setLength", "(II)I"⟩
abbrev cX8_type : ByteArray := prog_1_method_6_code
def yX8_type : MethodName := ⟨RX8, "type", "(C)I"⟩
abbrev cX8_grow : ByteArray := prog_1_method_8_code
def yX8_grow : MethodName := ⟨RX8, "grow", "(I)I"⟩
abbrev cX8_undo : ByteArray := prog_1_method_9_code
def yX8_undo : MethodName := ⟨RX8, "undo", "()I"⟩
abbrev cX8_keep : ByteArray := prog_1_method_10_code
def yX8_keep : MethodName := ⟨RX8, "keep", "()I"⟩
abbrev cX8_restore : ByteArray := prog_1_method_11_code
def yX8_restore : MethodName := ⟨RX8, "restore", "()I"⟩
abbrev cX8_ancestor : ByteArray := prog_1_method_12_code
def yX8_ancestor : MethodName := ⟨RX8, "ancestor", "(II)I"⟩
abbrev cX8_looks : ByteArray := prog_1_method_13_code
def yX8_looks : MethodName := ⟨RX8, "looks", "(II)I"⟩
abbrev cX8_jump : ByteArray := prog_1_method_14_code
def yX8_jump : MethodName := ⟨RX8, "jump", "(II)I"⟩
abbrev cX8_ladderAt : ByteArray := prog_1_method_15_code
def yX8_ladderAt : MethodName := ⟨RX8, "ladderAt", "(II)I"⟩
abbrev cX8_node : ByteArray := prog_1_method_16_code
def yX8_node : MethodName := ⟨RX8, "node", "(II)I"⟩
abbrev cX8_meeting : ByteArray := prog_1_method_17_code
def yX8_meeting : MethodName := ⟨RX8, "meeting", "(II)I"⟩
abbrev cX8_wayAt : ByteArray := prog_1_method_18_code
def yX8_wayAt : MethodName := ⟨RX8, "wayAt", "(III)I"⟩
abbrev cX8_real : ByteArray := prog_1_method_19_code
def yX8_real : MethodName := ⟨RX8, "real", "(II)F"⟩
abbrev cX8_distance : ByteArray := prog_1_method_20_code
def yX8_distance : MethodName := ⟨RX8, "distance", "(II)F"⟩
abbrev cX8_reach : ByteArray := prog_1_method_21_code
def yX8_reach : MethodName := ⟨RX8, "reach", "(II)I"⟩
abbrev cX8_farthest : ByteArray := prog_1_method_22_code
def yX8_farthest : MethodName := ⟨RX8, "farthest", "(I)I"⟩
abbrev cX8_apart : ByteArray := prog_1_method_23_code
def yX8_apart : MethodName := ⟨RX8, "apart", "(I)I"⟩
abbrev cX8_shape : ByteArray := prog_1_method_24_code
def yX8_shape : MethodName := ⟨RX8, "shape", "(I)I"⟩
abbrev cX8_alike : ByteArray := prog_1_method_25_code
def yX8_alike : MethodName := ⟨RX8, "alike", "(I)I"⟩
abbrev cX8_count : ByteArray := prog_1_method_27_code
def yX8_count : MethodName := ⟨RX8, "count", "(I)I"⟩
abbrev cX8_lookAround : ByteArray := prog_1_method_28_code
def yX8_lookAround : MethodName := ⟨RX8, "lookAround", "()V"⟩
abbrev cX8_orNone : ByteArray := prog_1_method_29_code
def yX8_orNone : MethodName := ⟨RX8, "orNone", "(I)I"⟩
abbrev cX8_noFloat : ByteArray := prog_1_method_30_code
def yX8_noFloat : MethodName := ⟨RX8, "noFloat", "()F"⟩
abbrev cX8_isLength : ByteArray := prog_1_method_31_code
def yX8_isLength : MethodName := ⟨RX8, "isLength", "(I)Z"⟩
abbrev cX8_toFloat : ByteArray := prog_1_method_32_code
def yX8_toFloat : MethodName := ⟨RX8, "toFloat", "(I)F"⟩
def RX9 : String := "AncestorLooksModel"
def TX9 : u_T := fun k => match k with
  | _ => ("", "", "", false)
def tyX9 : Nat → FieldType := fun k => match k with
  | _ => .int
abbrev wsX90 : List Cond := u_ws RX9 TX9 0
theorem nmX9 : ∀ a, a < 0 → ∀ b, b < 0 → a ≠ b → (TX9 a).2.1 ≠ (TX9 b).2.1 := by decide +kernel
theorem tyX9_ok : ∀ k, k < 0 → parseFieldDescriptor (TX9 k).2.2.1 = some (tyX9 k) := by decide +kernel
def RJ6 : String := "java/lang/Integer"
def TJ6 : u_T := fun k => match k with
  | _ => ("", "", "", false)
def tyJ6 : Nat → FieldType := fun k => match k with
  | _ => .int
theorem nmJ6 : ∀ a, a < 0 → ∀ b, b < 0 → a ≠ b → (TJ6 a).2.1 ≠ (TJ6 b).2.1 := by decide +kernel
theorem tyJ6_ok : ∀ k, k < 0 → parseFieldDescriptor (TJ6 k).2.2.1 = some (tyJ6 k) := by decide +kernel
abbrev cJ6_bitCount_0f7a4 : ByteArray := prog_12_method_49_code
def yJ6_bitCount_0f7a4 : MethodName := ⟨RJ6, "bitCount", "(I)I"⟩
def RJ9 : String := "java/lang/Math"
def TJ9 : u_T := fun k => match k with
  | _ => ("", "", "", false)
def tyJ9 : Nat → FieldType := fun k => match k with
  | _ => .int
theorem nmJ9 : ∀ a, a < 0 → ∀ b, b < 0 → a ≠ b → (TJ9 a).2.1 ≠ (TJ9 b).2.1 := by decide +kernel
theorem tyJ9_ok : ∀ k, k < 0 → parseFieldDescriptor (TJ9 k).2.2.1 = some (tyJ9 k) := by decide +kernel
abbrev cJ9_min_7cf53 : ByteArray := prog_13_method_69_code
def yJ9_min_7cf53 : MethodName := ⟨RJ9, "min", "(II)I"⟩
def RL : String := "AncestorLooksLaw"
abbrev cL_cell : ByteArray := method_2_code
def yL_cell : MethodName := ⟨RL, "cell", "([II)I"⟩
abbrev cL_low : ByteArray := method_3_code
def yL_low : MethodName := ⟨RL, "low", "(II)I"⟩
abbrev cL_all : ByteArray := method_4_code
def yL_all : MethodName := ⟨RL, "all", "(LAncestorLooks;)J"⟩
abbrev cL_is : ByteArray := method_5_code
def yL_is : MethodName := ⟨RL, "is", "(LAncestorLooks;I)Z"⟩
abbrev cL_isSound : ByteArray := method_6_code
def yL_isSound : MethodName := ⟨RL, "isSound", "(LAncestorLooks;)Z"⟩
abbrev cL_isLooked : ByteArray := method_7_code
def yL_isLooked : MethodName := ⟨RL, "isLooked", "(LAncestorLooks;II)Z"⟩
abbrev cL_acts : ByteArray := method_8_code
def yL_acts : MethodName := ⟨RL, "acts", "(LAncestorLooks;I)I"⟩
abbrev cL_law : ByteArray := code
def yL_law : MethodName := ⟨RL, "law", "([I)Z"⟩
abbrev vwCl : List vw_C := [(RX0, TX0, 1), (RX1, TX1, 4), (RX2, TX2, 1), (RX3, TX3, 5), (RX4, TX4, 12), (RX5, TX5, 2), (RX6, TX6, 4), (RX7, TX7, 7), (RX8, TX8, 6)]
end
section
/-! the tables' words, by their places -/
theorem al_t1 {w : Cond} (h : w ∈ tables_1_1) : w ∈ lw_tbl := List.mem_append_right _ (List.mem_append_left _ h)
theorem al_t2 {w : Cond} (h : w ∈ tables_1_2) : w ∈ lw_tbl := List.mem_append_right _ (List.mem_append_right _ (List.mem_append_left _ h))
theorem al_t3 {w : Cond} (h : w ∈ tables_1_3) : w ∈ lw_tbl := List.mem_append_right _ (List.mem_append_right _ (List.mem_append_right _ h))
theorem al_t0 {w : Cond} (h : w ∈ k2_sels lw_privs) : w ∈ lw_tbl := List.mem_append_left _ h
def al_G : List Cond := lw_tbl.filter goodWord
theorem al_g {w : Cond} (h : w ∈ lw_tbl) (g : goodWord w = true) : w ∈ al_G := List.mem_filter.mpr ⟨h, g⟩
theorem al_good {w : Cond} (h : w ∈ al_G) : w ∈ lw_tbl ∧ goodWord w = true := List.mem_filter.mp h
theorem al_Gts {args : Array Value} {s : State} (h : ∀ w ∈ lw_tbl, w.before args s = true) : ∀ w ∈ al_G, w.before args s = true := fun w hw => h w (al_good hw).1
theorem al_GoodIn {y : MethodName} {bytes : ByteArray} {maxL : Nat} {ret : Option FieldType} (h : Cond.code y bytes maxL ret ∈ al_G) : GoodIn al_G (Cond.code y bytes maxL ret :: al_G) := fun w hw => by
  have h1 : w ∈ al_G := by
    rcases List.mem_cons.mp hw with e | e
    · rw [e]; exact h
    · exact e
  exact ⟨h1, good_of_word (al_good h1).2⟩
theorem al_ini_RL : Cond.initialized RL ∈ al_G := al_g (al_t1 (List.mem_of_getElem? (i := 0) rfl)) rfl
theorem al_ini_RX8 : Cond.initialized RX8 ∈ al_G := al_g (al_t1 (List.mem_of_getElem? (i := 1) rfl)) rfl
theorem al_ini_RX6 : Cond.initialized RX6 ∈ al_G := al_g (al_t1 (List.mem_of_getElem? (i := 2) rfl)) rfl
theorem al_ini_RX2 : Cond.initialized RX2 ∈ al_G := al_g (al_t1 (List.mem_of_getElem? (i := 3) rfl)) rfl
theorem al_ini_RX0 : Cond.initialized RX0 ∈ al_G := al_g (al_t1 (List.mem_of_getElem? (i := 4) rfl)) rfl
theorem al_ini_RX5 : Cond.initialized RX5 ∈ al_G := al_g (al_t1 (List.mem_of_getElem? (i := 5) rfl)) rfl
theorem al_ini_RX1 : Cond.initialized RX1 ∈ al_G := al_g (al_t1 (List.mem_of_getElem? (i := 6) rfl)) rfl
theorem al_ini_RX4 : Cond.initialized RX4 ∈ al_G := al_g (al_t1 (List.mem_of_getElem? (i := 7) rfl)) rfl
theorem al_ini_RX7 : Cond.initialized RX7 ∈ al_G := al_g (al_t1 (List.mem_of_getElem? (i := 8) rfl)) rfl
theorem al_ini_RX3 : Cond.initialized RX3 ∈ al_G := al_g (al_t1 (List.mem_of_getElem? (i := 9) rfl)) rfl
theorem al_ini_RJ9 : Cond.initialized RJ9 ∈ al_G := al_g (al_t1 (List.mem_of_getElem? (i := 10) rfl)) rfl
theorem al_ini_RJ6 : Cond.initialized RJ6 ∈ al_G := al_g (al_t1 (List.mem_of_getElem? (i := 11) rfl)) rfl
theorem al_cl_RL_13 : Cond.classLink RL 13 RX8 ∈ lw_tbl := al_t1 (List.mem_of_getElem? (i := 12) rfl)
theorem al_new_RX8 : Cond.instantiable RX8 6 ∈ lw_tbl := al_t1 (List.mem_of_getElem? (i := 13) rfl)
theorem al_ml_RL_87 : Cond.methodLink RL 87 yX8_init ∈ al_G := al_g (al_t1 (List.mem_of_getElem? (i := 14) rfl)) rfl
theorem al_in_X8_init : Cond.instanceMethod yX8_init ∈ al_G := al_g (al_t1 (List.mem_of_getElem? (i := 15) rfl)) rfl
theorem al_c_X8_init : Cond.code yX8_init cX8_init 1 none ∈ al_G := al_g (al_t1 (List.mem_of_getElem? (i := 16) rfl)) rfl
theorem al_ml_RX8_1 : Cond.methodLink RX8 1 ⟨"java/lang/Object", "<init>", "()V"⟩ ∈ al_G := al_g (al_t1 (List.mem_of_getElem? (i := 17) rfl)) rfl
theorem al_cl_RX8_7 : Cond.classLink RX8 7 RX6 ∈ lw_tbl := al_t1 (List.mem_of_getElem? (i := 20) rfl)
theorem al_new_RX6 : Cond.instantiable RX6 4 ∈ lw_tbl := al_t1 (List.mem_of_getElem? (i := 21) rfl)
theorem al_ml_RX8_9 : Cond.methodLink RX8 9 yX6_init ∈ al_G := al_g (al_t1 (List.mem_of_getElem? (i := 22) rfl)) rfl
theorem al_in_X6_init : Cond.instanceMethod yX6_init ∈ al_G := al_g (al_t1 (List.mem_of_getElem? (i := 23) rfl)) rfl
theorem al_c_X6_init : Cond.code yX6_init cX6_init 1 none ∈ al_G := al_g (al_t1 (List.mem_of_getElem? (i := 24) rfl)) rfl
theorem al_ml_RX6_3 : Cond.methodLink RX6 3 ⟨"java/lang/Object", "<init>", "()V"⟩ ∈ al_G := al_g (al_t1 (List.mem_of_getElem? (i := 25) rfl)) rfl
theorem al_cl_RX6_9 : Cond.classLink RX6 9 RX2 ∈ lw_tbl := al_t1 (List.mem_of_getElem? (i := 26) rfl)
theorem al_new_RX2 : Cond.instantiable RX2 1 ∈ lw_tbl := al_t1 (List.mem_of_getElem? (i := 27) rfl)
theorem al_ml_RX6_11 : Cond.methodLink RX6 11 yX2_init ∈ al_G := al_g (al_t1 (List.mem_of_getElem? (i := 28) rfl)) rfl
theorem al_in_X2_init : Cond.instanceMethod yX2_init ∈ al_G := al_g (al_t1 (List.mem_of_getElem? (i := 29) rfl)) rfl
theorem al_c_X2_init : Cond.code yX2_init cX2_init 1 none ∈ al_G := al_g (al_t1 (List.mem_of_getElem? (i := 30) rfl)) rfl
theorem al_ml_RX2_3 : Cond.methodLink RX2 3 ⟨"java/lang/Object", "<init>", "()V"⟩ ∈ al_G := al_g (al_t1 (List.mem_of_getElem? (i := 31) rfl)) rfl
theorem al_fl_RX2_9 : Cond.fieldLink RX2 9 "AncestorLooks$Row" "cells" "[I" ∈ al_G := al_g (al_t1 (List.mem_of_getElem? (i := 32) rfl)) rfl
theorem al_ac_int : Cond.arrayClass .int ∈ lw_tbl := al_t1 (List.mem_of_getElem? (i := 36) rfl)
theorem al_cl_RX6_21 : Cond.classLink RX6 21 RX0 ∈ lw_tbl := al_t1 (List.mem_of_getElem? (i := 37) rfl)
theorem al_new_RX0 : Cond.instantiable RX0 1 ∈ lw_tbl := al_t1 (List.mem_of_getElem? (i := 38) rfl)
theorem al_ml_RX6_23 : Cond.methodLink RX6 23 yX0_init ∈ al_G := al_g (al_t1 (List.mem_of_getElem? (i := 39) rfl)) rfl
theorem al_in_X0_init : Cond.instanceMethod yX0_init ∈ al_G := al_g (al_t1 (List.mem_of_getElem? (i := 40) rfl)) rfl
theorem al_c_X0_init : Cond.code yX0_init cX0_init 1 none ∈ al_G := al_g (al_t1 (List.mem_of_getElem? (i := 41) rfl)) rfl
theorem al_ml_RX0_3 : Cond.methodLink RX0 3 ⟨"java/lang/Object", "<init>", "()V"⟩ ∈ al_G := al_g (al_t1 (List.mem_of_getElem? (i := 42) rfl)) rfl
theorem al_fl_RX0_9 : Cond.fieldLink RX0 9 "AncestorLooks$FloatRow" "cells" "[F" ∈ al_G := al_g (al_t1 (List.mem_of_getElem? (i := 43) rfl)) rfl
theorem al_ac_float : Cond.arrayClass .float ∈ lw_tbl := al_t1 (List.mem_of_getElem? (i := 47) rfl)
theorem al_ml_RX6_28 : Cond.methodLink RX6 28 yX2_set ∈ al_G := al_g (al_t1 (List.mem_of_getElem? (i := 48) rfl)) rfl
theorem al_in_X2_set : Cond.instanceMethod yX2_set ∈ al_G := al_g (al_t1 (List.mem_of_getElem? (i := 49) rfl)) rfl
theorem al_se_X2_set : Cond.selects yX2_set.cls yX2_set yX2_set ∈ al_G := al_g (al_t1 (List.mem_of_getElem? (i := 50) rfl)) rfl
theorem al_c_X2_set : Cond.code yX2_set cX2_set 3 none ∈ al_G := al_g (al_t1 (List.mem_of_getElem? (i := 51) rfl)) rfl
theorem al_fl_RX6_12 : Cond.fieldLink RX6 12 "AncestorLooks$Tree" "parents" "LAncestorLooks$Row;" ∈ al_G := al_g (al_t1 (List.mem_of_getElem? (i := 52) rfl)) rfl
theorem al_fl_RX6_18 : Cond.fieldLink RX6 18 "AncestorLooks$Tree" "bits" "LAncestorLooks$Row;" ∈ al_G := al_g (al_t1 (List.mem_of_getElem? (i := 53) rfl)) rfl
theorem al_fl_RX6_24 : Cond.fieldLink RX6 24 "AncestorLooks$Tree" "lengths" "LAncestorLooks$FloatRow;" ∈ al_G := al_g (al_t1 (List.mem_of_getElem? (i := 54) rfl)) rfl
theorem al_fl_RX6_32 : Cond.fieldLink RX6 32 "AncestorLooks$Tree" "ever" "I" ∈ al_G := al_g (al_t1 (List.mem_of_getElem? (i := 55) rfl)) rfl
theorem al_cl_RX8_16 : Cond.classLink RX8 16 RX5 ∈ lw_tbl := al_t1 (List.mem_of_getElem? (i := 65) rfl)
theorem al_new_RX5 : Cond.instantiable RX5 2 ∈ lw_tbl := al_t1 (List.mem_of_getElem? (i := 66) rfl)
theorem al_ml_RX8_18 : Cond.methodLink RX8 18 yX5_init ∈ al_G := al_g (al_t1 (List.mem_of_getElem? (i := 67) rfl)) rfl
theorem al_in_X5_init : Cond.instanceMethod yX5_init ∈ al_G := al_g (al_t1 (List.mem_of_getElem? (i := 68) rfl)) rfl
theorem al_c_X5_init : Cond.code yX5_init cX5_init 1 none ∈ al_G := al_g (al_t1 (List.mem_of_getElem? (i := 69) rfl)) rfl
theorem al_ml_RX5_3 : Cond.methodLink RX5 3 ⟨"java/lang/Object", "<init>", "()V"⟩ ∈ al_G := al_g (al_t1 (List.mem_of_getElem? (i := 70) rfl)) rfl
theorem al_fl_RX5_9 : Cond.fieldLink RX5 9 "AncestorLooks$Text" "signs" "[C" ∈ al_G := al_g (al_t1 (List.mem_of_getElem? (i := 71) rfl)) rfl
theorem al_fl_RX5_15 : Cond.fieldLink RX5 15 "AncestorLooks$Text" "used" "I" ∈ al_G := al_g (al_t1 (List.mem_of_getElem? (i := 72) rfl)) rfl
theorem al_ac_char : Cond.arrayClass .char ∈ lw_tbl := al_t1 (List.mem_of_getElem? (i := 78) rfl)
theorem al_cl_RX8_23 : Cond.classLink RX8 23 RX1 ∈ lw_tbl := al_t1 (List.mem_of_getElem? (i := 79) rfl)
theorem al_new_RX1 : Cond.instantiable RX1 4 ∈ lw_tbl := al_t1 (List.mem_of_getElem? (i := 80) rfl)
theorem al_ml_RX8_25 : Cond.methodLink RX8 25 yX1_init ∈ al_G := al_g (al_t1 (List.mem_of_getElem? (i := 81) rfl)) rfl
theorem al_in_X1_init : Cond.instanceMethod yX1_init ∈ al_G := al_g (al_t1 (List.mem_of_getElem? (i := 82) rfl)) rfl
theorem al_c_X1_init : Cond.code yX1_init cX1_init 2 none ∈ al_G := al_g (al_t1 (List.mem_of_getElem? (i := 83) rfl)) rfl
theorem al_ml_RX1_3 : Cond.methodLink RX1 3 ⟨"java/lang/Object", "<init>", "()V"⟩ ∈ al_G := al_g (al_t1 (List.mem_of_getElem? (i := 84) rfl)) rfl
theorem al_cl_RX1_9 : Cond.classLink RX1 9 RX6 ∈ lw_tbl := al_t1 (List.mem_of_getElem? (i := 85) rfl)
theorem al_ml_RX1_17 : Cond.methodLink RX1 17 yX6_init ∈ al_G := al_g (al_t1 (List.mem_of_getElem? (i := 87) rfl)) rfl
theorem al_fl_RX1_11 : Cond.fieldLink RX1 11 "AncestorLooks$History" "states" "[LAncestorLooks$Tree;" ∈ al_G := al_g (al_t1 (List.mem_of_getElem? (i := 88) rfl)) rfl
theorem al_fl_RX1_18 : Cond.fieldLink RX1 18 "AncestorLooks$History" "snapshot" "LAncestorLooks$Tree;" ∈ al_G := al_g (al_t1 (List.mem_of_getElem? (i := 89) rfl)) rfl
theorem al_fl_RX1_22 : Cond.fieldLink RX1 22 "AncestorLooks$History" "used" "I" ∈ al_G := al_g (al_t1 (List.mem_of_getElem? (i := 90) rfl)) rfl
theorem al_fl_RX1_26 : Cond.fieldLink RX1 26 "AncestorLooks$History" "kept" "Z" ∈ al_G := al_g (al_t1 (List.mem_of_getElem? (i := 91) rfl)) rfl
theorem al_cl_RX8_30 : Cond.classLink RX8 30 RX4 ∈ lw_tbl := al_t1 (List.mem_of_getElem? (i := 101) rfl)
theorem al_new_RX4 : Cond.instantiable RX4 12 ∈ lw_tbl := al_t1 (List.mem_of_getElem? (i := 102) rfl)
theorem al_ml_RX8_32 : Cond.methodLink RX8 32 yX4_init ∈ al_G := al_g (al_t1 (List.mem_of_getElem? (i := 103) rfl)) rfl
theorem al_in_X4_init : Cond.instanceMethod yX4_init ∈ al_G := al_g (al_t1 (List.mem_of_getElem? (i := 104) rfl)) rfl
theorem al_c_X4_init : Cond.code yX4_init cX4_init 2 none ∈ al_G := al_g (al_t1 (List.mem_of_getElem? (i := 105) rfl)) rfl
theorem al_ml_RX4_3 : Cond.methodLink RX4 3 ⟨"java/lang/Object", "<init>", "()V"⟩ ∈ al_G := al_g (al_t1 (List.mem_of_getElem? (i := 106) rfl)) rfl
theorem al_cl_RX4_15 : Cond.classLink RX4 15 RX2 ∈ lw_tbl := al_t1 (List.mem_of_getElem? (i := 107) rfl)
theorem al_ml_RX4_17 : Cond.methodLink RX4 17 yX2_init ∈ al_G := al_g (al_t1 (List.mem_of_getElem? (i := 108) rfl)) rfl
theorem al_fl_RX4_9 : Cond.fieldLink RX4 9 "AncestorLooks$Survey" "tree" "LAncestorLooks$Tree;" ∈ al_G := al_g (al_t1 (List.mem_of_getElem? (i := 109) rfl)) rfl
theorem al_fl_RX4_18 : Cond.fieldLink RX4 18 "AncestorLooks$Survey" "firstChild" "LAncestorLooks$Row;" ∈ al_G := al_g (al_t1 (List.mem_of_getElem? (i := 110) rfl)) rfl
theorem al_fl_RX4_22 : Cond.fieldLink RX4 22 "AncestorLooks$Survey" "nextChild" "LAncestorLooks$Row;" ∈ al_G := al_g (al_t1 (List.mem_of_getElem? (i := 111) rfl)) rfl
theorem al_fl_RX4_25 : Cond.fieldLink RX4 25 "AncestorLooks$Survey" "downward" "LAncestorLooks$Row;" ∈ al_G := al_g (al_t1 (List.mem_of_getElem? (i := 112) rfl)) rfl
theorem al_fl_RX4_28 : Cond.fieldLink RX4 28 "AncestorLooks$Survey" "depths" "LAncestorLooks$Row;" ∈ al_G := al_g (al_t1 (List.mem_of_getElem? (i := 113) rfl)) rfl
theorem al_fl_RX4_31 : Cond.fieldLink RX4 31 "AncestorLooks$Survey" "heights" "LAncestorLooks$Row;" ∈ al_G := al_g (al_t1 (List.mem_of_getElem? (i := 114) rfl)) rfl
theorem al_fl_RX4_34 : Cond.fieldLink RX4 34 "AncestorLooks$Survey" "children" "LAncestorLooks$Row;" ∈ al_G := al_g (al_t1 (List.mem_of_getElem? (i := 115) rfl)) rfl
theorem al_fl_RX4_37 : Cond.fieldLink RX4 37 "AncestorLooks$Survey" "sizes" "LAncestorLooks$Row;" ∈ al_G := al_g (al_t1 (List.mem_of_getElem? (i := 116) rfl)) rfl
theorem al_fl_RX4_40 : Cond.fieldLink RX4 40 "AncestorLooks$Survey" "longChildren" "LAncestorLooks$Row;" ∈ al_G := al_g (al_t1 (List.mem_of_getElem? (i := 117) rfl)) rfl
theorem al_fl_RX4_43 : Cond.fieldLink RX4 43 "AncestorLooks$Survey" "tops" "LAncestorLooks$Row;" ∈ al_G := al_g (al_t1 (List.mem_of_getElem? (i := 118) rfl)) rfl
theorem al_fl_RX4_46 : Cond.fieldLink RX4 46 "AncestorLooks$Survey" "feet" "LAncestorLooks$Row;" ∈ al_G := al_g (al_t1 (List.mem_of_getElem? (i := 119) rfl)) rfl
theorem al_fl_RX4_49 : Cond.fieldLink RX4 49 "AncestorLooks$Survey" "present" "I" ∈ al_G := al_g (al_t1 (List.mem_of_getElem? (i := 120) rfl)) rfl
theorem al_cl_RX8_39 : Cond.classLink RX8 39 RX7 ∈ lw_tbl := al_t1 (List.mem_of_getElem? (i := 146) rfl)
theorem al_new_RX7 : Cond.instantiable RX7 7 ∈ lw_tbl := al_t1 (List.mem_of_getElem? (i := 147) rfl)
theorem al_ml_RX8_41 : Cond.methodLink RX8 41 yX7_init ∈ al_G := al_g (al_t1 (List.mem_of_getElem? (i := 148) rfl)) rfl
theorem al_in_X7_init : Cond.instanceMethod yX7_init ∈ al_G := al_g (al_t1 (List.mem_of_getElem? (i := 149) rfl)) rfl
theorem al_c_X7_init : Cond.code yX7_init cX7_init 3 none ∈ al_G := al_g (al_t1 (List.mem_of_getElem? (i := 150) rfl)) rfl
theorem al_ml_RX7_3 : Cond.methodLink RX7 3 ⟨"java/lang/Object", "<init>", "()V"⟩ ∈ al_G := al_g (al_t1 (List.mem_of_getElem? (i := 151) rfl)) rfl
theorem al_cl_RX7_19 : Cond.classLink RX7 19 RX0 ∈ lw_tbl := al_t1 (List.mem_of_getElem? (i := 152) rfl)
theorem al_ml_RX7_21 : Cond.methodLink RX7 21 yX0_init ∈ al_G := al_g (al_t1 (List.mem_of_getElem? (i := 153) rfl)) rfl
theorem al_cl_RX7_29 : Cond.classLink RX7 29 RX2 ∈ lw_tbl := al_t1 (List.mem_of_getElem? (i := 154) rfl)
theorem al_ml_RX7_31 : Cond.methodLink RX7 31 yX2_init ∈ al_G := al_g (al_t1 (List.mem_of_getElem? (i := 155) rfl)) rfl
theorem al_fl_RX7_9 : Cond.fieldLink RX7 9 "AncestorLooks$Ways" "tree" "LAncestorLooks$Tree;" ∈ al_G := al_g (al_t1 (List.mem_of_getElem? (i := 156) rfl)) rfl
theorem al_fl_RX7_15 : Cond.fieldLink RX7 15 "AncestorLooks$Ways" "survey" "LAncestorLooks$Survey;" ∈ al_G := al_g (al_t1 (List.mem_of_getElem? (i := 157) rfl)) rfl
theorem al_fl_RX7_22 : Cond.fieldLink RX7 22 "AncestorLooks$Ways" "paths" "LAncestorLooks$FloatRow;" ∈ al_G := al_g (al_t1 (List.mem_of_getElem? (i := 158) rfl)) rfl
theorem al_fl_RX7_26 : Cond.fieldLink RX7 26 "AncestorLooks$Ways" "meetingPaths" "LAncestorLooks$FloatRow;" ∈ al_G := al_g (al_t1 (List.mem_of_getElem? (i := 159) rfl)) rfl
theorem al_fl_RX7_32 : Cond.fieldLink RX7 32 "AncestorLooks$Ways" "marks" "LAncestorLooks$Row;" ∈ al_G := al_g (al_t1 (List.mem_of_getElem? (i := 160) rfl)) rfl
theorem al_fl_RX7_36 : Cond.fieldLink RX7 36 "AncestorLooks$Ways" "pairFirst" "I" ∈ al_G := al_g (al_t1 (List.mem_of_getElem? (i := 161) rfl)) rfl
theorem al_fl_RX7_40 : Cond.fieldLink RX7 40 "AncestorLooks$Ways" "pairSecond" "I" ∈ al_G := al_g (al_t1 (List.mem_of_getElem? (i := 162) rfl)) rfl
theorem al_cl_RX8_48 : Cond.classLink RX8 48 RX3 ∈ lw_tbl := al_t1 (List.mem_of_getElem? (i := 178) rfl)
theorem al_new_RX3 : Cond.instantiable RX3 5 ∈ lw_tbl := al_t1 (List.mem_of_getElem? (i := 179) rfl)
theorem al_ml_RX8_50 : Cond.methodLink RX8 50 yX3_init ∈ al_G := al_g (al_t1 (List.mem_of_getElem? (i := 180) rfl)) rfl
theorem al_in_X3_init : Cond.instanceMethod yX3_init ∈ al_G := al_g (al_t1 (List.mem_of_getElem? (i := 181) rfl)) rfl
theorem al_c_X3_init : Cond.code yX3_init cX3_init 3 none ∈ al_G := al_g (al_t1 (List.mem_of_getElem? (i := 182) rfl)) rfl
theorem al_ml_RX3_3 : Cond.methodLink RX3 3 ⟨"java/lang/Object", "<init>", "()V"⟩ ∈ al_G := al_g (al_t1 (List.mem_of_getElem? (i := 183) rfl)) rfl
theorem al_cl_RX3_19 : Cond.classLink RX3 19 RX2 ∈ lw_tbl := al_t1 (List.mem_of_getElem? (i := 184) rfl)
theorem al_ml_RX3_21 : Cond.methodLink RX3 21 yX2_init ∈ al_G := al_g (al_t1 (List.mem_of_getElem? (i := 185) rfl)) rfl
theorem al_fl_RX3_9 : Cond.fieldLink RX3 9 "AncestorLooks$Shapes" "tree" "LAncestorLooks$Tree;" ∈ al_G := al_g (al_t1 (List.mem_of_getElem? (i := 186) rfl)) rfl
theorem al_fl_RX3_15 : Cond.fieldLink RX3 15 "AncestorLooks$Shapes" "survey" "LAncestorLooks$Survey;" ∈ al_G := al_g (al_t1 (List.mem_of_getElem? (i := 187) rfl)) rfl
theorem al_fl_RX3_22 : Cond.fieldLink RX3 22 "AncestorLooks$Shapes" "shapes" "LAncestorLooks$Row;" ∈ al_G := al_g (al_t1 (List.mem_of_getElem? (i := 188) rfl)) rfl
theorem al_fl_RX3_26 : Cond.fieldLink RX3 26 "AncestorLooks$Shapes" "table" "LAncestorLooks$Row;" ∈ al_G := al_g (al_t1 (List.mem_of_getElem? (i := 189) rfl)) rfl
theorem al_fl_RX3_29 : Cond.fieldLink RX3 29 "AncestorLooks$Shapes" "kinds" "I" ∈ al_G := al_g (al_t1 (List.mem_of_getElem? (i := 190) rfl)) rfl
theorem al_ml_RX8_55 : Cond.methodLink RX8 55 yX8_lookAround ∈ al_G := al_g (al_t1 (List.mem_of_getElem? (i := 202) rfl)) rfl
theorem al_in_X8_lookAround : Cond.instanceMethod yX8_lookAround ∈ al_G := al_g (al_t1 (List.mem_of_getElem? (i := 204) rfl)) rfl
theorem al_c_X8_lookAround : Cond.code yX8_lookAround cX8_lookAround 1 none ∈ al_G := al_g (al_t1 (List.mem_of_getElem? (i := 205) rfl)) rfl
theorem al_ml_RX8_247 : Cond.methodLink RX8 247 yX4_take ∈ al_G := al_g (al_t1 (List.mem_of_getElem? (i := 206) rfl)) rfl
theorem al_in_X4_take : Cond.instanceMethod yX4_take ∈ al_G := al_g (al_t1 (List.mem_of_getElem? (i := 207) rfl)) rfl
theorem al_se_X4_take : Cond.selects yX4_take.cls yX4_take yX4_take ∈ al_G := al_g (al_t1 (List.mem_of_getElem? (i := 208) rfl)) rfl
theorem al_c_X4_take : Cond.code yX4_take cX4_take 1 none ∈ al_G := al_g (al_t1 (List.mem_of_getElem? (i := 209) rfl)) rfl
theorem al_ml_RX4_53 : Cond.methodLink RX4 53 yX4_linkChildren ∈ al_G := al_g (al_t1 (List.mem_of_getElem? (i := 210) rfl)) rfl
theorem al_in_X4_linkChildren : Cond.instanceMethod yX4_linkChildren ∈ al_G := al_g (al_t1 (List.mem_of_getElem? (i := 212) rfl)) rfl
theorem al_c_X4_linkChildren : Cond.code yX4_linkChildren cX4_linkChildren 3 none ∈ al_G := al_g (al_t1 (List.mem_of_getElem? (i := 213) rfl)) rfl
theorem al_ml_RX4_65 : Cond.methodLink RX4 65 yX2_fill ∈ al_G := al_g (al_t1 (List.mem_of_getElem? (i := 214) rfl)) rfl
theorem al_in_X2_fill : Cond.instanceMethod yX2_fill ∈ al_G := al_g (al_t1 (List.mem_of_getElem? (i := 215) rfl)) rfl
theorem al_se_X2_fill : Cond.selects yX2_fill.cls yX2_fill yX2_fill ∈ al_G := al_g (al_t1 (List.mem_of_getElem? (i := 216) rfl)) rfl
theorem al_c_X2_fill : Cond.code yX2_fill cX2_fill 3 none ∈ al_G := al_g (al_t1 (List.mem_of_getElem? (i := 217) rfl)) rfl
theorem al_ml_RX4_69 : Cond.methodLink RX4 69 yX6_isNode ∈ al_G := al_g (al_t1 (List.mem_of_getElem? (i := 218) rfl)) rfl
theorem al_in_X6_isNode : Cond.instanceMethod yX6_isNode ∈ al_G := al_g (al_t1 (List.mem_of_getElem? (i := 219) rfl)) rfl
theorem al_se_X6_isNode : Cond.selects yX6_isNode.cls yX6_isNode yX6_isNode ∈ al_G := al_g (al_t1 (List.mem_of_getElem? (i := 220) rfl)) rfl
theorem al_c_X6_isNode : Cond.code yX6_isNode cX6_isNode 2 (some .boolean) ∈ al_G := al_g (al_t1 (List.mem_of_getElem? (i := 221) rfl)) rfl
theorem al_ml_RX6_36 : Cond.methodLink RX6 36 yX2_get ∈ al_G := al_g (al_t1 (List.mem_of_getElem? (i := 222) rfl)) rfl
theorem al_in_X2_get : Cond.instanceMethod yX2_get ∈ al_G := al_g (al_t1 (List.mem_of_getElem? (i := 223) rfl)) rfl
theorem al_se_X2_get : Cond.selects yX2_get.cls yX2_get yX2_get ∈ al_G := al_g (al_t1 (List.mem_of_getElem? (i := 224) rfl)) rfl
theorem al_c_X2_get : Cond.code yX2_get cX2_get 2 (some .int) ∈ al_G := al_g (al_t1 (List.mem_of_getElem? (i := 225) rfl)) rfl
theorem al_ml_RX4_75 : Cond.methodLink RX4 75 yX6_parentOf ∈ al_G := al_g (al_t1 (List.mem_of_getElem? (i := 226) rfl)) rfl
theorem al_in_X6_parentOf : Cond.instanceMethod yX6_parentOf ∈ al_G := al_g (al_t1 (List.mem_of_getElem? (i := 227) rfl)) rfl
theorem al_se_X6_parentOf : Cond.selects yX6_parentOf.cls yX6_parentOf yX6_parentOf ∈ al_G := al_g (al_t1 (List.mem_of_getElem? (i := 228) rfl)) rfl
theorem al_c_X6_parentOf : Cond.code yX6_parentOf cX6_parentOf 2 (some .int) ∈ al_G := al_g (al_t1 (List.mem_of_getElem? (i := 229) rfl)) rfl
theorem al_ml_RX4_79 : Cond.methodLink RX4 79 yX2_get ∈ al_G := al_g (al_t1 (List.mem_of_getElem? (i := 230) rfl)) rfl
theorem al_ml_RX4_82 : Cond.methodLink RX4 82 yX2_set ∈ al_G := al_g (al_t1 (List.mem_of_getElem? (i := 231) rfl)) rfl
theorem al_ml_RX4_56 : Cond.methodLink RX4 56 yX4_goDown ∈ al_G := al_g (al_t1 (List.mem_of_getElem? (i := 232) rfl)) rfl
theorem al_in_X4_goDown : Cond.instanceMethod yX4_goDown ∈ al_G := al_g (al_t1 (List.mem_of_getElem? (i := 234) rfl)) rfl
theorem al_c_X4_goDown : Cond.code yX4_goDown cX4_goDown 5 none ∈ al_G := al_g (al_t1 (List.mem_of_getElem? (i := 235) rfl)) rfl
theorem al_ml_RX4_59 : Cond.methodLink RX4 59 yX4_goUp ∈ al_G := al_g (al_t1 (List.mem_of_getElem? (i := 236) rfl)) rfl
theorem al_in_X4_goUp : Cond.instanceMethod yX4_goUp ∈ al_G := al_g (al_t1 (List.mem_of_getElem? (i := 238) rfl)) rfl
theorem al_c_X4_goUp : Cond.code yX4_goUp cX4_goUp 2 none ∈ al_G := al_g (al_t1 (List.mem_of_getElem? (i := 239) rfl)) rfl
theorem al_ml_RX4_86 : Cond.methodLink RX4 86 yX4_measure ∈ al_G := al_g (al_t2 (List.mem_of_getElem? (i := 0) rfl)) rfl
theorem al_in_X4_measure : Cond.instanceMethod yX4_measure ∈ al_G := al_g (al_t2 (List.mem_of_getElem? (i := 2) rfl)) rfl
theorem al_c_X4_measure : Cond.code yX4_measure cX4_measure 7 none ∈ al_G := al_g (al_t2 (List.mem_of_getElem? (i := 3) rfl)) rfl
theorem al_ml_RX4_62 : Cond.methodLink RX4 62 yX4_findTops ∈ al_G := al_g (al_t2 (List.mem_of_getElem? (i := 4) rfl)) rfl
theorem al_in_X4_findTops : Cond.instanceMethod yX4_findTops ∈ al_G := al_g (al_t2 (List.mem_of_getElem? (i := 6) rfl)) rfl
theorem al_c_X4_findTops : Cond.code yX4_findTops cX4_findTops 5 none ∈ al_G := al_g (al_t2 (List.mem_of_getElem? (i := 7) rfl)) rfl
theorem al_ml_RX8_250 : Cond.methodLink RX8 250 yX7_take ∈ al_G := al_g (al_t2 (List.mem_of_getElem? (i := 8) rfl)) rfl
theorem al_in_X7_take : Cond.instanceMethod yX7_take ∈ al_G := al_g (al_t2 (List.mem_of_getElem? (i := 9) rfl)) rfl
theorem al_se_X7_take : Cond.selects yX7_take.cls yX7_take yX7_take ∈ al_G := al_g (al_t2 (List.mem_of_getElem? (i := 10) rfl)) rfl
theorem al_c_X7_take : Cond.code yX7_take cX7_take 3 none ∈ al_G := al_g (al_t2 (List.mem_of_getElem? (i := 11) rfl)) rfl
theorem al_ml_RX7_43 : Cond.methodLink RX7 43 yX0_set ∈ al_G := al_g (al_t2 (List.mem_of_getElem? (i := 12) rfl)) rfl
theorem al_in_X0_set : Cond.instanceMethod yX0_set ∈ al_G := al_g (al_t2 (List.mem_of_getElem? (i := 13) rfl)) rfl
theorem al_se_X0_set : Cond.selects yX0_set.cls yX0_set yX0_set ∈ al_G := al_g (al_t2 (List.mem_of_getElem? (i := 14) rfl)) rfl
theorem al_c_X0_set : Cond.code yX0_set cX0_set 3 none ∈ al_G := al_g (al_t2 (List.mem_of_getElem? (i := 15) rfl)) rfl
theorem al_ml_RX7_47 : Cond.methodLink RX7 47 yX4_present ∈ al_G := al_g (al_t2 (List.mem_of_getElem? (i := 16) rfl)) rfl
theorem al_in_X4_present : Cond.instanceMethod yX4_present ∈ al_G := al_g (al_t2 (List.mem_of_getElem? (i := 17) rfl)) rfl
theorem al_se_X4_present : Cond.selects yX4_present.cls yX4_present yX4_present ∈ al_G := al_g (al_t2 (List.mem_of_getElem? (i := 18) rfl)) rfl
theorem al_c_X4_present : Cond.code yX4_present cX4_present 1 (some .int) ∈ al_G := al_g (al_t2 (List.mem_of_getElem? (i := 19) rfl)) rfl
theorem al_ml_RX7_53 : Cond.methodLink RX7 53 yX4_downwardAt ∈ al_G := al_g (al_t2 (List.mem_of_getElem? (i := 20) rfl)) rfl
theorem al_in_X4_downwardAt : Cond.instanceMethod yX4_downwardAt ∈ al_G := al_g (al_t2 (List.mem_of_getElem? (i := 21) rfl)) rfl
theorem al_se_X4_downwardAt : Cond.selects yX4_downwardAt.cls yX4_downwardAt yX4_downwardAt ∈ al_G := al_g (al_t2 (List.mem_of_getElem? (i := 22) rfl)) rfl
theorem al_c_X4_downwardAt : Cond.code yX4_downwardAt cX4_downwardAt 2 (some .int) ∈ al_G := al_g (al_t2 (List.mem_of_getElem? (i := 23) rfl)) rfl
theorem al_ml_RX7_57 : Cond.methodLink RX7 57 yX6_parentOf ∈ al_G := al_g (al_t2 (List.mem_of_getElem? (i := 24) rfl)) rfl
theorem al_ml_RX7_62 : Cond.methodLink RX7 62 yX0_get ∈ al_G := al_g (al_t2 (List.mem_of_getElem? (i := 25) rfl)) rfl
theorem al_in_X0_get : Cond.instanceMethod yX0_get ∈ al_G := al_g (al_t2 (List.mem_of_getElem? (i := 26) rfl)) rfl
theorem al_se_X0_get : Cond.selects yX0_get.cls yX0_get yX0_get ∈ al_G := al_g (al_t2 (List.mem_of_getElem? (i := 27) rfl)) rfl
theorem al_c_X0_get : Cond.code yX0_get cX0_get 2 (some .float) ∈ al_G := al_g (al_t2 (List.mem_of_getElem? (i := 28) rfl)) rfl
theorem al_ml_RX7_66 : Cond.methodLink RX7 66 yX6_lengthOf ∈ al_G := al_g (al_t2 (List.mem_of_getElem? (i := 29) rfl)) rfl
theorem al_in_X6_lengthOf : Cond.instanceMethod yX6_lengthOf ∈ al_G := al_g (al_t2 (List.mem_of_getElem? (i := 30) rfl)) rfl
theorem al_se_X6_lengthOf : Cond.selects yX6_lengthOf.cls yX6_lengthOf yX6_lengthOf ∈ al_G := al_g (al_t2 (List.mem_of_getElem? (i := 31) rfl)) rfl
theorem al_c_X6_lengthOf : Cond.code yX6_lengthOf cX6_lengthOf 2 (some .float) ∈ al_G := al_g (al_t2 (List.mem_of_getElem? (i := 32) rfl)) rfl
theorem al_ml_RX6_40 : Cond.methodLink RX6 40 yX0_get ∈ al_G := al_g (al_t2 (List.mem_of_getElem? (i := 33) rfl)) rfl
theorem al_fl_RX8_10 : Cond.fieldLink RX8 10 "AncestorLooks" "tree" "LAncestorLooks$Tree;" ∈ al_G := al_g (al_t2 (List.mem_of_getElem? (i := 34) rfl)) rfl
theorem al_fl_RX8_19 : Cond.fieldLink RX8 19 "AncestorLooks" "text" "LAncestorLooks$Text;" ∈ al_G := al_g (al_t2 (List.mem_of_getElem? (i := 35) rfl)) rfl
theorem al_fl_RX8_26 : Cond.fieldLink RX8 26 "AncestorLooks" "history" "LAncestorLooks$History;" ∈ al_G := al_g (al_t2 (List.mem_of_getElem? (i := 36) rfl)) rfl
theorem al_fl_RX8_35 : Cond.fieldLink RX8 35 "AncestorLooks" "survey" "LAncestorLooks$Survey;" ∈ al_G := al_g (al_t2 (List.mem_of_getElem? (i := 37) rfl)) rfl
theorem al_fl_RX8_44 : Cond.fieldLink RX8 44 "AncestorLooks" "ways" "LAncestorLooks$Ways;" ∈ al_G := al_g (al_t2 (List.mem_of_getElem? (i := 38) rfl)) rfl
theorem al_fl_RX8_51 : Cond.fieldLink RX8 51 "AncestorLooks" "shapes" "LAncestorLooks$Shapes;" ∈ al_G := al_g (al_t2 (List.mem_of_getElem? (i := 39) rfl)) rfl
theorem al_ml_RL_72 : Cond.methodLink RL 72 yX8_addLeaf ∈ al_G := al_g (al_t2 (List.mem_of_getElem? (i := 53) rfl)) rfl
theorem al_in_X8_addLeaf : Cond.instanceMethod yX8_addLeaf ∈ al_G := al_g (al_t2 (List.mem_of_getElem? (i := 54) rfl)) rfl
theorem al_se_X8_addLeaf : Cond.selects yX8_addLeaf.cls yX8_addLeaf yX8_addLeaf ∈ al_G := al_g (al_t2 (List.mem_of_getElem? (i := 55) rfl)) rfl
theorem al_c_X8_addLeaf : Cond.code yX8_addLeaf cX8_addLeaf 4 (some .int) ∈ al_G := al_g (al_t2 (List.mem_of_getElem? (i := 56) rfl)) rfl
theorem al_ml_RX8_58 : Cond.methodLink RX8 58 yX6_isNode ∈ al_G := al_g (al_t2 (List.mem_of_getElem? (i := 57) rfl)) rfl
theorem al_ml_RX8_62 : Cond.methodLink RX8 62 yX8_isLength ∈ al_G := al_g (al_t2 (List.mem_of_getElem? (i := 58) rfl)) rfl
theorem al_st_X8_isLength : Cond.static yX8_isLength ∈ al_G := al_g (al_t2 (List.mem_of_getElem? (i := 59) rfl)) rfl
theorem al_c_X8_isLength : Cond.code yX8_isLength cX8_isLength 1 (some .boolean) ∈ al_G := al_g (al_t2 (List.mem_of_getElem? (i := 60) rfl)) rfl
theorem al_k_RX8_252 : Cond.constant RX8 252 1148846080 ∈ al_G := al_g (al_t2 (List.mem_of_getElem? (i := 61) rfl)) rfl
theorem al_ml_RX8_65 : Cond.methodLink RX8 65 yX6_hasRoomFor ∈ al_G := al_g (al_t2 (List.mem_of_getElem? (i := 62) rfl)) rfl
theorem al_in_X6_hasRoomFor : Cond.instanceMethod yX6_hasRoomFor ∈ al_G := al_g (al_t2 (List.mem_of_getElem? (i := 63) rfl)) rfl
theorem al_se_X6_hasRoomFor : Cond.selects yX6_hasRoomFor.cls yX6_hasRoomFor yX6_hasRoomFor ∈ al_G := al_g (al_t2 (List.mem_of_getElem? (i := 64) rfl)) rfl
theorem al_c_X6_hasRoomFor : Cond.code yX6_hasRoomFor cX6_hasRoomFor 2 (some .boolean) ∈ al_G := al_g (al_t2 (List.mem_of_getElem? (i := 65) rfl)) rfl
theorem al_ml_RX8_68 : Cond.methodLink RX8 68 yX1_record ∈ al_G := al_g (al_t2 (List.mem_of_getElem? (i := 66) rfl)) rfl
theorem al_in_X1_record : Cond.instanceMethod yX1_record ∈ al_G := al_g (al_t2 (List.mem_of_getElem? (i := 67) rfl)) rfl
theorem al_se_X1_record : Cond.selects yX1_record.cls yX1_record yX1_record ∈ al_G := al_g (al_t2 (List.mem_of_getElem? (i := 68) rfl)) rfl
theorem al_c_X1_record : Cond.code yX1_record cX1_record 3 none ∈ al_G := al_g (al_t2 (List.mem_of_getElem? (i := 69) rfl)) rfl
theorem al_ml_RX1_30 : Cond.methodLink RX1 30 yX1_dropOldest ∈ al_G := al_g (al_t2 (List.mem_of_getElem? (i := 70) rfl)) rfl
theorem al_in_X1_dropOldest : Cond.instanceMethod yX1_dropOldest ∈ al_G := al_g (al_t2 (List.mem_of_getElem? (i := 72) rfl)) rfl
theorem al_c_X1_dropOldest : Cond.code yX1_dropOldest cX1_dropOldest 3 none ∈ al_G := al_g (al_t2 (List.mem_of_getElem? (i := 73) rfl)) rfl
theorem al_ml_RX1_33 : Cond.methodLink RX1 33 yX1_stateAt ∈ al_G := al_g (al_t2 (List.mem_of_getElem? (i := 74) rfl)) rfl
theorem al_in_X1_stateAt : Cond.instanceMethod yX1_stateAt ∈ al_G := al_g (al_t2 (List.mem_of_getElem? (i := 76) rfl)) rfl
theorem al_c_X1_stateAt : Cond.code yX1_stateAt cX1_stateAt 2 (some (.object "AncestorLooks$Tree")) ∈ al_G := al_g (al_t2 (List.mem_of_getElem? (i := 77) rfl)) rfl
theorem al_ml_RX1_37 : Cond.methodLink RX1 37 yX6_copyFrom ∈ al_G := al_g (al_t2 (List.mem_of_getElem? (i := 78) rfl)) rfl
theorem al_in_X6_copyFrom : Cond.instanceMethod yX6_copyFrom ∈ al_G := al_g (al_t2 (List.mem_of_getElem? (i := 79) rfl)) rfl
theorem al_se_X6_copyFrom : Cond.selects yX6_copyFrom.cls yX6_copyFrom yX6_copyFrom ∈ al_G := al_g (al_t2 (List.mem_of_getElem? (i := 80) rfl)) rfl
theorem al_c_X6_copyFrom : Cond.code yX6_copyFrom cX6_copyFrom 2 none ∈ al_G := al_g (al_t2 (List.mem_of_getElem? (i := 81) rfl)) rfl
theorem al_ml_RX6_50 : Cond.methodLink RX6 50 yX2_copyFrom ∈ al_G := al_g (al_t2 (List.mem_of_getElem? (i := 82) rfl)) rfl
theorem al_in_X2_copyFrom : Cond.instanceMethod yX2_copyFrom ∈ al_G := al_g (al_t2 (List.mem_of_getElem? (i := 83) rfl)) rfl
theorem al_se_X2_copyFrom : Cond.selects yX2_copyFrom.cls yX2_copyFrom yX2_copyFrom ∈ al_G := al_g (al_t2 (List.mem_of_getElem? (i := 84) rfl)) rfl
theorem al_c_X2_copyFrom : Cond.code yX2_copyFrom cX2_copyFrom 3 none ∈ al_G := al_g (al_t2 (List.mem_of_getElem? (i := 85) rfl)) rfl
theorem al_ml_RX2_15 : Cond.methodLink RX2 15 yX2_get ∈ al_G := al_g (al_t2 (List.mem_of_getElem? (i := 86) rfl)) rfl
theorem al_ml_RX6_54 : Cond.methodLink RX6 54 yX0_copyFrom ∈ al_G := al_g (al_t2 (List.mem_of_getElem? (i := 87) rfl)) rfl
theorem al_in_X0_copyFrom : Cond.instanceMethod yX0_copyFrom ∈ al_G := al_g (al_t2 (List.mem_of_getElem? (i := 88) rfl)) rfl
theorem al_se_X0_copyFrom : Cond.selects yX0_copyFrom.cls yX0_copyFrom yX0_copyFrom ∈ al_G := al_g (al_t2 (List.mem_of_getElem? (i := 89) rfl)) rfl
theorem al_c_X0_copyFrom : Cond.code yX0_copyFrom cX0_copyFrom 3 none ∈ al_G := al_g (al_t2 (List.mem_of_getElem? (i := 90) rfl)) rfl
theorem al_ml_RX0_15 : Cond.methodLink RX0 15 yX0_get ∈ al_G := al_g (al_t2 (List.mem_of_getElem? (i := 91) rfl)) rfl
theorem al_ml_RX8_71 : Cond.methodLink RX8 71 yX8_toFloat ∈ al_G := al_g (al_t2 (List.mem_of_getElem? (i := 92) rfl)) rfl
theorem al_st_X8_toFloat : Cond.static yX8_toFloat ∈ al_G := al_g (al_t2 (List.mem_of_getElem? (i := 93) rfl)) rfl
theorem al_c_X8_toFloat : Cond.code yX8_toFloat cX8_toFloat 5 (some .float) ∈ al_G := al_g (al_t2 (List.mem_of_getElem? (i := 94) rfl)) rfl
theorem al_k_RX8_253 : Cond.constant RX8 253 8388607 ∈ al_G := al_g (al_t2 (List.mem_of_getElem? (i := 95) rfl)) rfl
theorem al_k_RX8_254 : Cond.constant RX8 254 8388608 ∈ al_G := al_g (al_t2 (List.mem_of_getElem? (i := 96) rfl)) rfl
theorem al_k_RX8_255 : Cond.constantFloat RX8 255 1056964608 ∈ al_G := al_g (al_t2 (List.mem_of_getElem? (i := 97) rfl)) rfl
theorem al_ml_RX8_75 : Cond.methodLink RX8 75 yX6_append ∈ al_G := al_g (al_t2 (List.mem_of_getElem? (i := 98) rfl)) rfl
theorem al_in_X6_append : Cond.instanceMethod yX6_append ∈ al_G := al_g (al_t2 (List.mem_of_getElem? (i := 99) rfl)) rfl
theorem al_se_X6_append : Cond.selects yX6_append.cls yX6_append yX6_append ∈ al_G := al_g (al_t2 (List.mem_of_getElem? (i := 100) rfl)) rfl
theorem al_c_X6_append : Cond.code yX6_append cX6_append 5 (some .int) ∈ al_G := al_g (al_t2 (List.mem_of_getElem? (i := 101) rfl)) rfl
theorem al_ml_RX6_43 : Cond.methodLink RX6 43 yX6_stretch ∈ al_G := al_g (al_t2 (List.mem_of_getElem? (i := 102) rfl)) rfl
theorem al_in_X6_stretch : Cond.instanceMethod yX6_stretch ∈ al_G := al_g (al_t2 (List.mem_of_getElem? (i := 103) rfl)) rfl
theorem al_se_X6_stretch : Cond.selects yX6_stretch.cls yX6_stretch yX6_stretch ∈ al_G := al_g (al_t2 (List.mem_of_getElem? (i := 104) rfl)) rfl
theorem al_c_X6_stretch : Cond.code yX6_stretch cX6_stretch 4 none ∈ al_G := al_g (al_t2 (List.mem_of_getElem? (i := 105) rfl)) rfl
theorem al_ml_RX6_47 : Cond.methodLink RX6 47 yX0_set ∈ al_G := al_g (al_t2 (List.mem_of_getElem? (i := 106) rfl)) rfl
theorem al_ml_RL_78 : Cond.methodLink RL 78 yX8_graft ∈ al_G := al_g (al_t2 (List.mem_of_getElem? (i := 107) rfl)) rfl
theorem al_in_X8_graft : Cond.instanceMethod yX8_graft ∈ al_G := al_g (al_t2 (List.mem_of_getElem? (i := 108) rfl)) rfl
theorem al_se_X8_graft : Cond.selects yX8_graft.cls yX8_graft yX8_graft ∈ al_G := al_g (al_t2 (List.mem_of_getElem? (i := 109) rfl)) rfl
theorem al_c_X8_graft : Cond.code yX8_graft cX8_graft 4 (some .int) ∈ al_G := al_g (al_t2 (List.mem_of_getElem? (i := 110) rfl)) rfl
theorem al_ml_RX8_93 : Cond.methodLink RX8 93 yX4_isInBranch ∈ al_G := al_g (al_t2 (List.mem_of_getElem? (i := 111) rfl)) rfl
theorem al_in_X4_isInBranch : Cond.instanceMethod yX4_isInBranch ∈ al_G := al_g (al_t2 (List.mem_of_getElem? (i := 112) rfl)) rfl
theorem al_se_X4_isInBranch : Cond.selects yX4_isInBranch.cls yX4_isInBranch yX4_isInBranch ∈ al_G := al_g (al_t2 (List.mem_of_getElem? (i := 113) rfl)) rfl
theorem al_c_X4_isInBranch : Cond.code yX4_isInBranch cX4_isInBranch 4 (some .boolean) ∈ al_G := al_g (al_t2 (List.mem_of_getElem? (i := 114) rfl)) rfl
theorem al_ml_RX4_98 : Cond.methodLink RX4 98 yX4_climb ∈ al_G := al_g (al_t2 (List.mem_of_getElem? (i := 115) rfl)) rfl
theorem al_in_X4_climb : Cond.instanceMethod yX4_climb ∈ al_G := al_g (al_t2 (List.mem_of_getElem? (i := 116) rfl)) rfl
theorem al_se_X4_climb : Cond.selects yX4_climb.cls yX4_climb yX4_climb ∈ al_G := al_g (al_t2 (List.mem_of_getElem? (i := 117) rfl)) rfl
theorem al_c_X4_climb : Cond.code yX4_climb cX4_climb 5 (some .int) ∈ al_G := al_g (al_t2 (List.mem_of_getElem? (i := 118) rfl)) rfl
theorem al_ml_RX8_82 : Cond.methodLink RX8 82 yX6_parentOf ∈ al_G := al_g (al_t2 (List.mem_of_getElem? (i := 119) rfl)) rfl
theorem al_ml_RX8_97 : Cond.methodLink RX8 97 yX6_hang ∈ al_G := al_g (al_t2 (List.mem_of_getElem? (i := 120) rfl)) rfl
theorem al_in_X6_hang : Cond.instanceMethod yX6_hang ∈ al_G := al_g (al_t2 (List.mem_of_getElem? (i := 121) rfl)) rfl
theorem al_se_X6_hang : Cond.selects yX6_hang.cls yX6_hang yX6_hang ∈ al_G := al_g (al_t2 (List.mem_of_getElem? (i := 122) rfl)) rfl
theorem al_c_X6_hang : Cond.code yX6_hang cX6_hang 3 none ∈ al_G := al_g (al_t2 (List.mem_of_getElem? (i := 123) rfl)) rfl
theorem al_ml_RL_92 : Cond.methodLink RL 92 yX8_type ∈ al_G := al_g (al_t2 (List.mem_of_getElem? (i := 124) rfl)) rfl
theorem al_in_X8_type : Cond.instanceMethod yX8_type ∈ al_G := al_g (al_t2 (List.mem_of_getElem? (i := 125) rfl)) rfl
theorem al_se_X8_type : Cond.selects yX8_type.cls yX8_type yX8_type ∈ al_G := al_g (al_t2 (List.mem_of_getElem? (i := 126) rfl)) rfl
theorem al_c_X8_type : Cond.code yX8_type cX8_type 2 (some .int) ∈ al_G := al_g (al_t2 (List.mem_of_getElem? (i := 127) rfl)) rfl
theorem al_ml_RX8_108 : Cond.methodLink RX8 108 yX5_put ∈ al_G := al_g (al_t2 (List.mem_of_getElem? (i := 128) rfl)) rfl
theorem al_in_X5_put : Cond.instanceMethod yX5_put ∈ al_G := al_g (al_t2 (List.mem_of_getElem? (i := 129) rfl)) rfl
theorem al_se_X5_put : Cond.selects yX5_put.cls yX5_put yX5_put ∈ al_G := al_g (al_t2 (List.mem_of_getElem? (i := 130) rfl)) rfl
theorem al_c_X5_put : Cond.code yX5_put cX5_put 2 (some .boolean) ∈ al_G := al_g (al_t2 (List.mem_of_getElem? (i := 131) rfl)) rfl
theorem al_ml_RX8_112 : Cond.methodLink RX8 112 yX5_length ∈ al_G := al_g (al_t2 (List.mem_of_getElem? (i := 132) rfl)) rfl
theorem al_in_X5_length : Cond.instanceMethod yX5_length ∈ al_G := al_g (al_t2 (List.mem_of_getElem? (i := 133) rfl)) rfl
theorem al_se_X5_length : Cond.selects yX5_length.cls yX5_length yX5_length ∈ al_G := al_g (al_t2 (List.mem_of_getElem? (i := 134) rfl)) rfl
theorem al_c_X5_length : Cond.code yX5_length cX5_length 1 (some .int) ∈ al_G := al_g (al_t2 (List.mem_of_getElem? (i := 135) rfl)) rfl
theorem al_ml_RL_84 : Cond.methodLink RL 84 yX8_grow ∈ al_G := al_g (al_t2 (List.mem_of_getElem? (i := 136) rfl)) rfl
theorem al_in_X8_grow : Cond.instanceMethod yX8_grow ∈ al_G := al_g (al_t2 (List.mem_of_getElem? (i := 137) rfl)) rfl
theorem al_se_X8_grow : Cond.selects yX8_grow.cls yX8_grow yX8_grow ∈ al_G := al_g (al_t2 (List.mem_of_getElem? (i := 138) rfl)) rfl
theorem al_c_X8_grow : Cond.code yX8_grow cX8_grow 4 (some .int) ∈ al_G := al_g (al_t2 (List.mem_of_getElem? (i := 139) rfl)) rfl
theorem al_ml_RX8_119 : Cond.methodLink RX8 119 yX5_fault ∈ al_G := al_g (al_t2 (List.mem_of_getElem? (i := 140) rfl)) rfl
theorem al_in_X5_fault : Cond.instanceMethod yX5_fault ∈ al_G := al_g (al_t2 (List.mem_of_getElem? (i := 141) rfl)) rfl
theorem al_se_X5_fault : Cond.selects yX5_fault.cls yX5_fault yX5_fault ∈ al_G := al_g (al_t2 (List.mem_of_getElem? (i := 142) rfl)) rfl
theorem al_c_X5_fault : Cond.code yX5_fault cX5_fault 3 (some .int) ∈ al_G := al_g (al_t2 (List.mem_of_getElem? (i := 143) rfl)) rfl
theorem al_ml_RX8_122 : Cond.methodLink RX8 122 yX5_branches ∈ al_G := al_g (al_t2 (List.mem_of_getElem? (i := 144) rfl)) rfl
theorem al_in_X5_branches : Cond.instanceMethod yX5_branches ∈ al_G := al_g (al_t2 (List.mem_of_getElem? (i := 145) rfl)) rfl
theorem al_se_X5_branches : Cond.selects yX5_branches.cls yX5_branches yX5_branches ∈ al_G := al_g (al_t2 (List.mem_of_getElem? (i := 146) rfl)) rfl
theorem al_c_X5_branches : Cond.code yX5_branches cX5_branches 1 (some .int) ∈ al_G := al_g (al_t2 (List.mem_of_getElem? (i := 147) rfl)) rfl
theorem al_ml_RX8_125 : Cond.methodLink RX8 125 yX5_plant ∈ al_G := al_g (al_t2 (List.mem_of_getElem? (i := 148) rfl)) rfl
theorem al_in_X5_plant : Cond.instanceMethod yX5_plant ∈ al_G := al_g (al_t2 (List.mem_of_getElem? (i := 149) rfl)) rfl
theorem al_se_X5_plant : Cond.selects yX5_plant.cls yX5_plant yX5_plant ∈ al_G := al_g (al_t2 (List.mem_of_getElem? (i := 150) rfl)) rfl
theorem al_c_X5_plant : Cond.code yX5_plant cX5_plant 5 none ∈ al_G := al_g (al_t2 (List.mem_of_getElem? (i := 151) rfl)) rfl
theorem al_k_RX5_19 : Cond.constant RX5 19 1065353216 ∈ al_G := al_g (al_t2 (List.mem_of_getElem? (i := 152) rfl)) rfl
theorem al_ml_RX5_20 : Cond.methodLink RX5 20 yX6_append ∈ al_G := al_g (al_t2 (List.mem_of_getElem? (i := 153) rfl)) rfl
theorem al_ml_RX5_26 : Cond.methodLink RX5 26 yX6_parentOf ∈ al_G := al_g (al_t2 (List.mem_of_getElem? (i := 154) rfl)) rfl
theorem al_ml_RL_104 : Cond.methodLink RL 104 yX8_undo ∈ al_G := al_g (al_t2 (List.mem_of_getElem? (i := 155) rfl)) rfl
theorem al_in_X8_undo : Cond.instanceMethod yX8_undo ∈ al_G := al_g (al_t2 (List.mem_of_getElem? (i := 156) rfl)) rfl
theorem al_se_X8_undo : Cond.selects yX8_undo.cls yX8_undo yX8_undo ∈ al_G := al_g (al_t2 (List.mem_of_getElem? (i := 157) rfl)) rfl
theorem al_c_X8_undo : Cond.code yX8_undo cX8_undo 1 (some .int) ∈ al_G := al_g (al_t2 (List.mem_of_getElem? (i := 158) rfl)) rfl
theorem al_ml_RX8_129 : Cond.methodLink RX8 129 yX1_length ∈ al_G := al_g (al_t2 (List.mem_of_getElem? (i := 159) rfl)) rfl
theorem al_in_X1_length : Cond.instanceMethod yX1_length ∈ al_G := al_g (al_t2 (List.mem_of_getElem? (i := 160) rfl)) rfl
theorem al_se_X1_length : Cond.selects yX1_length.cls yX1_length yX1_length ∈ al_G := al_g (al_t2 (List.mem_of_getElem? (i := 161) rfl)) rfl
theorem al_c_X1_length : Cond.code yX1_length cX1_length 1 (some .int) ∈ al_G := al_g (al_t2 (List.mem_of_getElem? (i := 162) rfl)) rfl
theorem al_ml_RX8_130 : Cond.methodLink RX8 130 yX1_takeBack ∈ al_G := al_g (al_t2 (List.mem_of_getElem? (i := 163) rfl)) rfl
theorem al_in_X1_takeBack : Cond.instanceMethod yX1_takeBack ∈ al_G := al_g (al_t2 (List.mem_of_getElem? (i := 164) rfl)) rfl
theorem al_se_X1_takeBack : Cond.selects yX1_takeBack.cls yX1_takeBack yX1_takeBack ∈ al_G := al_g (al_t2 (List.mem_of_getElem? (i := 165) rfl)) rfl
theorem al_c_X1_takeBack : Cond.code yX1_takeBack cX1_takeBack 3 none ∈ al_G := al_g (al_t2 (List.mem_of_getElem? (i := 166) rfl)) rfl
theorem al_ml_RL_116 : Cond.methodLink RL 116 yX8_keep ∈ al_G := al_g (al_t2 (List.mem_of_getElem? (i := 167) rfl)) rfl
theorem al_in_X8_keep : Cond.instanceMethod yX8_keep ∈ al_G := al_g (al_t2 (List.mem_of_getElem? (i := 168) rfl)) rfl
theorem al_se_X8_keep : Cond.selects yX8_keep.cls yX8_keep yX8_keep ∈ al_G := al_g (al_t2 (List.mem_of_getElem? (i := 169) rfl)) rfl
theorem al_c_X8_keep : Cond.code yX8_keep cX8_keep 1 (some .int) ∈ al_G := al_g (al_t2 (List.mem_of_getElem? (i := 170) rfl)) rfl
theorem al_ml_RX8_133 : Cond.methodLink RX8 133 yX1_keepSnapshot ∈ al_G := al_g (al_t2 (List.mem_of_getElem? (i := 171) rfl)) rfl
theorem al_in_X1_keepSnapshot : Cond.instanceMethod yX1_keepSnapshot ∈ al_G := al_g (al_t2 (List.mem_of_getElem? (i := 172) rfl)) rfl
theorem al_se_X1_keepSnapshot : Cond.selects yX1_keepSnapshot.cls yX1_keepSnapshot yX1_keepSnapshot ∈ al_G := al_g (al_t2 (List.mem_of_getElem? (i := 173) rfl)) rfl
theorem al_c_X1_keepSnapshot : Cond.code yX1_keepSnapshot cX1_keepSnapshot 2 none ∈ al_G := al_g (al_t2 (List.mem_of_getElem? (i := 174) rfl)) rfl
theorem al_ml_RX8_136 : Cond.methodLink RX8 136 yX4_present ∈ al_G := al_g (al_t2 (List.mem_of_getElem? (i := 175) rfl)) rfl
theorem al_ml_RL_119 : Cond.methodLink RL 119 yX8_restore ∈ al_G := al_g (al_t2 (List.mem_of_getElem? (i := 176) rfl)) rfl
theorem al_in_X8_restore : Cond.instanceMethod yX8_restore ∈ al_G := al_g (al_t2 (List.mem_of_getElem? (i := 177) rfl)) rfl
theorem al_se_X8_restore : Cond.selects yX8_restore.cls yX8_restore yX8_restore ∈ al_G := al_g (al_t2 (List.mem_of_getElem? (i := 178) rfl)) rfl
theorem al_c_X8_restore : Cond.code yX8_restore cX8_restore 1 (some .int) ∈ al_G := al_g (al_t2 (List.mem_of_getElem? (i := 179) rfl)) rfl
theorem al_ml_RX8_139 : Cond.methodLink RX8 139 yX1_hasSnapshot ∈ al_G := al_g (al_t2 (List.mem_of_getElem? (i := 180) rfl)) rfl
theorem al_in_X1_hasSnapshot : Cond.instanceMethod yX1_hasSnapshot ∈ al_G := al_g (al_t2 (List.mem_of_getElem? (i := 181) rfl)) rfl
theorem al_se_X1_hasSnapshot : Cond.selects yX1_hasSnapshot.cls yX1_hasSnapshot yX1_hasSnapshot ∈ al_G := al_g (al_t2 (List.mem_of_getElem? (i := 182) rfl)) rfl
theorem al_c_X1_hasSnapshot : Cond.code yX1_hasSnapshot cX1_hasSnapshot 1 (some .boolean) ∈ al_G := al_g (al_t2 (List.mem_of_getElem? (i := 183) rfl)) rfl
theorem al_ml_RX8_143 : Cond.methodLink RX8 143 yX1_showSnapshot ∈ al_G := al_g (al_t2 (List.mem_of_getElem? (i := 184) rfl)) rfl
theorem al_in_X1_showSnapshot : Cond.instanceMethod yX1_showSnapshot ∈ al_G := al_g (al_t2 (List.mem_of_getElem? (i := 185) rfl)) rfl
theorem al_se_X1_showSnapshot : Cond.selects yX1_showSnapshot.cls yX1_showSnapshot yX1_showSnapshot ∈ al_G := al_g (al_t2 (List.mem_of_getElem? (i := 186) rfl)) rfl
theorem al_c_X1_showSnapshot : Cond.code yX1_showSnapshot cX1_showSnapshot 2 none ∈ al_G := al_g (al_t2 (List.mem_of_getElem? (i := 187) rfl)) rfl
theorem al_ml_RL_122 : Cond.methodLink RL 122 yX8_jump ∈ al_G := al_g (al_t2 (List.mem_of_getElem? (i := 188) rfl)) rfl
theorem al_in_X8_jump : Cond.instanceMethod yX8_jump ∈ al_G := al_g (al_t2 (List.mem_of_getElem? (i := 189) rfl)) rfl
theorem al_se_X8_jump : Cond.selects yX8_jump.cls yX8_jump yX8_jump ∈ al_G := al_g (al_t2 (List.mem_of_getElem? (i := 190) rfl)) rfl
theorem al_c_X8_jump : Cond.code yX8_jump cX8_jump 4 (some .int) ∈ al_G := al_g (al_t2 (List.mem_of_getElem? (i := 191) rfl)) rfl
theorem al_ml_RX8_79 : Cond.methodLink RX8 79 yX4_isLeaf ∈ al_G := al_g (al_t2 (List.mem_of_getElem? (i := 192) rfl)) rfl
theorem al_in_X4_isLeaf : Cond.instanceMethod yX4_isLeaf ∈ al_G := al_g (al_t2 (List.mem_of_getElem? (i := 193) rfl)) rfl
theorem al_se_X4_isLeaf : Cond.selects yX4_isLeaf.cls yX4_isLeaf yX4_isLeaf ∈ al_G := al_g (al_t2 (List.mem_of_getElem? (i := 194) rfl)) rfl
theorem al_c_X4_isLeaf : Cond.code yX4_isLeaf cX4_isLeaf 2 (some .boolean) ∈ al_G := al_g (al_t2 (List.mem_of_getElem? (i := 195) rfl)) rfl
theorem al_ml_RX8_146 : Cond.methodLink RX8 146 yX4_depthOf ∈ al_G := al_g (al_t2 (List.mem_of_getElem? (i := 196) rfl)) rfl
theorem al_in_X4_depthOf : Cond.instanceMethod yX4_depthOf ∈ al_G := al_g (al_t2 (List.mem_of_getElem? (i := 197) rfl)) rfl
theorem al_se_X4_depthOf : Cond.selects yX4_depthOf.cls yX4_depthOf yX4_depthOf ∈ al_G := al_g (al_t2 (List.mem_of_getElem? (i := 198) rfl)) rfl
theorem al_c_X4_depthOf : Cond.code yX4_depthOf cX4_depthOf 2 (some .int) ∈ al_G := al_g (al_t2 (List.mem_of_getElem? (i := 199) rfl)) rfl
theorem al_ml_RX8_149 : Cond.methodLink RX8 149 yX4_climb ∈ al_G := al_g (al_t2 (List.mem_of_getElem? (i := 200) rfl)) rfl
theorem al_ml_RL_58 : Cond.methodLink RL 58 yX8_distance ∈ al_G := al_g (al_t2 (List.mem_of_getElem? (i := 201) rfl)) rfl
theorem al_in_X8_distance : Cond.instanceMethod yX8_distance ∈ al_G := al_g (al_t2 (List.mem_of_getElem? (i := 202) rfl)) rfl
theorem al_se_X8_distance : Cond.selects yX8_distance.cls yX8_distance yX8_distance ∈ al_G := al_g (al_t2 (List.mem_of_getElem? (i := 203) rfl)) rfl
theorem al_c_X8_distance : Cond.code yX8_distance cX8_distance 3 (some .float) ∈ al_G := al_g (al_t2 (List.mem_of_getElem? (i := 204) rfl)) rfl
theorem al_ml_RX8_187 : Cond.methodLink RX8 187 yX8_noFloat ∈ al_G := al_g (al_t2 (List.mem_of_getElem? (i := 205) rfl)) rfl
theorem al_st_X8_noFloat : Cond.static yX8_noFloat ∈ al_G := al_g (al_t2 (List.mem_of_getElem? (i := 206) rfl)) rfl
theorem al_c_X8_noFloat : Cond.code yX8_noFloat cX8_noFloat 0 (some .float) ∈ al_G := al_g (al_t2 (List.mem_of_getElem? (i := 207) rfl)) rfl
theorem al_k_RX8_251 : Cond.constantFloat RX8 251 2143289344 ∈ al_G := al_g (al_t2 (List.mem_of_getElem? (i := 208) rfl)) rfl
theorem al_ml_RX8_197 : Cond.methodLink RX8 197 yX7_between ∈ al_G := al_g (al_t2 (List.mem_of_getElem? (i := 209) rfl)) rfl
theorem al_in_X7_between : Cond.instanceMethod yX7_between ∈ al_G := al_g (al_t2 (List.mem_of_getElem? (i := 210) rfl)) rfl
theorem al_se_X7_between : Cond.selects yX7_between.cls yX7_between yX7_between ∈ al_G := al_g (al_t2 (List.mem_of_getElem? (i := 211) rfl)) rfl
theorem al_c_X7_between : Cond.code yX7_between cX7_between 3 (some .float) ∈ al_G := al_g (al_t2 (List.mem_of_getElem? (i := 212) rfl)) rfl
theorem al_ml_RX7_69 : Cond.methodLink RX7 69 yX4_meetingOf ∈ al_G := al_g (al_t2 (List.mem_of_getElem? (i := 213) rfl)) rfl
theorem al_in_X4_meetingOf : Cond.instanceMethod yX4_meetingOf ∈ al_G := al_g (al_t2 (List.mem_of_getElem? (i := 214) rfl)) rfl
theorem al_se_X4_meetingOf : Cond.selects yX4_meetingOf.cls yX4_meetingOf yX4_meetingOf ∈ al_G := al_g (al_t2 (List.mem_of_getElem? (i := 215) rfl)) rfl
theorem al_c_X4_meetingOf : Cond.code yX4_meetingOf cX4_meetingOf 6 (some .int) ∈ al_G := al_g (al_t2 (List.mem_of_getElem? (i := 216) rfl)) rfl
theorem al_ml_RX7_73 : Cond.methodLink RX7 73 yX7_sum ∈ al_G := al_g (al_t2 (List.mem_of_getElem? (i := 217) rfl)) rfl
theorem al_st_X7_sum : Cond.static yX7_sum ∈ al_G := al_g (al_t2 (List.mem_of_getElem? (i := 218) rfl)) rfl
theorem al_c_X7_sum : Cond.code yX7_sum cX7_sum 3 (some .float) ∈ al_G := al_g (al_t2 (List.mem_of_getElem? (i := 219) rfl)) rfl
theorem al_ml_RL_62 : Cond.methodLink RL 62 yX8_reach ∈ al_G := al_g (al_t2 (List.mem_of_getElem? (i := 220) rfl)) rfl
theorem al_in_X8_reach : Cond.instanceMethod yX8_reach ∈ al_G := al_g (al_t2 (List.mem_of_getElem? (i := 221) rfl)) rfl
theorem al_se_X8_reach : Cond.selects yX8_reach.cls yX8_reach yX8_reach ∈ al_G := al_g (al_t2 (List.mem_of_getElem? (i := 222) rfl)) rfl
theorem al_c_X8_reach : Cond.code yX8_reach cX8_reach 3 (some .int) ∈ al_G := al_g (al_t2 (List.mem_of_getElem? (i := 223) rfl)) rfl
theorem al_ml_RX8_201 : Cond.methodLink RX8 201 yX7_highestWithin ∈ al_G := al_g (al_t2 (List.mem_of_getElem? (i := 224) rfl)) rfl
theorem al_in_X7_highestWithin : Cond.instanceMethod yX7_highestWithin ∈ al_G := al_g (al_t2 (List.mem_of_getElem? (i := 225) rfl)) rfl
theorem al_se_X7_highestWithin : Cond.selects yX7_highestWithin.cls yX7_highestWithin yX7_highestWithin ∈ al_G := al_g (al_t2 (List.mem_of_getElem? (i := 226) rfl)) rfl
theorem al_c_X7_highestWithin : Cond.code yX7_highestWithin cX7_highestWithin 7 (some .int) ∈ al_G := al_g (al_t2 (List.mem_of_getElem? (i := 227) rfl)) rfl
theorem al_ml_RL_27 : Cond.methodLink RL 27 yX8_farthest ∈ al_G := al_g (al_t2 (List.mem_of_getElem? (i := 228) rfl)) rfl
theorem al_in_X8_farthest : Cond.instanceMethod yX8_farthest ∈ al_G := al_g (al_t2 (List.mem_of_getElem? (i := 229) rfl)) rfl
theorem al_se_X8_farthest : Cond.selects yX8_farthest.cls yX8_farthest yX8_farthest ∈ al_G := al_g (al_t2 (List.mem_of_getElem? (i := 230) rfl)) rfl
theorem al_c_X8_farthest : Cond.code yX8_farthest cX8_farthest 2 (some .int) ∈ al_G := al_g (al_t2 (List.mem_of_getElem? (i := 231) rfl)) rfl
theorem al_ml_RX8_205 : Cond.methodLink RX8 205 yX7_farthestFrom ∈ al_G := al_g (al_t2 (List.mem_of_getElem? (i := 232) rfl)) rfl
theorem al_in_X7_farthestFrom : Cond.instanceMethod yX7_farthestFrom ∈ al_G := al_g (al_t2 (List.mem_of_getElem? (i := 233) rfl)) rfl
theorem al_se_X7_farthestFrom : Cond.selects yX7_farthestFrom.cls yX7_farthestFrom yX7_farthestFrom ∈ al_G := al_g (al_t2 (List.mem_of_getElem? (i := 234) rfl)) rfl
theorem al_c_X7_farthestFrom : Cond.code yX7_farthestFrom cX7_farthestFrom 2 (some .int) ∈ al_G := al_g (al_t2 (List.mem_of_getElem? (i := 235) rfl)) rfl
theorem al_ml_RX7_83 : Cond.methodLink RX7 83 yX7_findMeetings ∈ al_G := al_g (al_t2 (List.mem_of_getElem? (i := 236) rfl)) rfl
theorem al_in_X7_findMeetings : Cond.instanceMethod yX7_findMeetings ∈ al_G := al_g (al_t2 (List.mem_of_getElem? (i := 238) rfl)) rfl
theorem al_c_X7_findMeetings : Cond.code yX7_findMeetings cX7_findMeetings 6 none ∈ al_G := al_g (al_t2 (List.mem_of_getElem? (i := 239) rfl)) rfl
theorem al_ml_RX7_99 : Cond.methodLink RX7 99 yX2_fill ∈ al_G := al_g (al_t3 (List.mem_of_getElem? (i := 0) rfl)) rfl
theorem al_ml_RX7_102 : Cond.methodLink RX7 102 yX2_set ∈ al_G := al_g (al_t3 (List.mem_of_getElem? (i := 1) rfl)) rfl
theorem al_ml_RX7_105 : Cond.methodLink RX7 105 yX2_get ∈ al_G := al_g (al_t3 (List.mem_of_getElem? (i := 2) rfl)) rfl
theorem al_ml_RX7_87 : Cond.methodLink RX7 87 yX7_farthestFromOn ∈ al_G := al_g (al_t3 (List.mem_of_getElem? (i := 3) rfl)) rfl
theorem al_in_X7_farthestFromOn : Cond.instanceMethod yX7_farthestFromOn ∈ al_G := al_g (al_t3 (List.mem_of_getElem? (i := 5) rfl)) rfl
theorem al_c_X7_farthestFromOn : Cond.code yX7_farthestFromOn cX7_farthestFromOn 6 (some .int) ∈ al_G := al_g (al_t3 (List.mem_of_getElem? (i := 6) rfl)) rfl
theorem al_k_RX7_90 : Cond.constantFloat RX7 90 3212836864 ∈ al_G := al_g (al_t3 (List.mem_of_getElem? (i := 7) rfl)) rfl
theorem al_ml_RX7_91 : Cond.methodLink RX7 91 yX6_isNode ∈ al_G := al_g (al_t3 (List.mem_of_getElem? (i := 8) rfl)) rfl
theorem al_ml_RX7_95 : Cond.methodLink RX7 95 yX7_measured ∈ al_G := al_g (al_t3 (List.mem_of_getElem? (i := 9) rfl)) rfl
theorem al_in_X7_measured : Cond.instanceMethod yX7_measured ∈ al_G := al_g (al_t3 (List.mem_of_getElem? (i := 11) rfl)) rfl
theorem al_c_X7_measured : Cond.code yX7_measured cX7_measured 3 (some .float) ∈ al_G := al_g (al_t3 (List.mem_of_getElem? (i := 12) rfl)) rfl
theorem al_ml_RL_55 : Cond.methodLink RL 55 yX8_apart ∈ al_G := al_g (al_t3 (List.mem_of_getElem? (i := 13) rfl)) rfl
theorem al_in_X8_apart : Cond.instanceMethod yX8_apart ∈ al_G := al_g (al_t3 (List.mem_of_getElem? (i := 14) rfl)) rfl
theorem al_se_X8_apart : Cond.selects yX8_apart.cls yX8_apart yX8_apart ∈ al_G := al_g (al_t3 (List.mem_of_getElem? (i := 15) rfl)) rfl
theorem al_c_X8_apart : Cond.code yX8_apart cX8_apart 2 (some .int) ∈ al_G := al_g (al_t3 (List.mem_of_getElem? (i := 16) rfl)) rfl
theorem al_ml_RX8_208 : Cond.methodLink RX8 208 yX7_findPair ∈ al_G := al_g (al_t3 (List.mem_of_getElem? (i := 17) rfl)) rfl
theorem al_in_X7_findPair : Cond.instanceMethod yX7_findPair ∈ al_G := al_g (al_t3 (List.mem_of_getElem? (i := 18) rfl)) rfl
theorem al_se_X7_findPair : Cond.selects yX7_findPair.cls yX7_findPair yX7_findPair ∈ al_G := al_g (al_t3 (List.mem_of_getElem? (i := 19) rfl)) rfl
theorem al_c_X7_findPair : Cond.code yX7_findPair cX7_findPair 4 none ∈ al_G := al_g (al_t3 (List.mem_of_getElem? (i := 20) rfl)) rfl
theorem al_ml_RX8_211 : Cond.methodLink RX8 211 yX7_pairFirst ∈ al_G := al_g (al_t3 (List.mem_of_getElem? (i := 21) rfl)) rfl
theorem al_in_X7_pairFirst : Cond.instanceMethod yX7_pairFirst ∈ al_G := al_g (al_t3 (List.mem_of_getElem? (i := 22) rfl)) rfl
theorem al_se_X7_pairFirst : Cond.selects yX7_pairFirst.cls yX7_pairFirst yX7_pairFirst ∈ al_G := al_g (al_t3 (List.mem_of_getElem? (i := 23) rfl)) rfl
theorem al_c_X7_pairFirst : Cond.code yX7_pairFirst cX7_pairFirst 1 (some .int) ∈ al_G := al_g (al_t3 (List.mem_of_getElem? (i := 24) rfl)) rfl
theorem al_ml_RX8_214 : Cond.methodLink RX8 214 yX7_pairSecond ∈ al_G := al_g (al_t3 (List.mem_of_getElem? (i := 25) rfl)) rfl
theorem al_in_X7_pairSecond : Cond.instanceMethod yX7_pairSecond ∈ al_G := al_g (al_t3 (List.mem_of_getElem? (i := 26) rfl)) rfl
theorem al_se_X7_pairSecond : Cond.selects yX7_pairSecond.cls yX7_pairSecond yX7_pairSecond ∈ al_G := al_g (al_t3 (List.mem_of_getElem? (i := 27) rfl)) rfl
theorem al_c_X7_pairSecond : Cond.code yX7_pairSecond cX7_pairSecond 1 (some .int) ∈ al_G := al_g (al_t3 (List.mem_of_getElem? (i := 28) rfl)) rfl
theorem al_ml_RL_22 : Cond.methodLink RL 22 yX8_shape ∈ al_G := al_g (al_t3 (List.mem_of_getElem? (i := 29) rfl)) rfl
theorem al_in_X8_shape : Cond.instanceMethod yX8_shape ∈ al_G := al_g (al_t3 (List.mem_of_getElem? (i := 30) rfl)) rfl
theorem al_se_X8_shape : Cond.selects yX8_shape.cls yX8_shape yX8_shape ∈ al_G := al_g (al_t3 (List.mem_of_getElem? (i := 31) rfl)) rfl
theorem al_c_X8_shape : Cond.code yX8_shape cX8_shape 2 (some .int) ∈ al_G := al_g (al_t3 (List.mem_of_getElem? (i := 32) rfl)) rfl
theorem al_ml_RX8_168 : Cond.methodLink RX8 168 yX4_sizeOf ∈ al_G := al_g (al_t3 (List.mem_of_getElem? (i := 33) rfl)) rfl
theorem al_in_X4_sizeOf : Cond.instanceMethod yX4_sizeOf ∈ al_G := al_g (al_t3 (List.mem_of_getElem? (i := 34) rfl)) rfl
theorem al_se_X4_sizeOf : Cond.selects yX4_sizeOf.cls yX4_sizeOf yX4_sizeOf ∈ al_G := al_g (al_t3 (List.mem_of_getElem? (i := 35) rfl)) rfl
theorem al_c_X4_sizeOf : Cond.code yX4_sizeOf cX4_sizeOf 2 (some .int) ∈ al_G := al_g (al_t3 (List.mem_of_getElem? (i := 36) rfl)) rfl
theorem al_ml_RX8_217 : Cond.methodLink RX8 217 yX3_write ∈ al_G := al_g (al_t3 (List.mem_of_getElem? (i := 37) rfl)) rfl
theorem al_in_X3_write : Cond.instanceMethod yX3_write ∈ al_G := al_g (al_t3 (List.mem_of_getElem? (i := 38) rfl)) rfl
theorem al_se_X3_write : Cond.selects yX3_write.cls yX3_write yX3_write ∈ al_G := al_g (al_t3 (List.mem_of_getElem? (i := 39) rfl)) rfl
theorem al_c_X3_write : Cond.code yX3_write cX3_write 3 none ∈ al_G := al_g (al_t3 (List.mem_of_getElem? (i := 40) rfl)) rfl
theorem al_ml_RX3_33 : Cond.methodLink RX3 33 yX2_fill ∈ al_G := al_g (al_t3 (List.mem_of_getElem? (i := 41) rfl)) rfl
theorem al_ml_RX3_37 : Cond.methodLink RX3 37 yX4_present ∈ al_G := al_g (al_t3 (List.mem_of_getElem? (i := 42) rfl)) rfl
theorem al_ml_RX3_43 : Cond.methodLink RX3 43 yX4_downwardAt ∈ al_G := al_g (al_t3 (List.mem_of_getElem? (i := 43) rfl)) rfl
theorem al_ml_RX3_47 : Cond.methodLink RX3 47 yX4_sizeOf ∈ al_G := al_g (al_t3 (List.mem_of_getElem? (i := 44) rfl)) rfl
theorem al_ml_RX3_50 : Cond.methodLink RX3 50 yX3_join ∈ al_G := al_g (al_t3 (List.mem_of_getElem? (i := 45) rfl)) rfl
theorem al_in_X3_join : Cond.instanceMethod yX3_join ∈ al_G := al_g (al_t3 (List.mem_of_getElem? (i := 47) rfl)) rfl
theorem al_c_X3_join : Cond.code yX3_join cX3_join 5 (some .int) ∈ al_G := al_g (al_t3 (List.mem_of_getElem? (i := 48) rfl)) rfl
theorem al_ml_RX3_57 : Cond.methodLink RX3 57 yX4_firstChildOf ∈ al_G := al_g (al_t3 (List.mem_of_getElem? (i := 49) rfl)) rfl
theorem al_in_X4_firstChildOf : Cond.instanceMethod yX4_firstChildOf ∈ al_G := al_g (al_t3 (List.mem_of_getElem? (i := 50) rfl)) rfl
theorem al_se_X4_firstChildOf : Cond.selects yX4_firstChildOf.cls yX4_firstChildOf yX4_firstChildOf ∈ al_G := al_g (al_t3 (List.mem_of_getElem? (i := 51) rfl)) rfl
theorem al_c_X4_firstChildOf : Cond.code yX4_firstChildOf cX4_firstChildOf 2 (some .int) ∈ al_G := al_g (al_t3 (List.mem_of_getElem? (i := 52) rfl)) rfl
theorem al_ml_RX3_60 : Cond.methodLink RX3 60 yX2_get ∈ al_G := al_g (al_t3 (List.mem_of_getElem? (i := 53) rfl)) rfl
theorem al_ml_RX3_63 : Cond.methodLink RX3 63 yX4_nextChildOf ∈ al_G := al_g (al_t3 (List.mem_of_getElem? (i := 54) rfl)) rfl
theorem al_in_X4_nextChildOf : Cond.instanceMethod yX4_nextChildOf ∈ al_G := al_g (al_t3 (List.mem_of_getElem? (i := 55) rfl)) rfl
theorem al_se_X4_nextChildOf : Cond.selects yX4_nextChildOf.cls yX4_nextChildOf yX4_nextChildOf ∈ al_G := al_g (al_t3 (List.mem_of_getElem? (i := 56) rfl)) rfl
theorem al_c_X4_nextChildOf : Cond.code yX4_nextChildOf cX4_nextChildOf 2 (some .int) ∈ al_G := al_g (al_t3 (List.mem_of_getElem? (i := 57) rfl)) rfl
theorem al_ml_RX3_53 : Cond.methodLink RX3 53 yX2_set ∈ al_G := al_g (al_t3 (List.mem_of_getElem? (i := 58) rfl)) rfl
theorem al_ml_RX8_220 : Cond.methodLink RX8 220 yX3_shapeOf ∈ al_G := al_g (al_t3 (List.mem_of_getElem? (i := 59) rfl)) rfl
theorem al_in_X3_shapeOf : Cond.instanceMethod yX3_shapeOf ∈ al_G := al_g (al_t3 (List.mem_of_getElem? (i := 60) rfl)) rfl
theorem al_se_X3_shapeOf : Cond.selects yX3_shapeOf.cls yX3_shapeOf yX3_shapeOf ∈ al_G := al_g (al_t3 (List.mem_of_getElem? (i := 61) rfl)) rfl
theorem al_c_X3_shapeOf : Cond.code yX3_shapeOf cX3_shapeOf 2 (some .int) ∈ al_G := al_g (al_t3 (List.mem_of_getElem? (i := 62) rfl)) rfl
theorem al_ml_RL_12 : Cond.methodLink RL 12 yX8_count ∈ al_G := al_g (al_t3 (List.mem_of_getElem? (i := 63) rfl)) rfl
theorem al_in_X8_count : Cond.instanceMethod yX8_count ∈ al_G := al_g (al_t3 (List.mem_of_getElem? (i := 64) rfl)) rfl
theorem al_se_X8_count : Cond.selects yX8_count.cls yX8_count yX8_count ∈ al_G := al_g (al_t3 (List.mem_of_getElem? (i := 65) rfl)) rfl
theorem al_c_X8_count : Cond.code yX8_count cX8_count 2 (some .int) ∈ al_G := al_g (al_t3 (List.mem_of_getElem? (i := 66) rfl)) rfl
theorem al_ml_RX8_235 : Cond.methodLink RX8 235 yX6_ever ∈ al_G := al_g (al_t3 (List.mem_of_getElem? (i := 67) rfl)) rfl
theorem al_in_X6_ever : Cond.instanceMethod yX6_ever ∈ al_G := al_g (al_t3 (List.mem_of_getElem? (i := 68) rfl)) rfl
theorem al_se_X6_ever : Cond.selects yX6_ever.cls yX6_ever yX6_ever ∈ al_G := al_g (al_t3 (List.mem_of_getElem? (i := 69) rfl)) rfl
theorem al_c_X6_ever : Cond.code yX6_ever cX6_ever 1 (some .int) ∈ al_G := al_g (al_t3 (List.mem_of_getElem? (i := 70) rfl)) rfl
theorem al_ml_RX8_238 : Cond.methodLink RX8 238 yX4_countLeaves ∈ al_G := al_g (al_t3 (List.mem_of_getElem? (i := 71) rfl)) rfl
theorem al_in_X4_countLeaves : Cond.instanceMethod yX4_countLeaves ∈ al_G := al_g (al_t3 (List.mem_of_getElem? (i := 72) rfl)) rfl
theorem al_se_X4_countLeaves : Cond.selects yX4_countLeaves.cls yX4_countLeaves yX4_countLeaves ∈ al_G := al_g (al_t3 (List.mem_of_getElem? (i := 73) rfl)) rfl
theorem al_c_X4_countLeaves : Cond.code yX4_countLeaves cX4_countLeaves 3 (some .int) ∈ al_G := al_g (al_t3 (List.mem_of_getElem? (i := 74) rfl)) rfl
theorem al_ml_RX4_109 : Cond.methodLink RX4 109 yX4_isLeaf ∈ al_G := al_g (al_t3 (List.mem_of_getElem? (i := 75) rfl)) rfl
theorem al_ml_RX8_241 : Cond.methodLink RX8 241 yX4_countLadders ∈ al_G := al_g (al_t3 (List.mem_of_getElem? (i := 76) rfl)) rfl
theorem al_in_X4_countLadders : Cond.instanceMethod yX4_countLadders ∈ al_G := al_g (al_t3 (List.mem_of_getElem? (i := 77) rfl)) rfl
theorem al_se_X4_countLadders : Cond.selects yX4_countLadders.cls yX4_countLadders yX4_countLadders ∈ al_G := al_g (al_t3 (List.mem_of_getElem? (i := 78) rfl)) rfl
theorem al_c_X4_countLadders : Cond.code yX4_countLadders cX4_countLadders 4 (some .int) ∈ al_G := al_g (al_t3 (List.mem_of_getElem? (i := 79) rfl)) rfl
theorem al_ml_RX4_101 : Cond.methodLink RX4 101 yX4_ladderOf ∈ al_G := al_g (al_t3 (List.mem_of_getElem? (i := 80) rfl)) rfl
theorem al_in_X4_ladderOf : Cond.instanceMethod yX4_ladderOf ∈ al_G := al_g (al_t3 (List.mem_of_getElem? (i := 81) rfl)) rfl
theorem al_se_X4_ladderOf : Cond.selects yX4_ladderOf.cls yX4_ladderOf yX4_ladderOf ∈ al_G := al_g (al_t3 (List.mem_of_getElem? (i := 82) rfl)) rfl
theorem al_c_X4_ladderOf : Cond.code yX4_ladderOf cX4_ladderOf 2 (some .int) ∈ al_G := al_g (al_t3 (List.mem_of_getElem? (i := 83) rfl)) rfl
theorem al_ml_RX4_89 : Cond.methodLink RX4 89 yX4_longWayOf ∈ al_G := al_g (al_t3 (List.mem_of_getElem? (i := 84) rfl)) rfl
theorem al_in_X4_longWayOf : Cond.instanceMethod yX4_longWayOf ∈ al_G := al_g (al_t3 (List.mem_of_getElem? (i := 85) rfl)) rfl
theorem al_se_X4_longWayOf : Cond.selects yX4_longWayOf.cls yX4_longWayOf yX4_longWayOf ∈ al_G := al_g (al_t3 (List.mem_of_getElem? (i := 86) rfl)) rfl
theorem al_c_X4_longWayOf : Cond.code yX4_longWayOf cX4_longWayOf 2 (some .int) ∈ al_G := al_g (al_t3 (List.mem_of_getElem? (i := 87) rfl)) rfl
theorem al_ml_RX4_92 : Cond.methodLink RX4 92 yJ9_min_7cf53 ∈ al_G := al_g (al_t3 (List.mem_of_getElem? (i := 88) rfl)) rfl
theorem al_st_J9_min_7cf53 : Cond.static yJ9_min_7cf53 ∈ al_G := al_g (al_t3 (List.mem_of_getElem? (i := 89) rfl)) rfl
theorem al_c_J9_min_7cf53 : Cond.code yJ9_min_7cf53 cJ9_min_7cf53 2 (some .int) ∈ al_G := al_g (al_t3 (List.mem_of_getElem? (i := 90) rfl)) rfl
theorem al_ml_RX8_244 : Cond.methodLink RX8 244 yX4_countJumps ∈ al_G := al_g (al_t3 (List.mem_of_getElem? (i := 91) rfl)) rfl
theorem al_in_X4_countJumps : Cond.instanceMethod yX4_countJumps ∈ al_G := al_g (al_t3 (List.mem_of_getElem? (i := 92) rfl)) rfl
theorem al_se_X4_countJumps : Cond.selects yX4_countJumps.cls yX4_countJumps yX4_countJumps ∈ al_G := al_g (al_t3 (List.mem_of_getElem? (i := 93) rfl)) rfl
theorem al_c_X4_countJumps : Cond.code yX4_countJumps cX4_countJumps 4 (some .int) ∈ al_G := al_g (al_t3 (List.mem_of_getElem? (i := 94) rfl)) rfl
theorem al_ml_RX4_112 : Cond.methodLink RX4 112 yX4_jumpsFrom ∈ al_G := al_g (al_t3 (List.mem_of_getElem? (i := 95) rfl)) rfl
theorem al_st_X4_jumpsFrom : Cond.static yX4_jumpsFrom ∈ al_G := al_g (al_t3 (List.mem_of_getElem? (i := 96) rfl)) rfl
theorem al_c_X4_jumpsFrom : Cond.code yX4_jumpsFrom cX4_jumpsFrom 3 (some .int) ∈ al_G := al_g (al_t3 (List.mem_of_getElem? (i := 97) rfl)) rfl
theorem al_ml_RX8_165 : Cond.methodLink RX8 165 yX4_heightOf ∈ al_G := al_g (al_t3 (List.mem_of_getElem? (i := 98) rfl)) rfl
theorem al_in_X4_heightOf : Cond.instanceMethod yX4_heightOf ∈ al_G := al_g (al_t3 (List.mem_of_getElem? (i := 99) rfl)) rfl
theorem al_se_X4_heightOf : Cond.selects yX4_heightOf.cls yX4_heightOf yX4_heightOf ∈ al_G := al_g (al_t3 (List.mem_of_getElem? (i := 100) rfl)) rfl
theorem al_c_X4_heightOf : Cond.code yX4_heightOf cX4_heightOf 2 (some .int) ∈ al_G := al_g (al_t3 (List.mem_of_getElem? (i := 101) rfl)) rfl
theorem al_ml_RX8_226 : Cond.methodLink RX8 226 yX3_sort ∈ al_G := al_g (al_t3 (List.mem_of_getElem? (i := 102) rfl)) rfl
theorem al_in_X3_sort : Cond.instanceMethod yX3_sort ∈ al_G := al_g (al_t3 (List.mem_of_getElem? (i := 103) rfl)) rfl
theorem al_se_X3_sort : Cond.selects yX3_sort.cls yX3_sort yX3_sort ∈ al_G := al_g (al_t3 (List.mem_of_getElem? (i := 104) rfl)) rfl
theorem al_c_X3_sort : Cond.code yX3_sort cX3_sort 2 none ∈ al_G := al_g (al_t3 (List.mem_of_getElem? (i := 105) rfl)) rfl
theorem al_ml_RX3_66 : Cond.methodLink RX3 66 yX3_enter ∈ al_G := al_g (al_t3 (List.mem_of_getElem? (i := 106) rfl)) rfl
theorem al_in_X3_enter : Cond.instanceMethod yX3_enter ∈ al_G := al_g (al_t3 (List.mem_of_getElem? (i := 108) rfl)) rfl
theorem al_c_X3_enter : Cond.code yX3_enter cX3_enter 4 none ∈ al_G := al_g (al_t3 (List.mem_of_getElem? (i := 109) rfl)) rfl
theorem al_ml_RX8_229 : Cond.methodLink RX8 229 yX3_kinds ∈ al_G := al_g (al_t3 (List.mem_of_getElem? (i := 110) rfl)) rfl
theorem al_in_X3_kinds : Cond.instanceMethod yX3_kinds ∈ al_G := al_g (al_t3 (List.mem_of_getElem? (i := 111) rfl)) rfl
theorem al_se_X3_kinds : Cond.selects yX3_kinds.cls yX3_kinds yX3_kinds ∈ al_G := al_g (al_t3 (List.mem_of_getElem? (i := 112) rfl)) rfl
theorem al_c_X3_kinds : Cond.code yX3_kinds cX3_kinds 1 (some .int) ∈ al_G := al_g (al_t3 (List.mem_of_getElem? (i := 113) rfl)) rfl
theorem al_ml_RL_88 : Cond.methodLink RL 88 yL_cell ∈ al_G := al_g (al_t3 (List.mem_of_getElem? (i := 114) rfl)) rfl
theorem al_st_L_cell : Cond.static yL_cell ∈ al_G := al_g (al_t3 (List.mem_of_getElem? (i := 115) rfl)) rfl
theorem al_c_L_cell : Cond.code yL_cell cL_cell 2 (some .int) ∈ al_G := al_g (al_t3 (List.mem_of_getElem? (i := 116) rfl)) rfl
theorem al_ml_RL_68 : Cond.methodLink RL 68 yL_low ∈ al_G := al_g (al_t3 (List.mem_of_getElem? (i := 117) rfl)) rfl
theorem al_st_L_low : Cond.static yL_low ∈ al_G := al_g (al_t3 (List.mem_of_getElem? (i := 118) rfl)) rfl
theorem al_c_L_low : Cond.code yL_low cL_low 2 (some .int) ∈ al_G := al_g (al_t3 (List.mem_of_getElem? (i := 119) rfl)) rfl
theorem al_k_RL_7 : Cond.constant RL 7 2147483647 ∈ al_G := al_g (al_t3 (List.mem_of_getElem? (i := 120) rfl)) rfl
theorem al_ml_RL_96 : Cond.methodLink RL 96 yL_all ∈ al_G := al_g (al_t3 (List.mem_of_getElem? (i := 121) rfl)) rfl
theorem al_st_L_all : Cond.static yL_all ∈ al_G := al_g (al_t3 (List.mem_of_getElem? (i := 122) rfl)) rfl
theorem al_c_L_all : Cond.code yL_all cL_all 5 (some .long) ∈ al_G := al_g (al_t3 (List.mem_of_getElem? (i := 123) rfl)) rfl
theorem al_k_RL_8 : Cond.constantLong RL 8 71 ∈ al_G := al_g (al_t3 (List.mem_of_getElem? (i := 124) rfl)) rfl
theorem al_k_RL_10 : Cond.constantLong RL 10 31 ∈ al_G := al_g (al_t3 (List.mem_of_getElem? (i := 125) rfl)) rfl
theorem al_ml_RL_18 : Cond.methodLink RL 18 yX8_node ∈ al_G := al_g (al_t3 (List.mem_of_getElem? (i := 126) rfl)) rfl
theorem al_in_X8_node : Cond.instanceMethod yX8_node ∈ al_G := al_g (al_t3 (List.mem_of_getElem? (i := 127) rfl)) rfl
theorem al_se_X8_node : Cond.selects yX8_node.cls yX8_node yX8_node ∈ al_G := al_g (al_t3 (List.mem_of_getElem? (i := 128) rfl)) rfl
theorem al_c_X8_node : Cond.code yX8_node cX8_node 3 (some .int) ∈ al_G := al_g (al_t3 (List.mem_of_getElem? (i := 129) rfl)) rfl
theorem al_ml_RX8_162 : Cond.methodLink RX8 162 yX8_orNone ∈ al_G := al_g (al_t3 (List.mem_of_getElem? (i := 130) rfl)) rfl
theorem al_st_X8_orNone : Cond.static yX8_orNone ∈ al_G := al_g (al_t3 (List.mem_of_getElem? (i := 131) rfl)) rfl
theorem al_c_X8_orNone : Cond.code yX8_orNone cX8_orNone 1 (some .int) ∈ al_G := al_g (al_t3 (List.mem_of_getElem? (i := 132) rfl)) rfl
theorem al_ml_RX8_90 : Cond.methodLink RX8 90 yX4_childrenOf ∈ al_G := al_g (al_t3 (List.mem_of_getElem? (i := 133) rfl)) rfl
theorem al_in_X4_childrenOf : Cond.instanceMethod yX4_childrenOf ∈ al_G := al_g (al_t3 (List.mem_of_getElem? (i := 134) rfl)) rfl
theorem al_se_X4_childrenOf : Cond.selects yX4_childrenOf.cls yX4_childrenOf yX4_childrenOf ∈ al_G := al_g (al_t3 (List.mem_of_getElem? (i := 135) rfl)) rfl
theorem al_c_X4_childrenOf : Cond.code yX4_childrenOf cX4_childrenOf 2 (some .int) ∈ al_G := al_g (al_t3 (List.mem_of_getElem? (i := 136) rfl)) rfl
theorem al_ml_RX8_171 : Cond.methodLink RX8 171 yX4_longChildOf ∈ al_G := al_g (al_t3 (List.mem_of_getElem? (i := 137) rfl)) rfl
theorem al_in_X4_longChildOf : Cond.instanceMethod yX4_longChildOf ∈ al_G := al_g (al_t3 (List.mem_of_getElem? (i := 138) rfl)) rfl
theorem al_se_X4_longChildOf : Cond.selects yX4_longChildOf.cls yX4_longChildOf yX4_longChildOf ∈ al_G := al_g (al_t3 (List.mem_of_getElem? (i := 139) rfl)) rfl
theorem al_c_X4_longChildOf : Cond.code yX4_longChildOf cX4_longChildOf 2 (some .int) ∈ al_G := al_g (al_t3 (List.mem_of_getElem? (i := 140) rfl)) rfl
theorem al_ml_RX8_174 : Cond.methodLink RX8 174 yX4_topOf ∈ al_G := al_g (al_t3 (List.mem_of_getElem? (i := 141) rfl)) rfl
theorem al_in_X4_topOf : Cond.instanceMethod yX4_topOf ∈ al_G := al_g (al_t3 (List.mem_of_getElem? (i := 142) rfl)) rfl
theorem al_se_X4_topOf : Cond.selects yX4_topOf.cls yX4_topOf yX4_topOf ∈ al_G := al_g (al_t3 (List.mem_of_getElem? (i := 143) rfl)) rfl
theorem al_c_X4_topOf : Cond.code yX4_topOf cX4_topOf 2 (some .int) ∈ al_G := al_g (al_t3 (List.mem_of_getElem? (i := 144) rfl)) rfl
theorem al_ml_RX8_159 : Cond.methodLink RX8 159 yX4_footOf ∈ al_G := al_g (al_t3 (List.mem_of_getElem? (i := 145) rfl)) rfl
theorem al_in_X4_footOf : Cond.instanceMethod yX4_footOf ∈ al_G := al_g (al_t3 (List.mem_of_getElem? (i := 146) rfl)) rfl
theorem al_se_X4_footOf : Cond.selects yX4_footOf.cls yX4_footOf yX4_footOf ∈ al_G := al_g (al_t3 (List.mem_of_getElem? (i := 147) rfl)) rfl
theorem al_c_X4_footOf : Cond.code yX4_footOf cX4_footOf 2 (some .int) ∈ al_G := al_g (al_t3 (List.mem_of_getElem? (i := 148) rfl)) rfl
theorem al_ml_RX8_177 : Cond.methodLink RX8 177 yX4_longWayOf ∈ al_G := al_g (al_t3 (List.mem_of_getElem? (i := 149) rfl)) rfl
theorem al_ml_RX8_156 : Cond.methodLink RX8 156 yX4_ladderOf ∈ al_G := al_g (al_t3 (List.mem_of_getElem? (i := 150) rfl)) rfl
theorem al_k_RL_25 : Cond.constantLong RL 25 7 ∈ al_G := al_g (al_t3 (List.mem_of_getElem? (i := 151) rfl)) rfl
theorem al_ml_RL_108 : Cond.methodLink RL 108 yL_isSound ∈ al_G := al_g (al_t3 (List.mem_of_getElem? (i := 152) rfl)) rfl
theorem al_st_L_isSound : Cond.static yL_isSound ∈ al_G := al_g (al_t3 (List.mem_of_getElem? (i := 153) rfl)) rfl
theorem al_c_L_isSound : Cond.code yL_isSound cL_isSound 13 (some .boolean) ∈ al_G := al_g (al_t3 (List.mem_of_getElem? (i := 154) rfl)) rfl
theorem al_ml_RL_30 : Cond.methodLink RL 30 yL_is ∈ al_G := al_g (al_t3 (List.mem_of_getElem? (i := 155) rfl)) rfl
theorem al_st_L_is : Cond.static yL_is ∈ al_G := al_g (al_t3 (List.mem_of_getElem? (i := 156) rfl)) rfl
theorem al_c_L_is : Cond.code yL_is cL_is 2 (some .boolean) ∈ al_G := al_g (al_t3 (List.mem_of_getElem? (i := 157) rfl)) rfl
theorem al_ml_RL_36 : Cond.methodLink RL 36 yX8_alike ∈ al_G := al_g (al_t3 (List.mem_of_getElem? (i := 158) rfl)) rfl
theorem al_in_X8_alike : Cond.instanceMethod yX8_alike ∈ al_G := al_g (al_t3 (List.mem_of_getElem? (i := 159) rfl)) rfl
theorem al_se_X8_alike : Cond.selects yX8_alike.cls yX8_alike yX8_alike ∈ al_G := al_g (al_t3 (List.mem_of_getElem? (i := 160) rfl)) rfl
theorem al_c_X8_alike : Cond.code yX8_alike cX8_alike 2 (some .int) ∈ al_G := al_g (al_t3 (List.mem_of_getElem? (i := 161) rfl)) rfl
theorem al_ml_RX8_223 : Cond.methodLink RX8 223 yX3_countLike ∈ al_G := al_g (al_t3 (List.mem_of_getElem? (i := 162) rfl)) rfl
theorem al_in_X3_countLike : Cond.instanceMethod yX3_countLike ∈ al_G := al_g (al_t3 (List.mem_of_getElem? (i := 163) rfl)) rfl
theorem al_se_X3_countLike : Cond.selects yX3_countLike.cls yX3_countLike yX3_countLike ∈ al_G := al_g (al_t3 (List.mem_of_getElem? (i := 164) rfl)) rfl
theorem al_c_X3_countLike : Cond.code yX3_countLike cX3_countLike 4 (some .int) ∈ al_G := al_g (al_t3 (List.mem_of_getElem? (i := 165) rfl)) rfl
theorem al_ml_RL_39 : Cond.methodLink RL 39 yX8_ancestor ∈ al_G := al_g (al_t3 (List.mem_of_getElem? (i := 166) rfl)) rfl
theorem al_in_X8_ancestor : Cond.instanceMethod yX8_ancestor ∈ al_G := al_g (al_t3 (List.mem_of_getElem? (i := 167) rfl)) rfl
theorem al_se_X8_ancestor : Cond.selects yX8_ancestor.cls yX8_ancestor yX8_ancestor ∈ al_G := al_g (al_t3 (List.mem_of_getElem? (i := 168) rfl)) rfl
theorem al_c_X8_ancestor : Cond.code yX8_ancestor cX8_ancestor 3 (some .int) ∈ al_G := al_g (al_t3 (List.mem_of_getElem? (i := 169) rfl)) rfl
theorem al_ml_RL_42 : Cond.methodLink RL 42 yX8_meeting ∈ al_G := al_g (al_t3 (List.mem_of_getElem? (i := 170) rfl)) rfl
theorem al_in_X8_meeting : Cond.instanceMethod yX8_meeting ∈ al_G := al_g (al_t3 (List.mem_of_getElem? (i := 171) rfl)) rfl
theorem al_se_X8_meeting : Cond.selects yX8_meeting.cls yX8_meeting yX8_meeting ∈ al_G := al_g (al_t3 (List.mem_of_getElem? (i := 172) rfl)) rfl
theorem al_c_X8_meeting : Cond.code yX8_meeting cX8_meeting 3 (some .int) ∈ al_G := al_g (al_t3 (List.mem_of_getElem? (i := 173) rfl)) rfl
theorem al_ml_RX8_180 : Cond.methodLink RX8 180 yX4_meetingOf ∈ al_G := al_g (al_t3 (List.mem_of_getElem? (i := 174) rfl)) rfl
theorem al_ml_RL_112 : Cond.methodLink RL 112 yL_isLooked ∈ al_G := al_g (al_t3 (List.mem_of_getElem? (i := 175) rfl)) rfl
theorem al_st_L_isLooked : Cond.static yL_isLooked ∈ al_G := al_g (al_t3 (List.mem_of_getElem? (i := 176) rfl)) rfl
theorem al_c_L_isLooked : Cond.code yL_isLooked cL_isLooked 11 (some .boolean) ∈ al_G := al_g (al_t3 (List.mem_of_getElem? (i := 177) rfl)) rfl
theorem al_ml_RL_45 : Cond.methodLink RL 45 yX8_looks ∈ al_G := al_g (al_t3 (List.mem_of_getElem? (i := 178) rfl)) rfl
theorem al_in_X8_looks : Cond.instanceMethod yX8_looks ∈ al_G := al_g (al_t3 (List.mem_of_getElem? (i := 179) rfl)) rfl
theorem al_se_X8_looks : Cond.selects yX8_looks.cls yX8_looks yX8_looks ∈ al_G := al_g (al_t3 (List.mem_of_getElem? (i := 180) rfl)) rfl
theorem al_c_X8_looks : Cond.code yX8_looks cX8_looks 3 (some .int) ∈ al_G := al_g (al_t3 (List.mem_of_getElem? (i := 181) rfl)) rfl
theorem al_ml_RX8_153 : Cond.methodLink RX8 153 yX4_looksFor ∈ al_G := al_g (al_t3 (List.mem_of_getElem? (i := 182) rfl)) rfl
theorem al_in_X4_looksFor : Cond.instanceMethod yX4_looksFor ∈ al_G := al_g (al_t3 (List.mem_of_getElem? (i := 183) rfl)) rfl
theorem al_se_X4_looksFor : Cond.selects yX4_looksFor.cls yX4_looksFor yX4_looksFor ∈ al_G := al_g (al_t3 (List.mem_of_getElem? (i := 184) rfl)) rfl
theorem al_c_X4_looksFor : Cond.code yX4_looksFor cX4_looksFor 4 (some .int) ∈ al_G := al_g (al_t3 (List.mem_of_getElem? (i := 185) rfl)) rfl
theorem al_ml_RX4_104 : Cond.methodLink RX4 104 yJ6_bitCount_0f7a4 ∈ al_G := al_g (al_t3 (List.mem_of_getElem? (i := 186) rfl)) rfl
theorem al_st_J6_bitCount_0f7a4 : Cond.static yJ6_bitCount_0f7a4 ∈ al_G := al_g (al_t3 (List.mem_of_getElem? (i := 187) rfl)) rfl
theorem al_c_J6_bitCount_0f7a4 : Cond.code yJ6_bitCount_0f7a4 cJ6_bitCount_0f7a4 1 (some .int) ∈ al_G := al_g (al_t3 (List.mem_of_getElem? (i := 188) rfl)) rfl
theorem al_k_RJ6_265 : Cond.constant RJ6 265 1431655765 ∈ al_G := al_g (al_t3 (List.mem_of_getElem? (i := 189) rfl)) rfl
theorem al_k_RJ6_266 : Cond.constant RJ6 266 858993459 ∈ al_G := al_g (al_t3 (List.mem_of_getElem? (i := 190) rfl)) rfl
theorem al_k_RJ6_267 : Cond.constant RJ6 267 252645135 ∈ al_G := al_g (al_t3 (List.mem_of_getElem? (i := 191) rfl)) rfl
theorem al_ml_RL_48 : Cond.methodLink RL 48 yX8_ladderAt ∈ al_G := al_g (al_t3 (List.mem_of_getElem? (i := 192) rfl)) rfl
theorem al_in_X8_ladderAt : Cond.instanceMethod yX8_ladderAt ∈ al_G := al_g (al_t3 (List.mem_of_getElem? (i := 193) rfl)) rfl
theorem al_se_X8_ladderAt : Cond.selects yX8_ladderAt.cls yX8_ladderAt yX8_ladderAt ∈ al_G := al_g (al_t3 (List.mem_of_getElem? (i := 194) rfl)) rfl
theorem al_c_X8_ladderAt : Cond.code yX8_ladderAt cX8_ladderAt 3 (some .int) ∈ al_G := al_g (al_t3 (List.mem_of_getElem? (i := 195) rfl)) rfl
theorem al_ml_RL_51 : Cond.methodLink RL 51 yX8_wayAt ∈ al_G := al_g (al_t3 (List.mem_of_getElem? (i := 196) rfl)) rfl
theorem al_in_X8_wayAt : Cond.instanceMethod yX8_wayAt ∈ al_G := al_g (al_t3 (List.mem_of_getElem? (i := 197) rfl)) rfl
theorem al_se_X8_wayAt : Cond.selects yX8_wayAt.cls yX8_wayAt yX8_wayAt ∈ al_G := al_g (al_t3 (List.mem_of_getElem? (i := 198) rfl)) rfl
theorem al_c_X8_wayAt : Cond.code yX8_wayAt cX8_wayAt 4 (some .int) ∈ al_G := al_g (al_t3 (List.mem_of_getElem? (i := 199) rfl)) rfl
theorem al_ml_RX8_183 : Cond.methodLink RX8 183 yX7_onWay ∈ al_G := al_g (al_t3 (List.mem_of_getElem? (i := 200) rfl)) rfl
theorem al_in_X7_onWay : Cond.instanceMethod yX7_onWay ∈ al_G := al_g (al_t3 (List.mem_of_getElem? (i := 201) rfl)) rfl
theorem al_se_X7_onWay : Cond.selects yX7_onWay.cls yX7_onWay yX7_onWay ∈ al_G := al_g (al_t3 (List.mem_of_getElem? (i := 202) rfl)) rfl
theorem al_c_X7_onWay : Cond.code yX7_onWay cX7_onWay 7 (some .int) ∈ al_G := al_g (al_t3 (List.mem_of_getElem? (i := 203) rfl)) rfl
theorem al_ml_RX7_77 : Cond.methodLink RX7 77 yX4_depthOf ∈ al_G := al_g (al_t3 (List.mem_of_getElem? (i := 204) rfl)) rfl
theorem al_ml_RX7_80 : Cond.methodLink RX7 80 yX4_climb ∈ al_G := al_g (al_t3 (List.mem_of_getElem? (i := 205) rfl)) rfl
theorem al_ml_RL_65 : Cond.methodLink RL 65 yX8_real ∈ al_G := al_g (al_t3 (List.mem_of_getElem? (i := 206) rfl)) rfl
theorem al_in_X8_real : Cond.instanceMethod yX8_real ∈ al_G := al_g (al_t3 (List.mem_of_getElem? (i := 207) rfl)) rfl
theorem al_se_X8_real : Cond.selects yX8_real.cls yX8_real yX8_real ∈ al_G := al_g (al_t3 (List.mem_of_getElem? (i := 208) rfl)) rfl
theorem al_c_X8_real : Cond.code yX8_real cX8_real 3 (some .float) ∈ al_G := al_g (al_t3 (List.mem_of_getElem? (i := 209) rfl)) rfl
theorem al_ml_RX8_191 : Cond.methodLink RX8 191 yX6_lengthOf ∈ al_G := al_g (al_t3 (List.mem_of_getElem? (i := 210) rfl)) rfl
theorem al_ml_RX8_194 : Cond.methodLink RX8 194 yX7_pathOf ∈ al_G := al_g (al_t3 (List.mem_of_getElem? (i := 211) rfl)) rfl
theorem al_in_X7_pathOf : Cond.instanceMethod yX7_pathOf ∈ al_G := al_g (al_t3 (List.mem_of_getElem? (i := 212) rfl)) rfl
theorem al_se_X7_pathOf : Cond.selects yX7_pathOf.cls yX7_pathOf yX7_pathOf ∈ al_G := al_g (al_t3 (List.mem_of_getElem? (i := 213) rfl)) rfl
theorem al_c_X7_pathOf : Cond.code yX7_pathOf cX7_pathOf 2 (some .float) ∈ al_G := al_g (al_t3 (List.mem_of_getElem? (i := 214) rfl)) rfl
theorem al_ml_RL_100 : Cond.methodLink RL 100 yL_acts ∈ al_G := al_g (al_t3 (List.mem_of_getElem? (i := 215) rfl)) rfl
theorem al_st_L_acts : Cond.static yL_acts ∈ al_G := al_g (al_t3 (List.mem_of_getElem? (i := 216) rfl)) rfl
theorem al_c_L_acts : Cond.code yL_acts cL_acts 5 (some .int) ∈ al_G := al_g (al_t3 (List.mem_of_getElem? (i := 217) rfl)) rfl
theorem al_k_RL_71 : Cond.constant RL 71 8388608 ∈ al_G := al_g (al_t3 (List.mem_of_getElem? (i := 218) rfl)) rfl
theorem al_ml_RL_75 : Cond.methodLink RL 75 yX8_prune ∈ al_G := al_g (al_t3 (List.mem_of_getElem? (i := 219) rfl)) rfl
theorem al_in_X8_prune : Cond.instanceMethod yX8_prune ∈ al_G := al_g (al_t3 (List.mem_of_getElem? (i := 220) rfl)) rfl
theorem al_se_X8_prune : Cond.selects yX8_prune.cls yX8_prune yX8_prune ∈ al_G := al_g (al_t3 (List.mem_of_getElem? (i := 221) rfl)) rfl
theorem al_c_X8_prune : Cond.code yX8_prune cX8_prune 3 (some .int) ∈ al_G := al_g (al_t3 (List.mem_of_getElem? (i := 222) rfl)) rfl
theorem al_ml_RX8_86 : Cond.methodLink RX8 86 yX6_remove ∈ al_G := al_g (al_t3 (List.mem_of_getElem? (i := 223) rfl)) rfl
theorem al_in_X6_remove : Cond.instanceMethod yX6_remove ∈ al_G := al_g (al_t3 (List.mem_of_getElem? (i := 224) rfl)) rfl
theorem al_se_X6_remove : Cond.selects yX6_remove.cls yX6_remove yX6_remove ∈ al_G := al_g (al_t3 (List.mem_of_getElem? (i := 225) rfl)) rfl
theorem al_c_X6_remove : Cond.code yX6_remove cX6_remove 2 none ∈ al_G := al_g (al_t3 (List.mem_of_getElem? (i := 226) rfl)) rfl
theorem al_ml_RL_81 : Cond.methodLink RL 81 yX8_setLength ∈ al_G := al_g (al_t3 (List.mem_of_getElem? (i := 227) rfl)) rfl
theorem al_in_X8_setLength : Cond.instanceMethod yX8_setLength ∈ al_G := al_g (al_t3 (List.mem_of_getElem? (i := 228) rfl)) rfl
theorem al_se_X8_setLength : Cond.selects yX8_setLength.cls yX8_setLength yX8_setLength ∈ al_G := al_g (al_t3 (List.mem_of_getElem? (i := 229) rfl)) rfl
theorem al_c_X8_setLength : Cond.code yX8_setLength cX8_setLength 4 (some .int) ∈ al_G := al_g (al_t3 (List.mem_of_getElem? (i := 230) rfl)) rfl
theorem al_ml_RX8_101 : Cond.methodLink RX8 101 yX6_bitsOf ∈ al_G := al_g (al_t3 (List.mem_of_getElem? (i := 231) rfl)) rfl
theorem al_in_X6_bitsOf : Cond.instanceMethod yX6_bitsOf ∈ al_G := al_g (al_t3 (List.mem_of_getElem? (i := 232) rfl)) rfl
theorem al_se_X6_bitsOf : Cond.selects yX6_bitsOf.cls yX6_bitsOf yX6_bitsOf ∈ al_G := al_g (al_t3 (List.mem_of_getElem? (i := 233) rfl)) rfl
theorem al_c_X6_bitsOf : Cond.code yX6_bitsOf cX6_bitsOf 2 (some .int) ∈ al_G := al_g (al_t3 (List.mem_of_getElem? (i := 234) rfl)) rfl
theorem al_ml_RX8_104 : Cond.methodLink RX8 104 yX6_stretch ∈ al_G := al_g (al_t3 (List.mem_of_getElem? (i := 235) rfl)) rfl
theorem al_se_X8_lookAround : Cond.selects yX8_lookAround.cls yX8_lookAround yX8_lookAround ∈ al_G := al_g (al_t0 (List.mem_of_getElem? (i := 0) rfl)) rfl
theorem al_se_X4_linkChildren : Cond.selects yX4_linkChildren.cls yX4_linkChildren yX4_linkChildren ∈ al_G := al_g (al_t0 (List.mem_of_getElem? (i := 1) rfl)) rfl
theorem al_se_X4_goDown : Cond.selects yX4_goDown.cls yX4_goDown yX4_goDown ∈ al_G := al_g (al_t0 (List.mem_of_getElem? (i := 2) rfl)) rfl
theorem al_se_X4_goUp : Cond.selects yX4_goUp.cls yX4_goUp yX4_goUp ∈ al_G := al_g (al_t0 (List.mem_of_getElem? (i := 3) rfl)) rfl
theorem al_se_X4_measure : Cond.selects yX4_measure.cls yX4_measure yX4_measure ∈ al_G := al_g (al_t0 (List.mem_of_getElem? (i := 4) rfl)) rfl
theorem al_se_X4_findTops : Cond.selects yX4_findTops.cls yX4_findTops yX4_findTops ∈ al_G := al_g (al_t0 (List.mem_of_getElem? (i := 5) rfl)) rfl
theorem al_se_X1_dropOldest : Cond.selects yX1_dropOldest.cls yX1_dropOldest yX1_dropOldest ∈ al_G := al_g (al_t0 (List.mem_of_getElem? (i := 6) rfl)) rfl
theorem al_se_X1_stateAt : Cond.selects yX1_stateAt.cls yX1_stateAt yX1_stateAt ∈ al_G := al_g (al_t0 (List.mem_of_getElem? (i := 7) rfl)) rfl
theorem al_se_X7_findMeetings : Cond.selects yX7_findMeetings.cls yX7_findMeetings yX7_findMeetings ∈ al_G := al_g (al_t0 (List.mem_of_getElem? (i := 8) rfl)) rfl
theorem al_se_X7_farthestFromOn : Cond.selects yX7_farthestFromOn.cls yX7_farthestFromOn yX7_farthestFromOn ∈ al_G := al_g (al_t0 (List.mem_of_getElem? (i := 9) rfl)) rfl
theorem al_se_X7_measured : Cond.selects yX7_measured.cls yX7_measured yX7_measured ∈ al_G := al_g (al_t0 (List.mem_of_getElem? (i := 10) rfl)) rfl
theorem al_se_X3_join : Cond.selects yX3_join.cls yX3_join yX3_join ∈ al_G := al_g (al_t0 (List.mem_of_getElem? (i := 11) rfl)) rfl
theorem al_se_X3_enter : Cond.selects yX3_enter.cls yX3_enter yX3_enter ∈ al_G := al_g (al_t0 (List.mem_of_getElem? (i := 12) rfl)) rfl
theorem al_in0 : ∀ w ∈ u_ws RX0 TX0 1, w ∈ al_G := by
  have h : ∀ w ∈ ([u_lay RX0 TX0 0] : List Cond), w ∈ al_G := by
    intro w hw
    simp only [List.mem_cons, List.not_mem_nil, or_false] at hw
    rcases hw with rfl
    · exact al_g (al_t1 (List.mem_of_getElem? (i := 44) rfl)) rfl
  exact h
theorem al_in1 : ∀ w ∈ u_ws RX1 TX1 4, w ∈ al_G := by
  have h : ∀ w ∈ ([u_lay RX1 TX1 0, u_lay RX1 TX1 1, u_lay RX1 TX1 2, u_lay RX1 TX1 3] : List Cond), w ∈ al_G := by
    intro w hw
    simp only [List.mem_cons, List.not_mem_nil, or_false] at hw
    rcases hw with rfl | rfl | rfl | rfl
    · exact al_g (al_t1 (List.mem_of_getElem? (i := 92) rfl)) rfl
    · exact al_g (al_t1 (List.mem_of_getElem? (i := 94) rfl)) rfl
    · exact al_g (al_t1 (List.mem_of_getElem? (i := 96) rfl)) rfl
    · exact al_g (al_t1 (List.mem_of_getElem? (i := 98) rfl)) rfl
  exact h
theorem al_in2 : ∀ w ∈ u_ws RX2 TX2 1, w ∈ al_G := by
  have h : ∀ w ∈ ([u_lay RX2 TX2 0] : List Cond), w ∈ al_G := by
    intro w hw
    simp only [List.mem_cons, List.not_mem_nil, or_false] at hw
    rcases hw with rfl
    · exact al_g (al_t1 (List.mem_of_getElem? (i := 33) rfl)) rfl
  exact h
theorem al_in3 : ∀ w ∈ u_ws RX3 TX3 5, w ∈ al_G := by
  have h : ∀ w ∈ ([u_lay RX3 TX3 0, u_lay RX3 TX3 1, u_lay RX3 TX3 2, u_lay RX3 TX3 3, u_lay RX3 TX3 4] : List Cond), w ∈ al_G := by
    intro w hw
    simp only [List.mem_cons, List.not_mem_nil, or_false] at hw
    rcases hw with rfl | rfl | rfl | rfl | rfl
    · exact al_g (al_t1 (List.mem_of_getElem? (i := 191) rfl)) rfl
    · exact al_g (al_t1 (List.mem_of_getElem? (i := 193) rfl)) rfl
    · exact al_g (al_t1 (List.mem_of_getElem? (i := 195) rfl)) rfl
    · exact al_g (al_t1 (List.mem_of_getElem? (i := 197) rfl)) rfl
    · exact al_g (al_t1 (List.mem_of_getElem? (i := 199) rfl)) rfl
  exact h
theorem al_in4 : ∀ w ∈ u_ws RX4 TX4 12, w ∈ al_G := by
  have h : ∀ w ∈ ([u_lay RX4 TX4 0, u_lay RX4 TX4 1, u_lay RX4 TX4 2, u_lay RX4 TX4 3, u_lay RX4 TX4 4, u_lay RX4 TX4 5, u_lay RX4 TX4 6, u_lay RX4 TX4 7, u_lay RX4 TX4 8, u_lay RX4 TX4 9, u_lay RX4 TX4 10, u_lay RX4 TX4 11] : List Cond), w ∈ al_G := by
    intro w hw
    simp only [List.mem_cons, List.not_mem_nil, or_false] at hw
    rcases hw with rfl | rfl | rfl | rfl | rfl | rfl | rfl | rfl | rfl | rfl | rfl | rfl
    · exact al_g (al_t1 (List.mem_of_getElem? (i := 121) rfl)) rfl
    · exact al_g (al_t1 (List.mem_of_getElem? (i := 123) rfl)) rfl
    · exact al_g (al_t1 (List.mem_of_getElem? (i := 125) rfl)) rfl
    · exact al_g (al_t1 (List.mem_of_getElem? (i := 127) rfl)) rfl
    · exact al_g (al_t1 (List.mem_of_getElem? (i := 129) rfl)) rfl
    · exact al_g (al_t1 (List.mem_of_getElem? (i := 131) rfl)) rfl
    · exact al_g (al_t1 (List.mem_of_getElem? (i := 133) rfl)) rfl
    · exact al_g (al_t1 (List.mem_of_getElem? (i := 135) rfl)) rfl
    · exact al_g (al_t1 (List.mem_of_getElem? (i := 137) rfl)) rfl
    · exact al_g (al_t1 (List.mem_of_getElem? (i := 139) rfl)) rfl
    · exact al_g (al_t1 (List.mem_of_getElem? (i := 141) rfl)) rfl
    · exact al_g (al_t1 (List.mem_of_getElem? (i := 143) rfl)) rfl
  exact h
theorem al_in5 : ∀ w ∈ u_ws RX5 TX5 2, w ∈ al_G := by
  have h : ∀ w ∈ ([u_lay RX5 TX5 0, u_lay RX5 TX5 1] : List Cond), w ∈ al_G := by
    intro w hw
    simp only [List.mem_cons, List.not_mem_nil, or_false] at hw
    rcases hw with rfl | rfl
    · exact al_g (al_t1 (List.mem_of_getElem? (i := 73) rfl)) rfl
    · exact al_g (al_t1 (List.mem_of_getElem? (i := 75) rfl)) rfl
  exact h
theorem al_in6 : ∀ w ∈ u_ws RX6 TX6 4, w ∈ al_G := by
  have h : ∀ w ∈ ([u_lay RX6 TX6 0, u_lay RX6 TX6 1, u_lay RX6 TX6 2, u_lay RX6 TX6 3] : List Cond), w ∈ al_G := by
    intro w hw
    simp only [List.mem_cons, List.not_mem_nil, or_false] at hw
    rcases hw with rfl | rfl | rfl | rfl
    · exact al_g (al_t1 (List.mem_of_getElem? (i := 56) rfl)) rfl
    · exact al_g (al_t1 (List.mem_of_getElem? (i := 58) rfl)) rfl
    · exact al_g (al_t1 (List.mem_of_getElem? (i := 60) rfl)) rfl
    · exact al_g (al_t1 (List.mem_of_getElem? (i := 62) rfl)) rfl
  exact h
theorem al_in7 : ∀ w ∈ u_ws RX7 TX7 7, w ∈ al_G := by
  have h : ∀ w ∈ ([u_lay RX7 TX7 0, u_lay RX7 TX7 1, u_lay RX7 TX7 2, u_lay RX7 TX7 3, u_lay RX7 TX7 4, u_lay RX7 TX7 5, u_lay RX7 TX7 6] : List Cond), w ∈ al_G := by
    intro w hw
    simp only [List.mem_cons, List.not_mem_nil, or_false] at hw
    rcases hw with rfl | rfl | rfl | rfl | rfl | rfl | rfl
    · exact al_g (al_t1 (List.mem_of_getElem? (i := 163) rfl)) rfl
    · exact al_g (al_t1 (List.mem_of_getElem? (i := 165) rfl)) rfl
    · exact al_g (al_t1 (List.mem_of_getElem? (i := 167) rfl)) rfl
    · exact al_g (al_t1 (List.mem_of_getElem? (i := 169) rfl)) rfl
    · exact al_g (al_t1 (List.mem_of_getElem? (i := 171) rfl)) rfl
    · exact al_g (al_t1 (List.mem_of_getElem? (i := 173) rfl)) rfl
    · exact al_g (al_t1 (List.mem_of_getElem? (i := 175) rfl)) rfl
  exact h
theorem al_in8 : ∀ w ∈ u_ws RX8 TX8 6, w ∈ al_G := by
  have h : ∀ w ∈ ([u_lay RX8 TX8 0, u_lay RX8 TX8 1, u_lay RX8 TX8 2, u_lay RX8 TX8 3, u_lay RX8 TX8 4, u_lay RX8 TX8 5] : List Cond), w ∈ al_G := by
    intro w hw
    simp only [List.mem_cons, List.not_mem_nil, or_false] at hw
    rcases hw with rfl | rfl | rfl | rfl | rfl | rfl
    · exact al_g (al_t2 (List.mem_of_getElem? (i := 40) rfl)) rfl
    · exact al_g (al_t2 (List.mem_of_getElem? (i := 42) rfl)) rfl
    · exact al_g (al_t2 (List.mem_of_getElem? (i := 44) rfl)) rfl
    · exact al_g (al_t2 (List.mem_of_getElem? (i := 46) rfl)) rfl
    · exact al_g (al_t2 (List.mem_of_getElem? (i := 48) rfl)) rfl
    · exact al_g (al_t2 (List.mem_of_getElem? (i := 50) rfl)) rfl
  exact h
end
section
theorem dX0_init_0 : decode cX0_init 0 = .ok (.aload_n 0, 1) := by decide +kernel
theorem dX0_init_1 : decode cX0_init 1 = .ok (.invokespecial 3, 3) := by decide +kernel
theorem dX0_init_4 : decode cX0_init 4 = .ok (.aload_n 0, 1) := by decide +kernel
theorem dX0_init_5 : decode cX0_init 5 = .ok (.bipush 90, 2) := by decide +kernel
theorem dX0_init_7 : decode cX0_init 7 = .ok (.newarray .float, 2) := by decide +kernel
theorem dX0_init_9 : decode cX0_init 9 = .ok (.putfield 9, 3) := by decide +kernel
theorem dX0_init_12 : decode cX0_init 12 = .ok (.return_, 1) := by decide +kernel
theorem dX0_get_0 : decode cX0_get 0 = .ok (.iload_n 1, 1) := by decide +kernel
theorem dX0_get_1 : decode cX0_get 1 = .ok (.ifCond .lt 21, 3) := by decide +kernel
theorem dX0_get_4 : decode cX0_get 4 = .ok (.iload_n 1, 1) := by decide +kernel
theorem dX0_get_5 : decode cX0_get 5 = .ok (.aload_n 0, 1) := by decide +kernel
theorem dX0_get_6 : decode cX0_get 6 = .ok (.getfield 9, 3) := by decide +kernel
theorem dX0_get_9 : decode cX0_get 9 = .ok (.arraylength, 1) := by decide +kernel
theorem dX0_get_10 : decode cX0_get 10 = .ok (.if_icmp .ge 12, 3) := by decide +kernel
theorem dX0_get_13 : decode cX0_get 13 = .ok (.aload_n 0, 1) := by decide +kernel
theorem dX0_get_14 : decode cX0_get 14 = .ok (.getfield 9, 3) := by decide +kernel
theorem dX0_get_17 : decode cX0_get 17 = .ok (.iload_n 1, 1) := by decide +kernel
theorem dX0_get_18 : decode cX0_get 18 = .ok (.faload, 1) := by decide +kernel
theorem dX0_get_19 : decode cX0_get 19 = .ok (.goto 4, 3) := by decide +kernel
theorem dX0_get_22 : decode cX0_get 22 = .ok (.fconst 0, 1) := by decide +kernel
theorem dX0_get_23 : decode cX0_get 23 = .ok (.freturn, 1) := by decide +kernel
theorem dX0_set_0 : decode cX0_set 0 = .ok (.iload_n 1, 1) := by decide +kernel
theorem dX0_set_1 : decode cX0_set 1 = .ok (.ifCond .lt 19, 3) := by decide +kernel
theorem dX0_set_4 : decode cX0_set 4 = .ok (.iload_n 1, 1) := by decide +kernel
theorem dX0_set_5 : decode cX0_set 5 = .ok (.aload_n 0, 1) := by decide +kernel
theorem dX0_set_6 : decode cX0_set 6 = .ok (.getfield 9, 3) := by decide +kernel
theorem dX0_set_9 : decode cX0_set 9 = .ok (.arraylength, 1) := by decide +kernel
theorem dX0_set_10 : decode cX0_set 10 = .ok (.if_icmp .ge 10, 3) := by decide +kernel
theorem dX0_set_13 : decode cX0_set 13 = .ok (.aload_n 0, 1) := by decide +kernel
theorem dX0_set_14 : decode cX0_set 14 = .ok (.getfield 9, 3) := by decide +kernel
theorem dX0_set_17 : decode cX0_set 17 = .ok (.iload_n 1, 1) := by decide +kernel
theorem dX0_set_18 : decode cX0_set 18 = .ok (.fload_n 2, 1) := by decide +kernel
theorem dX0_set_19 : decode cX0_set 19 = .ok (.fastore, 1) := by decide +kernel
theorem dX0_set_20 : decode cX0_set 20 = .ok (.return_, 1) := by decide +kernel
theorem dX0_copyFrom_0 : decode cX0_copyFrom 0 = .ok (.iconst 0, 1) := by decide +kernel
theorem dX0_copyFrom_1 : decode cX0_copyFrom 1 = .ok (.istore_n 2, 1) := by decide +kernel
theorem dX0_copyFrom_2 : decode cX0_copyFrom 2 = .ok (.iload_n 2, 1) := by decide +kernel
theorem dX0_copyFrom_3 : decode cX0_copyFrom 3 = .ok (.aload_n 0, 1) := by decide +kernel
theorem dX0_copyFrom_4 : decode cX0_copyFrom 4 = .ok (.getfield 9, 3) := by decide +kernel
theorem dX0_copyFrom_7 : decode cX0_copyFrom 7 = .ok (.arraylength, 1) := by decide +kernel
theorem dX0_copyFrom_8 : decode cX0_copyFrom 8 = .ok (.if_icmp .ge 20, 3) := by decide +kernel
theorem dX0_copyFrom_11 : decode cX0_copyFrom 11 = .ok (.aload_n 0, 1) := by decide +kernel
theorem dX0_copyFrom_12 : decode cX0_copyFrom 12 = .ok (.getfield 9, 3) := by decide +kernel
theorem dX0_copyFrom_15 : decode cX0_copyFrom 15 = .ok (.iload_n 2, 1) := by decide +kernel
theorem dX0_copyFrom_16 : decode cX0_copyFrom 16 = .ok (.aload_n 1, 1) := by decide +kernel
theorem dX0_copyFrom_17 : decode cX0_copyFrom 17 = .ok (.iload_n 2, 1) := by decide +kernel
theorem dX0_copyFrom_18 : decode cX0_copyFrom 18 = .ok (.invokevirtual 15, 3) := by decide +kernel
theorem dX0_copyFrom_21 : decode cX0_copyFrom 21 = .ok (.fastore, 1) := by decide +kernel
theorem dX0_copyFrom_22 : decode cX0_copyFrom 22 = .ok (.iinc 2 1, 3) := by decide +kernel
theorem dX0_copyFrom_25 : decode cX0_copyFrom 25 = .ok (.goto (-23), 3) := by decide +kernel
theorem dX0_copyFrom_28 : decode cX0_copyFrom 28 = .ok (.return_, 1) := by decide +kernel
theorem dX1_init_0 : decode cX1_init 0 = .ok (.aload_n 0, 1) := by decide +kernel
theorem dX1_init_1 : decode cX1_init 1 = .ok (.invokespecial 3, 3) := by decide +kernel
theorem dX1_init_4 : decode cX1_init 4 = .ok (.aload_n 0, 1) := by decide +kernel
theorem dX1_init_5 : decode cX1_init 5 = .ok (.iconst 4, 1) := by decide +kernel
theorem dX1_init_6 : decode cX1_init 6 = .ok (.anewarray 9, 3) := by decide +kernel
theorem dX1_init_9 : decode cX1_init 9 = .ok (.putfield 11, 3) := by decide +kernel
theorem dX1_init_12 : decode cX1_init 12 = .ok (.iconst 0, 1) := by decide +kernel
theorem dX1_init_13 : decode cX1_init 13 = .ok (.istore_n 1, 1) := by decide +kernel
theorem dX1_init_14 : decode cX1_init 14 = .ok (.iload_n 1, 1) := by decide +kernel
theorem dX1_init_15 : decode cX1_init 15 = .ok (.aload_n 0, 1) := by decide +kernel
theorem dX1_init_16 : decode cX1_init 16 = .ok (.getfield 11, 3) := by decide +kernel
theorem dX1_init_19 : decode cX1_init 19 = .ok (.arraylength, 1) := by decide +kernel
theorem dX1_init_20 : decode cX1_init 20 = .ok (.if_icmp .ge 22, 3) := by decide +kernel
theorem dX1_init_23 : decode cX1_init 23 = .ok (.aload_n 0, 1) := by decide +kernel
theorem dX1_init_24 : decode cX1_init 24 = .ok (.getfield 11, 3) := by decide +kernel
theorem dX1_init_27 : decode cX1_init 27 = .ok (.iload_n 1, 1) := by decide +kernel
theorem dX1_init_28 : decode cX1_init 28 = .ok (.new 9, 3) := by decide +kernel
theorem dX1_init_31 : decode cX1_init 31 = .ok (.dup, 1) := by decide +kernel
theorem dX1_init_32 : decode cX1_init 32 = .ok (.invokespecial 17, 3) := by decide +kernel
theorem dX1_init_35 : decode cX1_init 35 = .ok (.aastore, 1) := by decide +kernel
theorem dX1_init_36 : decode cX1_init 36 = .ok (.iinc 1 1, 3) := by decide +kernel
theorem dX1_init_39 : decode cX1_init 39 = .ok (.goto (-25), 3) := by decide +kernel
theorem dX1_init_42 : decode cX1_init 42 = .ok (.aload_n 0, 1) := by decide +kernel
theorem dX1_init_43 : decode cX1_init 43 = .ok (.new 9, 3) := by decide +kernel
theorem dX1_init_46 : decode cX1_init 46 = .ok (.dup, 1) := by decide +kernel
theorem dX1_init_47 : decode cX1_init 47 = .ok (.invokespecial 17, 3) := by decide +kernel
theorem dX1_init_50 : decode cX1_init 50 = .ok (.putfield 18, 3) := by decide +kernel
theorem dX1_init_53 : decode cX1_init 53 = .ok (.aload_n 0, 1) := by decide +kernel
theorem dX1_init_54 : decode cX1_init 54 = .ok (.iconst 0, 1) := by decide +kernel
theorem dX1_init_55 : decode cX1_init 55 = .ok (.putfield 22, 3) := by decide +kernel
theorem dX1_init_58 : decode cX1_init 58 = .ok (.aload_n 0, 1) := by decide +kernel
theorem dX1_init_59 : decode cX1_init 59 = .ok (.iconst 0, 1) := by decide +kernel
theorem dX1_init_60 : decode cX1_init 60 = .ok (.putfield 26, 3) := by decide +kernel
theorem dX1_init_63 : decode cX1_init 63 = .ok (.return_, 1) := by decide +kernel
theorem dX1_length_0 : decode cX1_length 0 = .ok (.aload_n 0, 1) := by decide +kernel
theorem dX1_length_1 : decode cX1_length 1 = .ok (.getfield 22, 3) := by decide +kernel
theorem dX1_length_4 : decode cX1_length 4 = .ok (.ireturn, 1) := by decide +kernel
theorem dX1_hasSnapshot_0 : decode cX1_hasSnapshot 0 = .ok (.aload_n 0, 1) := by decide +kernel
theorem dX1_hasSnapshot_1 : decode cX1_hasSnapshot 1 = .ok (.getfield 26, 3) := by decide +kernel
theorem dX1_hasSnapshot_4 : decode cX1_hasSnapshot 4 = .ok (.ireturn, 1) := by decide +kernel
theorem dX1_record_0 : decode cX1_record 0 = .ok (.aload_n 0, 1) := by decide +kernel
theorem dX1_record_1 : decode cX1_record 1 = .ok (.getfield 22, 3) := by decide +kernel
theorem dX1_record_4 : decode cX1_record 4 = .ok (.aload_n 0, 1) := by decide +kernel
theorem dX1_record_5 : decode cX1_record 5 = .ok (.getfield 11, 3) := by decide +kernel
theorem dX1_record_8 : decode cX1_record 8 = .ok (.arraylength, 1) := by decide +kernel
theorem dX1_record_9 : decode cX1_record 9 = .ok (.if_icmp .lt 7, 3) := by decide +kernel
theorem dX1_record_12 : decode cX1_record 12 = .ok (.aload_n 0, 1) := by decide +kernel
theorem dX1_record_13 : decode cX1_record 13 = .ok (.invokevirtual 30, 3) := by decide +kernel
theorem dX1_record_16 : decode cX1_record 16 = .ok (.aload_n 0, 1) := by decide +kernel
theorem dX1_record_17 : decode cX1_record 17 = .ok (.aload_n 0, 1) := by decide +kernel
theorem dX1_record_18 : decode cX1_record 18 = .ok (.getfield 22, 3) := by decide +kernel
theorem dX1_record_21 : decode cX1_record 21 = .ok (.invokevirtual 33, 3) := by decide +kernel
theorem dX1_record_24 : decode cX1_record 24 = .ok (.astore_n 2, 1) := by decide +kernel
theorem dX1_record_25 : decode cX1_record 25 = .ok (.aload_n 2, 1) := by decide +kernel
theorem dX1_record_26 : decode cX1_record 26 = .ok (.ifnull 18, 3) := by decide +kernel
theorem dX1_record_29 : decode cX1_record 29 = .ok (.aload_n 2, 1) := by decide +kernel
theorem dX1_record_30 : decode cX1_record 30 = .ok (.aload_n 1, 1) := by decide +kernel
theorem dX1_record_31 : decode cX1_record 31 = .ok (.invokevirtual 37, 3) := by decide +kernel
theorem dX1_record_34 : decode cX1_record 34 = .ok (.aload_n 0, 1) := by decide +kernel
theorem dX1_record_35 : decode cX1_record 35 = .ok (.dup, 1) := by decide +kernel
theorem dX1_record_36 : decode cX1_record 36 = .ok (.getfield 22, 3) := by decide +kernel
theorem dX1_record_39 : decode cX1_record 39 = .ok (.iconst 1, 1) := by decide +kernel
theorem dX1_record_40 : decode cX1_record 40 = .ok (.iadd, 1) := by decide +kernel
theorem dX1_record_41 : decode cX1_record 41 = .ok (.putfield 22, 3) := by decide +kernel
theorem dX1_record_44 : decode cX1_record 44 = .ok (.return_, 1) := by decide +kernel
theorem dX1_takeBack_0 : decode cX1_takeBack 0 = .ok (.aload_n 0, 1) := by decide +kernel
theorem dX1_takeBack_1 : decode cX1_takeBack 1 = .ok (.aload_n 0, 1) := by decide +kernel
theorem dX1_takeBack_2 : decode cX1_takeBack 2 = .ok (.getfield 22, 3) := by decide +kernel
theorem dX1_takeBack_5 : decode cX1_takeBack 5 = .ok (.iconst 1, 1) := by decide +kernel
theorem dX1_takeBack_6 : decode cX1_takeBack 6 = .ok (.isub, 1) := by decide +kernel
theorem dX1_takeBack_7 : decode cX1_takeBack 7 = .ok (.invokevirtual 33, 3) := by decide +kernel
theorem dX1_takeBack_10 : decode cX1_takeBack 10 = .ok (.astore_n 2, 1) := by decide +kernel
theorem dX1_takeBack_11 : decode cX1_takeBack 11 = .ok (.aload_n 2, 1) := by decide +kernel
theorem dX1_takeBack_12 : decode cX1_takeBack 12 = .ok (.ifnull 18, 3) := by decide +kernel
theorem dX1_takeBack_15 : decode cX1_takeBack 15 = .ok (.aload_n 1, 1) := by decide +kernel
theorem dX1_takeBack_16 : decode cX1_takeBack 16 = .ok (.aload_n 2, 1) := by decide +kernel
theorem dX1_takeBack_17 : decode cX1_takeBack 17 = .ok (.invokevirtual 37, 3) := by decide +kernel
theorem dX1_takeBack_20 : decode cX1_takeBack 20 = .ok (.aload_n 0, 1) := by decide +kernel
theorem dX1_takeBack_21 : decode cX1_takeBack 21 = .ok (.dup, 1) := by decide +kernel
theorem dX1_takeBack_22 : decode cX1_takeBack 22 = .ok (.getfield 22, 3) := by decide +kernel
theorem dX1_takeBack_25 : decode cX1_takeBack 25 = .ok (.iconst 1, 1) := by decide +kernel
theorem dX1_takeBack_26 : decode cX1_takeBack 26 = .ok (.isub, 1) := by decide +kernel
theorem dX1_takeBack_27 : decode cX1_takeBack 27 = .ok (.putfield 22, 3) := by decide +kernel
theorem dX1_takeBack_30 : decode cX1_takeBack 30 = .ok (.return_, 1) := by decide +kernel
theorem dX1_keepSnapshot_0 : decode cX1_keepSnapshot 0 = .ok (.aload_n 0, 1) := by decide +kernel
theorem dX1_keepSnapshot_1 : decode cX1_keepSnapshot 1 = .ok (.getfield 18, 3) := by decide +kernel
theorem dX1_keepSnapshot_4 : decode cX1_keepSnapshot 4 = .ok (.aload_n 1, 1) := by decide +kernel
theorem dX1_keepSnapshot_5 : decode cX1_keepSnapshot 5 = .ok (.invokevirtual 37, 3) := by decide +kernel
theorem dX1_keepSnapshot_8 : decode cX1_keepSnapshot 8 = .ok (.aload_n 0, 1) := by decide +kernel
theorem dX1_keepSnapshot_9 : decode cX1_keepSnapshot 9 = .ok (.iconst 1, 1) := by decide +kernel
theorem dX1_keepSnapshot_10 : decode cX1_keepSnapshot 10 = .ok (.putfield 26, 3) := by decide +kernel
theorem dX1_keepSnapshot_13 : decode cX1_keepSnapshot 13 = .ok (.return_, 1) := by decide +kernel
theorem dX1_showSnapshot_0 : decode cX1_showSnapshot 0 = .ok (.aload_n 1, 1) := by decide +kernel
theorem dX1_showSnapshot_1 : decode cX1_showSnapshot 1 = .ok (.aload_n 0, 1) := by decide +kernel
theorem dX1_showSnapshot_2 : decode cX1_showSnapshot 2 = .ok (.getfield 18, 3) := by decide +kernel
theorem dX1_showSnapshot_5 : decode cX1_showSnapshot 5 = .ok (.invokevirtual 37, 3) := by decide +kernel
theorem dX1_showSnapshot_8 : decode cX1_showSnapshot 8 = .ok (.return_, 1) := by decide +kernel
theorem dX1_dropOldest_0 : decode cX1_dropOldest 0 = .ok (.aload_n 0, 1) := by decide +kernel
theorem dX1_dropOldest_1 : decode cX1_dropOldest 1 = .ok (.iconst 0, 1) := by decide +kernel
theorem dX1_dropOldest_2 : decode cX1_dropOldest 2 = .ok (.invokevirtual 33, 3) := by decide +kernel
theorem dX1_dropOldest_5 : decode cX1_dropOldest 5 = .ok (.astore_n 1, 1) := by decide +kernel
theorem dX1_dropOldest_6 : decode cX1_dropOldest 6 = .ok (.iconst 1, 1) := by decide +kernel
theorem dX1_dropOldest_7 : decode cX1_dropOldest 7 = .ok (.istore_n 2, 1) := by decide +kernel
theorem dX1_dropOldest_8 : decode cX1_dropOldest 8 = .ok (.iload_n 2, 1) := by decide +kernel
theorem dX1_dropOldest_9 : decode cX1_dropOldest 9 = .ok (.aload_n 0, 1) := by decide +kernel
theorem dX1_dropOldest_10 : decode cX1_dropOldest 10 = .ok (.getfield 11, 3) := by decide +kernel
theorem dX1_dropOldest_13 : decode cX1_dropOldest 13 = .ok (.arraylength, 1) := by decide +kernel
theorem dX1_dropOldest_14 : decode cX1_dropOldest 14 = .ok (.if_icmp .ge 23, 3) := by decide +kernel
theorem dX1_dropOldest_17 : decode cX1_dropOldest 17 = .ok (.aload_n 0, 1) := by decide +kernel
theorem dX1_dropOldest_18 : decode cX1_dropOldest 18 = .ok (.getfield 11, 3) := by decide +kernel
theorem dX1_dropOldest_21 : decode cX1_dropOldest 21 = .ok (.iload_n 2, 1) := by decide +kernel
theorem dX1_dropOldest_22 : decode cX1_dropOldest 22 = .ok (.iconst 1, 1) := by decide +kernel
theorem dX1_dropOldest_23 : decode cX1_dropOldest 23 = .ok (.isub, 1) := by decide +kernel
theorem dX1_dropOldest_24 : decode cX1_dropOldest 24 = .ok (.aload_n 0, 1) := by decide +kernel
theorem dX1_dropOldest_25 : decode cX1_dropOldest 25 = .ok (.getfield 11, 3) := by decide +kernel
theorem dX1_dropOldest_28 : decode cX1_dropOldest 28 = .ok (.iload_n 2, 1) := by decide +kernel
theorem dX1_dropOldest_29 : decode cX1_dropOldest 29 = .ok (.aaload, 1) := by decide +kernel
theorem dX1_dropOldest_30 : decode cX1_dropOldest 30 = .ok (.aastore, 1) := by decide +kernel
theorem dX1_dropOldest_31 : decode cX1_dropOldest 31 = .ok (.iinc 2 1, 3) := by decide +kernel
theorem dX1_dropOldest_34 : decode cX1_dropOldest 34 = .ok (.goto (-26), 3) := by decide +kernel
theorem dX1_dropOldest_37 : decode cX1_dropOldest 37 = .ok (.aload_n 0, 1) := by decide +kernel
theorem dX1_dropOldest_38 : decode cX1_dropOldest 38 = .ok (.getfield 11, 3) := by decide +kernel
theorem dX1_dropOldest_41 : decode cX1_dropOldest 41 = .ok (.arraylength, 1) := by decide +kernel
theorem dX1_dropOldest_42 : decode cX1_dropOldest 42 = .ok (.ifCond .le 16, 3) := by decide +kernel
theorem dX1_dropOldest_45 : decode cX1_dropOldest 45 = .ok (.aload_n 0, 1) := by decide +kernel
theorem dX1_dropOldest_46 : decode cX1_dropOldest 46 = .ok (.getfield 11, 3) := by decide +kernel
theorem dX1_dropOldest_49 : decode cX1_dropOldest 49 = .ok (.aload_n 0, 1) := by decide +kernel
theorem dX1_dropOldest_50 : decode cX1_dropOldest 50 = .ok (.getfield 11, 3) := by decide +kernel
theorem dX1_dropOldest_53 : decode cX1_dropOldest 53 = .ok (.arraylength, 1) := by decide +kernel
theorem dX1_dropOldest_54 : decode cX1_dropOldest 54 = .ok (.iconst 1, 1) := by decide +kernel
theorem dX1_dropOldest_55 : decode cX1_dropOldest 55 = .ok (.isub, 1) := by decide +kernel
theorem dX1_dropOldest_56 : decode cX1_dropOldest 56 = .ok (.aload_n 1, 1) := by decide +kernel
theorem dX1_dropOldest_57 : decode cX1_dropOldest 57 = .ok (.aastore, 1) := by decide +kernel
theorem dX1_dropOldest_58 : decode cX1_dropOldest 58 = .ok (.aload_n 0, 1) := by decide +kernel
theorem dX1_dropOldest_59 : decode cX1_dropOldest 59 = .ok (.aload_n 0, 1) := by decide +kernel
theorem dX1_dropOldest_60 : decode cX1_dropOldest 60 = .ok (.getfield 11, 3) := by decide +kernel
theorem dX1_dropOldest_63 : decode cX1_dropOldest 63 = .ok (.arraylength, 1) := by decide +kernel
theorem dX1_dropOldest_64 : decode cX1_dropOldest 64 = .ok (.iconst 1, 1) := by decide +kernel
theorem dX1_dropOldest_65 : decode cX1_dropOldest 65 = .ok (.isub, 1) := by decide +kernel
theorem dX1_dropOldest_66 : decode cX1_dropOldest 66 = .ok (.putfield 22, 3) := by decide +kernel
theorem dX1_dropOldest_69 : decode cX1_dropOldest 69 = .ok (.return_, 1) := by decide +kernel
theorem dX1_stateAt_0 : decode cX1_stateAt 0 = .ok (.iload_n 1, 1) := by decide +kernel
theorem dX1_stateAt_1 : decode cX1_stateAt 1 = .ok (.ifCond .lt 21, 3) := by decide +kernel
theorem dX1_stateAt_4 : decode cX1_stateAt 4 = .ok (.iload_n 1, 1) := by decide +kernel
theorem dX1_stateAt_5 : decode cX1_stateAt 5 = .ok (.aload_n 0, 1) := by decide +kernel
theorem dX1_stateAt_6 : decode cX1_stateAt 6 = .ok (.getfield 11, 3) := by decide +kernel
theorem dX1_stateAt_9 : decode cX1_stateAt 9 = .ok (.arraylength, 1) := by decide +kernel
theorem dX1_stateAt_10 : decode cX1_stateAt 10 = .ok (.if_icmp .ge 12, 3) := by decide +kernel
theorem dX1_stateAt_13 : decode cX1_stateAt 13 = .ok (.aload_n 0, 1) := by decide +kernel
theorem dX1_stateAt_14 : decode cX1_stateAt 14 = .ok (.getfield 11, 3) := by decide +kernel
theorem dX1_stateAt_17 : decode cX1_stateAt 17 = .ok (.iload_n 1, 1) := by decide +kernel
theorem dX1_stateAt_18 : decode cX1_stateAt 18 = .ok (.aaload, 1) := by decide +kernel
theorem dX1_stateAt_19 : decode cX1_stateAt 19 = .ok (.goto 4, 3) := by decide +kernel
theorem dX1_stateAt_22 : decode cX1_stateAt 22 = .ok (.aconst_null, 1) := by decide +kernel
theorem dX1_stateAt_23 : decode cX1_stateAt 23 = .ok (.areturn, 1) := by decide +kernel
theorem dX2_init_0 : decode cX2_init 0 = .ok (.aload_n 0, 1) := by decide +kernel
theorem dX2_init_1 : decode cX2_init 1 = .ok (.invokespecial 3, 3) := by decide +kernel
theorem dX2_init_4 : decode cX2_init 4 = .ok (.aload_n 0, 1) := by decide +kernel
theorem dX2_init_5 : decode cX2_init 5 = .ok (.bipush 90, 2) := by decide +kernel
theorem dX2_init_7 : decode cX2_init 7 = .ok (.newarray .int, 2) := by decide +kernel
theorem dX2_init_9 : decode cX2_init 9 = .ok (.putfield 9, 3) := by decide +kernel
theorem dX2_init_12 : decode cX2_init 12 = .ok (.return_, 1) := by decide +kernel
theorem dX2_get_0 : decode cX2_get 0 = .ok (.iload_n 1, 1) := by decide +kernel
theorem dX2_get_1 : decode cX2_get 1 = .ok (.ifCond .lt 21, 3) := by decide +kernel
theorem dX2_get_4 : decode cX2_get 4 = .ok (.iload_n 1, 1) := by decide +kernel
theorem dX2_get_5 : decode cX2_get 5 = .ok (.aload_n 0, 1) := by decide +kernel
theorem dX2_get_6 : decode cX2_get 6 = .ok (.getfield 9, 3) := by decide +kernel
theorem dX2_get_9 : decode cX2_get 9 = .ok (.arraylength, 1) := by decide +kernel
theorem dX2_get_10 : decode cX2_get 10 = .ok (.if_icmp .ge 12, 3) := by decide +kernel
theorem dX2_get_13 : decode cX2_get 13 = .ok (.aload_n 0, 1) := by decide +kernel
theorem dX2_get_14 : decode cX2_get 14 = .ok (.getfield 9, 3) := by decide +kernel
theorem dX2_get_17 : decode cX2_get 17 = .ok (.iload_n 1, 1) := by decide +kernel
theorem dX2_get_18 : decode cX2_get 18 = .ok (.iaload, 1) := by decide +kernel
theorem dX2_get_19 : decode cX2_get 19 = .ok (.goto 4, 3) := by decide +kernel
theorem dX2_get_22 : decode cX2_get 22 = .ok (.iconst (-1), 1) := by decide +kernel
theorem dX2_get_23 : decode cX2_get 23 = .ok (.ireturn, 1) := by decide +kernel
theorem dX2_set_0 : decode cX2_set 0 = .ok (.iload_n 1, 1) := by decide +kernel
theorem dX2_set_1 : decode cX2_set 1 = .ok (.ifCond .lt 19, 3) := by decide +kernel
theorem dX2_set_4 : decode cX2_set 4 = .ok (.iload_n 1, 1) := by decide +kernel
theorem dX2_set_5 : decode cX2_set 5 = .ok (.aload_n 0, 1) := by decide +kernel
theorem dX2_set_6 : decode cX2_set 6 = .ok (.getfield 9, 3) := by decide +kernel
theorem dX2_set_9 : decode cX2_set 9 = .ok (.arraylength, 1) := by decide +kernel
theorem dX2_set_10 : decode cX2_set 10 = .ok (.if_icmp .ge 10, 3) := by decide +kernel
theorem dX2_set_13 : decode cX2_set 13 = .ok (.aload_n 0, 1) := by decide +kernel
theorem dX2_set_14 : decode cX2_set 14 = .ok (.getfield 9, 3) := by decide +kernel
theorem dX2_set_17 : decode cX2_set 17 = .ok (.iload_n 1, 1) := by decide +kernel
theorem dX2_set_18 : decode cX2_set 18 = .ok (.iload_n 2, 1) := by decide +kernel
theorem dX2_set_19 : decode cX2_set 19 = .ok (.iastore, 1) := by decide +kernel
theorem dX2_set_20 : decode cX2_set 20 = .ok (.return_, 1) := by decide +kernel
theorem dX2_fill_0 : decode cX2_fill 0 = .ok (.iconst 0, 1) := by decide +kernel
theorem dX2_fill_1 : decode cX2_fill 1 = .ok (.istore_n 2, 1) := by decide +kernel
theorem dX2_fill_2 : decode cX2_fill 2 = .ok (.iload_n 2, 1) := by decide +kernel
theorem dX2_fill_3 : decode cX2_fill 3 = .ok (.aload_n 0, 1) := by decide +kernel
theorem dX2_fill_4 : decode cX2_fill 4 = .ok (.getfield 9, 3) := by decide +kernel
theorem dX2_fill_7 : decode cX2_fill 7 = .ok (.arraylength, 1) := by decide +kernel
theorem dX2_fill_8 : decode cX2_fill 8 = .ok (.if_icmp .ge 16, 3) := by decide +kernel
theorem dX2_fill_11 : decode cX2_fill 11 = .ok (.aload_n 0, 1) := by decide +kernel
theorem dX2_fill_12 : decode cX2_fill 12 = .ok (.getfield 9, 3) := by decide +kernel
theorem dX2_fill_15 : decode cX2_fill 15 = .ok (.iload_n 2, 1) := by decide +kernel
theorem dX2_fill_16 : decode cX2_fill 16 = .ok (.iload_n 1, 1) := by decide +kernel
theorem dX2_fill_17 : decode cX2_fill 17 = .ok (.iastore, 1) := by decide +kernel
theorem dX2_fill_18 : decode cX2_fill 18 = .ok (.iinc 2 1, 3) := by decide +kernel
theorem dX2_fill_21 : decode cX2_fill 21 = .ok (.goto (-19), 3) := by decide +kernel
theorem dX2_fill_24 : decode cX2_fill 24 = .ok (.return_, 1) := by decide +kernel
theorem dX2_copyFrom_0 : decode cX2_copyFrom 0 = .ok (.iconst 0, 1) := by decide +kernel
theorem dX2_copyFrom_1 : decode cX2_copyFrom 1 = .ok (.istore_n 2, 1) := by decide +kernel
theorem dX2_copyFrom_2 : decode cX2_copyFrom 2 = .ok (.iload_n 2, 1) := by decide +kernel
theorem dX2_copyFrom_3 : decode cX2_copyFrom 3 = .ok (.aload_n 0, 1) := by decide +kernel
theorem dX2_copyFrom_4 : decode cX2_copyFrom 4 = .ok (.getfield 9, 3) := by decide +kernel
theorem dX2_copyFrom_7 : decode cX2_copyFrom 7 = .ok (.arraylength, 1) := by decide +kernel
theorem dX2_copyFrom_8 : decode cX2_copyFrom 8 = .ok (.if_icmp .ge 20, 3) := by decide +kernel
theorem dX2_copyFrom_11 : decode cX2_copyFrom 11 = .ok (.aload_n 0, 1) := by decide +kernel
theorem dX2_copyFrom_12 : decode cX2_copyFrom 12 = .ok (.getfield 9, 3) := by decide +kernel
theorem dX2_copyFrom_15 : decode cX2_copyFrom 15 = .ok (.iload_n 2, 1) := by decide +kernel
theorem dX2_copyFrom_16 : decode cX2_copyFrom 16 = .ok (.aload_n 1, 1) := by decide +kernel
theorem dX2_copyFrom_17 : decode cX2_copyFrom 17 = .ok (.iload_n 2, 1) := by decide +kernel
theorem dX2_copyFrom_18 : decode cX2_copyFrom 18 = .ok (.invokevirtual 15, 3) := by decide +kernel
theorem dX2_copyFrom_21 : decode cX2_copyFrom 21 = .ok (.iastore, 1) := by decide +kernel
theorem dX2_copyFrom_22 : decode cX2_copyFrom 22 = .ok (.iinc 2 1, 3) := by decide +kernel
theorem dX2_copyFrom_25 : decode cX2_copyFrom 25 = .ok (.goto (-23), 3) := by decide +kernel
theorem dX2_copyFrom_28 : decode cX2_copyFrom 28 = .ok (.return_, 1) := by decide +kernel
theorem dX3_init_0 : decode cX3_init 0 = .ok (.aload_n 0, 1) := by decide +kernel
theorem dX3_init_1 : decode cX3_init 1 = .ok (.invokespecial 3, 3) := by decide +kernel
theorem dX3_init_4 : decode cX3_init 4 = .ok (.aload_n 0, 1) := by decide +kernel
theorem dX3_init_5 : decode cX3_init 5 = .ok (.aload_n 1, 1) := by decide +kernel
theorem dX3_init_6 : decode cX3_init 6 = .ok (.putfield 9, 3) := by decide +kernel
theorem dX3_init_9 : decode cX3_init 9 = .ok (.aload_n 0, 1) := by decide +kernel
theorem dX3_init_10 : decode cX3_init 10 = .ok (.aload_n 2, 1) := by decide +kernel
theorem dX3_init_11 : decode cX3_init 11 = .ok (.putfield 15, 3) := by decide +kernel
theorem dX3_init_14 : decode cX3_init 14 = .ok (.aload_n 0, 1) := by decide +kernel
theorem dX3_init_15 : decode cX3_init 15 = .ok (.new 19, 3) := by decide +kernel
theorem dX3_init_18 : decode cX3_init 18 = .ok (.dup, 1) := by decide +kernel
theorem dX3_init_19 : decode cX3_init 19 = .ok (.invokespecial 21, 3) := by decide +kernel
theorem dX3_init_22 : decode cX3_init 22 = .ok (.putfield 22, 3) := by decide +kernel
theorem dX3_init_25 : decode cX3_init 25 = .ok (.aload_n 0, 1) := by decide +kernel
theorem dX3_init_26 : decode cX3_init 26 = .ok (.new 19, 3) := by decide +kernel
theorem dX3_init_29 : decode cX3_init 29 = .ok (.dup, 1) := by decide +kernel
theorem dX3_init_30 : decode cX3_init 30 = .ok (.invokespecial 21, 3) := by decide +kernel
theorem dX3_init_33 : decode cX3_init 33 = .ok (.putfield 26, 3) := by decide +kernel
theorem dX3_init_36 : decode cX3_init 36 = .ok (.aload_n 0, 1) := by decide +kernel
theorem dX3_init_37 : decode cX3_init 37 = .ok (.iconst 0, 1) := by decide +kernel
theorem dX3_init_38 : decode cX3_init 38 = .ok (.putfield 29, 3) := by decide +kernel
theorem dX3_init_41 : decode cX3_init 41 = .ok (.return_, 1) := by decide +kernel
theorem dX3_write_0 : decode cX3_write 0 = .ok (.aload_n 0, 1) := by decide +kernel
theorem dX3_write_1 : decode cX3_write 1 = .ok (.getfield 22, 3) := by decide +kernel
theorem dX3_write_4 : decode cX3_write 4 = .ok (.iconst 0, 1) := by decide +kernel
theorem dX3_write_5 : decode cX3_write 5 = .ok (.invokevirtual 33, 3) := by decide +kernel
theorem dX3_write_8 : decode cX3_write 8 = .ok (.aload_n 0, 1) := by decide +kernel
theorem dX3_write_9 : decode cX3_write 9 = .ok (.getfield 15, 3) := by decide +kernel
theorem dX3_write_12 : decode cX3_write 12 = .ok (.invokevirtual 37, 3) := by decide +kernel
theorem dX3_write_15 : decode cX3_write 15 = .ok (.iconst 1, 1) := by decide +kernel
theorem dX3_write_16 : decode cX3_write 16 = .ok (.isub, 1) := by decide +kernel
theorem dX3_write_17 : decode cX3_write 17 = .ok (.istore_n 1, 1) := by decide +kernel
theorem dX3_write_18 : decode cX3_write 18 = .ok (.iload_n 1, 1) := by decide +kernel
theorem dX3_write_19 : decode cX3_write 19 = .ok (.ifCond .lt 44, 3) := by decide +kernel
theorem dX3_write_22 : decode cX3_write 22 = .ok (.aload_n 0, 1) := by decide +kernel
theorem dX3_write_23 : decode cX3_write 23 = .ok (.getfield 15, 3) := by decide +kernel
theorem dX3_write_26 : decode cX3_write 26 = .ok (.iload_n 1, 1) := by decide +kernel
theorem dX3_write_27 : decode cX3_write 27 = .ok (.invokevirtual 43, 3) := by decide +kernel
theorem dX3_write_30 : decode cX3_write 30 = .ok (.istore_n 2, 1) := by decide +kernel
theorem dX3_write_31 : decode cX3_write 31 = .ok (.aload_n 0, 1) := by decide +kernel
theorem dX3_write_32 : decode cX3_write 32 = .ok (.getfield 15, 3) := by decide +kernel
theorem dX3_write_35 : decode cX3_write 35 = .ok (.iload_n 2, 1) := by decide +kernel
theorem dX3_write_36 : decode cX3_write 36 = .ok (.invokevirtual 47, 3) := by decide +kernel
theorem dX3_write_39 : decode cX3_write 39 = .ok (.bipush 15, 2) := by decide +kernel
theorem dX3_write_41 : decode cX3_write 41 = .ok (.if_icmp .gt 16, 3) := by decide +kernel
theorem dX3_write_44 : decode cX3_write 44 = .ok (.aload_n 0, 1) := by decide +kernel
theorem dX3_write_45 : decode cX3_write 45 = .ok (.getfield 22, 3) := by decide +kernel
theorem dX3_write_48 : decode cX3_write 48 = .ok (.iload_n 2, 1) := by decide +kernel
theorem dX3_write_49 : decode cX3_write 49 = .ok (.aload_n 0, 1) := by decide +kernel
theorem dX3_write_50 : decode cX3_write 50 = .ok (.iload_n 2, 1) := by decide +kernel
theorem dX3_write_51 : decode cX3_write 51 = .ok (.invokevirtual 50, 3) := by decide +kernel
theorem dX3_write_54 : decode cX3_write 54 = .ok (.invokevirtual 53, 3) := by decide +kernel
theorem dX3_write_57 : decode cX3_write 57 = .ok (.iinc 1 (-1), 3) := by decide +kernel
theorem dX3_write_60 : decode cX3_write 60 = .ok (.goto (-42), 3) := by decide +kernel
theorem dX3_write_63 : decode cX3_write 63 = .ok (.return_, 1) := by decide +kernel
theorem dX3_join_0 : decode cX3_join 0 = .ok (.iconst 1, 1) := by decide +kernel
theorem dX3_join_1 : decode cX3_join 1 = .ok (.istore_n 2, 1) := by decide +kernel
theorem dX3_join_2 : decode cX3_join 2 = .ok (.aload_n 0, 1) := by decide +kernel
theorem dX3_join_3 : decode cX3_join 3 = .ok (.getfield 15, 3) := by decide +kernel
theorem dX3_join_6 : decode cX3_join 6 = .ok (.iload_n 1, 1) := by decide +kernel
theorem dX3_join_7 : decode cX3_join 7 = .ok (.invokevirtual 57, 3) := by decide +kernel
theorem dX3_join_10 : decode cX3_join 10 = .ok (.istore_n 3, 1) := by decide +kernel
theorem dX3_join_11 : decode cX3_join 11 = .ok (.iconst 0, 1) := by decide +kernel
theorem dX3_join_12 : decode cX3_join 12 = .ok (.istore 4, 2) := by decide +kernel
theorem dX3_join_14 : decode cX3_join 14 = .ok (.iload 4, 2) := by decide +kernel
theorem dX3_join_16 : decode cX3_join 16 = .ok (.bipush 15, 2) := by decide +kernel
theorem dX3_join_18 : decode cX3_join 18 = .ok (.if_icmp .ge 45, 3) := by decide +kernel
theorem dX3_join_21 : decode cX3_join 21 = .ok (.iload_n 3, 1) := by decide +kernel
theorem dX3_join_22 : decode cX3_join 22 = .ok (.iconst (-1), 1) := by decide +kernel
theorem dX3_join_23 : decode cX3_join 23 = .ok (.if_icmp .eq 40, 3) := by decide +kernel
theorem dX3_join_26 : decode cX3_join 26 = .ok (.iload_n 2, 1) := by decide +kernel
theorem dX3_join_27 : decode cX3_join 27 = .ok (.iconst 2, 1) := by decide +kernel
theorem dX3_join_28 : decode cX3_join 28 = .ok (.aload_n 0, 1) := by decide +kernel
theorem dX3_join_29 : decode cX3_join 29 = .ok (.getfield 15, 3) := by decide +kernel
theorem dX3_join_32 : decode cX3_join 32 = .ok (.iload_n 3, 1) := by decide +kernel
theorem dX3_join_33 : decode cX3_join 33 = .ok (.invokevirtual 47, 3) := by decide +kernel
theorem dX3_join_36 : decode cX3_join 36 = .ok (.imul, 1) := by decide +kernel
theorem dX3_join_37 : decode cX3_join 37 = .ok (.ishl, 1) := by decide +kernel
theorem dX3_join_38 : decode cX3_join 38 = .ok (.aload_n 0, 1) := by decide +kernel
theorem dX3_join_39 : decode cX3_join 39 = .ok (.getfield 22, 3) := by decide +kernel
theorem dX3_join_42 : decode cX3_join 42 = .ok (.iload_n 3, 1) := by decide +kernel
theorem dX3_join_43 : decode cX3_join 43 = .ok (.invokevirtual 60, 3) := by decide +kernel
theorem dX3_join_46 : decode cX3_join 46 = .ok (.ior, 1) := by decide +kernel
theorem dX3_join_47 : decode cX3_join 47 = .ok (.istore_n 2, 1) := by decide +kernel
theorem dX3_join_48 : decode cX3_join 48 = .ok (.aload_n 0, 1) := by decide +kernel
theorem dX3_join_49 : decode cX3_join 49 = .ok (.getfield 15, 3) := by decide +kernel
theorem dX3_join_52 : decode cX3_join 52 = .ok (.iload_n 3, 1) := by decide +kernel
theorem dX3_join_53 : decode cX3_join 53 = .ok (.invokevirtual 63, 3) := by decide +kernel
theorem dX3_join_56 : decode cX3_join 56 = .ok (.istore_n 3, 1) := by decide +kernel
theorem dX3_join_57 : decode cX3_join 57 = .ok (.iinc 4 1, 3) := by decide +kernel
theorem dX3_join_60 : decode cX3_join 60 = .ok (.goto (-46), 3) := by decide +kernel
theorem dX3_join_63 : decode cX3_join 63 = .ok (.iload_n 2, 1) := by decide +kernel
theorem dX3_join_64 : decode cX3_join 64 = .ok (.iconst 1, 1) := by decide +kernel
theorem dX3_join_65 : decode cX3_join 65 = .ok (.ishl, 1) := by decide +kernel
theorem dX3_join_66 : decode cX3_join 66 = .ok (.ireturn, 1) := by decide +kernel
theorem dX3_shapeOf_0 : decode cX3_shapeOf 0 = .ok (.aload_n 0, 1) := by decide +kernel
theorem dX3_shapeOf_1 : decode cX3_shapeOf 1 = .ok (.getfield 22, 3) := by decide +kernel
theorem dX3_shapeOf_4 : decode cX3_shapeOf 4 = .ok (.iload_n 1, 1) := by decide +kernel
theorem dX3_shapeOf_5 : decode cX3_shapeOf 5 = .ok (.invokevirtual 60, 3) := by decide +kernel
theorem dX3_shapeOf_8 : decode cX3_shapeOf 8 = .ok (.ireturn, 1) := by decide +kernel
theorem dX3_countLike_0 : decode cX3_countLike 0 = .ok (.iconst 0, 1) := by decide +kernel
theorem dX3_countLike_1 : decode cX3_countLike 1 = .ok (.istore_n 2, 1) := by decide +kernel
theorem dX3_countLike_2 : decode cX3_countLike 2 = .ok (.iconst 0, 1) := by decide +kernel
theorem dX3_countLike_3 : decode cX3_countLike 3 = .ok (.istore_n 3, 1) := by decide +kernel
theorem dX3_countLike_4 : decode cX3_countLike 4 = .ok (.iload_n 3, 1) := by decide +kernel
theorem dX3_countLike_5 : decode cX3_countLike 5 = .ok (.bipush 90, 2) := by decide +kernel
theorem dX3_countLike_7 : decode cX3_countLike 7 = .ok (.if_icmp .ge 31, 3) := by decide +kernel
theorem dX3_countLike_10 : decode cX3_countLike 10 = .ok (.aload_n 0, 1) := by decide +kernel
theorem dX3_countLike_11 : decode cX3_countLike 11 = .ok (.getfield 22, 3) := by decide +kernel
theorem dX3_countLike_14 : decode cX3_countLike 14 = .ok (.iload_n 3, 1) := by decide +kernel
theorem dX3_countLike_15 : decode cX3_countLike 15 = .ok (.invokevirtual 60, 3) := by decide +kernel
theorem dX3_countLike_18 : decode cX3_countLike 18 = .ok (.aload_n 0, 1) := by decide +kernel
theorem dX3_countLike_19 : decode cX3_countLike 19 = .ok (.getfield 22, 3) := by decide +kernel
theorem dX3_countLike_22 : decode cX3_countLike 22 = .ok (.iload_n 1, 1) := by decide +kernel
theorem dX3_countLike_23 : decode cX3_countLike 23 = .ok (.invokevirtual 60, 3) := by decide +kernel
theorem dX3_countLike_26 : decode cX3_countLike 26 = .ok (.if_icmp .ne 6, 3) := by decide +kernel
theorem dX3_countLike_29 : decode cX3_countLike 29 = .ok (.iinc 2 1, 3) := by decide +kernel
theorem dX3_countLike_32 : decode cX3_countLike 32 = .ok (.iinc 3 1, 3) := by decide +kernel
theorem dX3_countLike_35 : decode cX3_countLike 35 = .ok (.goto (-31), 3) := by decide +kernel
theorem dX3_countLike_38 : decode cX3_countLike 38 = .ok (.iload_n 2, 1) := by decide +kernel
theorem dX3_countLike_39 : decode cX3_countLike 39 = .ok (.ireturn, 1) := by decide +kernel
theorem dX3_sort_0 : decode cX3_sort 0 = .ok (.aload_n 0, 1) := by decide +kernel
theorem dX3_sort_1 : decode cX3_sort 1 = .ok (.iconst 0, 1) := by decide +kernel
theorem dX3_sort_2 : decode cX3_sort 2 = .ok (.putfield 29, 3) := by decide +kernel
theorem dX3_sort_5 : decode cX3_sort 5 = .ok (.iconst 0, 1) := by decide +kernel
theorem dX3_sort_6 : decode cX3_sort 6 = .ok (.istore_n 1, 1) := by decide +kernel
theorem dX3_sort_7 : decode cX3_sort 7 = .ok (.iload_n 1, 1) := by decide +kernel
theorem dX3_sort_8 : decode cX3_sort 8 = .ok (.bipush 90, 2) := by decide +kernel
theorem dX3_sort_10 : decode cX3_sort 10 = .ok (.if_icmp .ge 32, 3) := by decide +kernel
theorem dX3_sort_13 : decode cX3_sort 13 = .ok (.aload_n 0, 1) := by decide +kernel
theorem dX3_sort_14 : decode cX3_sort 14 = .ok (.getfield 22, 3) := by decide +kernel
theorem dX3_sort_17 : decode cX3_sort 17 = .ok (.iload_n 1, 1) := by decide +kernel
theorem dX3_sort_18 : decode cX3_sort 18 = .ok (.invokevirtual 60, 3) := by decide +kernel
theorem dX3_sort_21 : decode cX3_sort 21 = .ok (.ifCond .eq 15, 3) := by decide +kernel
theorem dX3_sort_24 : decode cX3_sort 24 = .ok (.aload_n 0, 1) := by decide +kernel
theorem dX3_sort_25 : decode cX3_sort 25 = .ok (.aload_n 0, 1) := by decide +kernel
theorem dX3_sort_26 : decode cX3_sort 26 = .ok (.getfield 22, 3) := by decide +kernel
theorem dX3_sort_29 : decode cX3_sort 29 = .ok (.iload_n 1, 1) := by decide +kernel
theorem dX3_sort_30 : decode cX3_sort 30 = .ok (.invokevirtual 60, 3) := by decide +kernel
theorem dX3_sort_33 : decode cX3_sort 33 = .ok (.invokevirtual 66, 3) := by decide +kernel
theorem dX3_sort_36 : decode cX3_sort 36 = .ok (.iinc 1 1, 3) := by decide +kernel
theorem dX3_sort_39 : decode cX3_sort 39 = .ok (.goto (-32), 3) := by decide +kernel
theorem dX3_sort_42 : decode cX3_sort 42 = .ok (.return_, 1) := by decide +kernel
theorem dX3_enter_0 : decode cX3_enter 0 = .ok (.iconst 0, 1) := by decide +kernel
theorem dX3_enter_1 : decode cX3_enter 1 = .ok (.istore_n 2, 1) := by decide +kernel
theorem dX3_enter_2 : decode cX3_enter 2 = .ok (.iload_n 2, 1) := by decide +kernel
theorem dX3_enter_3 : decode cX3_enter 3 = .ok (.aload_n 0, 1) := by decide +kernel
theorem dX3_enter_4 : decode cX3_enter 4 = .ok (.getfield 29, 3) := by decide +kernel
theorem dX3_enter_7 : decode cX3_enter 7 = .ok (.if_icmp .ge 21, 3) := by decide +kernel
theorem dX3_enter_10 : decode cX3_enter 10 = .ok (.aload_n 0, 1) := by decide +kernel
theorem dX3_enter_11 : decode cX3_enter 11 = .ok (.getfield 26, 3) := by decide +kernel
theorem dX3_enter_14 : decode cX3_enter 14 = .ok (.iload_n 2, 1) := by decide +kernel
theorem dX3_enter_15 : decode cX3_enter 15 = .ok (.invokevirtual 60, 3) := by decide +kernel
theorem dX3_enter_18 : decode cX3_enter 18 = .ok (.iload_n 1, 1) := by decide +kernel
theorem dX3_enter_19 : decode cX3_enter 19 = .ok (.if_icmp .ge 9, 3) := by decide +kernel
theorem dX3_enter_22 : decode cX3_enter 22 = .ok (.iinc 2 1, 3) := by decide +kernel
theorem dX3_enter_25 : decode cX3_enter 25 = .ok (.goto (-23), 3) := by decide +kernel
theorem dX3_enter_28 : decode cX3_enter 28 = .ok (.iload_n 2, 1) := by decide +kernel
theorem dX3_enter_29 : decode cX3_enter 29 = .ok (.aload_n 0, 1) := by decide +kernel
theorem dX3_enter_30 : decode cX3_enter 30 = .ok (.getfield 29, 3) := by decide +kernel
theorem dX3_enter_33 : decode cX3_enter 33 = .ok (.if_icmp .ge 16, 3) := by decide +kernel
theorem dX3_enter_36 : decode cX3_enter 36 = .ok (.aload_n 0, 1) := by decide +kernel
theorem dX3_enter_37 : decode cX3_enter 37 = .ok (.getfield 26, 3) := by decide +kernel
theorem dX3_enter_40 : decode cX3_enter 40 = .ok (.iload_n 2, 1) := by decide +kernel
theorem dX3_enter_41 : decode cX3_enter 41 = .ok (.invokevirtual 60, 3) := by decide +kernel
theorem dX3_enter_44 : decode cX3_enter 44 = .ok (.iload_n 1, 1) := by decide +kernel
theorem dX3_enter_45 : decode cX3_enter 45 = .ok (.if_icmp .ne 4, 3) := by decide +kernel
theorem dX3_enter_48 : decode cX3_enter 48 = .ok (.return_, 1) := by decide +kernel
theorem dX3_enter_49 : decode cX3_enter 49 = .ok (.aload_n 0, 1) := by decide +kernel
theorem dX3_enter_50 : decode cX3_enter 50 = .ok (.getfield 29, 3) := by decide +kernel
theorem dX3_enter_53 : decode cX3_enter 53 = .ok (.istore_n 3, 1) := by decide +kernel
theorem dX3_enter_54 : decode cX3_enter 54 = .ok (.iload_n 3, 1) := by decide +kernel
theorem dX3_enter_55 : decode cX3_enter 55 = .ok (.iload_n 2, 1) := by decide +kernel
theorem dX3_enter_56 : decode cX3_enter 56 = .ok (.if_icmp .le 27, 3) := by decide +kernel
theorem dX3_enter_59 : decode cX3_enter 59 = .ok (.aload_n 0, 1) := by decide +kernel
theorem dX3_enter_60 : decode cX3_enter 60 = .ok (.getfield 26, 3) := by decide +kernel
theorem dX3_enter_63 : decode cX3_enter 63 = .ok (.iload_n 3, 1) := by decide +kernel
theorem dX3_enter_64 : decode cX3_enter 64 = .ok (.aload_n 0, 1) := by decide +kernel
theorem dX3_enter_65 : decode cX3_enter 65 = .ok (.getfield 26, 3) := by decide +kernel
theorem dX3_enter_68 : decode cX3_enter 68 = .ok (.iload_n 3, 1) := by decide +kernel
theorem dX3_enter_69 : decode cX3_enter 69 = .ok (.iconst 1, 1) := by decide +kernel
theorem dX3_enter_70 : decode cX3_enter 70 = .ok (.isub, 1) := by decide +kernel
theorem dX3_enter_71 : decode cX3_enter 71 = .ok (.invokevirtual 60, 3) := by decide +kernel
theorem dX3_enter_74 : decode cX3_enter 74 = .ok (.invokevirtual 53, 3) := by decide +kernel
theorem dX3_enter_77 : decode cX3_enter 77 = .ok (.iinc 3 (-1), 3) := by decide +kernel
theorem dX3_enter_80 : decode cX3_enter 80 = .ok (.goto (-26), 3) := by decide +kernel
theorem dX3_enter_83 : decode cX3_enter 83 = .ok (.aload_n 0, 1) := by decide +kernel
theorem dX3_enter_84 : decode cX3_enter 84 = .ok (.getfield 26, 3) := by decide +kernel
theorem dX3_enter_87 : decode cX3_enter 87 = .ok (.iload_n 2, 1) := by decide +kernel
theorem dX3_enter_88 : decode cX3_enter 88 = .ok (.iload_n 1, 1) := by decide +kernel
theorem dX3_enter_89 : decode cX3_enter 89 = .ok (.invokevirtual 53, 3) := by decide +kernel
theorem dX3_enter_92 : decode cX3_enter 92 = .ok (.aload_n 0, 1) := by decide +kernel
theorem dX3_enter_93 : decode cX3_enter 93 = .ok (.dup, 1) := by decide +kernel
theorem dX3_enter_94 : decode cX3_enter 94 = .ok (.getfield 29, 3) := by decide +kernel
theorem dX3_enter_97 : decode cX3_enter 97 = .ok (.iconst 1, 1) := by decide +kernel
theorem dX3_enter_98 : decode cX3_enter 98 = .ok (.iadd, 1) := by decide +kernel
theorem dX3_enter_99 : decode cX3_enter 99 = .ok (.putfield 29, 3) := by decide +kernel
theorem dX3_enter_102 : decode cX3_enter 102 = .ok (.return_, 1) := by decide +kernel
theorem dX3_kinds_0 : decode cX3_kinds 0 = .ok (.aload_n 0, 1) := by decide +kernel
theorem dX3_kinds_1 : decode cX3_kinds 1 = .ok (.getfield 29, 3) := by decide +kernel
theorem dX3_kinds_4 : decode cX3_kinds 4 = .ok (.ireturn, 1) := by decide +kernel
theorem dX4_init_0 : decode cX4_init 0 = .ok (.aload_n 0, 1) := by decide +kernel
theorem dX4_init_1 : decode cX4_init 1 = .ok (.invokespecial 3, 3) := by decide +kernel
theorem dX4_init_4 : decode cX4_init 4 = .ok (.aload_n 0, 1) := by decide +kernel
theorem dX4_init_5 : decode cX4_init 5 = .ok (.aload_n 1, 1) := by decide +kernel
theorem dX4_init_6 : decode cX4_init 6 = .ok (.putfield 9, 3) := by decide +kernel
theorem dX4_init_9 : decode cX4_init 9 = .ok (.aload_n 0, 1) := by decide +kernel
theorem dX4_init_10 : decode cX4_init 10 = .ok (.new 15, 3) := by decide +kernel
theorem dX4_init_13 : decode cX4_init 13 = .ok (.dup, 1) := by decide +kernel
theorem dX4_init_14 : decode cX4_init 14 = .ok (.invokespecial 17, 3) := by decide +kernel
theorem dX4_init_17 : decode cX4_init 17 = .ok (.putfield 18, 3) := by decide +kernel
theorem dX4_init_20 : decode cX4_init 20 = .ok (.aload_n 0, 1) := by decide +kernel
theorem dX4_init_21 : decode cX4_init 21 = .ok (.new 15, 3) := by decide +kernel
theorem dX4_init_24 : decode cX4_init 24 = .ok (.dup, 1) := by decide +kernel
theorem dX4_init_25 : decode cX4_init 25 = .ok (.invokespecial 17, 3) := by decide +kernel
theorem dX4_init_28 : decode cX4_init 28 = .ok (.putfield 22, 3) := by decide +kernel
theorem dX4_init_31 : decode cX4_init 31 = .ok (.aload_n 0, 1) := by decide +kernel
theorem dX4_init_32 : decode cX4_init 32 = .ok (.new 15, 3) := by decide +kernel
theorem dX4_init_35 : decode cX4_init 35 = .ok (.dup, 1) := by decide +kernel
theorem dX4_init_36 : decode cX4_init 36 = .ok (.invokespecial 17, 3) := by decide +kernel
theorem dX4_init_39 : decode cX4_init 39 = .ok (.putfield 25, 3) := by decide +kernel
theorem dX4_init_42 : decode cX4_init 42 = .ok (.aload_n 0, 1) := by decide +kernel
theorem dX4_init_43 : decode cX4_init 43 = .ok (.new 15, 3) := by decide +kernel
theorem dX4_init_46 : decode cX4_init 46 = .ok (.dup, 1) := by decide +kernel
theorem dX4_init_47 : decode cX4_init 47 = .ok (.invokespecial 17, 3) := by decide +kernel
theorem dX4_init_50 : decode cX4_init 50 = .ok (.putfield 28, 3) := by decide +kernel
theorem dX4_init_53 : decode cX4_init 53 = .ok (.aload_n 0, 1) := by decide +kernel
theorem dX4_init_54 : decode cX4_init 54 = .ok (.new 15, 3) := by decide +kernel
theorem dX4_init_57 : decode cX4_init 57 = .ok (.dup, 1) := by decide +kernel
theorem dX4_init_58 : decode cX4_init 58 = .ok (.invokespecial 17, 3) := by decide +kernel
theorem dX4_init_61 : decode cX4_init 61 = .ok (.putfield 31, 3) := by decide +kernel
theorem dX4_init_64 : decode cX4_init 64 = .ok (.aload_n 0, 1) := by decide +kernel
theorem dX4_init_65 : decode cX4_init 65 = .ok (.new 15, 3) := by decide +kernel
theorem dX4_init_68 : decode cX4_init 68 = .ok (.dup, 1) := by decide +kernel
theorem dX4_init_69 : decode cX4_init 69 = .ok (.invokespecial 17, 3) := by decide +kernel
theorem dX4_init_72 : decode cX4_init 72 = .ok (.putfield 34, 3) := by decide +kernel
theorem dX4_init_75 : decode cX4_init 75 = .ok (.aload_n 0, 1) := by decide +kernel
theorem dX4_init_76 : decode cX4_init 76 = .ok (.new 15, 3) := by decide +kernel
theorem dX4_init_79 : decode cX4_init 79 = .ok (.dup, 1) := by decide +kernel
theorem dX4_init_80 : decode cX4_init 80 = .ok (.invokespecial 17, 3) := by decide +kernel
theorem dX4_init_83 : decode cX4_init 83 = .ok (.putfield 37, 3) := by decide +kernel
theorem dX4_init_86 : decode cX4_init 86 = .ok (.aload_n 0, 1) := by decide +kernel
theorem dX4_init_87 : decode cX4_init 87 = .ok (.new 15, 3) := by decide +kernel
theorem dX4_init_90 : decode cX4_init 90 = .ok (.dup, 1) := by decide +kernel
theorem dX4_init_91 : decode cX4_init 91 = .ok (.invokespecial 17, 3) := by decide +kernel
theorem dX4_init_94 : decode cX4_init 94 = .ok (.putfield 40, 3) := by decide +kernel
theorem dX4_init_97 : decode cX4_init 97 = .ok (.aload_n 0, 1) := by decide +kernel
theorem dX4_init_98 : decode cX4_init 98 = .ok (.new 15, 3) := by decide +kernel
theorem dX4_init_101 : decode cX4_init 101 = .ok (.dup, 1) := by decide +kernel
theorem dX4_init_102 : decode cX4_init 102 = .ok (.invokespecial 17, 3) := by decide +kernel
theorem dX4_init_105 : decode cX4_init 105 = .ok (.putfield 43, 3) := by decide +kernel
theorem dX4_init_108 : decode cX4_init 108 = .ok (.aload_n 0, 1) := by decide +kernel
theorem dX4_init_109 : decode cX4_init 109 = .ok (.new 15, 3) := by decide +kernel
theorem dX4_init_112 : decode cX4_init 112 = .ok (.dup, 1) := by decide +kernel
theorem dX4_init_113 : decode cX4_init 113 = .ok (.invokespecial 17, 3) := by decide +kernel
theorem dX4_init_116 : decode cX4_init 116 = .ok (.putfield 46, 3) := by decide +kernel
theorem dX4_init_119 : decode cX4_init 119 = .ok (.aload_n 0, 1) := by decide +kernel
theorem dX4_init_120 : decode cX4_init 120 = .ok (.iconst 0, 1) := by decide +kernel
theorem dX4_init_121 : decode cX4_init 121 = .ok (.putfield 49, 3) := by decide +kernel
theorem dX4_init_124 : decode cX4_init 124 = .ok (.return_, 1) := by decide +kernel
theorem dX4_take_0 : decode cX4_take 0 = .ok (.aload_n 0, 1) := by decide +kernel
theorem dX4_take_1 : decode cX4_take 1 = .ok (.invokevirtual 53, 3) := by decide +kernel
theorem dX4_take_4 : decode cX4_take 4 = .ok (.aload_n 0, 1) := by decide +kernel
theorem dX4_take_5 : decode cX4_take 5 = .ok (.invokevirtual 56, 3) := by decide +kernel
theorem dX4_take_8 : decode cX4_take 8 = .ok (.aload_n 0, 1) := by decide +kernel
theorem dX4_take_9 : decode cX4_take 9 = .ok (.invokevirtual 59, 3) := by decide +kernel
theorem dX4_take_12 : decode cX4_take 12 = .ok (.aload_n 0, 1) := by decide +kernel
theorem dX4_take_13 : decode cX4_take 13 = .ok (.invokevirtual 62, 3) := by decide +kernel
theorem dX4_take_16 : decode cX4_take 16 = .ok (.return_, 1) := by decide +kernel
theorem dX4_linkChildren_0 : decode cX4_linkChildren 0 = .ok (.aload_n 0, 1) := by decide +kernel
theorem dX4_linkChildren_1 : decode cX4_linkChildren 1 = .ok (.getfield 18, 3) := by decide +kernel
theorem dX4_linkChildren_4 : decode cX4_linkChildren 4 = .ok (.iconst (-1), 1) := by decide +kernel
theorem dX4_linkChildren_5 : decode cX4_linkChildren 5 = .ok (.invokevirtual 65, 3) := by decide +kernel
theorem dX4_linkChildren_8 : decode cX4_linkChildren 8 = .ok (.aload_n 0, 1) := by decide +kernel
theorem dX4_linkChildren_9 : decode cX4_linkChildren 9 = .ok (.getfield 22, 3) := by decide +kernel
theorem dX4_linkChildren_12 : decode cX4_linkChildren 12 = .ok (.iconst (-1), 1) := by decide +kernel
theorem dX4_linkChildren_13 : decode cX4_linkChildren 13 = .ok (.invokevirtual 65, 3) := by decide +kernel
theorem dX4_linkChildren_16 : decode cX4_linkChildren 16 = .ok (.aload_n 0, 1) := by decide +kernel
theorem dX4_linkChildren_17 : decode cX4_linkChildren 17 = .ok (.getfield 34, 3) := by decide +kernel
theorem dX4_linkChildren_20 : decode cX4_linkChildren 20 = .ok (.iconst 0, 1) := by decide +kernel
theorem dX4_linkChildren_21 : decode cX4_linkChildren 21 = .ok (.invokevirtual 65, 3) := by decide +kernel
theorem dX4_linkChildren_24 : decode cX4_linkChildren 24 = .ok (.bipush 89, 2) := by decide +kernel
theorem dX4_linkChildren_26 : decode cX4_linkChildren 26 = .ok (.istore_n 1, 1) := by decide +kernel
theorem dX4_linkChildren_27 : decode cX4_linkChildren 27 = .ok (.iload_n 1, 1) := by decide +kernel
theorem dX4_linkChildren_28 : decode cX4_linkChildren 28 = .ok (.ifCond .le 72, 3) := by decide +kernel
theorem dX4_linkChildren_31 : decode cX4_linkChildren 31 = .ok (.aload_n 0, 1) := by decide +kernel
theorem dX4_linkChildren_32 : decode cX4_linkChildren 32 = .ok (.getfield 9, 3) := by decide +kernel
theorem dX4_linkChildren_35 : decode cX4_linkChildren 35 = .ok (.iload_n 1, 1) := by decide +kernel
theorem dX4_linkChildren_36 : decode cX4_linkChildren 36 = .ok (.invokevirtual 69, 3) := by decide +kernel
theorem dX4_linkChildren_39 : decode cX4_linkChildren 39 = .ok (.ifCond .eq 55, 3) := by decide +kernel
theorem dX4_linkChildren_42 : decode cX4_linkChildren 42 = .ok (.aload_n 0, 1) := by decide +kernel
theorem dX4_linkChildren_43 : decode cX4_linkChildren 43 = .ok (.getfield 9, 3) := by decide +kernel
theorem dX4_linkChildren_46 : decode cX4_linkChildren 46 = .ok (.iload_n 1, 1) := by decide +kernel
theorem dX4_linkChildren_47 : decode cX4_linkChildren 47 = .ok (.invokevirtual 75, 3) := by decide +kernel
theorem dX4_linkChildren_50 : decode cX4_linkChildren 50 = .ok (.istore_n 2, 1) := by decide +kernel
theorem dX4_linkChildren_51 : decode cX4_linkChildren 51 = .ok (.aload_n 0, 1) := by decide +kernel
theorem dX4_linkChildren_52 : decode cX4_linkChildren 52 = .ok (.getfield 22, 3) := by decide +kernel
theorem dX4_linkChildren_55 : decode cX4_linkChildren 55 = .ok (.iload_n 1, 1) := by decide +kernel
theorem dX4_linkChildren_56 : decode cX4_linkChildren 56 = .ok (.aload_n 0, 1) := by decide +kernel
theorem dX4_linkChildren_57 : decode cX4_linkChildren 57 = .ok (.getfield 18, 3) := by decide +kernel
theorem dX4_linkChildren_60 : decode cX4_linkChildren 60 = .ok (.iload_n 2, 1) := by decide +kernel
theorem dX4_linkChildren_61 : decode cX4_linkChildren 61 = .ok (.invokevirtual 79, 3) := by decide +kernel
theorem dX4_linkChildren_64 : decode cX4_linkChildren 64 = .ok (.invokevirtual 82, 3) := by decide +kernel
theorem dX4_linkChildren_67 : decode cX4_linkChildren 67 = .ok (.aload_n 0, 1) := by decide +kernel
theorem dX4_linkChildren_68 : decode cX4_linkChildren 68 = .ok (.getfield 18, 3) := by decide +kernel
theorem dX4_linkChildren_71 : decode cX4_linkChildren 71 = .ok (.iload_n 2, 1) := by decide +kernel
theorem dX4_linkChildren_72 : decode cX4_linkChildren 72 = .ok (.iload_n 1, 1) := by decide +kernel
theorem dX4_linkChildren_73 : decode cX4_linkChildren 73 = .ok (.invokevirtual 82, 3) := by decide +kernel
theorem dX4_linkChildren_76 : decode cX4_linkChildren 76 = .ok (.aload_n 0, 1) := by decide +kernel
theorem dX4_linkChildren_77 : decode cX4_linkChildren 77 = .ok (.getfield 34, 3) := by decide +kernel
theorem dX4_linkChildren_80 : decode cX4_linkChildren 80 = .ok (.iload_n 2, 1) := by decide +kernel
theorem dX4_linkChildren_81 : decode cX4_linkChildren 81 = .ok (.aload_n 0, 1) := by decide +kernel
theorem dX4_linkChildren_82 : decode cX4_linkChildren 82 = .ok (.getfield 34, 3) := by decide +kernel
theorem dX4_linkChildren_85 : decode cX4_linkChildren 85 = .ok (.iload_n 2, 1) := by decide +kernel
theorem dX4_linkChildren_86 : decode cX4_linkChildren 86 = .ok (.invokevirtual 79, 3) := by decide +kernel
theorem dX4_linkChildren_89 : decode cX4_linkChildren 89 = .ok (.iconst 1, 1) := by decide +kernel
theorem dX4_linkChildren_90 : decode cX4_linkChildren 90 = .ok (.iadd, 1) := by decide +kernel
theorem dX4_linkChildren_91 : decode cX4_linkChildren 91 = .ok (.invokevirtual 82, 3) := by decide +kernel
theorem dX4_linkChildren_94 : decode cX4_linkChildren 94 = .ok (.iinc 1 (-1), 3) := by decide +kernel
theorem dX4_linkChildren_97 : decode cX4_linkChildren 97 = .ok (.goto (-70), 3) := by decide +kernel
theorem dX4_linkChildren_100 : decode cX4_linkChildren 100 = .ok (.return_, 1) := by decide +kernel
theorem dX4_goDown_0 : decode cX4_goDown 0 = .ok (.aload_n 0, 1) := by decide +kernel
theorem dX4_goDown_1 : decode cX4_goDown 1 = .ok (.getfield 25, 3) := by decide +kernel
theorem dX4_goDown_4 : decode cX4_goDown 4 = .ok (.iconst 0, 1) := by decide +kernel
theorem dX4_goDown_5 : decode cX4_goDown 5 = .ok (.iconst 0, 1) := by decide +kernel
theorem dX4_goDown_6 : decode cX4_goDown 6 = .ok (.invokevirtual 82, 3) := by decide +kernel
theorem dX4_goDown_9 : decode cX4_goDown 9 = .ok (.aload_n 0, 1) := by decide +kernel
theorem dX4_goDown_10 : decode cX4_goDown 10 = .ok (.getfield 28, 3) := by decide +kernel
theorem dX4_goDown_13 : decode cX4_goDown 13 = .ok (.iconst 0, 1) := by decide +kernel
theorem dX4_goDown_14 : decode cX4_goDown 14 = .ok (.iconst 0, 1) := by decide +kernel
theorem dX4_goDown_15 : decode cX4_goDown 15 = .ok (.invokevirtual 82, 3) := by decide +kernel
theorem dX4_goDown_18 : decode cX4_goDown 18 = .ok (.aload_n 0, 1) := by decide +kernel
theorem dX4_goDown_19 : decode cX4_goDown 19 = .ok (.iconst 1, 1) := by decide +kernel
theorem dX4_goDown_20 : decode cX4_goDown 20 = .ok (.putfield 49, 3) := by decide +kernel
theorem dX4_goDown_23 : decode cX4_goDown 23 = .ok (.iconst 0, 1) := by decide +kernel
theorem dX4_goDown_24 : decode cX4_goDown 24 = .ok (.istore_n 1, 1) := by decide +kernel
theorem dX4_goDown_25 : decode cX4_goDown 25 = .ok (.iload_n 1, 1) := by decide +kernel
theorem dX4_goDown_26 : decode cX4_goDown 26 = .ok (.aload_n 0, 1) := by decide +kernel
theorem dX4_goDown_27 : decode cX4_goDown 27 = .ok (.getfield 49, 3) := by decide +kernel
theorem dX4_goDown_30 : decode cX4_goDown 30 = .ok (.if_icmp .ge 103, 3) := by decide +kernel
theorem dX4_goDown_33 : decode cX4_goDown 33 = .ok (.iload_n 1, 1) := by decide +kernel
theorem dX4_goDown_34 : decode cX4_goDown 34 = .ok (.bipush 90, 2) := by decide +kernel
theorem dX4_goDown_36 : decode cX4_goDown 36 = .ok (.if_icmp .ge 97, 3) := by decide +kernel
theorem dX4_goDown_39 : decode cX4_goDown 39 = .ok (.aload_n 0, 1) := by decide +kernel
theorem dX4_goDown_40 : decode cX4_goDown 40 = .ok (.getfield 25, 3) := by decide +kernel
theorem dX4_goDown_43 : decode cX4_goDown 43 = .ok (.iload_n 1, 1) := by decide +kernel
theorem dX4_goDown_44 : decode cX4_goDown 44 = .ok (.invokevirtual 79, 3) := by decide +kernel
theorem dX4_goDown_47 : decode cX4_goDown 47 = .ok (.istore_n 2, 1) := by decide +kernel
theorem dX4_goDown_48 : decode cX4_goDown 48 = .ok (.aload_n 0, 1) := by decide +kernel
theorem dX4_goDown_49 : decode cX4_goDown 49 = .ok (.getfield 18, 3) := by decide +kernel
theorem dX4_goDown_52 : decode cX4_goDown 52 = .ok (.iload_n 2, 1) := by decide +kernel
theorem dX4_goDown_53 : decode cX4_goDown 53 = .ok (.invokevirtual 79, 3) := by decide +kernel
theorem dX4_goDown_56 : decode cX4_goDown 56 = .ok (.istore_n 3, 1) := by decide +kernel
theorem dX4_goDown_57 : decode cX4_goDown 57 = .ok (.iconst 0, 1) := by decide +kernel
theorem dX4_goDown_58 : decode cX4_goDown 58 = .ok (.istore 4, 2) := by decide +kernel
theorem dX4_goDown_60 : decode cX4_goDown 60 = .ok (.iload 4, 2) := by decide +kernel
theorem dX4_goDown_62 : decode cX4_goDown 62 = .ok (.bipush 90, 2) := by decide +kernel
theorem dX4_goDown_64 : decode cX4_goDown 64 = .ok (.if_icmp .ge 63, 3) := by decide +kernel
theorem dX4_goDown_67 : decode cX4_goDown 67 = .ok (.iload_n 3, 1) := by decide +kernel
theorem dX4_goDown_68 : decode cX4_goDown 68 = .ok (.iconst (-1), 1) := by decide +kernel
theorem dX4_goDown_69 : decode cX4_goDown 69 = .ok (.if_icmp .eq 58, 3) := by decide +kernel
theorem dX4_goDown_72 : decode cX4_goDown 72 = .ok (.aload_n 0, 1) := by decide +kernel
theorem dX4_goDown_73 : decode cX4_goDown 73 = .ok (.getfield 25, 3) := by decide +kernel
theorem dX4_goDown_76 : decode cX4_goDown 76 = .ok (.aload_n 0, 1) := by decide +kernel
theorem dX4_goDown_77 : decode cX4_goDown 77 = .ok (.getfield 49, 3) := by decide +kernel
theorem dX4_goDown_80 : decode cX4_goDown 80 = .ok (.iload_n 3, 1) := by decide +kernel
theorem dX4_goDown_81 : decode cX4_goDown 81 = .ok (.invokevirtual 82, 3) := by decide +kernel
theorem dX4_goDown_84 : decode cX4_goDown 84 = .ok (.aload_n 0, 1) := by decide +kernel
theorem dX4_goDown_85 : decode cX4_goDown 85 = .ok (.dup, 1) := by decide +kernel
theorem dX4_goDown_86 : decode cX4_goDown 86 = .ok (.getfield 49, 3) := by decide +kernel
theorem dX4_goDown_89 : decode cX4_goDown 89 = .ok (.iconst 1, 1) := by decide +kernel
theorem dX4_goDown_90 : decode cX4_goDown 90 = .ok (.iadd, 1) := by decide +kernel
theorem dX4_goDown_91 : decode cX4_goDown 91 = .ok (.putfield 49, 3) := by decide +kernel
theorem dX4_goDown_94 : decode cX4_goDown 94 = .ok (.aload_n 0, 1) := by decide +kernel
theorem dX4_goDown_95 : decode cX4_goDown 95 = .ok (.getfield 28, 3) := by decide +kernel
theorem dX4_goDown_98 : decode cX4_goDown 98 = .ok (.iload_n 3, 1) := by decide +kernel
theorem dX4_goDown_99 : decode cX4_goDown 99 = .ok (.aload_n 0, 1) := by decide +kernel
theorem dX4_goDown_100 : decode cX4_goDown 100 = .ok (.getfield 28, 3) := by decide +kernel
theorem dX4_goDown_103 : decode cX4_goDown 103 = .ok (.iload_n 2, 1) := by decide +kernel
theorem dX4_goDown_104 : decode cX4_goDown 104 = .ok (.invokevirtual 79, 3) := by decide +kernel
theorem dX4_goDown_107 : decode cX4_goDown 107 = .ok (.iconst 1, 1) := by decide +kernel
theorem dX4_goDown_108 : decode cX4_goDown 108 = .ok (.iadd, 1) := by decide +kernel
theorem dX4_goDown_109 : decode cX4_goDown 109 = .ok (.invokevirtual 82, 3) := by decide +kernel
theorem dX4_goDown_112 : decode cX4_goDown 112 = .ok (.aload_n 0, 1) := by decide +kernel
theorem dX4_goDown_113 : decode cX4_goDown 113 = .ok (.getfield 22, 3) := by decide +kernel
theorem dX4_goDown_116 : decode cX4_goDown 116 = .ok (.iload_n 3, 1) := by decide +kernel
theorem dX4_goDown_117 : decode cX4_goDown 117 = .ok (.invokevirtual 79, 3) := by decide +kernel
theorem dX4_goDown_120 : decode cX4_goDown 120 = .ok (.istore_n 3, 1) := by decide +kernel
theorem dX4_goDown_121 : decode cX4_goDown 121 = .ok (.iinc 4 1, 3) := by decide +kernel
theorem dX4_goDown_124 : decode cX4_goDown 124 = .ok (.goto (-64), 3) := by decide +kernel
theorem dX4_goDown_127 : decode cX4_goDown 127 = .ok (.iinc 1 1, 3) := by decide +kernel
theorem dX4_goDown_130 : decode cX4_goDown 130 = .ok (.goto (-105), 3) := by decide +kernel
theorem dX4_goDown_133 : decode cX4_goDown 133 = .ok (.return_, 1) := by decide +kernel
theorem dX4_goUp_0 : decode cX4_goUp 0 = .ok (.aload_n 0, 1) := by decide +kernel
theorem dX4_goUp_1 : decode cX4_goUp 1 = .ok (.getfield 49, 3) := by decide +kernel
theorem dX4_goUp_4 : decode cX4_goUp 4 = .ok (.iconst 1, 1) := by decide +kernel
theorem dX4_goUp_5 : decode cX4_goUp 5 = .ok (.isub, 1) := by decide +kernel
theorem dX4_goUp_6 : decode cX4_goUp 6 = .ok (.istore_n 1, 1) := by decide +kernel
theorem dX4_goUp_7 : decode cX4_goUp 7 = .ok (.iload_n 1, 1) := by decide +kernel
theorem dX4_goUp_8 : decode cX4_goUp 8 = .ok (.ifCond .lt 21, 3) := by decide +kernel
theorem dX4_goUp_11 : decode cX4_goUp 11 = .ok (.aload_n 0, 1) := by decide +kernel
theorem dX4_goUp_12 : decode cX4_goUp 12 = .ok (.aload_n 0, 1) := by decide +kernel
theorem dX4_goUp_13 : decode cX4_goUp 13 = .ok (.getfield 25, 3) := by decide +kernel
theorem dX4_goUp_16 : decode cX4_goUp 16 = .ok (.iload_n 1, 1) := by decide +kernel
theorem dX4_goUp_17 : decode cX4_goUp 17 = .ok (.invokevirtual 79, 3) := by decide +kernel
theorem dX4_goUp_20 : decode cX4_goUp 20 = .ok (.invokevirtual 86, 3) := by decide +kernel
theorem dX4_goUp_23 : decode cX4_goUp 23 = .ok (.iinc 1 (-1), 3) := by decide +kernel
theorem dX4_goUp_26 : decode cX4_goUp 26 = .ok (.goto (-19), 3) := by decide +kernel
theorem dX4_goUp_29 : decode cX4_goUp 29 = .ok (.return_, 1) := by decide +kernel
theorem dX4_measure_0 : decode cX4_measure 0 = .ok (.iconst 1, 1) := by decide +kernel
theorem dX4_measure_1 : decode cX4_measure 1 = .ok (.istore_n 2, 1) := by decide +kernel
theorem dX4_measure_2 : decode cX4_measure 2 = .ok (.iconst 0, 1) := by decide +kernel
theorem dX4_measure_3 : decode cX4_measure 3 = .ok (.istore_n 3, 1) := by decide +kernel
theorem dX4_measure_4 : decode cX4_measure 4 = .ok (.iconst (-1), 1) := by decide +kernel
theorem dX4_measure_5 : decode cX4_measure 5 = .ok (.istore 4, 2) := by decide +kernel
theorem dX4_measure_7 : decode cX4_measure 7 = .ok (.aload_n 0, 1) := by decide +kernel
theorem dX4_measure_8 : decode cX4_measure 8 = .ok (.getfield 18, 3) := by decide +kernel
theorem dX4_measure_11 : decode cX4_measure 11 = .ok (.iload_n 1, 1) := by decide +kernel
theorem dX4_measure_12 : decode cX4_measure 12 = .ok (.invokevirtual 79, 3) := by decide +kernel
theorem dX4_measure_15 : decode cX4_measure 15 = .ok (.istore 5, 2) := by decide +kernel
theorem dX4_measure_17 : decode cX4_measure 17 = .ok (.iconst 0, 1) := by decide +kernel
theorem dX4_measure_18 : decode cX4_measure 18 = .ok (.istore 6, 2) := by decide +kernel
theorem dX4_measure_20 : decode cX4_measure 20 = .ok (.iload 6, 2) := by decide +kernel
theorem dX4_measure_22 : decode cX4_measure 22 = .ok (.bipush 90, 2) := by decide +kernel
theorem dX4_measure_24 : decode cX4_measure 24 = .ok (.if_icmp .ge 69, 3) := by decide +kernel
theorem dX4_measure_27 : decode cX4_measure 27 = .ok (.iload 5, 2) := by decide +kernel
theorem dX4_measure_29 : decode cX4_measure 29 = .ok (.iconst (-1), 1) := by decide +kernel
theorem dX4_measure_30 : decode cX4_measure 30 = .ok (.if_icmp .eq 63, 3) := by decide +kernel
theorem dX4_measure_33 : decode cX4_measure 33 = .ok (.iload_n 2, 1) := by decide +kernel
theorem dX4_measure_34 : decode cX4_measure 34 = .ok (.aload_n 0, 1) := by decide +kernel
theorem dX4_measure_35 : decode cX4_measure 35 = .ok (.getfield 37, 3) := by decide +kernel
theorem dX4_measure_38 : decode cX4_measure 38 = .ok (.iload 5, 2) := by decide +kernel
theorem dX4_measure_40 : decode cX4_measure 40 = .ok (.invokevirtual 79, 3) := by decide +kernel
theorem dX4_measure_43 : decode cX4_measure 43 = .ok (.iadd, 1) := by decide +kernel
theorem dX4_measure_44 : decode cX4_measure 44 = .ok (.istore_n 2, 1) := by decide +kernel
theorem dX4_measure_45 : decode cX4_measure 45 = .ok (.aload_n 0, 1) := by decide +kernel
theorem dX4_measure_46 : decode cX4_measure 46 = .ok (.getfield 31, 3) := by decide +kernel
theorem dX4_measure_49 : decode cX4_measure 49 = .ok (.iload 5, 2) := by decide +kernel
theorem dX4_measure_51 : decode cX4_measure 51 = .ok (.invokevirtual 79, 3) := by decide +kernel
theorem dX4_measure_54 : decode cX4_measure 54 = .ok (.iconst 1, 1) := by decide +kernel
theorem dX4_measure_55 : decode cX4_measure 55 = .ok (.iadd, 1) := by decide +kernel
theorem dX4_measure_56 : decode cX4_measure 56 = .ok (.iload_n 3, 1) := by decide +kernel
theorem dX4_measure_57 : decode cX4_measure 57 = .ok (.if_icmp .le 19, 3) := by decide +kernel
theorem dX4_measure_60 : decode cX4_measure 60 = .ok (.aload_n 0, 1) := by decide +kernel
theorem dX4_measure_61 : decode cX4_measure 61 = .ok (.getfield 31, 3) := by decide +kernel
theorem dX4_measure_64 : decode cX4_measure 64 = .ok (.iload 5, 2) := by decide +kernel
theorem dX4_measure_66 : decode cX4_measure 66 = .ok (.invokevirtual 79, 3) := by decide +kernel
theorem dX4_measure_69 : decode cX4_measure 69 = .ok (.iconst 1, 1) := by decide +kernel
theorem dX4_measure_70 : decode cX4_measure 70 = .ok (.iadd, 1) := by decide +kernel
theorem dX4_measure_71 : decode cX4_measure 71 = .ok (.istore_n 3, 1) := by decide +kernel
theorem dX4_measure_72 : decode cX4_measure 72 = .ok (.iload 5, 2) := by decide +kernel
theorem dX4_measure_74 : decode cX4_measure 74 = .ok (.istore 4, 2) := by decide +kernel
theorem dX4_measure_76 : decode cX4_measure 76 = .ok (.aload_n 0, 1) := by decide +kernel
theorem dX4_measure_77 : decode cX4_measure 77 = .ok (.getfield 22, 3) := by decide +kernel
theorem dX4_measure_80 : decode cX4_measure 80 = .ok (.iload 5, 2) := by decide +kernel
theorem dX4_measure_82 : decode cX4_measure 82 = .ok (.invokevirtual 79, 3) := by decide +kernel
theorem dX4_measure_85 : decode cX4_measure 85 = .ok (.istore 5, 2) := by decide +kernel
theorem dX4_measure_87 : decode cX4_measure 87 = .ok (.iinc 6 1, 3) := by decide +kernel
theorem dX4_measure_90 : decode cX4_measure 90 = .ok (.goto (-70), 3) := by decide +kernel
theorem dX4_measure_93 : decode cX4_measure 93 = .ok (.aload_n 0, 1) := by decide +kernel
theorem dX4_measure_94 : decode cX4_measure 94 = .ok (.getfield 37, 3) := by decide +kernel
theorem dX4_measure_97 : decode cX4_measure 97 = .ok (.iload_n 1, 1) := by decide +kernel
theorem dX4_measure_98 : decode cX4_measure 98 = .ok (.iload_n 2, 1) := by decide +kernel
theorem dX4_measure_99 : decode cX4_measure 99 = .ok (.invokevirtual 82, 3) := by decide +kernel
theorem dX4_measure_102 : decode cX4_measure 102 = .ok (.aload_n 0, 1) := by decide +kernel
theorem dX4_measure_103 : decode cX4_measure 103 = .ok (.getfield 31, 3) := by decide +kernel
theorem dX4_measure_106 : decode cX4_measure 106 = .ok (.iload_n 1, 1) := by decide +kernel
theorem dX4_measure_107 : decode cX4_measure 107 = .ok (.iload_n 3, 1) := by decide +kernel
theorem dX4_measure_108 : decode cX4_measure 108 = .ok (.invokevirtual 82, 3) := by decide +kernel
theorem dX4_measure_111 : decode cX4_measure 111 = .ok (.aload_n 0, 1) := by decide +kernel
theorem dX4_measure_112 : decode cX4_measure 112 = .ok (.getfield 40, 3) := by decide +kernel
theorem dX4_measure_115 : decode cX4_measure 115 = .ok (.iload_n 1, 1) := by decide +kernel
theorem dX4_measure_116 : decode cX4_measure 116 = .ok (.iload 4, 2) := by decide +kernel
theorem dX4_measure_118 : decode cX4_measure 118 = .ok (.invokevirtual 82, 3) := by decide +kernel
theorem dX4_measure_121 : decode cX4_measure 121 = .ok (.aload_n 0, 1) := by decide +kernel
theorem dX4_measure_122 : decode cX4_measure 122 = .ok (.getfield 46, 3) := by decide +kernel
theorem dX4_measure_125 : decode cX4_measure 125 = .ok (.iload_n 1, 1) := by decide +kernel
theorem dX4_measure_126 : decode cX4_measure 126 = .ok (.iload 4, 2) := by decide +kernel
theorem dX4_measure_128 : decode cX4_measure 128 = .ok (.iconst (-1), 1) := by decide +kernel
theorem dX4_measure_129 : decode cX4_measure 129 = .ok (.if_icmp .ne 7, 3) := by decide +kernel
theorem dX4_measure_132 : decode cX4_measure 132 = .ok (.iload_n 1, 1) := by decide +kernel
theorem dX4_measure_133 : decode cX4_measure 133 = .ok (.goto 12, 3) := by decide +kernel
theorem dX4_measure_136 : decode cX4_measure 136 = .ok (.aload_n 0, 1) := by decide +kernel
theorem dX4_measure_137 : decode cX4_measure 137 = .ok (.getfield 46, 3) := by decide +kernel
theorem dX4_measure_140 : decode cX4_measure 140 = .ok (.iload 4, 2) := by decide +kernel
theorem dX4_measure_142 : decode cX4_measure 142 = .ok (.invokevirtual 79, 3) := by decide +kernel
theorem dX4_measure_145 : decode cX4_measure 145 = .ok (.invokevirtual 82, 3) := by decide +kernel
theorem dX4_measure_148 : decode cX4_measure 148 = .ok (.return_, 1) := by decide +kernel
theorem dX4_findTops_0 : decode cX4_findTops 0 = .ok (.iconst 0, 1) := by decide +kernel
theorem dX4_findTops_1 : decode cX4_findTops 1 = .ok (.istore_n 1, 1) := by decide +kernel
theorem dX4_findTops_2 : decode cX4_findTops 2 = .ok (.iload_n 1, 1) := by decide +kernel
theorem dX4_findTops_3 : decode cX4_findTops 3 = .ok (.aload_n 0, 1) := by decide +kernel
theorem dX4_findTops_4 : decode cX4_findTops 4 = .ok (.getfield 49, 3) := by decide +kernel
theorem dX4_findTops_7 : decode cX4_findTops 7 = .ok (.if_icmp .ge 81, 3) := by decide +kernel
theorem dX4_findTops_10 : decode cX4_findTops 10 = .ok (.iload_n 1, 1) := by decide +kernel
theorem dX4_findTops_11 : decode cX4_findTops 11 = .ok (.bipush 90, 2) := by decide +kernel
theorem dX4_findTops_13 : decode cX4_findTops 13 = .ok (.if_icmp .ge 75, 3) := by decide +kernel
theorem dX4_findTops_16 : decode cX4_findTops 16 = .ok (.aload_n 0, 1) := by decide +kernel
theorem dX4_findTops_17 : decode cX4_findTops 17 = .ok (.getfield 25, 3) := by decide +kernel
theorem dX4_findTops_20 : decode cX4_findTops 20 = .ok (.iload_n 1, 1) := by decide +kernel
theorem dX4_findTops_21 : decode cX4_findTops 21 = .ok (.invokevirtual 79, 3) := by decide +kernel
theorem dX4_findTops_24 : decode cX4_findTops 24 = .ok (.istore_n 2, 1) := by decide +kernel
theorem dX4_findTops_25 : decode cX4_findTops 25 = .ok (.aload_n 0, 1) := by decide +kernel
theorem dX4_findTops_26 : decode cX4_findTops 26 = .ok (.getfield 9, 3) := by decide +kernel
theorem dX4_findTops_29 : decode cX4_findTops 29 = .ok (.iload_n 2, 1) := by decide +kernel
theorem dX4_findTops_30 : decode cX4_findTops 30 = .ok (.invokevirtual 75, 3) := by decide +kernel
theorem dX4_findTops_33 : decode cX4_findTops 33 = .ok (.istore_n 3, 1) := by decide +kernel
theorem dX4_findTops_34 : decode cX4_findTops 34 = .ok (.iload_n 2, 1) := by decide +kernel
theorem dX4_findTops_35 : decode cX4_findTops 35 = .ok (.ifCond .eq 19, 3) := by decide +kernel
theorem dX4_findTops_38 : decode cX4_findTops 38 = .ok (.aload_n 0, 1) := by decide +kernel
theorem dX4_findTops_39 : decode cX4_findTops 39 = .ok (.getfield 40, 3) := by decide +kernel
theorem dX4_findTops_42 : decode cX4_findTops 42 = .ok (.iload_n 3, 1) := by decide +kernel
theorem dX4_findTops_43 : decode cX4_findTops 43 = .ok (.invokevirtual 79, 3) := by decide +kernel
theorem dX4_findTops_46 : decode cX4_findTops 46 = .ok (.iload_n 2, 1) := by decide +kernel
theorem dX4_findTops_47 : decode cX4_findTops 47 = .ok (.if_icmp .ne 7, 3) := by decide +kernel
theorem dX4_findTops_50 : decode cX4_findTops 50 = .ok (.iconst 1, 1) := by decide +kernel
theorem dX4_findTops_51 : decode cX4_findTops 51 = .ok (.goto 4, 3) := by decide +kernel
theorem dX4_findTops_54 : decode cX4_findTops 54 = .ok (.iconst 0, 1) := by decide +kernel
theorem dX4_findTops_55 : decode cX4_findTops 55 = .ok (.istore 4, 2) := by decide +kernel
theorem dX4_findTops_57 : decode cX4_findTops 57 = .ok (.aload_n 0, 1) := by decide +kernel
theorem dX4_findTops_58 : decode cX4_findTops 58 = .ok (.getfield 43, 3) := by decide +kernel
theorem dX4_findTops_61 : decode cX4_findTops 61 = .ok (.iload_n 2, 1) := by decide +kernel
theorem dX4_findTops_62 : decode cX4_findTops 62 = .ok (.iload 4, 2) := by decide +kernel
theorem dX4_findTops_64 : decode cX4_findTops 64 = .ok (.ifCond .eq 14, 3) := by decide +kernel
theorem dX4_findTops_67 : decode cX4_findTops 67 = .ok (.aload_n 0, 1) := by decide +kernel
theorem dX4_findTops_68 : decode cX4_findTops 68 = .ok (.getfield 43, 3) := by decide +kernel
theorem dX4_findTops_71 : decode cX4_findTops 71 = .ok (.iload_n 3, 1) := by decide +kernel
theorem dX4_findTops_72 : decode cX4_findTops 72 = .ok (.invokevirtual 79, 3) := by decide +kernel
theorem dX4_findTops_75 : decode cX4_findTops 75 = .ok (.goto 4, 3) := by decide +kernel
theorem dX4_findTops_78 : decode cX4_findTops 78 = .ok (.iload_n 2, 1) := by decide +kernel
theorem dX4_findTops_79 : decode cX4_findTops 79 = .ok (.invokevirtual 82, 3) := by decide +kernel
theorem dX4_findTops_82 : decode cX4_findTops 82 = .ok (.iinc 1 1, 3) := by decide +kernel
theorem dX4_findTops_85 : decode cX4_findTops 85 = .ok (.goto (-83), 3) := by decide +kernel
theorem dX4_findTops_88 : decode cX4_findTops 88 = .ok (.return_, 1) := by decide +kernel
theorem dX4_present_0 : decode cX4_present 0 = .ok (.aload_n 0, 1) := by decide +kernel
theorem dX4_present_1 : decode cX4_present 1 = .ok (.getfield 49, 3) := by decide +kernel
theorem dX4_present_4 : decode cX4_present 4 = .ok (.ireturn, 1) := by decide +kernel
theorem dX4_downwardAt_0 : decode cX4_downwardAt 0 = .ok (.aload_n 0, 1) := by decide +kernel
theorem dX4_downwardAt_1 : decode cX4_downwardAt 1 = .ok (.getfield 25, 3) := by decide +kernel
theorem dX4_downwardAt_4 : decode cX4_downwardAt 4 = .ok (.iload_n 1, 1) := by decide +kernel
theorem dX4_downwardAt_5 : decode cX4_downwardAt 5 = .ok (.invokevirtual 79, 3) := by decide +kernel
theorem dX4_downwardAt_8 : decode cX4_downwardAt 8 = .ok (.ireturn, 1) := by decide +kernel
theorem dX4_firstChildOf_0 : decode cX4_firstChildOf 0 = .ok (.aload_n 0, 1) := by decide +kernel
theorem dX4_firstChildOf_1 : decode cX4_firstChildOf 1 = .ok (.getfield 18, 3) := by decide +kernel
theorem dX4_firstChildOf_4 : decode cX4_firstChildOf 4 = .ok (.iload_n 1, 1) := by decide +kernel
theorem dX4_firstChildOf_5 : decode cX4_firstChildOf 5 = .ok (.invokevirtual 79, 3) := by decide +kernel
theorem dX4_firstChildOf_8 : decode cX4_firstChildOf 8 = .ok (.ireturn, 1) := by decide +kernel
theorem dX4_nextChildOf_0 : decode cX4_nextChildOf 0 = .ok (.aload_n 0, 1) := by decide +kernel
theorem dX4_nextChildOf_1 : decode cX4_nextChildOf 1 = .ok (.getfield 22, 3) := by decide +kernel
theorem dX4_nextChildOf_4 : decode cX4_nextChildOf 4 = .ok (.iload_n 1, 1) := by decide +kernel
theorem dX4_nextChildOf_5 : decode cX4_nextChildOf 5 = .ok (.invokevirtual 79, 3) := by decide +kernel
theorem dX4_nextChildOf_8 : decode cX4_nextChildOf 8 = .ok (.ireturn, 1) := by decide +kernel
theorem dX4_depthOf_0 : decode cX4_depthOf 0 = .ok (.aload_n 0, 1) := by decide +kernel
theorem dX4_depthOf_1 : decode cX4_depthOf 1 = .ok (.getfield 28, 3) := by decide +kernel
theorem dX4_depthOf_4 : decode cX4_depthOf 4 = .ok (.iload_n 1, 1) := by decide +kernel
theorem dX4_depthOf_5 : decode cX4_depthOf 5 = .ok (.invokevirtual 79, 3) := by decide +kernel
theorem dX4_depthOf_8 : decode cX4_depthOf 8 = .ok (.ireturn, 1) := by decide +kernel
theorem dX4_heightOf_0 : decode cX4_heightOf 0 = .ok (.aload_n 0, 1) := by decide +kernel
theorem dX4_heightOf_1 : decode cX4_heightOf 1 = .ok (.getfield 31, 3) := by decide +kernel
theorem dX4_heightOf_4 : decode cX4_heightOf 4 = .ok (.iload_n 1, 1) := by decide +kernel
theorem dX4_heightOf_5 : decode cX4_heightOf 5 = .ok (.invokevirtual 79, 3) := by decide +kernel
theorem dX4_heightOf_8 : decode cX4_heightOf 8 = .ok (.ireturn, 1) := by decide +kernel
theorem dX4_childrenOf_0 : decode cX4_childrenOf 0 = .ok (.aload_n 0, 1) := by decide +kernel
theorem dX4_childrenOf_1 : decode cX4_childrenOf 1 = .ok (.getfield 34, 3) := by decide +kernel
theorem dX4_childrenOf_4 : decode cX4_childrenOf 4 = .ok (.iload_n 1, 1) := by decide +kernel
theorem dX4_childrenOf_5 : decode cX4_childrenOf 5 = .ok (.invokevirtual 79, 3) := by decide +kernel
theorem dX4_childrenOf_8 : decode cX4_childrenOf 8 = .ok (.ireturn, 1) := by decide +kernel
theorem dX4_sizeOf_0 : decode cX4_sizeOf 0 = .ok (.aload_n 0, 1) := by decide +kernel
theorem dX4_sizeOf_1 : decode cX4_sizeOf 1 = .ok (.getfield 37, 3) := by decide +kernel
theorem dX4_sizeOf_4 : decode cX4_sizeOf 4 = .ok (.iload_n 1, 1) := by decide +kernel
theorem dX4_sizeOf_5 : decode cX4_sizeOf 5 = .ok (.invokevirtual 79, 3) := by decide +kernel
theorem dX4_sizeOf_8 : decode cX4_sizeOf 8 = .ok (.ireturn, 1) := by decide +kernel
theorem dX4_longChildOf_0 : decode cX4_longChildOf 0 = .ok (.aload_n 0, 1) := by decide +kernel
theorem dX4_longChildOf_1 : decode cX4_longChildOf 1 = .ok (.getfield 40, 3) := by decide +kernel
theorem dX4_longChildOf_4 : decode cX4_longChildOf 4 = .ok (.iload_n 1, 1) := by decide +kernel
theorem dX4_longChildOf_5 : decode cX4_longChildOf 5 = .ok (.invokevirtual 79, 3) := by decide +kernel
theorem dX4_longChildOf_8 : decode cX4_longChildOf 8 = .ok (.ireturn, 1) := by decide +kernel
theorem dX4_topOf_0 : decode cX4_topOf 0 = .ok (.aload_n 0, 1) := by decide +kernel
theorem dX4_topOf_1 : decode cX4_topOf 1 = .ok (.getfield 43, 3) := by decide +kernel
theorem dX4_topOf_4 : decode cX4_topOf 4 = .ok (.iload_n 1, 1) := by decide +kernel
theorem dX4_topOf_5 : decode cX4_topOf 5 = .ok (.invokevirtual 79, 3) := by decide +kernel
theorem dX4_topOf_8 : decode cX4_topOf 8 = .ok (.ireturn, 1) := by decide +kernel
theorem dX4_footOf_0 : decode cX4_footOf 0 = .ok (.aload_n 0, 1) := by decide +kernel
theorem dX4_footOf_1 : decode cX4_footOf 1 = .ok (.getfield 46, 3) := by decide +kernel
theorem dX4_footOf_4 : decode cX4_footOf 4 = .ok (.iload_n 1, 1) := by decide +kernel
theorem dX4_footOf_5 : decode cX4_footOf 5 = .ok (.invokevirtual 79, 3) := by decide +kernel
theorem dX4_footOf_8 : decode cX4_footOf 8 = .ok (.ireturn, 1) := by decide +kernel
theorem dX4_isLeaf_0 : decode cX4_isLeaf 0 = .ok (.aload_n 0, 1) := by decide +kernel
theorem dX4_isLeaf_1 : decode cX4_isLeaf 1 = .ok (.getfield 34, 3) := by decide +kernel
theorem dX4_isLeaf_4 : decode cX4_isLeaf 4 = .ok (.iload_n 1, 1) := by decide +kernel
theorem dX4_isLeaf_5 : decode cX4_isLeaf 5 = .ok (.invokevirtual 79, 3) := by decide +kernel
theorem dX4_isLeaf_8 : decode cX4_isLeaf 8 = .ok (.ifCond .ne 7, 3) := by decide +kernel
theorem dX4_isLeaf_11 : decode cX4_isLeaf 11 = .ok (.iconst 1, 1) := by decide +kernel
theorem dX4_isLeaf_12 : decode cX4_isLeaf 12 = .ok (.goto 4, 3) := by decide +kernel
theorem dX4_isLeaf_15 : decode cX4_isLeaf 15 = .ok (.iconst 0, 1) := by decide +kernel
theorem dX4_isLeaf_16 : decode cX4_isLeaf 16 = .ok (.ireturn, 1) := by decide +kernel
theorem dX4_longWayOf_0 : decode cX4_longWayOf 0 = .ok (.aload_n 0, 1) := by decide +kernel
theorem dX4_longWayOf_1 : decode cX4_longWayOf 1 = .ok (.getfield 31, 3) := by decide +kernel
theorem dX4_longWayOf_4 : decode cX4_longWayOf 4 = .ok (.aload_n 0, 1) := by decide +kernel
theorem dX4_longWayOf_5 : decode cX4_longWayOf 5 = .ok (.getfield 43, 3) := by decide +kernel
theorem dX4_longWayOf_8 : decode cX4_longWayOf 8 = .ok (.iload_n 1, 1) := by decide +kernel
theorem dX4_longWayOf_9 : decode cX4_longWayOf 9 = .ok (.invokevirtual 79, 3) := by decide +kernel
theorem dX4_longWayOf_12 : decode cX4_longWayOf 12 = .ok (.invokevirtual 79, 3) := by decide +kernel
theorem dX4_longWayOf_15 : decode cX4_longWayOf 15 = .ok (.iconst 1, 1) := by decide +kernel
theorem dX4_longWayOf_16 : decode cX4_longWayOf 16 = .ok (.iadd, 1) := by decide +kernel
theorem dX4_longWayOf_17 : decode cX4_longWayOf 17 = .ok (.ireturn, 1) := by decide +kernel
theorem dX4_ladderOf_0 : decode cX4_ladderOf 0 = .ok (.aload_n 0, 1) := by decide +kernel
theorem dX4_ladderOf_1 : decode cX4_ladderOf 1 = .ok (.iload_n 1, 1) := by decide +kernel
theorem dX4_ladderOf_2 : decode cX4_ladderOf 2 = .ok (.invokevirtual 89, 3) := by decide +kernel
theorem dX4_ladderOf_5 : decode cX4_ladderOf 5 = .ok (.aload_n 0, 1) := by decide +kernel
theorem dX4_ladderOf_6 : decode cX4_ladderOf 6 = .ok (.iload_n 1, 1) := by decide +kernel
theorem dX4_ladderOf_7 : decode cX4_ladderOf 7 = .ok (.invokevirtual 89, 3) := by decide +kernel
theorem dX4_ladderOf_10 : decode cX4_ladderOf 10 = .ok (.aload_n 0, 1) := by decide +kernel
theorem dX4_ladderOf_11 : decode cX4_ladderOf 11 = .ok (.getfield 28, 3) := by decide +kernel
theorem dX4_ladderOf_14 : decode cX4_ladderOf 14 = .ok (.aload_n 0, 1) := by decide +kernel
theorem dX4_ladderOf_15 : decode cX4_ladderOf 15 = .ok (.getfield 43, 3) := by decide +kernel
theorem dX4_ladderOf_18 : decode cX4_ladderOf 18 = .ok (.iload_n 1, 1) := by decide +kernel
theorem dX4_ladderOf_19 : decode cX4_ladderOf 19 = .ok (.invokevirtual 79, 3) := by decide +kernel
theorem dX4_ladderOf_22 : decode cX4_ladderOf 22 = .ok (.invokevirtual 79, 3) := by decide +kernel
theorem dX4_ladderOf_25 : decode cX4_ladderOf 25 = .ok (.invokestatic 92, 3) := by decide +kernel
theorem dX4_ladderOf_28 : decode cX4_ladderOf 28 = .ok (.iadd, 1) := by decide +kernel
theorem dX4_ladderOf_29 : decode cX4_ladderOf 29 = .ok (.ireturn, 1) := by decide +kernel
theorem dX4_climb_0 : decode cX4_climb 0 = .ok (.iload_n 1, 1) := by decide +kernel
theorem dX4_climb_1 : decode cX4_climb 1 = .ok (.istore_n 3, 1) := by decide +kernel
theorem dX4_climb_2 : decode cX4_climb 2 = .ok (.iconst 0, 1) := by decide +kernel
theorem dX4_climb_3 : decode cX4_climb 3 = .ok (.istore 4, 2) := by decide +kernel
theorem dX4_climb_5 : decode cX4_climb 5 = .ok (.iload 4, 2) := by decide +kernel
theorem dX4_climb_7 : decode cX4_climb 7 = .ok (.iload_n 2, 1) := by decide +kernel
theorem dX4_climb_8 : decode cX4_climb 8 = .ok (.if_icmp .ge 23, 3) := by decide +kernel
theorem dX4_climb_11 : decode cX4_climb 11 = .ok (.iload_n 3, 1) := by decide +kernel
theorem dX4_climb_12 : decode cX4_climb 12 = .ok (.iconst (-1), 1) := by decide +kernel
theorem dX4_climb_13 : decode cX4_climb 13 = .ok (.if_icmp .eq 18, 3) := by decide +kernel
theorem dX4_climb_16 : decode cX4_climb 16 = .ok (.aload_n 0, 1) := by decide +kernel
theorem dX4_climb_17 : decode cX4_climb 17 = .ok (.getfield 9, 3) := by decide +kernel
theorem dX4_climb_20 : decode cX4_climb 20 = .ok (.iload_n 3, 1) := by decide +kernel
theorem dX4_climb_21 : decode cX4_climb 21 = .ok (.invokevirtual 75, 3) := by decide +kernel
theorem dX4_climb_24 : decode cX4_climb 24 = .ok (.istore_n 3, 1) := by decide +kernel
theorem dX4_climb_25 : decode cX4_climb 25 = .ok (.iinc 4 1, 3) := by decide +kernel
theorem dX4_climb_28 : decode cX4_climb 28 = .ok (.goto (-23), 3) := by decide +kernel
theorem dX4_climb_31 : decode cX4_climb 31 = .ok (.iload_n 3, 1) := by decide +kernel
theorem dX4_climb_32 : decode cX4_climb 32 = .ok (.ireturn, 1) := by decide +kernel
theorem dX4_isInBranch_0 : decode cX4_isInBranch 0 = .ok (.aload_n 0, 1) := by decide +kernel
theorem dX4_isInBranch_1 : decode cX4_isInBranch 1 = .ok (.getfield 28, 3) := by decide +kernel
theorem dX4_isInBranch_4 : decode cX4_isInBranch 4 = .ok (.iload_n 1, 1) := by decide +kernel
theorem dX4_isInBranch_5 : decode cX4_isInBranch 5 = .ok (.invokevirtual 79, 3) := by decide +kernel
theorem dX4_isInBranch_8 : decode cX4_isInBranch 8 = .ok (.aload_n 0, 1) := by decide +kernel
theorem dX4_isInBranch_9 : decode cX4_isInBranch 9 = .ok (.getfield 28, 3) := by decide +kernel
theorem dX4_isInBranch_12 : decode cX4_isInBranch 12 = .ok (.iload_n 2, 1) := by decide +kernel
theorem dX4_isInBranch_13 : decode cX4_isInBranch 13 = .ok (.invokevirtual 79, 3) := by decide +kernel
theorem dX4_isInBranch_16 : decode cX4_isInBranch 16 = .ok (.isub, 1) := by decide +kernel
theorem dX4_isInBranch_17 : decode cX4_isInBranch 17 = .ok (.istore_n 3, 1) := by decide +kernel
theorem dX4_isInBranch_18 : decode cX4_isInBranch 18 = .ok (.iload_n 3, 1) := by decide +kernel
theorem dX4_isInBranch_19 : decode cX4_isInBranch 19 = .ok (.ifCond .lt 17, 3) := by decide +kernel
theorem dX4_isInBranch_22 : decode cX4_isInBranch 22 = .ok (.aload_n 0, 1) := by decide +kernel
theorem dX4_isInBranch_23 : decode cX4_isInBranch 23 = .ok (.iload_n 1, 1) := by decide +kernel
theorem dX4_isInBranch_24 : decode cX4_isInBranch 24 = .ok (.iload_n 3, 1) := by decide +kernel
theorem dX4_isInBranch_25 : decode cX4_isInBranch 25 = .ok (.invokevirtual 98, 3) := by decide +kernel
theorem dX4_isInBranch_28 : decode cX4_isInBranch 28 = .ok (.iload_n 2, 1) := by decide +kernel
theorem dX4_isInBranch_29 : decode cX4_isInBranch 29 = .ok (.if_icmp .ne 7, 3) := by decide +kernel
theorem dX4_isInBranch_32 : decode cX4_isInBranch 32 = .ok (.iconst 1, 1) := by decide +kernel
theorem dX4_isInBranch_33 : decode cX4_isInBranch 33 = .ok (.goto 4, 3) := by decide +kernel
theorem dX4_isInBranch_36 : decode cX4_isInBranch 36 = .ok (.iconst 0, 1) := by decide +kernel
theorem dX4_isInBranch_37 : decode cX4_isInBranch 37 = .ok (.ireturn, 1) := by decide +kernel
theorem dX4_meetingOf_0 : decode cX4_meetingOf 0 = .ok (.aload_n 0, 1) := by decide +kernel
theorem dX4_meetingOf_1 : decode cX4_meetingOf 1 = .ok (.iload_n 1, 1) := by decide +kernel
theorem dX4_meetingOf_2 : decode cX4_meetingOf 2 = .ok (.aload_n 0, 1) := by decide +kernel
theorem dX4_meetingOf_3 : decode cX4_meetingOf 3 = .ok (.getfield 28, 3) := by decide +kernel
theorem dX4_meetingOf_6 : decode cX4_meetingOf 6 = .ok (.iload_n 1, 1) := by decide +kernel
theorem dX4_meetingOf_7 : decode cX4_meetingOf 7 = .ok (.invokevirtual 79, 3) := by decide +kernel
theorem dX4_meetingOf_10 : decode cX4_meetingOf 10 = .ok (.aload_n 0, 1) := by decide +kernel
theorem dX4_meetingOf_11 : decode cX4_meetingOf 11 = .ok (.getfield 28, 3) := by decide +kernel
theorem dX4_meetingOf_14 : decode cX4_meetingOf 14 = .ok (.iload_n 2, 1) := by decide +kernel
theorem dX4_meetingOf_15 : decode cX4_meetingOf 15 = .ok (.invokevirtual 79, 3) := by decide +kernel
theorem dX4_meetingOf_18 : decode cX4_meetingOf 18 = .ok (.isub, 1) := by decide +kernel
theorem dX4_meetingOf_19 : decode cX4_meetingOf 19 = .ok (.invokevirtual 98, 3) := by decide +kernel
theorem dX4_meetingOf_22 : decode cX4_meetingOf 22 = .ok (.istore_n 3, 1) := by decide +kernel
theorem dX4_meetingOf_23 : decode cX4_meetingOf 23 = .ok (.aload_n 0, 1) := by decide +kernel
theorem dX4_meetingOf_24 : decode cX4_meetingOf 24 = .ok (.iload_n 2, 1) := by decide +kernel
theorem dX4_meetingOf_25 : decode cX4_meetingOf 25 = .ok (.aload_n 0, 1) := by decide +kernel
theorem dX4_meetingOf_26 : decode cX4_meetingOf 26 = .ok (.getfield 28, 3) := by decide +kernel
theorem dX4_meetingOf_29 : decode cX4_meetingOf 29 = .ok (.iload_n 2, 1) := by decide +kernel
theorem dX4_meetingOf_30 : decode cX4_meetingOf 30 = .ok (.invokevirtual 79, 3) := by decide +kernel
theorem dX4_meetingOf_33 : decode cX4_meetingOf 33 = .ok (.aload_n 0, 1) := by decide +kernel
theorem dX4_meetingOf_34 : decode cX4_meetingOf 34 = .ok (.getfield 28, 3) := by decide +kernel
theorem dX4_meetingOf_37 : decode cX4_meetingOf 37 = .ok (.iload_n 1, 1) := by decide +kernel
theorem dX4_meetingOf_38 : decode cX4_meetingOf 38 = .ok (.invokevirtual 79, 3) := by decide +kernel
theorem dX4_meetingOf_41 : decode cX4_meetingOf 41 = .ok (.isub, 1) := by decide +kernel
theorem dX4_meetingOf_42 : decode cX4_meetingOf 42 = .ok (.invokevirtual 98, 3) := by decide +kernel
theorem dX4_meetingOf_45 : decode cX4_meetingOf 45 = .ok (.istore 4, 2) := by decide +kernel
theorem dX4_meetingOf_47 : decode cX4_meetingOf 47 = .ok (.iconst 0, 1) := by decide +kernel
theorem dX4_meetingOf_48 : decode cX4_meetingOf 48 = .ok (.istore 5, 2) := by decide +kernel
theorem dX4_meetingOf_50 : decode cX4_meetingOf 50 = .ok (.iload 5, 2) := by decide +kernel
theorem dX4_meetingOf_52 : decode cX4_meetingOf 52 = .ok (.bipush 90, 2) := by decide +kernel
theorem dX4_meetingOf_54 : decode cX4_meetingOf 54 = .ok (.if_icmp .ge 35, 3) := by decide +kernel
theorem dX4_meetingOf_57 : decode cX4_meetingOf 57 = .ok (.iload_n 3, 1) := by decide +kernel
theorem dX4_meetingOf_58 : decode cX4_meetingOf 58 = .ok (.iload 4, 2) := by decide +kernel
theorem dX4_meetingOf_60 : decode cX4_meetingOf 60 = .ok (.if_icmp .eq 29, 3) := by decide +kernel
theorem dX4_meetingOf_63 : decode cX4_meetingOf 63 = .ok (.aload_n 0, 1) := by decide +kernel
theorem dX4_meetingOf_64 : decode cX4_meetingOf 64 = .ok (.getfield 9, 3) := by decide +kernel
theorem dX4_meetingOf_67 : decode cX4_meetingOf 67 = .ok (.iload_n 3, 1) := by decide +kernel
theorem dX4_meetingOf_68 : decode cX4_meetingOf 68 = .ok (.invokevirtual 75, 3) := by decide +kernel
theorem dX4_meetingOf_71 : decode cX4_meetingOf 71 = .ok (.istore_n 3, 1) := by decide +kernel
theorem dX4_meetingOf_72 : decode cX4_meetingOf 72 = .ok (.aload_n 0, 1) := by decide +kernel
theorem dX4_meetingOf_73 : decode cX4_meetingOf 73 = .ok (.getfield 9, 3) := by decide +kernel
theorem dX4_meetingOf_76 : decode cX4_meetingOf 76 = .ok (.iload 4, 2) := by decide +kernel
theorem dX4_meetingOf_78 : decode cX4_meetingOf 78 = .ok (.invokevirtual 75, 3) := by decide +kernel
theorem dX4_meetingOf_81 : decode cX4_meetingOf 81 = .ok (.istore 4, 2) := by decide +kernel
theorem dX4_meetingOf_83 : decode cX4_meetingOf 83 = .ok (.iinc 5 1, 3) := by decide +kernel
theorem dX4_meetingOf_86 : decode cX4_meetingOf 86 = .ok (.goto (-36), 3) := by decide +kernel
theorem dX4_meetingOf_89 : decode cX4_meetingOf 89 = .ok (.iload_n 3, 1) := by decide +kernel
theorem dX4_meetingOf_90 : decode cX4_meetingOf 90 = .ok (.ireturn, 1) := by decide +kernel
theorem dX4_looksFor_0 : decode cX4_looksFor 0 = .ok (.iload_n 2, 1) := by decide +kernel
theorem dX4_looksFor_1 : decode cX4_looksFor 1 = .ok (.ifCond .ne 5, 3) := by decide +kernel
theorem dX4_looksFor_4 : decode cX4_looksFor 4 = .ok (.iconst 0, 1) := by decide +kernel
theorem dX4_looksFor_5 : decode cX4_looksFor 5 = .ok (.ireturn, 1) := by decide +kernel
theorem dX4_looksFor_6 : decode cX4_looksFor 6 = .ok (.aload_n 0, 1) := by decide +kernel
theorem dX4_looksFor_7 : decode cX4_looksFor 7 = .ok (.getfield 31, 3) := by decide +kernel
theorem dX4_looksFor_10 : decode cX4_looksFor 10 = .ok (.iload_n 1, 1) := by decide +kernel
theorem dX4_looksFor_11 : decode cX4_looksFor 11 = .ok (.invokevirtual 79, 3) := by decide +kernel
theorem dX4_looksFor_14 : decode cX4_looksFor 14 = .ok (.iload_n 2, 1) := by decide +kernel
theorem dX4_looksFor_15 : decode cX4_looksFor 15 = .ok (.iadd, 1) := by decide +kernel
theorem dX4_looksFor_16 : decode cX4_looksFor 16 = .ok (.istore_n 3, 1) := by decide +kernel
theorem dX4_looksFor_17 : decode cX4_looksFor 17 = .ok (.iload_n 3, 1) := by decide +kernel
theorem dX4_looksFor_18 : decode cX4_looksFor 18 = .ok (.aload_n 0, 1) := by decide +kernel
theorem dX4_looksFor_19 : decode cX4_looksFor 19 = .ok (.iload_n 1, 1) := by decide +kernel
theorem dX4_looksFor_20 : decode cX4_looksFor 20 = .ok (.invokevirtual 101, 3) := by decide +kernel
theorem dX4_looksFor_23 : decode cX4_looksFor 23 = .ok (.if_icmp .ge 5, 3) := by decide +kernel
theorem dX4_looksFor_26 : decode cX4_looksFor 26 = .ok (.iconst 1, 1) := by decide +kernel
theorem dX4_looksFor_27 : decode cX4_looksFor 27 = .ok (.ireturn, 1) := by decide +kernel
theorem dX4_looksFor_28 : decode cX4_looksFor 28 = .ok (.iload_n 3, 1) := by decide +kernel
theorem dX4_looksFor_29 : decode cX4_looksFor 29 = .ok (.invokestatic 104, 3) := by decide +kernel
theorem dX4_looksFor_32 : decode cX4_looksFor 32 = .ok (.iconst 1, 1) := by decide +kernel
theorem dX4_looksFor_33 : decode cX4_looksFor 33 = .ok (.if_icmp .ne 7, 3) := by decide +kernel
theorem dX4_looksFor_36 : decode cX4_looksFor 36 = .ok (.iconst 2, 1) := by decide +kernel
theorem dX4_looksFor_37 : decode cX4_looksFor 37 = .ok (.goto 4, 3) := by decide +kernel
theorem dX4_looksFor_40 : decode cX4_looksFor 40 = .ok (.iconst 3, 1) := by decide +kernel
theorem dX4_looksFor_41 : decode cX4_looksFor 41 = .ok (.ireturn, 1) := by decide +kernel
theorem dX4_countLeaves_0 : decode cX4_countLeaves 0 = .ok (.iconst 0, 1) := by decide +kernel
theorem dX4_countLeaves_1 : decode cX4_countLeaves 1 = .ok (.istore_n 1, 1) := by decide +kernel
theorem dX4_countLeaves_2 : decode cX4_countLeaves 2 = .ok (.iconst 0, 1) := by decide +kernel
theorem dX4_countLeaves_3 : decode cX4_countLeaves 3 = .ok (.istore_n 2, 1) := by decide +kernel
theorem dX4_countLeaves_4 : decode cX4_countLeaves 4 = .ok (.iload_n 2, 1) := by decide +kernel
theorem dX4_countLeaves_5 : decode cX4_countLeaves 5 = .ok (.aload_n 0, 1) := by decide +kernel
theorem dX4_countLeaves_6 : decode cX4_countLeaves 6 = .ok (.getfield 49, 3) := by decide +kernel
theorem dX4_countLeaves_9 : decode cX4_countLeaves 9 = .ok (.if_icmp .ge 33, 3) := by decide +kernel
theorem dX4_countLeaves_12 : decode cX4_countLeaves 12 = .ok (.iload_n 2, 1) := by decide +kernel
theorem dX4_countLeaves_13 : decode cX4_countLeaves 13 = .ok (.bipush 90, 2) := by decide +kernel
theorem dX4_countLeaves_15 : decode cX4_countLeaves 15 = .ok (.if_icmp .ge 27, 3) := by decide +kernel
theorem dX4_countLeaves_18 : decode cX4_countLeaves 18 = .ok (.aload_n 0, 1) := by decide +kernel
theorem dX4_countLeaves_19 : decode cX4_countLeaves 19 = .ok (.aload_n 0, 1) := by decide +kernel
theorem dX4_countLeaves_20 : decode cX4_countLeaves 20 = .ok (.getfield 25, 3) := by decide +kernel
theorem dX4_countLeaves_23 : decode cX4_countLeaves 23 = .ok (.iload_n 2, 1) := by decide +kernel
theorem dX4_countLeaves_24 : decode cX4_countLeaves 24 = .ok (.invokevirtual 79, 3) := by decide +kernel
theorem dX4_countLeaves_27 : decode cX4_countLeaves 27 = .ok (.invokevirtual 109, 3) := by decide +kernel
theorem dX4_countLeaves_30 : decode cX4_countLeaves 30 = .ok (.ifCond .eq 6, 3) := by decide +kernel
theorem dX4_countLeaves_33 : decode cX4_countLeaves 33 = .ok (.iinc 1 1, 3) := by decide +kernel
theorem dX4_countLeaves_36 : decode cX4_countLeaves 36 = .ok (.iinc 2 1, 3) := by decide +kernel
theorem dX4_countLeaves_39 : decode cX4_countLeaves 39 = .ok (.goto (-35), 3) := by decide +kernel
theorem dX4_countLeaves_42 : decode cX4_countLeaves 42 = .ok (.iload_n 1, 1) := by decide +kernel
theorem dX4_countLeaves_43 : decode cX4_countLeaves 43 = .ok (.ireturn, 1) := by decide +kernel
theorem dX4_countLadders_0 : decode cX4_countLadders 0 = .ok (.iconst 0, 1) := by decide +kernel
theorem dX4_countLadders_1 : decode cX4_countLadders 1 = .ok (.istore_n 1, 1) := by decide +kernel
theorem dX4_countLadders_2 : decode cX4_countLadders 2 = .ok (.iconst 0, 1) := by decide +kernel
theorem dX4_countLadders_3 : decode cX4_countLadders 3 = .ok (.istore_n 2, 1) := by decide +kernel
theorem dX4_countLadders_4 : decode cX4_countLadders 4 = .ok (.iload_n 2, 1) := by decide +kernel
theorem dX4_countLadders_5 : decode cX4_countLadders 5 = .ok (.aload_n 0, 1) := by decide +kernel
theorem dX4_countLadders_6 : decode cX4_countLadders 6 = .ok (.getfield 49, 3) := by decide +kernel
theorem dX4_countLadders_9 : decode cX4_countLadders 9 = .ok (.if_icmp .ge 40, 3) := by decide +kernel
theorem dX4_countLadders_12 : decode cX4_countLadders 12 = .ok (.iload_n 2, 1) := by decide +kernel
theorem dX4_countLadders_13 : decode cX4_countLadders 13 = .ok (.bipush 90, 2) := by decide +kernel
theorem dX4_countLadders_15 : decode cX4_countLadders 15 = .ok (.if_icmp .ge 34, 3) := by decide +kernel
theorem dX4_countLadders_18 : decode cX4_countLadders 18 = .ok (.aload_n 0, 1) := by decide +kernel
theorem dX4_countLadders_19 : decode cX4_countLadders 19 = .ok (.getfield 25, 3) := by decide +kernel
theorem dX4_countLadders_22 : decode cX4_countLadders 22 = .ok (.iload_n 2, 1) := by decide +kernel
theorem dX4_countLadders_23 : decode cX4_countLadders 23 = .ok (.invokevirtual 79, 3) := by decide +kernel
theorem dX4_countLadders_26 : decode cX4_countLadders 26 = .ok (.istore_n 3, 1) := by decide +kernel
theorem dX4_countLadders_27 : decode cX4_countLadders 27 = .ok (.aload_n 0, 1) := by decide +kernel
theorem dX4_countLadders_28 : decode cX4_countLadders 28 = .ok (.iload_n 3, 1) := by decide +kernel
theorem dX4_countLadders_29 : decode cX4_countLadders 29 = .ok (.invokevirtual 109, 3) := by decide +kernel
theorem dX4_countLadders_32 : decode cX4_countLadders 32 = .ok (.ifCond .eq 11, 3) := by decide +kernel
theorem dX4_countLadders_35 : decode cX4_countLadders 35 = .ok (.iload_n 1, 1) := by decide +kernel
theorem dX4_countLadders_36 : decode cX4_countLadders 36 = .ok (.aload_n 0, 1) := by decide +kernel
theorem dX4_countLadders_37 : decode cX4_countLadders 37 = .ok (.iload_n 3, 1) := by decide +kernel
theorem dX4_countLadders_38 : decode cX4_countLadders 38 = .ok (.invokevirtual 101, 3) := by decide +kernel
theorem dX4_countLadders_41 : decode cX4_countLadders 41 = .ok (.iadd, 1) := by decide +kernel
theorem dX4_countLadders_42 : decode cX4_countLadders 42 = .ok (.istore_n 1, 1) := by decide +kernel
theorem dX4_countLadders_43 : decode cX4_countLadders 43 = .ok (.iinc 2 1, 3) := by decide +kernel
theorem dX4_countLadders_46 : decode cX4_countLadders 46 = .ok (.goto (-42), 3) := by decide +kernel
theorem dX4_countLadders_49 : decode cX4_countLadders 49 = .ok (.iload_n 1, 1) := by decide +kernel
theorem dX4_countLadders_50 : decode cX4_countLadders 50 = .ok (.ireturn, 1) := by decide +kernel
theorem dX4_countJumps_0 : decode cX4_countJumps 0 = .ok (.iconst 0, 1) := by decide +kernel
theorem dX4_countJumps_1 : decode cX4_countJumps 1 = .ok (.istore_n 1, 1) := by decide +kernel
theorem dX4_countJumps_2 : decode cX4_countJumps 2 = .ok (.iconst 0, 1) := by decide +kernel
theorem dX4_countJumps_3 : decode cX4_countJumps 3 = .ok (.istore_n 2, 1) := by decide +kernel
theorem dX4_countJumps_4 : decode cX4_countJumps 4 = .ok (.iload_n 2, 1) := by decide +kernel
theorem dX4_countJumps_5 : decode cX4_countJumps 5 = .ok (.aload_n 0, 1) := by decide +kernel
theorem dX4_countJumps_6 : decode cX4_countJumps 6 = .ok (.getfield 49, 3) := by decide +kernel
theorem dX4_countJumps_9 : decode cX4_countJumps 9 = .ok (.if_icmp .ge 46, 3) := by decide +kernel
theorem dX4_countJumps_12 : decode cX4_countJumps 12 = .ok (.iload_n 2, 1) := by decide +kernel
theorem dX4_countJumps_13 : decode cX4_countJumps 13 = .ok (.bipush 90, 2) := by decide +kernel
theorem dX4_countJumps_15 : decode cX4_countJumps 15 = .ok (.if_icmp .ge 40, 3) := by decide +kernel
theorem dX4_countJumps_18 : decode cX4_countJumps 18 = .ok (.aload_n 0, 1) := by decide +kernel
theorem dX4_countJumps_19 : decode cX4_countJumps 19 = .ok (.getfield 25, 3) := by decide +kernel
theorem dX4_countJumps_22 : decode cX4_countJumps 22 = .ok (.iload_n 2, 1) := by decide +kernel
theorem dX4_countJumps_23 : decode cX4_countJumps 23 = .ok (.invokevirtual 79, 3) := by decide +kernel
theorem dX4_countJumps_26 : decode cX4_countJumps 26 = .ok (.istore_n 3, 1) := by decide +kernel
theorem dX4_countJumps_27 : decode cX4_countJumps 27 = .ok (.aload_n 0, 1) := by decide +kernel
theorem dX4_countJumps_28 : decode cX4_countJumps 28 = .ok (.iload_n 3, 1) := by decide +kernel
theorem dX4_countJumps_29 : decode cX4_countJumps 29 = .ok (.invokevirtual 109, 3) := by decide +kernel
theorem dX4_countJumps_32 : decode cX4_countJumps 32 = .ok (.ifCond .eq 17, 3) := by decide +kernel
theorem dX4_countJumps_35 : decode cX4_countJumps 35 = .ok (.iload_n 1, 1) := by decide +kernel
theorem dX4_countJumps_36 : decode cX4_countJumps 36 = .ok (.aload_n 0, 1) := by decide +kernel
theorem dX4_countJumps_37 : decode cX4_countJumps 37 = .ok (.getfield 28, 3) := by decide +kernel
theorem dX4_countJumps_40 : decode cX4_countJumps 40 = .ok (.iload_n 3, 1) := by decide +kernel
theorem dX4_countJumps_41 : decode cX4_countJumps 41 = .ok (.invokevirtual 79, 3) := by decide +kernel
theorem dX4_countJumps_44 : decode cX4_countJumps 44 = .ok (.invokestatic 112, 3) := by decide +kernel
theorem dX4_countJumps_47 : decode cX4_countJumps 47 = .ok (.iadd, 1) := by decide +kernel
theorem dX4_countJumps_48 : decode cX4_countJumps 48 = .ok (.istore_n 1, 1) := by decide +kernel
theorem dX4_countJumps_49 : decode cX4_countJumps 49 = .ok (.iinc 2 1, 3) := by decide +kernel
theorem dX4_countJumps_52 : decode cX4_countJumps 52 = .ok (.goto (-48), 3) := by decide +kernel
theorem dX4_countJumps_55 : decode cX4_countJumps 55 = .ok (.iload_n 1, 1) := by decide +kernel
theorem dX4_countJumps_56 : decode cX4_countJumps 56 = .ok (.ireturn, 1) := by decide +kernel
theorem dX4_jumpsFrom_0 : decode cX4_jumpsFrom 0 = .ok (.iconst 0, 1) := by decide +kernel
theorem dX4_jumpsFrom_1 : decode cX4_jumpsFrom 1 = .ok (.istore_n 1, 1) := by decide +kernel
theorem dX4_jumpsFrom_2 : decode cX4_jumpsFrom 2 = .ok (.iconst 0, 1) := by decide +kernel
theorem dX4_jumpsFrom_3 : decode cX4_jumpsFrom 3 = .ok (.istore_n 2, 1) := by decide +kernel
theorem dX4_jumpsFrom_4 : decode cX4_jumpsFrom 4 = .ok (.iload_n 2, 1) := by decide +kernel
theorem dX4_jumpsFrom_5 : decode cX4_jumpsFrom 5 = .ok (.bipush 6, 2) := by decide +kernel
theorem dX4_jumpsFrom_7 : decode cX4_jumpsFrom 7 = .ok (.if_icmp .gt 19, 3) := by decide +kernel
theorem dX4_jumpsFrom_10 : decode cX4_jumpsFrom 10 = .ok (.iconst 1, 1) := by decide +kernel
theorem dX4_jumpsFrom_11 : decode cX4_jumpsFrom 11 = .ok (.iload_n 2, 1) := by decide +kernel
theorem dX4_jumpsFrom_12 : decode cX4_jumpsFrom 12 = .ok (.ishl, 1) := by decide +kernel
theorem dX4_jumpsFrom_13 : decode cX4_jumpsFrom 13 = .ok (.iload_n 0, 1) := by decide +kernel
theorem dX4_jumpsFrom_14 : decode cX4_jumpsFrom 14 = .ok (.if_icmp .gt 12, 3) := by decide +kernel
theorem dX4_jumpsFrom_17 : decode cX4_jumpsFrom 17 = .ok (.iinc 1 1, 3) := by decide +kernel
theorem dX4_jumpsFrom_20 : decode cX4_jumpsFrom 20 = .ok (.iinc 2 1, 3) := by decide +kernel
theorem dX4_jumpsFrom_23 : decode cX4_jumpsFrom 23 = .ok (.goto (-19), 3) := by decide +kernel
theorem dX4_jumpsFrom_26 : decode cX4_jumpsFrom 26 = .ok (.iload_n 1, 1) := by decide +kernel
theorem dX4_jumpsFrom_27 : decode cX4_jumpsFrom 27 = .ok (.ireturn, 1) := by decide +kernel
end
section
theorem dX5_init_0 : decode cX5_init 0 = .ok (.aload_n 0, 1) := by decide +kernel
theorem dX5_init_1 : decode cX5_init 1 = .ok (.invokespecial 3, 3) := by decide +kernel
theorem dX5_init_4 : decode cX5_init 4 = .ok (.aload_n 0, 1) := by decide +kernel
theorem dX5_init_5 : decode cX5_init 5 = .ok (.bipush 60, 2) := by decide +kernel
theorem dX5_init_7 : decode cX5_init 7 = .ok (.newarray .char, 2) := by decide +kernel
theorem dX5_init_9 : decode cX5_init 9 = .ok (.putfield 9, 3) := by decide +kernel
theorem dX5_init_12 : decode cX5_init 12 = .ok (.aload_n 0, 1) := by decide +kernel
theorem dX5_init_13 : decode cX5_init 13 = .ok (.iconst 0, 1) := by decide +kernel
theorem dX5_init_14 : decode cX5_init 14 = .ok (.putfield 15, 3) := by decide +kernel
theorem dX5_init_17 : decode cX5_init 17 = .ok (.return_, 1) := by decide +kernel
theorem dX5_length_0 : decode cX5_length 0 = .ok (.aload_n 0, 1) := by decide +kernel
theorem dX5_length_1 : decode cX5_length 1 = .ok (.getfield 15, 3) := by decide +kernel
theorem dX5_length_4 : decode cX5_length 4 = .ok (.ireturn, 1) := by decide +kernel
theorem dX5_put_0 : decode cX5_put 0 = .ok (.aload_n 0, 1) := by decide +kernel
theorem dX5_put_1 : decode cX5_put 1 = .ok (.getfield 15, 3) := by decide +kernel
theorem dX5_put_4 : decode cX5_put 4 = .ok (.ifCond .lt 15, 3) := by decide +kernel
theorem dX5_put_7 : decode cX5_put 7 = .ok (.aload_n 0, 1) := by decide +kernel
theorem dX5_put_8 : decode cX5_put 8 = .ok (.getfield 15, 3) := by decide +kernel
theorem dX5_put_11 : decode cX5_put 11 = .ok (.aload_n 0, 1) := by decide +kernel
theorem dX5_put_12 : decode cX5_put 12 = .ok (.getfield 9, 3) := by decide +kernel
theorem dX5_put_15 : decode cX5_put 15 = .ok (.arraylength, 1) := by decide +kernel
theorem dX5_put_16 : decode cX5_put 16 = .ok (.if_icmp .lt 5, 3) := by decide +kernel
theorem dX5_put_19 : decode cX5_put 19 = .ok (.iconst 0, 1) := by decide +kernel
theorem dX5_put_20 : decode cX5_put 20 = .ok (.ireturn, 1) := by decide +kernel
theorem dX5_put_21 : decode cX5_put 21 = .ok (.aload_n 0, 1) := by decide +kernel
theorem dX5_put_22 : decode cX5_put 22 = .ok (.getfield 9, 3) := by decide +kernel
theorem dX5_put_25 : decode cX5_put 25 = .ok (.aload_n 0, 1) := by decide +kernel
theorem dX5_put_26 : decode cX5_put 26 = .ok (.getfield 15, 3) := by decide +kernel
theorem dX5_put_29 : decode cX5_put 29 = .ok (.iload_n 1, 1) := by decide +kernel
theorem dX5_put_30 : decode cX5_put 30 = .ok (.castore, 1) := by decide +kernel
theorem dX5_put_31 : decode cX5_put 31 = .ok (.aload_n 0, 1) := by decide +kernel
theorem dX5_put_32 : decode cX5_put 32 = .ok (.dup, 1) := by decide +kernel
theorem dX5_put_33 : decode cX5_put 33 = .ok (.getfield 15, 3) := by decide +kernel
theorem dX5_put_36 : decode cX5_put 36 = .ok (.iconst 1, 1) := by decide +kernel
theorem dX5_put_37 : decode cX5_put 37 = .ok (.iadd, 1) := by decide +kernel
theorem dX5_put_38 : decode cX5_put 38 = .ok (.putfield 15, 3) := by decide +kernel
theorem dX5_put_41 : decode cX5_put 41 = .ok (.iconst 1, 1) := by decide +kernel
theorem dX5_put_42 : decode cX5_put 42 = .ok (.ireturn, 1) := by decide +kernel
theorem dX5_fault_0 : decode cX5_fault 0 = .ok (.iconst 0, 1) := by decide +kernel
theorem dX5_fault_1 : decode cX5_fault 1 = .ok (.istore_n 1, 1) := by decide +kernel
theorem dX5_fault_2 : decode cX5_fault 2 = .ok (.iconst 0, 1) := by decide +kernel
theorem dX5_fault_3 : decode cX5_fault 3 = .ok (.istore_n 2, 1) := by decide +kernel
theorem dX5_fault_4 : decode cX5_fault 4 = .ok (.iload_n 2, 1) := by decide +kernel
theorem dX5_fault_5 : decode cX5_fault 5 = .ok (.aload_n 0, 1) := by decide +kernel
theorem dX5_fault_6 : decode cX5_fault 6 = .ok (.getfield 15, 3) := by decide +kernel
theorem dX5_fault_9 : decode cX5_fault 9 = .ok (.if_icmp .ge 58, 3) := by decide +kernel
theorem dX5_fault_12 : decode cX5_fault 12 = .ok (.iload_n 2, 1) := by decide +kernel
theorem dX5_fault_13 : decode cX5_fault 13 = .ok (.aload_n 0, 1) := by decide +kernel
theorem dX5_fault_14 : decode cX5_fault 14 = .ok (.getfield 9, 3) := by decide +kernel
theorem dX5_fault_17 : decode cX5_fault 17 = .ok (.arraylength, 1) := by decide +kernel
theorem dX5_fault_18 : decode cX5_fault 18 = .ok (.if_icmp .ge 49, 3) := by decide +kernel
theorem dX5_fault_21 : decode cX5_fault 21 = .ok (.aload_n 0, 1) := by decide +kernel
theorem dX5_fault_22 : decode cX5_fault 22 = .ok (.getfield 9, 3) := by decide +kernel
theorem dX5_fault_25 : decode cX5_fault 25 = .ok (.iload_n 2, 1) := by decide +kernel
theorem dX5_fault_26 : decode cX5_fault 26 = .ok (.caload, 1) := by decide +kernel
theorem dX5_fault_27 : decode cX5_fault 27 = .ok (.bipush 40, 2) := by decide +kernel
theorem dX5_fault_29 : decode cX5_fault 29 = .ok (.if_icmp .ne 9, 3) := by decide +kernel
theorem dX5_fault_32 : decode cX5_fault 32 = .ok (.iinc 1 1, 3) := by decide +kernel
theorem dX5_fault_35 : decode cX5_fault 35 = .ok (.goto 26, 3) := by decide +kernel
theorem dX5_fault_38 : decode cX5_fault 38 = .ok (.aload_n 0, 1) := by decide +kernel
theorem dX5_fault_39 : decode cX5_fault 39 = .ok (.getfield 9, 3) := by decide +kernel
theorem dX5_fault_42 : decode cX5_fault 42 = .ok (.iload_n 2, 1) := by decide +kernel
theorem dX5_fault_43 : decode cX5_fault 43 = .ok (.caload, 1) := by decide +kernel
theorem dX5_fault_44 : decode cX5_fault 44 = .ok (.bipush 41, 2) := by decide +kernel
theorem dX5_fault_46 : decode cX5_fault 46 = .ok (.if_icmp .ne 13, 3) := by decide +kernel
theorem dX5_fault_49 : decode cX5_fault 49 = .ok (.iload_n 1, 1) := by decide +kernel
theorem dX5_fault_50 : decode cX5_fault 50 = .ok (.ifCond .le 9, 3) := by decide +kernel
theorem dX5_fault_53 : decode cX5_fault 53 = .ok (.iinc 1 (-1), 3) := by decide +kernel
theorem dX5_fault_56 : decode cX5_fault 56 = .ok (.goto 5, 3) := by decide +kernel
theorem dX5_fault_59 : decode cX5_fault 59 = .ok (.iload_n 2, 1) := by decide +kernel
theorem dX5_fault_60 : decode cX5_fault 60 = .ok (.ireturn, 1) := by decide +kernel
theorem dX5_fault_61 : decode cX5_fault 61 = .ok (.iinc 2 1, 3) := by decide +kernel
theorem dX5_fault_64 : decode cX5_fault 64 = .ok (.goto (-60), 3) := by decide +kernel
theorem dX5_fault_67 : decode cX5_fault 67 = .ok (.aload_n 0, 1) := by decide +kernel
theorem dX5_fault_68 : decode cX5_fault 68 = .ok (.getfield 15, 3) := by decide +kernel
theorem dX5_fault_71 : decode cX5_fault 71 = .ok (.ifCond .eq 7, 3) := by decide +kernel
theorem dX5_fault_74 : decode cX5_fault 74 = .ok (.iload_n 1, 1) := by decide +kernel
theorem dX5_fault_75 : decode cX5_fault 75 = .ok (.ifCond .le 10, 3) := by decide +kernel
theorem dX5_fault_78 : decode cX5_fault 78 = .ok (.aload_n 0, 1) := by decide +kernel
theorem dX5_fault_79 : decode cX5_fault 79 = .ok (.getfield 15, 3) := by decide +kernel
theorem dX5_fault_82 : decode cX5_fault 82 = .ok (.goto 4, 3) := by decide +kernel
theorem dX5_fault_85 : decode cX5_fault 85 = .ok (.iconst (-1), 1) := by decide +kernel
theorem dX5_fault_86 : decode cX5_fault 86 = .ok (.ireturn, 1) := by decide +kernel
theorem dX5_branches_0 : decode cX5_branches 0 = .ok (.aload_n 0, 1) := by decide +kernel
theorem dX5_branches_1 : decode cX5_branches 1 = .ok (.getfield 15, 3) := by decide +kernel
theorem dX5_branches_4 : decode cX5_branches 4 = .ok (.iconst 2, 1) := by decide +kernel
theorem dX5_branches_5 : decode cX5_branches 5 = .ok (.idiv, 1) := by decide +kernel
theorem dX5_branches_6 : decode cX5_branches 6 = .ok (.ireturn, 1) := by decide +kernel
theorem dX5_plant_0 : decode cX5_plant 0 = .ok (.iload_n 2, 1) := by decide +kernel
theorem dX5_plant_1 : decode cX5_plant 1 = .ok (.istore_n 3, 1) := by decide +kernel
theorem dX5_plant_2 : decode cX5_plant 2 = .ok (.iconst 0, 1) := by decide +kernel
theorem dX5_plant_3 : decode cX5_plant 3 = .ok (.istore 4, 2) := by decide +kernel
theorem dX5_plant_5 : decode cX5_plant 5 = .ok (.iload 4, 2) := by decide +kernel
theorem dX5_plant_7 : decode cX5_plant 7 = .ok (.aload_n 0, 1) := by decide +kernel
theorem dX5_plant_8 : decode cX5_plant 8 = .ok (.getfield 15, 3) := by decide +kernel
theorem dX5_plant_11 : decode cX5_plant 11 = .ok (.if_icmp .ge 48, 3) := by decide +kernel
theorem dX5_plant_14 : decode cX5_plant 14 = .ok (.iload 4, 2) := by decide +kernel
theorem dX5_plant_16 : decode cX5_plant 16 = .ok (.aload_n 0, 1) := by decide +kernel
theorem dX5_plant_17 : decode cX5_plant 17 = .ok (.getfield 9, 3) := by decide +kernel
theorem dX5_plant_20 : decode cX5_plant 20 = .ok (.arraylength, 1) := by decide +kernel
theorem dX5_plant_21 : decode cX5_plant 21 = .ok (.if_icmp .ge 38, 3) := by decide +kernel
theorem dX5_plant_24 : decode cX5_plant 24 = .ok (.aload_n 0, 1) := by decide +kernel
theorem dX5_plant_25 : decode cX5_plant 25 = .ok (.getfield 9, 3) := by decide +kernel
theorem dX5_plant_28 : decode cX5_plant 28 = .ok (.iload 4, 2) := by decide +kernel
theorem dX5_plant_30 : decode cX5_plant 30 = .ok (.caload, 1) := by decide +kernel
theorem dX5_plant_31 : decode cX5_plant 31 = .ok (.bipush 40, 2) := by decide +kernel
theorem dX5_plant_33 : decode cX5_plant 33 = .ok (.if_icmp .ne 14, 3) := by decide +kernel
theorem dX5_plant_36 : decode cX5_plant 36 = .ok (.aload_n 1, 1) := by decide +kernel
theorem dX5_plant_37 : decode cX5_plant 37 = .ok (.iload_n 3, 1) := by decide +kernel
theorem dX5_plant_38 : decode cX5_plant 38 = .ok (.ldc 19, 2) := by decide +kernel
theorem dX5_plant_40 : decode cX5_plant 40 = .ok (.fconst 1, 1) := by decide +kernel
theorem dX5_plant_41 : decode cX5_plant 41 = .ok (.invokevirtual 20, 3) := by decide +kernel
theorem dX5_plant_44 : decode cX5_plant 44 = .ok (.goto 8, 3) := by decide +kernel
theorem dX5_plant_47 : decode cX5_plant 47 = .ok (.aload_n 1, 1) := by decide +kernel
theorem dX5_plant_48 : decode cX5_plant 48 = .ok (.iload_n 3, 1) := by decide +kernel
theorem dX5_plant_49 : decode cX5_plant 49 = .ok (.invokevirtual 26, 3) := by decide +kernel
theorem dX5_plant_52 : decode cX5_plant 52 = .ok (.istore_n 3, 1) := by decide +kernel
theorem dX5_plant_53 : decode cX5_plant 53 = .ok (.iinc 4 1, 3) := by decide +kernel
theorem dX5_plant_56 : decode cX5_plant 56 = .ok (.goto (-51), 3) := by decide +kernel
theorem dX5_plant_59 : decode cX5_plant 59 = .ok (.return_, 1) := by decide +kernel
theorem dX6_init_0 : decode cX6_init 0 = .ok (.aload_n 0, 1) := by decide +kernel
theorem dX6_init_1 : decode cX6_init 1 = .ok (.invokespecial 3, 3) := by decide +kernel
theorem dX6_init_4 : decode cX6_init 4 = .ok (.aload_n 0, 1) := by decide +kernel
theorem dX6_init_5 : decode cX6_init 5 = .ok (.new 9, 3) := by decide +kernel
theorem dX6_init_8 : decode cX6_init 8 = .ok (.dup, 1) := by decide +kernel
theorem dX6_init_9 : decode cX6_init 9 = .ok (.invokespecial 11, 3) := by decide +kernel
theorem dX6_init_12 : decode cX6_init 12 = .ok (.putfield 12, 3) := by decide +kernel
theorem dX6_init_15 : decode cX6_init 15 = .ok (.aload_n 0, 1) := by decide +kernel
theorem dX6_init_16 : decode cX6_init 16 = .ok (.new 9, 3) := by decide +kernel
theorem dX6_init_19 : decode cX6_init 19 = .ok (.dup, 1) := by decide +kernel
theorem dX6_init_20 : decode cX6_init 20 = .ok (.invokespecial 11, 3) := by decide +kernel
theorem dX6_init_23 : decode cX6_init 23 = .ok (.putfield 18, 3) := by decide +kernel
theorem dX6_init_26 : decode cX6_init 26 = .ok (.aload_n 0, 1) := by decide +kernel
theorem dX6_init_27 : decode cX6_init 27 = .ok (.new 21, 3) := by decide +kernel
theorem dX6_init_30 : decode cX6_init 30 = .ok (.dup, 1) := by decide +kernel
theorem dX6_init_31 : decode cX6_init 31 = .ok (.invokespecial 23, 3) := by decide +kernel
theorem dX6_init_34 : decode cX6_init 34 = .ok (.putfield 24, 3) := by decide +kernel
theorem dX6_init_37 : decode cX6_init 37 = .ok (.aload_n 0, 1) := by decide +kernel
theorem dX6_init_38 : decode cX6_init 38 = .ok (.getfield 12, 3) := by decide +kernel
theorem dX6_init_41 : decode cX6_init 41 = .ok (.iconst 0, 1) := by decide +kernel
theorem dX6_init_42 : decode cX6_init 42 = .ok (.iconst (-1), 1) := by decide +kernel
theorem dX6_init_43 : decode cX6_init 43 = .ok (.invokevirtual 28, 3) := by decide +kernel
theorem dX6_init_46 : decode cX6_init 46 = .ok (.aload_n 0, 1) := by decide +kernel
theorem dX6_init_47 : decode cX6_init 47 = .ok (.iconst 1, 1) := by decide +kernel
theorem dX6_init_48 : decode cX6_init 48 = .ok (.putfield 32, 3) := by decide +kernel
theorem dX6_init_51 : decode cX6_init 51 = .ok (.return_, 1) := by decide +kernel
theorem dX6_ever_0 : decode cX6_ever 0 = .ok (.aload_n 0, 1) := by decide +kernel
theorem dX6_ever_1 : decode cX6_ever 1 = .ok (.getfield 32, 3) := by decide +kernel
theorem dX6_ever_4 : decode cX6_ever 4 = .ok (.ireturn, 1) := by decide +kernel
theorem dX6_isNode_0 : decode cX6_isNode 0 = .ok (.iload_n 1, 1) := by decide +kernel
theorem dX6_isNode_1 : decode cX6_isNode 1 = .ok (.ifCond .lt 28, 3) := by decide +kernel
theorem dX6_isNode_4 : decode cX6_isNode 4 = .ok (.iload_n 1, 1) := by decide +kernel
theorem dX6_isNode_5 : decode cX6_isNode 5 = .ok (.aload_n 0, 1) := by decide +kernel
theorem dX6_isNode_6 : decode cX6_isNode 6 = .ok (.getfield 32, 3) := by decide +kernel
theorem dX6_isNode_9 : decode cX6_isNode 9 = .ok (.if_icmp .ge 20, 3) := by decide +kernel
theorem dX6_isNode_12 : decode cX6_isNode 12 = .ok (.aload_n 0, 1) := by decide +kernel
theorem dX6_isNode_13 : decode cX6_isNode 13 = .ok (.getfield 12, 3) := by decide +kernel
theorem dX6_isNode_16 : decode cX6_isNode 16 = .ok (.iload_n 1, 1) := by decide +kernel
theorem dX6_isNode_17 : decode cX6_isNode 17 = .ok (.invokevirtual 36, 3) := by decide +kernel
theorem dX6_isNode_20 : decode cX6_isNode 20 = .ok (.bipush (-2), 2) := by decide +kernel
theorem dX6_isNode_22 : decode cX6_isNode 22 = .ok (.if_icmp .eq 7, 3) := by decide +kernel
theorem dX6_isNode_25 : decode cX6_isNode 25 = .ok (.iconst 1, 1) := by decide +kernel
theorem dX6_isNode_26 : decode cX6_isNode 26 = .ok (.goto 4, 3) := by decide +kernel
theorem dX6_isNode_29 : decode cX6_isNode 29 = .ok (.iconst 0, 1) := by decide +kernel
theorem dX6_isNode_30 : decode cX6_isNode 30 = .ok (.ireturn, 1) := by decide +kernel
theorem dX6_hasRoomFor_0 : decode cX6_hasRoomFor 0 = .ok (.aload_n 0, 1) := by decide +kernel
theorem dX6_hasRoomFor_1 : decode cX6_hasRoomFor 1 = .ok (.getfield 32, 3) := by decide +kernel
theorem dX6_hasRoomFor_4 : decode cX6_hasRoomFor 4 = .ok (.iload_n 1, 1) := by decide +kernel
theorem dX6_hasRoomFor_5 : decode cX6_hasRoomFor 5 = .ok (.iadd, 1) := by decide +kernel
theorem dX6_hasRoomFor_6 : decode cX6_hasRoomFor 6 = .ok (.bipush 90, 2) := by decide +kernel
theorem dX6_hasRoomFor_8 : decode cX6_hasRoomFor 8 = .ok (.if_icmp .gt 7, 3) := by decide +kernel
theorem dX6_hasRoomFor_11 : decode cX6_hasRoomFor 11 = .ok (.iconst 1, 1) := by decide +kernel
theorem dX6_hasRoomFor_12 : decode cX6_hasRoomFor 12 = .ok (.goto 4, 3) := by decide +kernel
theorem dX6_hasRoomFor_15 : decode cX6_hasRoomFor 15 = .ok (.iconst 0, 1) := by decide +kernel
theorem dX6_hasRoomFor_16 : decode cX6_hasRoomFor 16 = .ok (.ireturn, 1) := by decide +kernel
theorem dX6_parentOf_0 : decode cX6_parentOf 0 = .ok (.aload_n 0, 1) := by decide +kernel
theorem dX6_parentOf_1 : decode cX6_parentOf 1 = .ok (.getfield 12, 3) := by decide +kernel
theorem dX6_parentOf_4 : decode cX6_parentOf 4 = .ok (.iload_n 1, 1) := by decide +kernel
theorem dX6_parentOf_5 : decode cX6_parentOf 5 = .ok (.invokevirtual 36, 3) := by decide +kernel
theorem dX6_parentOf_8 : decode cX6_parentOf 8 = .ok (.ireturn, 1) := by decide +kernel
theorem dX6_bitsOf_0 : decode cX6_bitsOf 0 = .ok (.aload_n 0, 1) := by decide +kernel
theorem dX6_bitsOf_1 : decode cX6_bitsOf 1 = .ok (.getfield 18, 3) := by decide +kernel
theorem dX6_bitsOf_4 : decode cX6_bitsOf 4 = .ok (.iload_n 1, 1) := by decide +kernel
theorem dX6_bitsOf_5 : decode cX6_bitsOf 5 = .ok (.invokevirtual 36, 3) := by decide +kernel
theorem dX6_bitsOf_8 : decode cX6_bitsOf 8 = .ok (.ireturn, 1) := by decide +kernel
theorem dX6_lengthOf_0 : decode cX6_lengthOf 0 = .ok (.aload_n 0, 1) := by decide +kernel
theorem dX6_lengthOf_1 : decode cX6_lengthOf 1 = .ok (.getfield 24, 3) := by decide +kernel
theorem dX6_lengthOf_4 : decode cX6_lengthOf 4 = .ok (.iload_n 1, 1) := by decide +kernel
theorem dX6_lengthOf_5 : decode cX6_lengthOf 5 = .ok (.invokevirtual 40, 3) := by decide +kernel
theorem dX6_lengthOf_8 : decode cX6_lengthOf 8 = .ok (.freturn, 1) := by decide +kernel
theorem dX6_append_0 : decode cX6_append 0 = .ok (.aload_n 0, 1) := by decide +kernel
theorem dX6_append_1 : decode cX6_append 1 = .ok (.getfield 32, 3) := by decide +kernel
theorem dX6_append_4 : decode cX6_append 4 = .ok (.istore 4, 2) := by decide +kernel
theorem dX6_append_6 : decode cX6_append 6 = .ok (.aload_n 0, 1) := by decide +kernel
theorem dX6_append_7 : decode cX6_append 7 = .ok (.dup, 1) := by decide +kernel
theorem dX6_append_8 : decode cX6_append 8 = .ok (.getfield 32, 3) := by decide +kernel
theorem dX6_append_11 : decode cX6_append 11 = .ok (.iconst 1, 1) := by decide +kernel
theorem dX6_append_12 : decode cX6_append 12 = .ok (.iadd, 1) := by decide +kernel
theorem dX6_append_13 : decode cX6_append 13 = .ok (.putfield 32, 3) := by decide +kernel
theorem dX6_append_16 : decode cX6_append 16 = .ok (.aload_n 0, 1) := by decide +kernel
theorem dX6_append_17 : decode cX6_append 17 = .ok (.getfield 12, 3) := by decide +kernel
theorem dX6_append_20 : decode cX6_append 20 = .ok (.iload 4, 2) := by decide +kernel
theorem dX6_append_22 : decode cX6_append 22 = .ok (.iload_n 1, 1) := by decide +kernel
theorem dX6_append_23 : decode cX6_append 23 = .ok (.invokevirtual 28, 3) := by decide +kernel
theorem dX6_append_26 : decode cX6_append 26 = .ok (.aload_n 0, 1) := by decide +kernel
theorem dX6_append_27 : decode cX6_append 27 = .ok (.iload 4, 2) := by decide +kernel
theorem dX6_append_29 : decode cX6_append 29 = .ok (.iload_n 2, 1) := by decide +kernel
theorem dX6_append_30 : decode cX6_append 30 = .ok (.fload_n 3, 1) := by decide +kernel
theorem dX6_append_31 : decode cX6_append 31 = .ok (.invokevirtual 43, 3) := by decide +kernel
theorem dX6_append_34 : decode cX6_append 34 = .ok (.iload 4, 2) := by decide +kernel
theorem dX6_append_36 : decode cX6_append 36 = .ok (.ireturn, 1) := by decide +kernel
theorem dX6_remove_0 : decode cX6_remove 0 = .ok (.aload_n 0, 1) := by decide +kernel
theorem dX6_remove_1 : decode cX6_remove 1 = .ok (.getfield 12, 3) := by decide +kernel
theorem dX6_remove_4 : decode cX6_remove 4 = .ok (.iload_n 1, 1) := by decide +kernel
theorem dX6_remove_5 : decode cX6_remove 5 = .ok (.bipush (-2), 2) := by decide +kernel
theorem dX6_remove_7 : decode cX6_remove 7 = .ok (.invokevirtual 28, 3) := by decide +kernel
theorem dX6_remove_10 : decode cX6_remove 10 = .ok (.return_, 1) := by decide +kernel
theorem dX6_hang_0 : decode cX6_hang 0 = .ok (.aload_n 0, 1) := by decide +kernel
theorem dX6_hang_1 : decode cX6_hang 1 = .ok (.getfield 12, 3) := by decide +kernel
theorem dX6_hang_4 : decode cX6_hang 4 = .ok (.iload_n 1, 1) := by decide +kernel
theorem dX6_hang_5 : decode cX6_hang 5 = .ok (.iload_n 2, 1) := by decide +kernel
theorem dX6_hang_6 : decode cX6_hang 6 = .ok (.invokevirtual 28, 3) := by decide +kernel
theorem dX6_hang_9 : decode cX6_hang 9 = .ok (.return_, 1) := by decide +kernel
theorem dX6_stretch_0 : decode cX6_stretch 0 = .ok (.aload_n 0, 1) := by decide +kernel
theorem dX6_stretch_1 : decode cX6_stretch 1 = .ok (.getfield 18, 3) := by decide +kernel
theorem dX6_stretch_4 : decode cX6_stretch 4 = .ok (.iload_n 1, 1) := by decide +kernel
theorem dX6_stretch_5 : decode cX6_stretch 5 = .ok (.iload_n 2, 1) := by decide +kernel
theorem dX6_stretch_6 : decode cX6_stretch 6 = .ok (.invokevirtual 28, 3) := by decide +kernel
theorem dX6_stretch_9 : decode cX6_stretch 9 = .ok (.aload_n 0, 1) := by decide +kernel
theorem dX6_stretch_10 : decode cX6_stretch 10 = .ok (.getfield 24, 3) := by decide +kernel
theorem dX6_stretch_13 : decode cX6_stretch 13 = .ok (.iload_n 1, 1) := by decide +kernel
theorem dX6_stretch_14 : decode cX6_stretch 14 = .ok (.fload_n 3, 1) := by decide +kernel
theorem dX6_stretch_15 : decode cX6_stretch 15 = .ok (.invokevirtual 47, 3) := by decide +kernel
theorem dX6_stretch_18 : decode cX6_stretch 18 = .ok (.return_, 1) := by decide +kernel
theorem dX6_copyFrom_0 : decode cX6_copyFrom 0 = .ok (.aload_n 0, 1) := by decide +kernel
theorem dX6_copyFrom_1 : decode cX6_copyFrom 1 = .ok (.getfield 12, 3) := by decide +kernel
theorem dX6_copyFrom_4 : decode cX6_copyFrom 4 = .ok (.aload_n 1, 1) := by decide +kernel
theorem dX6_copyFrom_5 : decode cX6_copyFrom 5 = .ok (.getfield 12, 3) := by decide +kernel
theorem dX6_copyFrom_8 : decode cX6_copyFrom 8 = .ok (.invokevirtual 50, 3) := by decide +kernel
theorem dX6_copyFrom_11 : decode cX6_copyFrom 11 = .ok (.aload_n 0, 1) := by decide +kernel
theorem dX6_copyFrom_12 : decode cX6_copyFrom 12 = .ok (.getfield 18, 3) := by decide +kernel
theorem dX6_copyFrom_15 : decode cX6_copyFrom 15 = .ok (.aload_n 1, 1) := by decide +kernel
theorem dX6_copyFrom_16 : decode cX6_copyFrom 16 = .ok (.getfield 18, 3) := by decide +kernel
theorem dX6_copyFrom_19 : decode cX6_copyFrom 19 = .ok (.invokevirtual 50, 3) := by decide +kernel
theorem dX6_copyFrom_22 : decode cX6_copyFrom 22 = .ok (.aload_n 0, 1) := by decide +kernel
theorem dX6_copyFrom_23 : decode cX6_copyFrom 23 = .ok (.getfield 24, 3) := by decide +kernel
theorem dX6_copyFrom_26 : decode cX6_copyFrom 26 = .ok (.aload_n 1, 1) := by decide +kernel
theorem dX6_copyFrom_27 : decode cX6_copyFrom 27 = .ok (.getfield 24, 3) := by decide +kernel
theorem dX6_copyFrom_30 : decode cX6_copyFrom 30 = .ok (.invokevirtual 54, 3) := by decide +kernel
theorem dX6_copyFrom_33 : decode cX6_copyFrom 33 = .ok (.aload_n 0, 1) := by decide +kernel
theorem dX6_copyFrom_34 : decode cX6_copyFrom 34 = .ok (.aload_n 1, 1) := by decide +kernel
theorem dX6_copyFrom_35 : decode cX6_copyFrom 35 = .ok (.getfield 32, 3) := by decide +kernel
theorem dX6_copyFrom_38 : decode cX6_copyFrom 38 = .ok (.putfield 32, 3) := by decide +kernel
theorem dX6_copyFrom_41 : decode cX6_copyFrom 41 = .ok (.return_, 1) := by decide +kernel
theorem dX7_init_0 : decode cX7_init 0 = .ok (.aload_n 0, 1) := by decide +kernel
theorem dX7_init_1 : decode cX7_init 1 = .ok (.invokespecial 3, 3) := by decide +kernel
theorem dX7_init_4 : decode cX7_init 4 = .ok (.aload_n 0, 1) := by decide +kernel
theorem dX7_init_5 : decode cX7_init 5 = .ok (.aload_n 1, 1) := by decide +kernel
theorem dX7_init_6 : decode cX7_init 6 = .ok (.putfield 9, 3) := by decide +kernel
theorem dX7_init_9 : decode cX7_init 9 = .ok (.aload_n 0, 1) := by decide +kernel
theorem dX7_init_10 : decode cX7_init 10 = .ok (.aload_n 2, 1) := by decide +kernel
theorem dX7_init_11 : decode cX7_init 11 = .ok (.putfield 15, 3) := by decide +kernel
theorem dX7_init_14 : decode cX7_init 14 = .ok (.aload_n 0, 1) := by decide +kernel
theorem dX7_init_15 : decode cX7_init 15 = .ok (.new 19, 3) := by decide +kernel
theorem dX7_init_18 : decode cX7_init 18 = .ok (.dup, 1) := by decide +kernel
theorem dX7_init_19 : decode cX7_init 19 = .ok (.invokespecial 21, 3) := by decide +kernel
theorem dX7_init_22 : decode cX7_init 22 = .ok (.putfield 22, 3) := by decide +kernel
theorem dX7_init_25 : decode cX7_init 25 = .ok (.aload_n 0, 1) := by decide +kernel
theorem dX7_init_26 : decode cX7_init 26 = .ok (.new 19, 3) := by decide +kernel
theorem dX7_init_29 : decode cX7_init 29 = .ok (.dup, 1) := by decide +kernel
theorem dX7_init_30 : decode cX7_init 30 = .ok (.invokespecial 21, 3) := by decide +kernel
theorem dX7_init_33 : decode cX7_init 33 = .ok (.putfield 26, 3) := by decide +kernel
theorem dX7_init_36 : decode cX7_init 36 = .ok (.aload_n 0, 1) := by decide +kernel
theorem dX7_init_37 : decode cX7_init 37 = .ok (.new 29, 3) := by decide +kernel
theorem dX7_init_40 : decode cX7_init 40 = .ok (.dup, 1) := by decide +kernel
theorem dX7_init_41 : decode cX7_init 41 = .ok (.invokespecial 31, 3) := by decide +kernel
theorem dX7_init_44 : decode cX7_init 44 = .ok (.putfield 32, 3) := by decide +kernel
theorem dX7_init_47 : decode cX7_init 47 = .ok (.aload_n 0, 1) := by decide +kernel
theorem dX7_init_48 : decode cX7_init 48 = .ok (.iconst 0, 1) := by decide +kernel
theorem dX7_init_49 : decode cX7_init 49 = .ok (.putfield 36, 3) := by decide +kernel
theorem dX7_init_52 : decode cX7_init 52 = .ok (.aload_n 0, 1) := by decide +kernel
theorem dX7_init_53 : decode cX7_init 53 = .ok (.iconst 0, 1) := by decide +kernel
theorem dX7_init_54 : decode cX7_init 54 = .ok (.putfield 40, 3) := by decide +kernel
theorem dX7_init_57 : decode cX7_init 57 = .ok (.return_, 1) := by decide +kernel
theorem dX7_take_0 : decode cX7_take 0 = .ok (.aload_n 0, 1) := by decide +kernel
theorem dX7_take_1 : decode cX7_take 1 = .ok (.getfield 22, 3) := by decide +kernel
theorem dX7_take_4 : decode cX7_take 4 = .ok (.iconst 0, 1) := by decide +kernel
theorem dX7_take_5 : decode cX7_take 5 = .ok (.fconst 0, 1) := by decide +kernel
theorem dX7_take_6 : decode cX7_take 6 = .ok (.invokevirtual 43, 3) := by decide +kernel
theorem dX7_take_9 : decode cX7_take 9 = .ok (.iconst 1, 1) := by decide +kernel
theorem dX7_take_10 : decode cX7_take 10 = .ok (.istore_n 1, 1) := by decide +kernel
theorem dX7_take_11 : decode cX7_take 11 = .ok (.iload_n 1, 1) := by decide +kernel
theorem dX7_take_12 : decode cX7_take 12 = .ok (.aload_n 0, 1) := by decide +kernel
theorem dX7_take_13 : decode cX7_take 13 = .ok (.getfield 15, 3) := by decide +kernel
theorem dX7_take_16 : decode cX7_take 16 = .ok (.invokevirtual 47, 3) := by decide +kernel
theorem dX7_take_19 : decode cX7_take 19 = .ok (.if_icmp .ge 56, 3) := by decide +kernel
theorem dX7_take_22 : decode cX7_take 22 = .ok (.iload_n 1, 1) := by decide +kernel
theorem dX7_take_23 : decode cX7_take 23 = .ok (.bipush 90, 2) := by decide +kernel
theorem dX7_take_25 : decode cX7_take 25 = .ok (.if_icmp .ge 50, 3) := by decide +kernel
theorem dX7_take_28 : decode cX7_take 28 = .ok (.aload_n 0, 1) := by decide +kernel
theorem dX7_take_29 : decode cX7_take 29 = .ok (.getfield 15, 3) := by decide +kernel
theorem dX7_take_32 : decode cX7_take 32 = .ok (.iload_n 1, 1) := by decide +kernel
theorem dX7_take_33 : decode cX7_take 33 = .ok (.invokevirtual 53, 3) := by decide +kernel
theorem dX7_take_36 : decode cX7_take 36 = .ok (.istore_n 2, 1) := by decide +kernel
theorem dX7_take_37 : decode cX7_take 37 = .ok (.aload_n 0, 1) := by decide +kernel
theorem dX7_take_38 : decode cX7_take 38 = .ok (.getfield 22, 3) := by decide +kernel
theorem dX7_take_41 : decode cX7_take 41 = .ok (.iload_n 2, 1) := by decide +kernel
theorem dX7_take_42 : decode cX7_take 42 = .ok (.aload_n 0, 1) := by decide +kernel
theorem dX7_take_43 : decode cX7_take 43 = .ok (.getfield 22, 3) := by decide +kernel
theorem dX7_take_46 : decode cX7_take 46 = .ok (.aload_n 0, 1) := by decide +kernel
theorem dX7_take_47 : decode cX7_take 47 = .ok (.getfield 9, 3) := by decide +kernel
theorem dX7_take_50 : decode cX7_take 50 = .ok (.iload_n 2, 1) := by decide +kernel
theorem dX7_take_51 : decode cX7_take 51 = .ok (.invokevirtual 57, 3) := by decide +kernel
theorem dX7_take_54 : decode cX7_take 54 = .ok (.invokevirtual 62, 3) := by decide +kernel
theorem dX7_take_57 : decode cX7_take 57 = .ok (.aload_n 0, 1) := by decide +kernel
theorem dX7_take_58 : decode cX7_take 58 = .ok (.getfield 9, 3) := by decide +kernel
theorem dX7_take_61 : decode cX7_take 61 = .ok (.iload_n 2, 1) := by decide +kernel
theorem dX7_take_62 : decode cX7_take 62 = .ok (.invokevirtual 66, 3) := by decide +kernel
theorem dX7_take_65 : decode cX7_take 65 = .ok (.fadd, 1) := by decide +kernel
theorem dX7_take_66 : decode cX7_take 66 = .ok (.invokevirtual 43, 3) := by decide +kernel
theorem dX7_take_69 : decode cX7_take 69 = .ok (.iinc 1 1, 3) := by decide +kernel
theorem dX7_take_72 : decode cX7_take 72 = .ok (.goto (-61), 3) := by decide +kernel
theorem dX7_take_75 : decode cX7_take 75 = .ok (.return_, 1) := by decide +kernel
theorem dX7_pathOf_0 : decode cX7_pathOf 0 = .ok (.aload_n 0, 1) := by decide +kernel
theorem dX7_pathOf_1 : decode cX7_pathOf 1 = .ok (.getfield 22, 3) := by decide +kernel
theorem dX7_pathOf_4 : decode cX7_pathOf 4 = .ok (.iload_n 1, 1) := by decide +kernel
theorem dX7_pathOf_5 : decode cX7_pathOf 5 = .ok (.invokevirtual 62, 3) := by decide +kernel
theorem dX7_pathOf_8 : decode cX7_pathOf 8 = .ok (.freturn, 1) := by decide +kernel
theorem dX7_between_0 : decode cX7_between 0 = .ok (.aload_n 0, 1) := by decide +kernel
theorem dX7_between_1 : decode cX7_between 1 = .ok (.getfield 22, 3) := by decide +kernel
theorem dX7_between_4 : decode cX7_between 4 = .ok (.iload_n 1, 1) := by decide +kernel
theorem dX7_between_5 : decode cX7_between 5 = .ok (.invokevirtual 62, 3) := by decide +kernel
theorem dX7_between_8 : decode cX7_between 8 = .ok (.aload_n 0, 1) := by decide +kernel
theorem dX7_between_9 : decode cX7_between 9 = .ok (.getfield 22, 3) := by decide +kernel
theorem dX7_between_12 : decode cX7_between 12 = .ok (.iload_n 2, 1) := by decide +kernel
theorem dX7_between_13 : decode cX7_between 13 = .ok (.invokevirtual 62, 3) := by decide +kernel
theorem dX7_between_16 : decode cX7_between 16 = .ok (.aload_n 0, 1) := by decide +kernel
theorem dX7_between_17 : decode cX7_between 17 = .ok (.getfield 22, 3) := by decide +kernel
theorem dX7_between_20 : decode cX7_between 20 = .ok (.aload_n 0, 1) := by decide +kernel
theorem dX7_between_21 : decode cX7_between 21 = .ok (.getfield 15, 3) := by decide +kernel
theorem dX7_between_24 : decode cX7_between 24 = .ok (.iload_n 1, 1) := by decide +kernel
theorem dX7_between_25 : decode cX7_between 25 = .ok (.iload_n 2, 1) := by decide +kernel
theorem dX7_between_26 : decode cX7_between 26 = .ok (.invokevirtual 69, 3) := by decide +kernel
theorem dX7_between_29 : decode cX7_between 29 = .ok (.invokevirtual 62, 3) := by decide +kernel
theorem dX7_between_32 : decode cX7_between 32 = .ok (.invokestatic 73, 3) := by decide +kernel
theorem dX7_between_35 : decode cX7_between 35 = .ok (.freturn, 1) := by decide +kernel
theorem dX7_sum_0 : decode cX7_sum 0 = .ok (.fload_n 0, 1) := by decide +kernel
theorem dX7_sum_1 : decode cX7_sum 1 = .ok (.fload_n 2, 1) := by decide +kernel
theorem dX7_sum_2 : decode cX7_sum 2 = .ok (.fsub, 1) := by decide +kernel
theorem dX7_sum_3 : decode cX7_sum 3 = .ok (.fload_n 1, 1) := by decide +kernel
theorem dX7_sum_4 : decode cX7_sum 4 = .ok (.fload_n 2, 1) := by decide +kernel
theorem dX7_sum_5 : decode cX7_sum 5 = .ok (.fsub, 1) := by decide +kernel
theorem dX7_sum_6 : decode cX7_sum 6 = .ok (.fadd, 1) := by decide +kernel
theorem dX7_sum_7 : decode cX7_sum 7 = .ok (.freturn, 1) := by decide +kernel
theorem dX7_onWay_0 : decode cX7_onWay 0 = .ok (.aload_n 0, 1) := by decide +kernel
theorem dX7_onWay_1 : decode cX7_onWay 1 = .ok (.getfield 15, 3) := by decide +kernel
theorem dX7_onWay_4 : decode cX7_onWay 4 = .ok (.aload_n 0, 1) := by decide +kernel
theorem dX7_onWay_5 : decode cX7_onWay 5 = .ok (.getfield 15, 3) := by decide +kernel
theorem dX7_onWay_8 : decode cX7_onWay 8 = .ok (.iload_n 1, 1) := by decide +kernel
theorem dX7_onWay_9 : decode cX7_onWay 9 = .ok (.iload_n 2, 1) := by decide +kernel
theorem dX7_onWay_10 : decode cX7_onWay 10 = .ok (.invokevirtual 69, 3) := by decide +kernel
theorem dX7_onWay_13 : decode cX7_onWay 13 = .ok (.invokevirtual 77, 3) := by decide +kernel
theorem dX7_onWay_16 : decode cX7_onWay 16 = .ok (.istore 4, 2) := by decide +kernel
theorem dX7_onWay_18 : decode cX7_onWay 18 = .ok (.aload_n 0, 1) := by decide +kernel
theorem dX7_onWay_19 : decode cX7_onWay 19 = .ok (.getfield 15, 3) := by decide +kernel
theorem dX7_onWay_22 : decode cX7_onWay 22 = .ok (.iload_n 1, 1) := by decide +kernel
theorem dX7_onWay_23 : decode cX7_onWay 23 = .ok (.invokevirtual 77, 3) := by decide +kernel
theorem dX7_onWay_26 : decode cX7_onWay 26 = .ok (.iload 4, 2) := by decide +kernel
theorem dX7_onWay_28 : decode cX7_onWay 28 = .ok (.isub, 1) := by decide +kernel
theorem dX7_onWay_29 : decode cX7_onWay 29 = .ok (.istore 5, 2) := by decide +kernel
theorem dX7_onWay_31 : decode cX7_onWay 31 = .ok (.aload_n 0, 1) := by decide +kernel
theorem dX7_onWay_32 : decode cX7_onWay 32 = .ok (.getfield 15, 3) := by decide +kernel
theorem dX7_onWay_35 : decode cX7_onWay 35 = .ok (.iload_n 2, 1) := by decide +kernel
theorem dX7_onWay_36 : decode cX7_onWay 36 = .ok (.invokevirtual 77, 3) := by decide +kernel
theorem dX7_onWay_39 : decode cX7_onWay 39 = .ok (.iload 4, 2) := by decide +kernel
theorem dX7_onWay_41 : decode cX7_onWay 41 = .ok (.isub, 1) := by decide +kernel
theorem dX7_onWay_42 : decode cX7_onWay 42 = .ok (.istore 6, 2) := by decide +kernel
theorem dX7_onWay_44 : decode cX7_onWay 44 = .ok (.iload_n 3, 1) := by decide +kernel
theorem dX7_onWay_45 : decode cX7_onWay 45 = .ok (.iload 5, 2) := by decide +kernel
theorem dX7_onWay_47 : decode cX7_onWay 47 = .ok (.iload 6, 2) := by decide +kernel
theorem dX7_onWay_49 : decode cX7_onWay 49 = .ok (.iadd, 1) := by decide +kernel
theorem dX7_onWay_50 : decode cX7_onWay 50 = .ok (.if_icmp .le 5, 3) := by decide +kernel
theorem dX7_onWay_53 : decode cX7_onWay 53 = .ok (.iconst (-1), 1) := by decide +kernel
theorem dX7_onWay_54 : decode cX7_onWay 54 = .ok (.ireturn, 1) := by decide +kernel
theorem dX7_onWay_55 : decode cX7_onWay 55 = .ok (.iload_n 3, 1) := by decide +kernel
theorem dX7_onWay_56 : decode cX7_onWay 56 = .ok (.iload 5, 2) := by decide +kernel
theorem dX7_onWay_58 : decode cX7_onWay 58 = .ok (.if_icmp .gt 15, 3) := by decide +kernel
theorem dX7_onWay_61 : decode cX7_onWay 61 = .ok (.aload_n 0, 1) := by decide +kernel
theorem dX7_onWay_62 : decode cX7_onWay 62 = .ok (.getfield 15, 3) := by decide +kernel
theorem dX7_onWay_65 : decode cX7_onWay 65 = .ok (.iload_n 1, 1) := by decide +kernel
theorem dX7_onWay_66 : decode cX7_onWay 66 = .ok (.iload_n 3, 1) := by decide +kernel
theorem dX7_onWay_67 : decode cX7_onWay 67 = .ok (.invokevirtual 80, 3) := by decide +kernel
theorem dX7_onWay_70 : decode cX7_onWay 70 = .ok (.goto 18, 3) := by decide +kernel
theorem dX7_onWay_73 : decode cX7_onWay 73 = .ok (.aload_n 0, 1) := by decide +kernel
theorem dX7_onWay_74 : decode cX7_onWay 74 = .ok (.getfield 15, 3) := by decide +kernel
theorem dX7_onWay_77 : decode cX7_onWay 77 = .ok (.iload_n 2, 1) := by decide +kernel
theorem dX7_onWay_78 : decode cX7_onWay 78 = .ok (.iload 5, 2) := by decide +kernel
theorem dX7_onWay_80 : decode cX7_onWay 80 = .ok (.iload 6, 2) := by decide +kernel
theorem dX7_onWay_82 : decode cX7_onWay 82 = .ok (.iadd, 1) := by decide +kernel
theorem dX7_onWay_83 : decode cX7_onWay 83 = .ok (.iload_n 3, 1) := by decide +kernel
theorem dX7_onWay_84 : decode cX7_onWay 84 = .ok (.isub, 1) := by decide +kernel
theorem dX7_onWay_85 : decode cX7_onWay 85 = .ok (.invokevirtual 80, 3) := by decide +kernel
theorem dX7_onWay_88 : decode cX7_onWay 88 = .ok (.ireturn, 1) := by decide +kernel
theorem dX7_highestWithin_0 : decode cX7_highestWithin 0 = .ok (.aload_n 0, 1) := by decide +kernel
theorem dX7_highestWithin_1 : decode cX7_highestWithin 1 = .ok (.getfield 22, 3) := by decide +kernel
theorem dX7_highestWithin_4 : decode cX7_highestWithin 4 = .ok (.iload_n 1, 1) := by decide +kernel
theorem dX7_highestWithin_5 : decode cX7_highestWithin 5 = .ok (.invokevirtual 62, 3) := by decide +kernel
theorem dX7_highestWithin_8 : decode cX7_highestWithin 8 = .ok (.fstore_n 3, 1) := by decide +kernel
theorem dX7_highestWithin_9 : decode cX7_highestWithin 9 = .ok (.iload_n 1, 1) := by decide +kernel
theorem dX7_highestWithin_10 : decode cX7_highestWithin 10 = .ok (.istore 4, 2) := by decide +kernel
theorem dX7_highestWithin_12 : decode cX7_highestWithin 12 = .ok (.iconst 0, 1) := by decide +kernel
theorem dX7_highestWithin_13 : decode cX7_highestWithin 13 = .ok (.istore 5, 2) := by decide +kernel
theorem dX7_highestWithin_15 : decode cX7_highestWithin 15 = .ok (.iload 5, 2) := by decide +kernel
theorem dX7_highestWithin_17 : decode cX7_highestWithin 17 = .ok (.bipush 90, 2) := by decide +kernel
theorem dX7_highestWithin_19 : decode cX7_highestWithin 19 = .ok (.if_icmp .ge 49, 3) := by decide +kernel
theorem dX7_highestWithin_22 : decode cX7_highestWithin 22 = .ok (.aload_n 0, 1) := by decide +kernel
theorem dX7_highestWithin_23 : decode cX7_highestWithin 23 = .ok (.getfield 9, 3) := by decide +kernel
theorem dX7_highestWithin_26 : decode cX7_highestWithin 26 = .ok (.iload 4, 2) := by decide +kernel
theorem dX7_highestWithin_28 : decode cX7_highestWithin 28 = .ok (.invokevirtual 57, 3) := by decide +kernel
theorem dX7_highestWithin_31 : decode cX7_highestWithin 31 = .ok (.istore 6, 2) := by decide +kernel
theorem dX7_highestWithin_33 : decode cX7_highestWithin 33 = .ok (.iload 6, 2) := by decide +kernel
theorem dX7_highestWithin_35 : decode cX7_highestWithin 35 = .ok (.iconst (-1), 1) := by decide +kernel
theorem dX7_highestWithin_36 : decode cX7_highestWithin 36 = .ok (.if_icmp .eq 19, 3) := by decide +kernel
theorem dX7_highestWithin_39 : decode cX7_highestWithin 39 = .ok (.fload_n 3, 1) := by decide +kernel
theorem dX7_highestWithin_40 : decode cX7_highestWithin 40 = .ok (.aload_n 0, 1) := by decide +kernel
theorem dX7_highestWithin_41 : decode cX7_highestWithin 41 = .ok (.getfield 22, 3) := by decide +kernel
theorem dX7_highestWithin_44 : decode cX7_highestWithin 44 = .ok (.iload 6, 2) := by decide +kernel
theorem dX7_highestWithin_46 : decode cX7_highestWithin 46 = .ok (.invokevirtual 62, 3) := by decide +kernel
theorem dX7_highestWithin_49 : decode cX7_highestWithin 49 = .ok (.fsub, 1) := by decide +kernel
theorem dX7_highestWithin_50 : decode cX7_highestWithin 50 = .ok (.fload_n 2, 1) := by decide +kernel
theorem dX7_highestWithin_51 : decode cX7_highestWithin 51 = .ok (.fcmp .l, 1) := by decide +kernel
theorem dX7_highestWithin_52 : decode cX7_highestWithin 52 = .ok (.ifCond .le 6, 3) := by decide +kernel
theorem dX7_highestWithin_55 : decode cX7_highestWithin 55 = .ok (.iload 4, 2) := by decide +kernel
theorem dX7_highestWithin_57 : decode cX7_highestWithin 57 = .ok (.ireturn, 1) := by decide +kernel
theorem dX7_highestWithin_58 : decode cX7_highestWithin 58 = .ok (.iload 6, 2) := by decide +kernel
theorem dX7_highestWithin_60 : decode cX7_highestWithin 60 = .ok (.istore 4, 2) := by decide +kernel
theorem dX7_highestWithin_62 : decode cX7_highestWithin 62 = .ok (.iinc 5 1, 3) := by decide +kernel
theorem dX7_highestWithin_65 : decode cX7_highestWithin 65 = .ok (.goto (-50), 3) := by decide +kernel
theorem dX7_highestWithin_68 : decode cX7_highestWithin 68 = .ok (.iload 4, 2) := by decide +kernel
theorem dX7_highestWithin_70 : decode cX7_highestWithin 70 = .ok (.ireturn, 1) := by decide +kernel
theorem dX7_farthestFrom_0 : decode cX7_farthestFrom 0 = .ok (.aload_n 0, 1) := by decide +kernel
theorem dX7_farthestFrom_1 : decode cX7_farthestFrom 1 = .ok (.iload_n 1, 1) := by decide +kernel
theorem dX7_farthestFrom_2 : decode cX7_farthestFrom 2 = .ok (.invokevirtual 83, 3) := by decide +kernel
theorem dX7_farthestFrom_5 : decode cX7_farthestFrom 5 = .ok (.aload_n 0, 1) := by decide +kernel
theorem dX7_farthestFrom_6 : decode cX7_farthestFrom 6 = .ok (.iload_n 1, 1) := by decide +kernel
theorem dX7_farthestFrom_7 : decode cX7_farthestFrom 7 = .ok (.iconst 0, 1) := by decide +kernel
theorem dX7_farthestFrom_8 : decode cX7_farthestFrom 8 = .ok (.invokevirtual 87, 3) := by decide +kernel
theorem dX7_farthestFrom_11 : decode cX7_farthestFrom 11 = .ok (.ireturn, 1) := by decide +kernel
theorem dX7_findPair_0 : decode cX7_findPair 0 = .ok (.ldc 90, 2) := by decide +kernel
theorem dX7_findPair_2 : decode cX7_findPair 2 = .ok (.fstore_n 1, 1) := by decide +kernel
theorem dX7_findPair_3 : decode cX7_findPair 3 = .ok (.iconst 0, 1) := by decide +kernel
theorem dX7_findPair_4 : decode cX7_findPair 4 = .ok (.istore_n 2, 1) := by decide +kernel
theorem dX7_findPair_5 : decode cX7_findPair 5 = .ok (.iload_n 2, 1) := by decide +kernel
theorem dX7_findPair_6 : decode cX7_findPair 6 = .ok (.bipush 90, 2) := by decide +kernel
theorem dX7_findPair_8 : decode cX7_findPair 8 = .ok (.if_icmp .ge 60, 3) := by decide +kernel
theorem dX7_findPair_11 : decode cX7_findPair 11 = .ok (.aload_n 0, 1) := by decide +kernel
theorem dX7_findPair_12 : decode cX7_findPair 12 = .ok (.getfield 9, 3) := by decide +kernel
theorem dX7_findPair_15 : decode cX7_findPair 15 = .ok (.iload_n 2, 1) := by decide +kernel
theorem dX7_findPair_16 : decode cX7_findPair 16 = .ok (.invokevirtual 91, 3) := by decide +kernel
theorem dX7_findPair_19 : decode cX7_findPair 19 = .ok (.ifCond .eq 43, 3) := by decide +kernel
theorem dX7_findPair_22 : decode cX7_findPair 22 = .ok (.aload_n 0, 1) := by decide +kernel
theorem dX7_findPair_23 : decode cX7_findPair 23 = .ok (.iload_n 2, 1) := by decide +kernel
theorem dX7_findPair_24 : decode cX7_findPair 24 = .ok (.invokevirtual 83, 3) := by decide +kernel
theorem dX7_findPair_27 : decode cX7_findPair 27 = .ok (.aload_n 0, 1) := by decide +kernel
theorem dX7_findPair_28 : decode cX7_findPair 28 = .ok (.iload_n 2, 1) := by decide +kernel
theorem dX7_findPair_29 : decode cX7_findPair 29 = .ok (.iload_n 2, 1) := by decide +kernel
theorem dX7_findPair_30 : decode cX7_findPair 30 = .ok (.invokevirtual 87, 3) := by decide +kernel
theorem dX7_findPair_33 : decode cX7_findPair 33 = .ok (.istore_n 3, 1) := by decide +kernel
theorem dX7_findPair_34 : decode cX7_findPair 34 = .ok (.aload_n 0, 1) := by decide +kernel
theorem dX7_findPair_35 : decode cX7_findPair 35 = .ok (.iload_n 2, 1) := by decide +kernel
theorem dX7_findPair_36 : decode cX7_findPair 36 = .ok (.iload_n 3, 1) := by decide +kernel
theorem dX7_findPair_37 : decode cX7_findPair 37 = .ok (.invokevirtual 95, 3) := by decide +kernel
theorem dX7_findPair_40 : decode cX7_findPair 40 = .ok (.fload_n 1, 1) := by decide +kernel
theorem dX7_findPair_41 : decode cX7_findPair 41 = .ok (.fcmp .l, 1) := by decide +kernel
theorem dX7_findPair_42 : decode cX7_findPair 42 = .ok (.ifCond .le 20, 3) := by decide +kernel
theorem dX7_findPair_45 : decode cX7_findPair 45 = .ok (.aload_n 0, 1) := by decide +kernel
theorem dX7_findPair_46 : decode cX7_findPair 46 = .ok (.iload_n 2, 1) := by decide +kernel
theorem dX7_findPair_47 : decode cX7_findPair 47 = .ok (.iload_n 3, 1) := by decide +kernel
theorem dX7_findPair_48 : decode cX7_findPair 48 = .ok (.invokevirtual 95, 3) := by decide +kernel
theorem dX7_findPair_51 : decode cX7_findPair 51 = .ok (.fstore_n 1, 1) := by decide +kernel
theorem dX7_findPair_52 : decode cX7_findPair 52 = .ok (.aload_n 0, 1) := by decide +kernel
theorem dX7_findPair_53 : decode cX7_findPair 53 = .ok (.iload_n 2, 1) := by decide +kernel
theorem dX7_findPair_54 : decode cX7_findPair 54 = .ok (.putfield 36, 3) := by decide +kernel
theorem dX7_findPair_57 : decode cX7_findPair 57 = .ok (.aload_n 0, 1) := by decide +kernel
theorem dX7_findPair_58 : decode cX7_findPair 58 = .ok (.iload_n 3, 1) := by decide +kernel
theorem dX7_findPair_59 : decode cX7_findPair 59 = .ok (.putfield 40, 3) := by decide +kernel
theorem dX7_findPair_62 : decode cX7_findPair 62 = .ok (.iinc 2 1, 3) := by decide +kernel
theorem dX7_findPair_65 : decode cX7_findPair 65 = .ok (.goto (-60), 3) := by decide +kernel
theorem dX7_findPair_68 : decode cX7_findPair 68 = .ok (.return_, 1) := by decide +kernel
theorem dX7_pairFirst_0 : decode cX7_pairFirst 0 = .ok (.aload_n 0, 1) := by decide +kernel
theorem dX7_pairFirst_1 : decode cX7_pairFirst 1 = .ok (.getfield 36, 3) := by decide +kernel
theorem dX7_pairFirst_4 : decode cX7_pairFirst 4 = .ok (.ireturn, 1) := by decide +kernel
theorem dX7_pairSecond_0 : decode cX7_pairSecond 0 = .ok (.aload_n 0, 1) := by decide +kernel
theorem dX7_pairSecond_1 : decode cX7_pairSecond 1 = .ok (.getfield 40, 3) := by decide +kernel
theorem dX7_pairSecond_4 : decode cX7_pairSecond 4 = .ok (.ireturn, 1) := by decide +kernel
theorem dX7_findMeetings_0 : decode cX7_findMeetings 0 = .ok (.aload_n 0, 1) := by decide +kernel
theorem dX7_findMeetings_1 : decode cX7_findMeetings 1 = .ok (.getfield 32, 3) := by decide +kernel
theorem dX7_findMeetings_4 : decode cX7_findMeetings 4 = .ok (.iconst 0, 1) := by decide +kernel
theorem dX7_findMeetings_5 : decode cX7_findMeetings 5 = .ok (.invokevirtual 99, 3) := by decide +kernel
theorem dX7_findMeetings_8 : decode cX7_findMeetings 8 = .ok (.iload_n 1, 1) := by decide +kernel
theorem dX7_findMeetings_9 : decode cX7_findMeetings 9 = .ok (.istore_n 2, 1) := by decide +kernel
theorem dX7_findMeetings_10 : decode cX7_findMeetings 10 = .ok (.iconst 0, 1) := by decide +kernel
theorem dX7_findMeetings_11 : decode cX7_findMeetings 11 = .ok (.istore_n 3, 1) := by decide +kernel
theorem dX7_findMeetings_12 : decode cX7_findMeetings 12 = .ok (.iload_n 3, 1) := by decide +kernel
theorem dX7_findMeetings_13 : decode cX7_findMeetings 13 = .ok (.bipush 90, 2) := by decide +kernel
theorem dX7_findMeetings_15 : decode cX7_findMeetings 15 = .ok (.if_icmp .ge 32, 3) := by decide +kernel
theorem dX7_findMeetings_18 : decode cX7_findMeetings 18 = .ok (.iload_n 2, 1) := by decide +kernel
theorem dX7_findMeetings_19 : decode cX7_findMeetings 19 = .ok (.iconst (-1), 1) := by decide +kernel
theorem dX7_findMeetings_20 : decode cX7_findMeetings 20 = .ok (.if_icmp .eq 27, 3) := by decide +kernel
theorem dX7_findMeetings_23 : decode cX7_findMeetings 23 = .ok (.aload_n 0, 1) := by decide +kernel
theorem dX7_findMeetings_24 : decode cX7_findMeetings 24 = .ok (.getfield 32, 3) := by decide +kernel
theorem dX7_findMeetings_27 : decode cX7_findMeetings 27 = .ok (.iload_n 2, 1) := by decide +kernel
theorem dX7_findMeetings_28 : decode cX7_findMeetings 28 = .ok (.iconst 1, 1) := by decide +kernel
theorem dX7_findMeetings_29 : decode cX7_findMeetings 29 = .ok (.invokevirtual 102, 3) := by decide +kernel
theorem dX7_findMeetings_32 : decode cX7_findMeetings 32 = .ok (.aload_n 0, 1) := by decide +kernel
theorem dX7_findMeetings_33 : decode cX7_findMeetings 33 = .ok (.getfield 9, 3) := by decide +kernel
theorem dX7_findMeetings_36 : decode cX7_findMeetings 36 = .ok (.iload_n 2, 1) := by decide +kernel
theorem dX7_findMeetings_37 : decode cX7_findMeetings 37 = .ok (.invokevirtual 57, 3) := by decide +kernel
theorem dX7_findMeetings_40 : decode cX7_findMeetings 40 = .ok (.istore_n 2, 1) := by decide +kernel
theorem dX7_findMeetings_41 : decode cX7_findMeetings 41 = .ok (.iinc 3 1, 3) := by decide +kernel
theorem dX7_findMeetings_44 : decode cX7_findMeetings 44 = .ok (.goto (-32), 3) := by decide +kernel
theorem dX7_findMeetings_47 : decode cX7_findMeetings 47 = .ok (.iconst 0, 1) := by decide +kernel
theorem dX7_findMeetings_48 : decode cX7_findMeetings 48 = .ok (.istore_n 3, 1) := by decide +kernel
theorem dX7_findMeetings_49 : decode cX7_findMeetings 49 = .ok (.iload_n 3, 1) := by decide +kernel
theorem dX7_findMeetings_50 : decode cX7_findMeetings 50 = .ok (.aload_n 0, 1) := by decide +kernel
theorem dX7_findMeetings_51 : decode cX7_findMeetings 51 = .ok (.getfield 15, 3) := by decide +kernel
theorem dX7_findMeetings_54 : decode cX7_findMeetings 54 = .ok (.invokevirtual 47, 3) := by decide +kernel
theorem dX7_findMeetings_57 : decode cX7_findMeetings 57 = .ok (.if_icmp .ge 87, 3) := by decide +kernel
theorem dX7_findMeetings_60 : decode cX7_findMeetings 60 = .ok (.iload_n 3, 1) := by decide +kernel
theorem dX7_findMeetings_61 : decode cX7_findMeetings 61 = .ok (.bipush 90, 2) := by decide +kernel
theorem dX7_findMeetings_63 : decode cX7_findMeetings 63 = .ok (.if_icmp .ge 81, 3) := by decide +kernel
theorem dX7_findMeetings_66 : decode cX7_findMeetings 66 = .ok (.aload_n 0, 1) := by decide +kernel
theorem dX7_findMeetings_67 : decode cX7_findMeetings 67 = .ok (.getfield 15, 3) := by decide +kernel
theorem dX7_findMeetings_70 : decode cX7_findMeetings 70 = .ok (.iload_n 3, 1) := by decide +kernel
theorem dX7_findMeetings_71 : decode cX7_findMeetings 71 = .ok (.invokevirtual 53, 3) := by decide +kernel
theorem dX7_findMeetings_74 : decode cX7_findMeetings 74 = .ok (.istore 4, 2) := by decide +kernel
theorem dX7_findMeetings_76 : decode cX7_findMeetings 76 = .ok (.aload_n 0, 1) := by decide +kernel
theorem dX7_findMeetings_77 : decode cX7_findMeetings 77 = .ok (.getfield 32, 3) := by decide +kernel
theorem dX7_findMeetings_80 : decode cX7_findMeetings 80 = .ok (.iload 4, 2) := by decide +kernel
theorem dX7_findMeetings_82 : decode cX7_findMeetings 82 = .ok (.invokevirtual 105, 3) := by decide +kernel
theorem dX7_findMeetings_85 : decode cX7_findMeetings 85 = .ok (.iconst 1, 1) := by decide +kernel
theorem dX7_findMeetings_86 : decode cX7_findMeetings 86 = .ok (.if_icmp .ne 7, 3) := by decide +kernel
theorem dX7_findMeetings_89 : decode cX7_findMeetings 89 = .ok (.iconst 1, 1) := by decide +kernel
theorem dX7_findMeetings_90 : decode cX7_findMeetings 90 = .ok (.goto 4, 3) := by decide +kernel
theorem dX7_findMeetings_93 : decode cX7_findMeetings 93 = .ok (.iconst 0, 1) := by decide +kernel
theorem dX7_findMeetings_94 : decode cX7_findMeetings 94 = .ok (.istore 5, 2) := by decide +kernel
theorem dX7_findMeetings_96 : decode cX7_findMeetings 96 = .ok (.aload_n 0, 1) := by decide +kernel
theorem dX7_findMeetings_97 : decode cX7_findMeetings 97 = .ok (.getfield 26, 3) := by decide +kernel
theorem dX7_findMeetings_100 : decode cX7_findMeetings 100 = .ok (.iload 4, 2) := by decide +kernel
theorem dX7_findMeetings_102 : decode cX7_findMeetings 102 = .ok (.iload 5, 2) := by decide +kernel
theorem dX7_findMeetings_104 : decode cX7_findMeetings 104 = .ok (.ifCond .eq 15, 3) := by decide +kernel
theorem dX7_findMeetings_107 : decode cX7_findMeetings 107 = .ok (.aload_n 0, 1) := by decide +kernel
theorem dX7_findMeetings_108 : decode cX7_findMeetings 108 = .ok (.getfield 22, 3) := by decide +kernel
theorem dX7_findMeetings_111 : decode cX7_findMeetings 111 = .ok (.iload 4, 2) := by decide +kernel
theorem dX7_findMeetings_113 : decode cX7_findMeetings 113 = .ok (.invokevirtual 62, 3) := by decide +kernel
theorem dX7_findMeetings_116 : decode cX7_findMeetings 116 = .ok (.goto 19, 3) := by decide +kernel
theorem dX7_findMeetings_119 : decode cX7_findMeetings 119 = .ok (.aload_n 0, 1) := by decide +kernel
theorem dX7_findMeetings_120 : decode cX7_findMeetings 120 = .ok (.getfield 26, 3) := by decide +kernel
theorem dX7_findMeetings_123 : decode cX7_findMeetings 123 = .ok (.aload_n 0, 1) := by decide +kernel
theorem dX7_findMeetings_124 : decode cX7_findMeetings 124 = .ok (.getfield 9, 3) := by decide +kernel
theorem dX7_findMeetings_127 : decode cX7_findMeetings 127 = .ok (.iload 4, 2) := by decide +kernel
theorem dX7_findMeetings_129 : decode cX7_findMeetings 129 = .ok (.invokevirtual 57, 3) := by decide +kernel
theorem dX7_findMeetings_132 : decode cX7_findMeetings 132 = .ok (.invokevirtual 62, 3) := by decide +kernel
theorem dX7_findMeetings_135 : decode cX7_findMeetings 135 = .ok (.invokevirtual 43, 3) := by decide +kernel
theorem dX7_findMeetings_138 : decode cX7_findMeetings 138 = .ok (.iinc 3 1, 3) := by decide +kernel
theorem dX7_findMeetings_141 : decode cX7_findMeetings 141 = .ok (.goto (-92), 3) := by decide +kernel
theorem dX7_findMeetings_144 : decode cX7_findMeetings 144 = .ok (.return_, 1) := by decide +kernel
theorem dX7_measured_0 : decode cX7_measured 0 = .ok (.aload_n 0, 1) := by decide +kernel
theorem dX7_measured_1 : decode cX7_measured 1 = .ok (.getfield 22, 3) := by decide +kernel
theorem dX7_measured_4 : decode cX7_measured 4 = .ok (.iload_n 1, 1) := by decide +kernel
theorem dX7_measured_5 : decode cX7_measured 5 = .ok (.invokevirtual 62, 3) := by decide +kernel
theorem dX7_measured_8 : decode cX7_measured 8 = .ok (.aload_n 0, 1) := by decide +kernel
theorem dX7_measured_9 : decode cX7_measured 9 = .ok (.getfield 22, 3) := by decide +kernel
theorem dX7_measured_12 : decode cX7_measured 12 = .ok (.iload_n 2, 1) := by decide +kernel
theorem dX7_measured_13 : decode cX7_measured 13 = .ok (.invokevirtual 62, 3) := by decide +kernel
theorem dX7_measured_16 : decode cX7_measured 16 = .ok (.aload_n 0, 1) := by decide +kernel
theorem dX7_measured_17 : decode cX7_measured 17 = .ok (.getfield 26, 3) := by decide +kernel
theorem dX7_measured_20 : decode cX7_measured 20 = .ok (.iload_n 2, 1) := by decide +kernel
theorem dX7_measured_21 : decode cX7_measured 21 = .ok (.invokevirtual 62, 3) := by decide +kernel
theorem dX7_measured_24 : decode cX7_measured 24 = .ok (.invokestatic 73, 3) := by decide +kernel
theorem dX7_measured_27 : decode cX7_measured 27 = .ok (.freturn, 1) := by decide +kernel
theorem dX7_farthestFromOn_0 : decode cX7_farthestFromOn 0 = .ok (.iload_n 1, 1) := by decide +kernel
theorem dX7_farthestFromOn_1 : decode cX7_farthestFromOn 1 = .ok (.istore_n 3, 1) := by decide +kernel
theorem dX7_farthestFromOn_2 : decode cX7_farthestFromOn 2 = .ok (.ldc 90, 2) := by decide +kernel
theorem dX7_farthestFromOn_4 : decode cX7_farthestFromOn 4 = .ok (.fstore 4, 2) := by decide +kernel
theorem dX7_farthestFromOn_6 : decode cX7_farthestFromOn 6 = .ok (.iload_n 2, 1) := by decide +kernel
theorem dX7_farthestFromOn_7 : decode cX7_farthestFromOn 7 = .ok (.istore 5, 2) := by decide +kernel
theorem dX7_farthestFromOn_9 : decode cX7_farthestFromOn 9 = .ok (.iload 5, 2) := by decide +kernel
theorem dX7_farthestFromOn_11 : decode cX7_farthestFromOn 11 = .ok (.bipush 90, 2) := by decide +kernel
theorem dX7_farthestFromOn_13 : decode cX7_farthestFromOn 13 = .ok (.if_icmp .ge 46, 3) := by decide +kernel
theorem dX7_farthestFromOn_16 : decode cX7_farthestFromOn 16 = .ok (.aload_n 0, 1) := by decide +kernel
theorem dX7_farthestFromOn_17 : decode cX7_farthestFromOn 17 = .ok (.getfield 9, 3) := by decide +kernel
theorem dX7_farthestFromOn_20 : decode cX7_farthestFromOn 20 = .ok (.iload 5, 2) := by decide +kernel
theorem dX7_farthestFromOn_22 : decode cX7_farthestFromOn 22 = .ok (.invokevirtual 91, 3) := by decide +kernel
theorem dX7_farthestFromOn_25 : decode cX7_farthestFromOn 25 = .ok (.ifCond .eq 28, 3) := by decide +kernel
theorem dX7_farthestFromOn_28 : decode cX7_farthestFromOn 28 = .ok (.aload_n 0, 1) := by decide +kernel
theorem dX7_farthestFromOn_29 : decode cX7_farthestFromOn 29 = .ok (.iload_n 1, 1) := by decide +kernel
theorem dX7_farthestFromOn_30 : decode cX7_farthestFromOn 30 = .ok (.iload 5, 2) := by decide +kernel
theorem dX7_farthestFromOn_32 : decode cX7_farthestFromOn 32 = .ok (.invokevirtual 95, 3) := by decide +kernel
theorem dX7_farthestFromOn_35 : decode cX7_farthestFromOn 35 = .ok (.fload 4, 2) := by decide +kernel
theorem dX7_farthestFromOn_37 : decode cX7_farthestFromOn 37 = .ok (.fcmp .l, 1) := by decide +kernel
theorem dX7_farthestFromOn_38 : decode cX7_farthestFromOn 38 = .ok (.ifCond .le 15, 3) := by decide +kernel
theorem dX7_farthestFromOn_41 : decode cX7_farthestFromOn 41 = .ok (.aload_n 0, 1) := by decide +kernel
theorem dX7_farthestFromOn_42 : decode cX7_farthestFromOn 42 = .ok (.iload_n 1, 1) := by decide +kernel
theorem dX7_farthestFromOn_43 : decode cX7_farthestFromOn 43 = .ok (.iload 5, 2) := by decide +kernel
theorem dX7_farthestFromOn_45 : decode cX7_farthestFromOn 45 = .ok (.invokevirtual 95, 3) := by decide +kernel
theorem dX7_farthestFromOn_48 : decode cX7_farthestFromOn 48 = .ok (.fstore 4, 2) := by decide +kernel
theorem dX7_farthestFromOn_50 : decode cX7_farthestFromOn 50 = .ok (.iload 5, 2) := by decide +kernel
theorem dX7_farthestFromOn_52 : decode cX7_farthestFromOn 52 = .ok (.istore_n 3, 1) := by decide +kernel
theorem dX7_farthestFromOn_53 : decode cX7_farthestFromOn 53 = .ok (.iinc 5 1, 3) := by decide +kernel
theorem dX7_farthestFromOn_56 : decode cX7_farthestFromOn 56 = .ok (.goto (-47), 3) := by decide +kernel
theorem dX7_farthestFromOn_59 : decode cX7_farthestFromOn 59 = .ok (.iload_n 3, 1) := by decide +kernel
theorem dX7_farthestFromOn_60 : decode cX7_farthestFromOn 60 = .ok (.ireturn, 1) := by decide +kernel
theorem dX8_init_0 : decode cX8_init 0 = .ok (.aload_n 0, 1) := by decide +kernel
theorem dX8_init_1 : decode cX8_init 1 = .ok (.invokespecial 1, 3) := by decide +kernel
theorem dX8_init_4 : decode cX8_init 4 = .ok (.aload_n 0, 1) := by decide +kernel
theorem dX8_init_5 : decode cX8_init 5 = .ok (.new 7, 3) := by decide +kernel
theorem dX8_init_8 : decode cX8_init 8 = .ok (.dup, 1) := by decide +kernel
theorem dX8_init_9 : decode cX8_init 9 = .ok (.invokespecial 9, 3) := by decide +kernel
theorem dX8_init_12 : decode cX8_init 12 = .ok (.putfield 10, 3) := by decide +kernel
theorem dX8_init_15 : decode cX8_init 15 = .ok (.aload_n 0, 1) := by decide +kernel
theorem dX8_init_16 : decode cX8_init 16 = .ok (.new 16, 3) := by decide +kernel
theorem dX8_init_19 : decode cX8_init 19 = .ok (.dup, 1) := by decide +kernel
theorem dX8_init_20 : decode cX8_init 20 = .ok (.invokespecial 18, 3) := by decide +kernel
theorem dX8_init_23 : decode cX8_init 23 = .ok (.putfield 19, 3) := by decide +kernel
theorem dX8_init_26 : decode cX8_init 26 = .ok (.aload_n 0, 1) := by decide +kernel
theorem dX8_init_27 : decode cX8_init 27 = .ok (.new 23, 3) := by decide +kernel
theorem dX8_init_30 : decode cX8_init 30 = .ok (.dup, 1) := by decide +kernel
theorem dX8_init_31 : decode cX8_init 31 = .ok (.invokespecial 25, 3) := by decide +kernel
theorem dX8_init_34 : decode cX8_init 34 = .ok (.putfield 26, 3) := by decide +kernel
theorem dX8_init_37 : decode cX8_init 37 = .ok (.aload_n 0, 1) := by decide +kernel
theorem dX8_init_38 : decode cX8_init 38 = .ok (.new 30, 3) := by decide +kernel
theorem dX8_init_41 : decode cX8_init 41 = .ok (.dup, 1) := by decide +kernel
theorem dX8_init_42 : decode cX8_init 42 = .ok (.aload_n 0, 1) := by decide +kernel
theorem dX8_init_43 : decode cX8_init 43 = .ok (.getfield 10, 3) := by decide +kernel
theorem dX8_init_46 : decode cX8_init 46 = .ok (.invokespecial 32, 3) := by decide +kernel
theorem dX8_init_49 : decode cX8_init 49 = .ok (.putfield 35, 3) := by decide +kernel
theorem dX8_init_52 : decode cX8_init 52 = .ok (.aload_n 0, 1) := by decide +kernel
theorem dX8_init_53 : decode cX8_init 53 = .ok (.new 39, 3) := by decide +kernel
theorem dX8_init_56 : decode cX8_init 56 = .ok (.dup, 1) := by decide +kernel
theorem dX8_init_57 : decode cX8_init 57 = .ok (.aload_n 0, 1) := by decide +kernel
theorem dX8_init_58 : decode cX8_init 58 = .ok (.getfield 10, 3) := by decide +kernel
theorem dX8_init_61 : decode cX8_init 61 = .ok (.aload_n 0, 1) := by decide +kernel
theorem dX8_init_62 : decode cX8_init 62 = .ok (.getfield 35, 3) := by decide +kernel
theorem dX8_init_65 : decode cX8_init 65 = .ok (.invokespecial 41, 3) := by decide +kernel
theorem dX8_init_68 : decode cX8_init 68 = .ok (.putfield 44, 3) := by decide +kernel
theorem dX8_init_71 : decode cX8_init 71 = .ok (.aload_n 0, 1) := by decide +kernel
theorem dX8_init_72 : decode cX8_init 72 = .ok (.new 48, 3) := by decide +kernel
theorem dX8_init_75 : decode cX8_init 75 = .ok (.dup, 1) := by decide +kernel
theorem dX8_init_76 : decode cX8_init 76 = .ok (.aload_n 0, 1) := by decide +kernel
theorem dX8_init_77 : decode cX8_init 77 = .ok (.getfield 10, 3) := by decide +kernel
theorem dX8_init_80 : decode cX8_init 80 = .ok (.aload_n 0, 1) := by decide +kernel
theorem dX8_init_81 : decode cX8_init 81 = .ok (.getfield 35, 3) := by decide +kernel
theorem dX8_init_84 : decode cX8_init 84 = .ok (.invokespecial 50, 3) := by decide +kernel
theorem dX8_init_87 : decode cX8_init 87 = .ok (.putfield 51, 3) := by decide +kernel
theorem dX8_init_90 : decode cX8_init 90 = .ok (.aload_n 0, 1) := by decide +kernel
theorem dX8_init_91 : decode cX8_init 91 = .ok (.invokevirtual 55, 3) := by decide +kernel
theorem dX8_init_94 : decode cX8_init 94 = .ok (.return_, 1) := by decide +kernel
theorem dX8_addLeaf_0 : decode cX8_addLeaf 0 = .ok (.aload_n 0, 1) := by decide +kernel
theorem dX8_addLeaf_1 : decode cX8_addLeaf 1 = .ok (.getfield 10, 3) := by decide +kernel
theorem dX8_addLeaf_4 : decode cX8_addLeaf 4 = .ok (.iload_n 1, 1) := by decide +kernel
theorem dX8_addLeaf_5 : decode cX8_addLeaf 5 = .ok (.invokevirtual 58, 3) := by decide +kernel
theorem dX8_addLeaf_8 : decode cX8_addLeaf 8 = .ok (.ifCond .ne 5, 3) := by decide +kernel
theorem dX8_addLeaf_11 : decode cX8_addLeaf 11 = .ok (.iconst (-1), 1) := by decide +kernel
theorem dX8_addLeaf_12 : decode cX8_addLeaf 12 = .ok (.ireturn, 1) := by decide +kernel
theorem dX8_addLeaf_13 : decode cX8_addLeaf 13 = .ok (.iload_n 2, 1) := by decide +kernel
theorem dX8_addLeaf_14 : decode cX8_addLeaf 14 = .ok (.invokestatic 62, 3) := by decide +kernel
theorem dX8_addLeaf_17 : decode cX8_addLeaf 17 = .ok (.ifCond .ne 6, 3) := by decide +kernel
theorem dX8_addLeaf_20 : decode cX8_addLeaf 20 = .ok (.bipush (-2), 2) := by decide +kernel
theorem dX8_addLeaf_22 : decode cX8_addLeaf 22 = .ok (.ireturn, 1) := by decide +kernel
theorem dX8_addLeaf_23 : decode cX8_addLeaf 23 = .ok (.aload_n 0, 1) := by decide +kernel
theorem dX8_addLeaf_24 : decode cX8_addLeaf 24 = .ok (.getfield 10, 3) := by decide +kernel
theorem dX8_addLeaf_27 : decode cX8_addLeaf 27 = .ok (.iconst 1, 1) := by decide +kernel
theorem dX8_addLeaf_28 : decode cX8_addLeaf 28 = .ok (.invokevirtual 65, 3) := by decide +kernel
theorem dX8_addLeaf_31 : decode cX8_addLeaf 31 = .ok (.ifCond .ne 6, 3) := by decide +kernel
theorem dX8_addLeaf_34 : decode cX8_addLeaf 34 = .ok (.bipush (-3), 2) := by decide +kernel
theorem dX8_addLeaf_36 : decode cX8_addLeaf 36 = .ok (.ireturn, 1) := by decide +kernel
theorem dX8_addLeaf_37 : decode cX8_addLeaf 37 = .ok (.aload_n 0, 1) := by decide +kernel
theorem dX8_addLeaf_38 : decode cX8_addLeaf 38 = .ok (.getfield 26, 3) := by decide +kernel
theorem dX8_addLeaf_41 : decode cX8_addLeaf 41 = .ok (.aload_n 0, 1) := by decide +kernel
theorem dX8_addLeaf_42 : decode cX8_addLeaf 42 = .ok (.getfield 10, 3) := by decide +kernel
theorem dX8_addLeaf_45 : decode cX8_addLeaf 45 = .ok (.invokevirtual 68, 3) := by decide +kernel
theorem dX8_addLeaf_48 : decode cX8_addLeaf 48 = .ok (.aload_n 0, 1) := by decide +kernel
theorem dX8_addLeaf_49 : decode cX8_addLeaf 49 = .ok (.getfield 10, 3) := by decide +kernel
theorem dX8_addLeaf_52 : decode cX8_addLeaf 52 = .ok (.iload_n 1, 1) := by decide +kernel
theorem dX8_addLeaf_53 : decode cX8_addLeaf 53 = .ok (.iload_n 2, 1) := by decide +kernel
theorem dX8_addLeaf_54 : decode cX8_addLeaf 54 = .ok (.iload_n 2, 1) := by decide +kernel
theorem dX8_addLeaf_55 : decode cX8_addLeaf 55 = .ok (.invokestatic 71, 3) := by decide +kernel
theorem dX8_addLeaf_58 : decode cX8_addLeaf 58 = .ok (.invokevirtual 75, 3) := by decide +kernel
theorem dX8_addLeaf_61 : decode cX8_addLeaf 61 = .ok (.istore_n 3, 1) := by decide +kernel
theorem dX8_addLeaf_62 : decode cX8_addLeaf 62 = .ok (.aload_n 0, 1) := by decide +kernel
theorem dX8_addLeaf_63 : decode cX8_addLeaf 63 = .ok (.invokevirtual 55, 3) := by decide +kernel
theorem dX8_addLeaf_66 : decode cX8_addLeaf 66 = .ok (.iload_n 3, 1) := by decide +kernel
theorem dX8_addLeaf_67 : decode cX8_addLeaf 67 = .ok (.ireturn, 1) := by decide +kernel
theorem dX8_prune_0 : decode cX8_prune 0 = .ok (.aload_n 0, 1) := by decide +kernel
theorem dX8_prune_1 : decode cX8_prune 1 = .ok (.getfield 10, 3) := by decide +kernel
theorem dX8_prune_4 : decode cX8_prune 4 = .ok (.iload_n 1, 1) := by decide +kernel
theorem dX8_prune_5 : decode cX8_prune 5 = .ok (.invokevirtual 58, 3) := by decide +kernel
theorem dX8_prune_8 : decode cX8_prune 8 = .ok (.ifCond .ne 5, 3) := by decide +kernel
theorem dX8_prune_11 : decode cX8_prune 11 = .ok (.iconst (-1), 1) := by decide +kernel
theorem dX8_prune_12 : decode cX8_prune 12 = .ok (.ireturn, 1) := by decide +kernel
theorem dX8_prune_13 : decode cX8_prune 13 = .ok (.iload_n 1, 1) := by decide +kernel
theorem dX8_prune_14 : decode cX8_prune 14 = .ok (.ifCond .eq 14, 3) := by decide +kernel
theorem dX8_prune_17 : decode cX8_prune 17 = .ok (.aload_n 0, 1) := by decide +kernel
theorem dX8_prune_18 : decode cX8_prune 18 = .ok (.getfield 35, 3) := by decide +kernel
theorem dX8_prune_21 : decode cX8_prune 21 = .ok (.iload_n 1, 1) := by decide +kernel
theorem dX8_prune_22 : decode cX8_prune 22 = .ok (.invokevirtual 79, 3) := by decide +kernel
theorem dX8_prune_25 : decode cX8_prune 25 = .ok (.ifCond .ne 6, 3) := by decide +kernel
theorem dX8_prune_28 : decode cX8_prune 28 = .ok (.bipush (-4), 2) := by decide +kernel
theorem dX8_prune_30 : decode cX8_prune 30 = .ok (.ireturn, 1) := by decide +kernel
theorem dX8_prune_31 : decode cX8_prune 31 = .ok (.aload_n 0, 1) := by decide +kernel
theorem dX8_prune_32 : decode cX8_prune 32 = .ok (.getfield 26, 3) := by decide +kernel
theorem dX8_prune_35 : decode cX8_prune 35 = .ok (.aload_n 0, 1) := by decide +kernel
theorem dX8_prune_36 : decode cX8_prune 36 = .ok (.getfield 10, 3) := by decide +kernel
theorem dX8_prune_39 : decode cX8_prune 39 = .ok (.invokevirtual 68, 3) := by decide +kernel
theorem dX8_prune_42 : decode cX8_prune 42 = .ok (.aload_n 0, 1) := by decide +kernel
theorem dX8_prune_43 : decode cX8_prune 43 = .ok (.getfield 10, 3) := by decide +kernel
theorem dX8_prune_46 : decode cX8_prune 46 = .ok (.iload_n 1, 1) := by decide +kernel
theorem dX8_prune_47 : decode cX8_prune 47 = .ok (.invokevirtual 82, 3) := by decide +kernel
theorem dX8_prune_50 : decode cX8_prune 50 = .ok (.istore_n 2, 1) := by decide +kernel
theorem dX8_prune_51 : decode cX8_prune 51 = .ok (.aload_n 0, 1) := by decide +kernel
theorem dX8_prune_52 : decode cX8_prune 52 = .ok (.getfield 10, 3) := by decide +kernel
theorem dX8_prune_55 : decode cX8_prune 55 = .ok (.iload_n 1, 1) := by decide +kernel
theorem dX8_prune_56 : decode cX8_prune 56 = .ok (.invokevirtual 86, 3) := by decide +kernel
theorem dX8_prune_59 : decode cX8_prune 59 = .ok (.aload_n 0, 1) := by decide +kernel
theorem dX8_prune_60 : decode cX8_prune 60 = .ok (.invokevirtual 55, 3) := by decide +kernel
theorem dX8_prune_63 : decode cX8_prune 63 = .ok (.aload_n 0, 1) := by decide +kernel
theorem dX8_prune_64 : decode cX8_prune 64 = .ok (.getfield 35, 3) := by decide +kernel
theorem dX8_prune_67 : decode cX8_prune 67 = .ok (.iload_n 2, 1) := by decide +kernel
theorem dX8_prune_68 : decode cX8_prune 68 = .ok (.invokevirtual 90, 3) := by decide +kernel
theorem dX8_prune_71 : decode cX8_prune 71 = .ok (.ireturn, 1) := by decide +kernel
theorem dX8_graft_0 : decode cX8_graft 0 = .ok (.aload_n 0, 1) := by decide +kernel
theorem dX8_graft_1 : decode cX8_graft 1 = .ok (.getfield 10, 3) := by decide +kernel
theorem dX8_graft_4 : decode cX8_graft 4 = .ok (.iload_n 1, 1) := by decide +kernel
theorem dX8_graft_5 : decode cX8_graft 5 = .ok (.invokevirtual 58, 3) := by decide +kernel
theorem dX8_graft_8 : decode cX8_graft 8 = .ok (.ifCond .eq 14, 3) := by decide +kernel
theorem dX8_graft_11 : decode cX8_graft 11 = .ok (.aload_n 0, 1) := by decide +kernel
theorem dX8_graft_12 : decode cX8_graft 12 = .ok (.getfield 10, 3) := by decide +kernel
theorem dX8_graft_15 : decode cX8_graft 15 = .ok (.iload_n 2, 1) := by decide +kernel
theorem dX8_graft_16 : decode cX8_graft 16 = .ok (.invokevirtual 58, 3) := by decide +kernel
theorem dX8_graft_19 : decode cX8_graft 19 = .ok (.ifCond .ne 5, 3) := by decide +kernel
theorem dX8_graft_22 : decode cX8_graft 22 = .ok (.iconst (-1), 1) := by decide +kernel
theorem dX8_graft_23 : decode cX8_graft 23 = .ok (.ireturn, 1) := by decide +kernel
theorem dX8_graft_24 : decode cX8_graft 24 = .ok (.iload_n 1, 1) := by decide +kernel
theorem dX8_graft_25 : decode cX8_graft 25 = .ok (.ifCond .eq 15, 3) := by decide +kernel
theorem dX8_graft_28 : decode cX8_graft 28 = .ok (.aload_n 0, 1) := by decide +kernel
theorem dX8_graft_29 : decode cX8_graft 29 = .ok (.getfield 35, 3) := by decide +kernel
theorem dX8_graft_32 : decode cX8_graft 32 = .ok (.iload_n 2, 1) := by decide +kernel
theorem dX8_graft_33 : decode cX8_graft 33 = .ok (.iload_n 1, 1) := by decide +kernel
theorem dX8_graft_34 : decode cX8_graft 34 = .ok (.invokevirtual 93, 3) := by decide +kernel
theorem dX8_graft_37 : decode cX8_graft 37 = .ok (.ifCond .eq 6, 3) := by decide +kernel
theorem dX8_graft_40 : decode cX8_graft 40 = .ok (.bipush (-4), 2) := by decide +kernel
theorem dX8_graft_42 : decode cX8_graft 42 = .ok (.ireturn, 1) := by decide +kernel
theorem dX8_graft_43 : decode cX8_graft 43 = .ok (.aload_n 0, 1) := by decide +kernel
theorem dX8_graft_44 : decode cX8_graft 44 = .ok (.getfield 10, 3) := by decide +kernel
theorem dX8_graft_47 : decode cX8_graft 47 = .ok (.iload_n 1, 1) := by decide +kernel
theorem dX8_graft_48 : decode cX8_graft 48 = .ok (.invokevirtual 82, 3) := by decide +kernel
theorem dX8_graft_51 : decode cX8_graft 51 = .ok (.istore_n 3, 1) := by decide +kernel
theorem dX8_graft_52 : decode cX8_graft 52 = .ok (.iload_n 3, 1) := by decide +kernel
theorem dX8_graft_53 : decode cX8_graft 53 = .ok (.iload_n 2, 1) := by decide +kernel
theorem dX8_graft_54 : decode cX8_graft 54 = .ok (.if_icmp .ne 6, 3) := by decide +kernel
theorem dX8_graft_57 : decode cX8_graft 57 = .ok (.bipush (-5), 2) := by decide +kernel
theorem dX8_graft_59 : decode cX8_graft 59 = .ok (.ireturn, 1) := by decide +kernel
theorem dX8_graft_60 : decode cX8_graft 60 = .ok (.aload_n 0, 1) := by decide +kernel
theorem dX8_graft_61 : decode cX8_graft 61 = .ok (.getfield 26, 3) := by decide +kernel
theorem dX8_graft_64 : decode cX8_graft 64 = .ok (.aload_n 0, 1) := by decide +kernel
theorem dX8_graft_65 : decode cX8_graft 65 = .ok (.getfield 10, 3) := by decide +kernel
theorem dX8_graft_68 : decode cX8_graft 68 = .ok (.invokevirtual 68, 3) := by decide +kernel
theorem dX8_graft_71 : decode cX8_graft 71 = .ok (.aload_n 0, 1) := by decide +kernel
theorem dX8_graft_72 : decode cX8_graft 72 = .ok (.getfield 10, 3) := by decide +kernel
theorem dX8_graft_75 : decode cX8_graft 75 = .ok (.iload_n 1, 1) := by decide +kernel
theorem dX8_graft_76 : decode cX8_graft 76 = .ok (.iload_n 2, 1) := by decide +kernel
theorem dX8_graft_77 : decode cX8_graft 77 = .ok (.invokevirtual 97, 3) := by decide +kernel
theorem dX8_graft_80 : decode cX8_graft 80 = .ok (.aload_n 0, 1) := by decide +kernel
theorem dX8_graft_81 : decode cX8_graft 81 = .ok (.invokevirtual 55, 3) := by decide +kernel
theorem dX8_graft_84 : decode cX8_graft 84 = .ok (.iload_n 3, 1) := by decide +kernel
theorem dX8_graft_85 : decode cX8_graft 85 = .ok (.ireturn, 1) := by decide +kernel
theorem dX8_setLength_0 : decode cX8_setLength 0 = .ok (.aload_n 0, 1) := by decide +kernel
theorem dX8_setLength_1 : decode cX8_setLength 1 = .ok (.getfield 10, 3) := by decide +kernel
theorem dX8_setLength_4 : decode cX8_setLength 4 = .ok (.iload_n 1, 1) := by decide +kernel
theorem dX8_setLength_5 : decode cX8_setLength 5 = .ok (.invokevirtual 58, 3) := by decide +kernel
theorem dX8_setLength_8 : decode cX8_setLength 8 = .ok (.ifCond .ne 5, 3) := by decide +kernel
theorem dX8_setLength_11 : decode cX8_setLength 11 = .ok (.iconst (-1), 1) := by decide +kernel
theorem dX8_setLength_12 : decode cX8_setLength 12 = .ok (.ireturn, 1) := by decide +kernel
theorem dX8_setLength_13 : decode cX8_setLength 13 = .ok (.iload_n 2, 1) := by decide +kernel
theorem dX8_setLength_14 : decode cX8_setLength 14 = .ok (.invokestatic 62, 3) := by decide +kernel
theorem dX8_setLength_17 : decode cX8_setLength 17 = .ok (.ifCond .ne 6, 3) := by decide +kernel
theorem dX8_setLength_20 : decode cX8_setLength 20 = .ok (.bipush (-2), 2) := by decide +kernel
theorem dX8_setLength_22 : decode cX8_setLength 22 = .ok (.ireturn, 1) := by decide +kernel
theorem dX8_setLength_23 : decode cX8_setLength 23 = .ok (.iload_n 1, 1) := by decide +kernel
theorem dX8_setLength_24 : decode cX8_setLength 24 = .ok (.ifCond .ne 6, 3) := by decide +kernel
theorem dX8_setLength_27 : decode cX8_setLength 27 = .ok (.bipush (-4), 2) := by decide +kernel
theorem dX8_setLength_29 : decode cX8_setLength 29 = .ok (.ireturn, 1) := by decide +kernel
theorem dX8_setLength_30 : decode cX8_setLength 30 = .ok (.aload_n 0, 1) := by decide +kernel
theorem dX8_setLength_31 : decode cX8_setLength 31 = .ok (.getfield 10, 3) := by decide +kernel
theorem dX8_setLength_34 : decode cX8_setLength 34 = .ok (.iload_n 1, 1) := by decide +kernel
theorem dX8_setLength_35 : decode cX8_setLength 35 = .ok (.invokevirtual 101, 3) := by decide +kernel
theorem dX8_setLength_38 : decode cX8_setLength 38 = .ok (.istore_n 3, 1) := by decide +kernel
theorem dX8_setLength_39 : decode cX8_setLength 39 = .ok (.iload_n 3, 1) := by decide +kernel
theorem dX8_setLength_40 : decode cX8_setLength 40 = .ok (.iload_n 2, 1) := by decide +kernel
theorem dX8_setLength_41 : decode cX8_setLength 41 = .ok (.if_icmp .ne 6, 3) := by decide +kernel
theorem dX8_setLength_44 : decode cX8_setLength 44 = .ok (.bipush (-5), 2) := by decide +kernel
theorem dX8_setLength_46 : decode cX8_setLength 46 = .ok (.ireturn, 1) := by decide +kernel
theorem dX8_setLength_47 : decode cX8_setLength 47 = .ok (.aload_n 0, 1) := by decide +kernel
theorem dX8_setLength_48 : decode cX8_setLength 48 = .ok (.getfield 26, 3) := by decide +kernel
theorem dX8_setLength_51 : decode cX8_setLength 51 = .ok (.aload_n 0, 1) := by decide +kernel
theorem dX8_setLength_52 : decode cX8_setLength 52 = .ok (.getfield 10, 3) := by decide +kernel
theorem dX8_setLength_55 : decode cX8_setLength 55 = .ok (.invokevirtual 68, 3) := by decide +kernel
theorem dX8_setLength_58 : decode cX8_setLength 58 = .ok (.aload_n 0, 1) := by decide +kernel
theorem dX8_setLength_59 : decode cX8_setLength 59 = .ok (.getfield 10, 3) := by decide +kernel
theorem dX8_setLength_62 : decode cX8_setLength 62 = .ok (.iload_n 1, 1) := by decide +kernel
theorem dX8_setLength_63 : decode cX8_setLength 63 = .ok (.iload_n 2, 1) := by decide +kernel
theorem dX8_setLength_64 : decode cX8_setLength 64 = .ok (.iload_n 2, 1) := by decide +kernel
theorem dX8_setLength_65 : decode cX8_setLength 65 = .ok (.invokestatic 71, 3) := by decide +kernel
theorem dX8_setLength_68 : decode cX8_setLength 68 = .ok (.invokevirtual 104, 3) := by decide +kernel
theorem dX8_setLength_71 : decode cX8_setLength 71 = .ok (.aload_n 0, 1) := by decide +kernel
theorem dX8_setLength_72 : decode cX8_setLength 72 = .ok (.invokevirtual 55, 3) := by decide +kernel
theorem dX8_setLength_75 : decode cX8_setLength 75 = .ok (.iload_n 3, 1) := by decide +kernel
theorem dX8_setLength_76 : decode cX8_setLength 76 = .ok (.ireturn, 1) := by decide +kernel
theorem dX8_type_0 : decode cX8_type 0 = .ok (.aload_n 0, 1) := by decide +kernel
theorem dX8_type_1 : decode cX8_type 1 = .ok (.getfield 19, 3) := by decide +kernel
theorem dX8_type_4 : decode cX8_type 4 = .ok (.iload_n 1, 1) := by decide +kernel
theorem dX8_type_5 : decode cX8_type 5 = .ok (.invokevirtual 108, 3) := by decide +kernel
theorem dX8_type_8 : decode cX8_type 8 = .ok (.ifCond .eq 13, 3) := by decide +kernel
theorem dX8_type_11 : decode cX8_type 11 = .ok (.aload_n 0, 1) := by decide +kernel
theorem dX8_type_12 : decode cX8_type 12 = .ok (.getfield 19, 3) := by decide +kernel
theorem dX8_type_15 : decode cX8_type 15 = .ok (.invokevirtual 112, 3) := by decide +kernel
theorem dX8_type_18 : decode cX8_type 18 = .ok (.goto 5, 3) := by decide +kernel
theorem dX8_type_21 : decode cX8_type 21 = .ok (.bipush (-3), 2) := by decide +kernel
theorem dX8_type_23 : decode cX8_type 23 = .ok (.ireturn, 1) := by decide +kernel
theorem dX8_grow_0 : decode cX8_grow 0 = .ok (.aload_n 0, 1) := by decide +kernel
theorem dX8_grow_1 : decode cX8_grow 1 = .ok (.getfield 10, 3) := by decide +kernel
theorem dX8_grow_4 : decode cX8_grow 4 = .ok (.iload_n 1, 1) := by decide +kernel
theorem dX8_grow_5 : decode cX8_grow 5 = .ok (.invokevirtual 58, 3) := by decide +kernel
theorem dX8_grow_8 : decode cX8_grow 8 = .ok (.ifCond .ne 5, 3) := by decide +kernel
theorem dX8_grow_11 : decode cX8_grow 11 = .ok (.iconst (-1), 1) := by decide +kernel
theorem dX8_grow_12 : decode cX8_grow 12 = .ok (.ireturn, 1) := by decide +kernel
theorem dX8_grow_13 : decode cX8_grow 13 = .ok (.aload_n 0, 1) := by decide +kernel
theorem dX8_grow_14 : decode cX8_grow 14 = .ok (.getfield 19, 3) := by decide +kernel
theorem dX8_grow_17 : decode cX8_grow 17 = .ok (.invokevirtual 119, 3) := by decide +kernel
theorem dX8_grow_20 : decode cX8_grow 20 = .ok (.istore_n 2, 1) := by decide +kernel
theorem dX8_grow_21 : decode cX8_grow 21 = .ok (.iload_n 2, 1) := by decide +kernel
theorem dX8_grow_22 : decode cX8_grow 22 = .ok (.iconst (-1), 1) := by decide +kernel
theorem dX8_grow_23 : decode cX8_grow 23 = .ok (.if_icmp .eq 8, 3) := by decide +kernel
theorem dX8_grow_26 : decode cX8_grow 26 = .ok (.bipush (-100), 2) := by decide +kernel
theorem dX8_grow_28 : decode cX8_grow 28 = .ok (.iload_n 2, 1) := by decide +kernel
theorem dX8_grow_29 : decode cX8_grow 29 = .ok (.isub, 1) := by decide +kernel
theorem dX8_grow_30 : decode cX8_grow 30 = .ok (.ireturn, 1) := by decide +kernel
theorem dX8_grow_31 : decode cX8_grow 31 = .ok (.aload_n 0, 1) := by decide +kernel
theorem dX8_grow_32 : decode cX8_grow 32 = .ok (.getfield 19, 3) := by decide +kernel
theorem dX8_grow_35 : decode cX8_grow 35 = .ok (.invokevirtual 122, 3) := by decide +kernel
theorem dX8_grow_38 : decode cX8_grow 38 = .ok (.istore_n 3, 1) := by decide +kernel
theorem dX8_grow_39 : decode cX8_grow 39 = .ok (.aload_n 0, 1) := by decide +kernel
theorem dX8_grow_40 : decode cX8_grow 40 = .ok (.getfield 10, 3) := by decide +kernel
theorem dX8_grow_43 : decode cX8_grow 43 = .ok (.iload_n 3, 1) := by decide +kernel
theorem dX8_grow_44 : decode cX8_grow 44 = .ok (.invokevirtual 65, 3) := by decide +kernel
theorem dX8_grow_47 : decode cX8_grow 47 = .ok (.ifCond .ne 6, 3) := by decide +kernel
theorem dX8_grow_50 : decode cX8_grow 50 = .ok (.bipush (-3), 2) := by decide +kernel
theorem dX8_grow_52 : decode cX8_grow 52 = .ok (.ireturn, 1) := by decide +kernel
theorem dX8_grow_53 : decode cX8_grow 53 = .ok (.aload_n 0, 1) := by decide +kernel
theorem dX8_grow_54 : decode cX8_grow 54 = .ok (.getfield 26, 3) := by decide +kernel
theorem dX8_grow_57 : decode cX8_grow 57 = .ok (.aload_n 0, 1) := by decide +kernel
theorem dX8_grow_58 : decode cX8_grow 58 = .ok (.getfield 10, 3) := by decide +kernel
theorem dX8_grow_61 : decode cX8_grow 61 = .ok (.invokevirtual 68, 3) := by decide +kernel
theorem dX8_grow_64 : decode cX8_grow 64 = .ok (.aload_n 0, 1) := by decide +kernel
theorem dX8_grow_65 : decode cX8_grow 65 = .ok (.getfield 19, 3) := by decide +kernel
theorem dX8_grow_68 : decode cX8_grow 68 = .ok (.aload_n 0, 1) := by decide +kernel
theorem dX8_grow_69 : decode cX8_grow 69 = .ok (.getfield 10, 3) := by decide +kernel
theorem dX8_grow_72 : decode cX8_grow 72 = .ok (.iload_n 1, 1) := by decide +kernel
theorem dX8_grow_73 : decode cX8_grow 73 = .ok (.invokevirtual 125, 3) := by decide +kernel
theorem dX8_grow_76 : decode cX8_grow 76 = .ok (.aload_n 0, 1) := by decide +kernel
theorem dX8_grow_77 : decode cX8_grow 77 = .ok (.invokevirtual 55, 3) := by decide +kernel
theorem dX8_grow_80 : decode cX8_grow 80 = .ok (.iload_n 3, 1) := by decide +kernel
theorem dX8_grow_81 : decode cX8_grow 81 = .ok (.ireturn, 1) := by decide +kernel
theorem dX8_undo_0 : decode cX8_undo 0 = .ok (.aload_n 0, 1) := by decide +kernel
theorem dX8_undo_1 : decode cX8_undo 1 = .ok (.getfield 26, 3) := by decide +kernel
theorem dX8_undo_4 : decode cX8_undo 4 = .ok (.invokevirtual 129, 3) := by decide +kernel
theorem dX8_undo_7 : decode cX8_undo 7 = .ok (.ifCond .ne 6, 3) := by decide +kernel
theorem dX8_undo_10 : decode cX8_undo 10 = .ok (.bipush (-5), 2) := by decide +kernel
theorem dX8_undo_12 : decode cX8_undo 12 = .ok (.ireturn, 1) := by decide +kernel
theorem dX8_undo_13 : decode cX8_undo 13 = .ok (.aload_n 0, 1) := by decide +kernel
theorem dX8_undo_14 : decode cX8_undo 14 = .ok (.getfield 26, 3) := by decide +kernel
theorem dX8_undo_17 : decode cX8_undo 17 = .ok (.aload_n 0, 1) := by decide +kernel
theorem dX8_undo_18 : decode cX8_undo 18 = .ok (.getfield 10, 3) := by decide +kernel
theorem dX8_undo_21 : decode cX8_undo 21 = .ok (.invokevirtual 130, 3) := by decide +kernel
theorem dX8_undo_24 : decode cX8_undo 24 = .ok (.aload_n 0, 1) := by decide +kernel
theorem dX8_undo_25 : decode cX8_undo 25 = .ok (.invokevirtual 55, 3) := by decide +kernel
theorem dX8_undo_28 : decode cX8_undo 28 = .ok (.aload_n 0, 1) := by decide +kernel
theorem dX8_undo_29 : decode cX8_undo 29 = .ok (.getfield 26, 3) := by decide +kernel
theorem dX8_undo_32 : decode cX8_undo 32 = .ok (.invokevirtual 129, 3) := by decide +kernel
theorem dX8_undo_35 : decode cX8_undo 35 = .ok (.ireturn, 1) := by decide +kernel
theorem dX8_keep_0 : decode cX8_keep 0 = .ok (.aload_n 0, 1) := by decide +kernel
theorem dX8_keep_1 : decode cX8_keep 1 = .ok (.getfield 26, 3) := by decide +kernel
theorem dX8_keep_4 : decode cX8_keep 4 = .ok (.aload_n 0, 1) := by decide +kernel
theorem dX8_keep_5 : decode cX8_keep 5 = .ok (.getfield 10, 3) := by decide +kernel
theorem dX8_keep_8 : decode cX8_keep 8 = .ok (.invokevirtual 133, 3) := by decide +kernel
theorem dX8_keep_11 : decode cX8_keep 11 = .ok (.aload_n 0, 1) := by decide +kernel
theorem dX8_keep_12 : decode cX8_keep 12 = .ok (.getfield 35, 3) := by decide +kernel
theorem dX8_keep_15 : decode cX8_keep 15 = .ok (.invokevirtual 136, 3) := by decide +kernel
theorem dX8_keep_18 : decode cX8_keep 18 = .ok (.ireturn, 1) := by decide +kernel
theorem dX8_restore_0 : decode cX8_restore 0 = .ok (.aload_n 0, 1) := by decide +kernel
theorem dX8_restore_1 : decode cX8_restore 1 = .ok (.getfield 26, 3) := by decide +kernel
theorem dX8_restore_4 : decode cX8_restore 4 = .ok (.invokevirtual 139, 3) := by decide +kernel
theorem dX8_restore_7 : decode cX8_restore 7 = .ok (.ifCond .ne 6, 3) := by decide +kernel
theorem dX8_restore_10 : decode cX8_restore 10 = .ok (.bipush (-5), 2) := by decide +kernel
theorem dX8_restore_12 : decode cX8_restore 12 = .ok (.ireturn, 1) := by decide +kernel
theorem dX8_restore_13 : decode cX8_restore 13 = .ok (.aload_n 0, 1) := by decide +kernel
theorem dX8_restore_14 : decode cX8_restore 14 = .ok (.getfield 26, 3) := by decide +kernel
theorem dX8_restore_17 : decode cX8_restore 17 = .ok (.aload_n 0, 1) := by decide +kernel
theorem dX8_restore_18 : decode cX8_restore 18 = .ok (.getfield 10, 3) := by decide +kernel
theorem dX8_restore_21 : decode cX8_restore 21 = .ok (.invokevirtual 68, 3) := by decide +kernel
theorem dX8_restore_24 : decode cX8_restore 24 = .ok (.aload_n 0, 1) := by decide +kernel
theorem dX8_restore_25 : decode cX8_restore 25 = .ok (.getfield 26, 3) := by decide +kernel
theorem dX8_restore_28 : decode cX8_restore 28 = .ok (.aload_n 0, 1) := by decide +kernel
theorem dX8_restore_29 : decode cX8_restore 29 = .ok (.getfield 10, 3) := by decide +kernel
theorem dX8_restore_32 : decode cX8_restore 32 = .ok (.invokevirtual 143, 3) := by decide +kernel
theorem dX8_restore_35 : decode cX8_restore 35 = .ok (.aload_n 0, 1) := by decide +kernel
theorem dX8_restore_36 : decode cX8_restore 36 = .ok (.invokevirtual 55, 3) := by decide +kernel
theorem dX8_restore_39 : decode cX8_restore 39 = .ok (.aload_n 0, 1) := by decide +kernel
theorem dX8_restore_40 : decode cX8_restore 40 = .ok (.getfield 35, 3) := by decide +kernel
theorem dX8_restore_43 : decode cX8_restore 43 = .ok (.invokevirtual 136, 3) := by decide +kernel
theorem dX8_restore_46 : decode cX8_restore 46 = .ok (.ireturn, 1) := by decide +kernel
theorem dX8_ancestor_0 : decode cX8_ancestor 0 = .ok (.aload_n 0, 1) := by decide +kernel
theorem dX8_ancestor_1 : decode cX8_ancestor 1 = .ok (.getfield 10, 3) := by decide +kernel
theorem dX8_ancestor_4 : decode cX8_ancestor 4 = .ok (.iload_n 1, 1) := by decide +kernel
theorem dX8_ancestor_5 : decode cX8_ancestor 5 = .ok (.invokevirtual 58, 3) := by decide +kernel
theorem dX8_ancestor_8 : decode cX8_ancestor 8 = .ok (.ifCond .ne 5, 3) := by decide +kernel
theorem dX8_ancestor_11 : decode cX8_ancestor 11 = .ok (.iconst (-1), 1) := by decide +kernel
theorem dX8_ancestor_12 : decode cX8_ancestor 12 = .ok (.ireturn, 1) := by decide +kernel
theorem dX8_ancestor_13 : decode cX8_ancestor 13 = .ok (.iload_n 2, 1) := by decide +kernel
theorem dX8_ancestor_14 : decode cX8_ancestor 14 = .ok (.ifCond .ge 6, 3) := by decide +kernel
theorem dX8_ancestor_17 : decode cX8_ancestor 17 = .ok (.bipush (-2), 2) := by decide +kernel
theorem dX8_ancestor_19 : decode cX8_ancestor 19 = .ok (.ireturn, 1) := by decide +kernel
theorem dX8_ancestor_20 : decode cX8_ancestor 20 = .ok (.iload_n 2, 1) := by decide +kernel
theorem dX8_ancestor_21 : decode cX8_ancestor 21 = .ok (.aload_n 0, 1) := by decide +kernel
theorem dX8_ancestor_22 : decode cX8_ancestor 22 = .ok (.getfield 35, 3) := by decide +kernel
theorem dX8_ancestor_25 : decode cX8_ancestor 25 = .ok (.iload_n 1, 1) := by decide +kernel
theorem dX8_ancestor_26 : decode cX8_ancestor 26 = .ok (.invokevirtual 146, 3) := by decide +kernel
theorem dX8_ancestor_29 : decode cX8_ancestor 29 = .ok (.if_icmp .le 8, 3) := by decide +kernel
theorem dX8_ancestor_32 : decode cX8_ancestor 32 = .ok (.bipush (-5), 2) := by decide +kernel
theorem dX8_ancestor_34 : decode cX8_ancestor 34 = .ok (.goto 12, 3) := by decide +kernel
theorem dX8_ancestor_37 : decode cX8_ancestor 37 = .ok (.aload_n 0, 1) := by decide +kernel
theorem dX8_ancestor_38 : decode cX8_ancestor 38 = .ok (.getfield 35, 3) := by decide +kernel
theorem dX8_ancestor_41 : decode cX8_ancestor 41 = .ok (.iload_n 1, 1) := by decide +kernel
theorem dX8_ancestor_42 : decode cX8_ancestor 42 = .ok (.iload_n 2, 1) := by decide +kernel
theorem dX8_ancestor_43 : decode cX8_ancestor 43 = .ok (.invokevirtual 149, 3) := by decide +kernel
theorem dX8_ancestor_46 : decode cX8_ancestor 46 = .ok (.ireturn, 1) := by decide +kernel
theorem dX8_looks_0 : decode cX8_looks 0 = .ok (.aload_n 0, 1) := by decide +kernel
theorem dX8_looks_1 : decode cX8_looks 1 = .ok (.getfield 10, 3) := by decide +kernel
theorem dX8_looks_4 : decode cX8_looks 4 = .ok (.iload_n 1, 1) := by decide +kernel
theorem dX8_looks_5 : decode cX8_looks 5 = .ok (.invokevirtual 58, 3) := by decide +kernel
theorem dX8_looks_8 : decode cX8_looks 8 = .ok (.ifCond .ne 5, 3) := by decide +kernel
theorem dX8_looks_11 : decode cX8_looks 11 = .ok (.iconst (-1), 1) := by decide +kernel
theorem dX8_looks_12 : decode cX8_looks 12 = .ok (.ireturn, 1) := by decide +kernel
theorem dX8_looks_13 : decode cX8_looks 13 = .ok (.iload_n 2, 1) := by decide +kernel
theorem dX8_looks_14 : decode cX8_looks 14 = .ok (.ifCond .ge 6, 3) := by decide +kernel
theorem dX8_looks_17 : decode cX8_looks 17 = .ok (.bipush (-2), 2) := by decide +kernel
theorem dX8_looks_19 : decode cX8_looks 19 = .ok (.ireturn, 1) := by decide +kernel
theorem dX8_looks_20 : decode cX8_looks 20 = .ok (.iload_n 2, 1) := by decide +kernel
theorem dX8_looks_21 : decode cX8_looks 21 = .ok (.aload_n 0, 1) := by decide +kernel
theorem dX8_looks_22 : decode cX8_looks 22 = .ok (.getfield 35, 3) := by decide +kernel
theorem dX8_looks_25 : decode cX8_looks 25 = .ok (.iload_n 1, 1) := by decide +kernel
theorem dX8_looks_26 : decode cX8_looks 26 = .ok (.invokevirtual 146, 3) := by decide +kernel
theorem dX8_looks_29 : decode cX8_looks 29 = .ok (.if_icmp .le 8, 3) := by decide +kernel
theorem dX8_looks_32 : decode cX8_looks 32 = .ok (.bipush (-5), 2) := by decide +kernel
theorem dX8_looks_34 : decode cX8_looks 34 = .ok (.goto 12, 3) := by decide +kernel
theorem dX8_looks_37 : decode cX8_looks 37 = .ok (.aload_n 0, 1) := by decide +kernel
theorem dX8_looks_38 : decode cX8_looks 38 = .ok (.getfield 35, 3) := by decide +kernel
theorem dX8_looks_41 : decode cX8_looks 41 = .ok (.iload_n 1, 1) := by decide +kernel
theorem dX8_looks_42 : decode cX8_looks 42 = .ok (.iload_n 2, 1) := by decide +kernel
theorem dX8_looks_43 : decode cX8_looks 43 = .ok (.invokevirtual 153, 3) := by decide +kernel
theorem dX8_looks_46 : decode cX8_looks 46 = .ok (.ireturn, 1) := by decide +kernel
theorem dX8_jump_0 : decode cX8_jump 0 = .ok (.aload_n 0, 1) := by decide +kernel
theorem dX8_jump_1 : decode cX8_jump 1 = .ok (.getfield 10, 3) := by decide +kernel
theorem dX8_jump_4 : decode cX8_jump 4 = .ok (.iload_n 1, 1) := by decide +kernel
theorem dX8_jump_5 : decode cX8_jump 5 = .ok (.invokevirtual 58, 3) := by decide +kernel
theorem dX8_jump_8 : decode cX8_jump 8 = .ok (.ifCond .ne 5, 3) := by decide +kernel
theorem dX8_jump_11 : decode cX8_jump 11 = .ok (.iconst (-1), 1) := by decide +kernel
theorem dX8_jump_12 : decode cX8_jump 12 = .ok (.ireturn, 1) := by decide +kernel
theorem dX8_jump_13 : decode cX8_jump 13 = .ok (.iload_n 2, 1) := by decide +kernel
theorem dX8_jump_14 : decode cX8_jump 14 = .ok (.ifCond .lt 9, 3) := by decide +kernel
theorem dX8_jump_17 : decode cX8_jump 17 = .ok (.iload_n 2, 1) := by decide +kernel
theorem dX8_jump_18 : decode cX8_jump 18 = .ok (.bipush 6, 2) := by decide +kernel
theorem dX8_jump_20 : decode cX8_jump 20 = .ok (.if_icmp .le 6, 3) := by decide +kernel
theorem dX8_jump_23 : decode cX8_jump 23 = .ok (.bipush (-2), 2) := by decide +kernel
theorem dX8_jump_25 : decode cX8_jump 25 = .ok (.ireturn, 1) := by decide +kernel
theorem dX8_jump_26 : decode cX8_jump 26 = .ok (.aload_n 0, 1) := by decide +kernel
theorem dX8_jump_27 : decode cX8_jump 27 = .ok (.getfield 35, 3) := by decide +kernel
theorem dX8_jump_30 : decode cX8_jump 30 = .ok (.iload_n 1, 1) := by decide +kernel
theorem dX8_jump_31 : decode cX8_jump 31 = .ok (.invokevirtual 79, 3) := by decide +kernel
theorem dX8_jump_34 : decode cX8_jump 34 = .ok (.ifCond .ne 6, 3) := by decide +kernel
theorem dX8_jump_37 : decode cX8_jump 37 = .ok (.bipush (-4), 2) := by decide +kernel
theorem dX8_jump_39 : decode cX8_jump 39 = .ok (.ireturn, 1) := by decide +kernel
theorem dX8_jump_40 : decode cX8_jump 40 = .ok (.iconst 1, 1) := by decide +kernel
theorem dX8_jump_41 : decode cX8_jump 41 = .ok (.iload_n 2, 1) := by decide +kernel
theorem dX8_jump_42 : decode cX8_jump 42 = .ok (.ishl, 1) := by decide +kernel
theorem dX8_jump_43 : decode cX8_jump 43 = .ok (.istore_n 3, 1) := by decide +kernel
theorem dX8_jump_44 : decode cX8_jump 44 = .ok (.iload_n 3, 1) := by decide +kernel
theorem dX8_jump_45 : decode cX8_jump 45 = .ok (.aload_n 0, 1) := by decide +kernel
theorem dX8_jump_46 : decode cX8_jump 46 = .ok (.getfield 35, 3) := by decide +kernel
theorem dX8_jump_49 : decode cX8_jump 49 = .ok (.iload_n 1, 1) := by decide +kernel
theorem dX8_jump_50 : decode cX8_jump 50 = .ok (.invokevirtual 146, 3) := by decide +kernel
theorem dX8_jump_53 : decode cX8_jump 53 = .ok (.if_icmp .le 8, 3) := by decide +kernel
theorem dX8_jump_56 : decode cX8_jump 56 = .ok (.bipush (-5), 2) := by decide +kernel
theorem dX8_jump_58 : decode cX8_jump 58 = .ok (.goto 12, 3) := by decide +kernel
theorem dX8_jump_61 : decode cX8_jump 61 = .ok (.aload_n 0, 1) := by decide +kernel
theorem dX8_jump_62 : decode cX8_jump 62 = .ok (.getfield 35, 3) := by decide +kernel
theorem dX8_jump_65 : decode cX8_jump 65 = .ok (.iload_n 1, 1) := by decide +kernel
theorem dX8_jump_66 : decode cX8_jump 66 = .ok (.iload_n 3, 1) := by decide +kernel
theorem dX8_jump_67 : decode cX8_jump 67 = .ok (.invokevirtual 149, 3) := by decide +kernel
theorem dX8_jump_70 : decode cX8_jump 70 = .ok (.ireturn, 1) := by decide +kernel
theorem dX8_ladderAt_0 : decode cX8_ladderAt 0 = .ok (.aload_n 0, 1) := by decide +kernel
theorem dX8_ladderAt_1 : decode cX8_ladderAt 1 = .ok (.getfield 10, 3) := by decide +kernel
theorem dX8_ladderAt_4 : decode cX8_ladderAt 4 = .ok (.iload_n 1, 1) := by decide +kernel
theorem dX8_ladderAt_5 : decode cX8_ladderAt 5 = .ok (.invokevirtual 58, 3) := by decide +kernel
theorem dX8_ladderAt_8 : decode cX8_ladderAt 8 = .ok (.ifCond .ne 5, 3) := by decide +kernel
theorem dX8_ladderAt_11 : decode cX8_ladderAt 11 = .ok (.iconst (-1), 1) := by decide +kernel
theorem dX8_ladderAt_12 : decode cX8_ladderAt 12 = .ok (.ireturn, 1) := by decide +kernel
theorem dX8_ladderAt_13 : decode cX8_ladderAt 13 = .ok (.iload_n 2, 1) := by decide +kernel
theorem dX8_ladderAt_14 : decode cX8_ladderAt 14 = .ok (.ifCond .ge 6, 3) := by decide +kernel
theorem dX8_ladderAt_17 : decode cX8_ladderAt 17 = .ok (.bipush (-2), 2) := by decide +kernel
theorem dX8_ladderAt_19 : decode cX8_ladderAt 19 = .ok (.ireturn, 1) := by decide +kernel
theorem dX8_ladderAt_20 : decode cX8_ladderAt 20 = .ok (.iload_n 2, 1) := by decide +kernel
theorem dX8_ladderAt_21 : decode cX8_ladderAt 21 = .ok (.aload_n 0, 1) := by decide +kernel
theorem dX8_ladderAt_22 : decode cX8_ladderAt 22 = .ok (.getfield 35, 3) := by decide +kernel
theorem dX8_ladderAt_25 : decode cX8_ladderAt 25 = .ok (.iload_n 1, 1) := by decide +kernel
theorem dX8_ladderAt_26 : decode cX8_ladderAt 26 = .ok (.invokevirtual 156, 3) := by decide +kernel
theorem dX8_ladderAt_29 : decode cX8_ladderAt 29 = .ok (.if_icmp .lt 8, 3) := by decide +kernel
theorem dX8_ladderAt_32 : decode cX8_ladderAt 32 = .ok (.bipush (-5), 2) := by decide +kernel
theorem dX8_ladderAt_34 : decode cX8_ladderAt 34 = .ok (.goto 19, 3) := by decide +kernel
theorem dX8_ladderAt_37 : decode cX8_ladderAt 37 = .ok (.aload_n 0, 1) := by decide +kernel
theorem dX8_ladderAt_38 : decode cX8_ladderAt 38 = .ok (.getfield 35, 3) := by decide +kernel
theorem dX8_ladderAt_41 : decode cX8_ladderAt 41 = .ok (.aload_n 0, 1) := by decide +kernel
theorem dX8_ladderAt_42 : decode cX8_ladderAt 42 = .ok (.getfield 35, 3) := by decide +kernel
theorem dX8_ladderAt_45 : decode cX8_ladderAt 45 = .ok (.iload_n 1, 1) := by decide +kernel
theorem dX8_ladderAt_46 : decode cX8_ladderAt 46 = .ok (.invokevirtual 159, 3) := by decide +kernel
theorem dX8_ladderAt_49 : decode cX8_ladderAt 49 = .ok (.iload_n 2, 1) := by decide +kernel
theorem dX8_ladderAt_50 : decode cX8_ladderAt 50 = .ok (.invokevirtual 149, 3) := by decide +kernel
theorem dX8_ladderAt_53 : decode cX8_ladderAt 53 = .ok (.ireturn, 1) := by decide +kernel
theorem dX8_node_0 : decode cX8_node 0 = .ok (.aload_n 0, 1) := by decide +kernel
theorem dX8_node_1 : decode cX8_node 1 = .ok (.getfield 10, 3) := by decide +kernel
theorem dX8_node_4 : decode cX8_node 4 = .ok (.iload_n 1, 1) := by decide +kernel
theorem dX8_node_5 : decode cX8_node 5 = .ok (.invokevirtual 58, 3) := by decide +kernel
theorem dX8_node_8 : decode cX8_node 8 = .ok (.ifCond .ne 5, 3) := by decide +kernel
theorem dX8_node_11 : decode cX8_node 11 = .ok (.iconst (-1), 1) := by decide +kernel
theorem dX8_node_12 : decode cX8_node 12 = .ok (.ireturn, 1) := by decide +kernel
theorem dX8_node_13 : decode cX8_node 13 = .ok (.iload_n 2, 1) := by decide +kernel
theorem dX8_node_14 : decode cX8_node 14 = .ok (.tableswitch 150 0 9 #[54, 66, 75, 84, 93, 102, 114, 123, 132, 141], 54) := by decide +kernel
theorem dX8_node_68 : decode cX8_node 68 = .ok (.aload_n 0, 1) := by decide +kernel
theorem dX8_node_69 : decode cX8_node 69 = .ok (.getfield 10, 3) := by decide +kernel
theorem dX8_node_72 : decode cX8_node 72 = .ok (.iload_n 1, 1) := by decide +kernel
theorem dX8_node_73 : decode cX8_node 73 = .ok (.invokevirtual 82, 3) := by decide +kernel
theorem dX8_node_76 : decode cX8_node 76 = .ok (.invokestatic 162, 3) := by decide +kernel
theorem dX8_node_79 : decode cX8_node 79 = .ok (.ireturn, 1) := by decide +kernel
theorem dX8_node_80 : decode cX8_node 80 = .ok (.aload_n 0, 1) := by decide +kernel
theorem dX8_node_81 : decode cX8_node 81 = .ok (.getfield 35, 3) := by decide +kernel
theorem dX8_node_84 : decode cX8_node 84 = .ok (.iload_n 1, 1) := by decide +kernel
theorem dX8_node_85 : decode cX8_node 85 = .ok (.invokevirtual 146, 3) := by decide +kernel
theorem dX8_node_88 : decode cX8_node 88 = .ok (.ireturn, 1) := by decide +kernel
theorem dX8_node_89 : decode cX8_node 89 = .ok (.aload_n 0, 1) := by decide +kernel
theorem dX8_node_90 : decode cX8_node 90 = .ok (.getfield 35, 3) := by decide +kernel
theorem dX8_node_93 : decode cX8_node 93 = .ok (.iload_n 1, 1) := by decide +kernel
theorem dX8_node_94 : decode cX8_node 94 = .ok (.invokevirtual 165, 3) := by decide +kernel
theorem dX8_node_97 : decode cX8_node 97 = .ok (.ireturn, 1) := by decide +kernel
theorem dX8_node_98 : decode cX8_node 98 = .ok (.aload_n 0, 1) := by decide +kernel
theorem dX8_node_99 : decode cX8_node 99 = .ok (.getfield 35, 3) := by decide +kernel
theorem dX8_node_102 : decode cX8_node 102 = .ok (.iload_n 1, 1) := by decide +kernel
theorem dX8_node_103 : decode cX8_node 103 = .ok (.invokevirtual 90, 3) := by decide +kernel
theorem dX8_node_106 : decode cX8_node 106 = .ok (.ireturn, 1) := by decide +kernel
theorem dX8_node_107 : decode cX8_node 107 = .ok (.aload_n 0, 1) := by decide +kernel
theorem dX8_node_108 : decode cX8_node 108 = .ok (.getfield 35, 3) := by decide +kernel
theorem dX8_node_111 : decode cX8_node 111 = .ok (.iload_n 1, 1) := by decide +kernel
theorem dX8_node_112 : decode cX8_node 112 = .ok (.invokevirtual 168, 3) := by decide +kernel
theorem dX8_node_115 : decode cX8_node 115 = .ok (.ireturn, 1) := by decide +kernel
theorem dX8_node_116 : decode cX8_node 116 = .ok (.aload_n 0, 1) := by decide +kernel
theorem dX8_node_117 : decode cX8_node 117 = .ok (.getfield 35, 3) := by decide +kernel
theorem dX8_node_120 : decode cX8_node 120 = .ok (.iload_n 1, 1) := by decide +kernel
theorem dX8_node_121 : decode cX8_node 121 = .ok (.invokevirtual 171, 3) := by decide +kernel
theorem dX8_node_124 : decode cX8_node 124 = .ok (.invokestatic 162, 3) := by decide +kernel
theorem dX8_node_127 : decode cX8_node 127 = .ok (.ireturn, 1) := by decide +kernel
theorem dX8_node_128 : decode cX8_node 128 = .ok (.aload_n 0, 1) := by decide +kernel
theorem dX8_node_129 : decode cX8_node 129 = .ok (.getfield 35, 3) := by decide +kernel
theorem dX8_node_132 : decode cX8_node 132 = .ok (.iload_n 1, 1) := by decide +kernel
theorem dX8_node_133 : decode cX8_node 133 = .ok (.invokevirtual 174, 3) := by decide +kernel
theorem dX8_node_136 : decode cX8_node 136 = .ok (.ireturn, 1) := by decide +kernel
theorem dX8_node_137 : decode cX8_node 137 = .ok (.aload_n 0, 1) := by decide +kernel
theorem dX8_node_138 : decode cX8_node 138 = .ok (.getfield 35, 3) := by decide +kernel
theorem dX8_node_141 : decode cX8_node 141 = .ok (.iload_n 1, 1) := by decide +kernel
theorem dX8_node_142 : decode cX8_node 142 = .ok (.invokevirtual 159, 3) := by decide +kernel
theorem dX8_node_145 : decode cX8_node 145 = .ok (.ireturn, 1) := by decide +kernel
theorem dX8_node_146 : decode cX8_node 146 = .ok (.aload_n 0, 1) := by decide +kernel
theorem dX8_node_147 : decode cX8_node 147 = .ok (.getfield 35, 3) := by decide +kernel
theorem dX8_node_150 : decode cX8_node 150 = .ok (.iload_n 1, 1) := by decide +kernel
theorem dX8_node_151 : decode cX8_node 151 = .ok (.invokevirtual 177, 3) := by decide +kernel
theorem dX8_node_154 : decode cX8_node 154 = .ok (.ireturn, 1) := by decide +kernel
theorem dX8_node_155 : decode cX8_node 155 = .ok (.aload_n 0, 1) := by decide +kernel
theorem dX8_node_156 : decode cX8_node 156 = .ok (.getfield 35, 3) := by decide +kernel
theorem dX8_node_159 : decode cX8_node 159 = .ok (.iload_n 1, 1) := by decide +kernel
theorem dX8_node_160 : decode cX8_node 160 = .ok (.invokevirtual 156, 3) := by decide +kernel
theorem dX8_node_163 : decode cX8_node 163 = .ok (.ireturn, 1) := by decide +kernel
theorem dX8_node_164 : decode cX8_node 164 = .ok (.bipush (-2), 2) := by decide +kernel
theorem dX8_node_166 : decode cX8_node 166 = .ok (.ireturn, 1) := by decide +kernel
theorem dX8_meeting_0 : decode cX8_meeting 0 = .ok (.aload_n 0, 1) := by decide +kernel
theorem dX8_meeting_1 : decode cX8_meeting 1 = .ok (.getfield 10, 3) := by decide +kernel
theorem dX8_meeting_4 : decode cX8_meeting 4 = .ok (.iload_n 1, 1) := by decide +kernel
theorem dX8_meeting_5 : decode cX8_meeting 5 = .ok (.invokevirtual 58, 3) := by decide +kernel
theorem dX8_meeting_8 : decode cX8_meeting 8 = .ok (.ifCond .eq 14, 3) := by decide +kernel
theorem dX8_meeting_11 : decode cX8_meeting 11 = .ok (.aload_n 0, 1) := by decide +kernel
theorem dX8_meeting_12 : decode cX8_meeting 12 = .ok (.getfield 10, 3) := by decide +kernel
theorem dX8_meeting_15 : decode cX8_meeting 15 = .ok (.iload_n 2, 1) := by decide +kernel
theorem dX8_meeting_16 : decode cX8_meeting 16 = .ok (.invokevirtual 58, 3) := by decide +kernel
theorem dX8_meeting_19 : decode cX8_meeting 19 = .ok (.ifCond .ne 5, 3) := by decide +kernel
theorem dX8_meeting_22 : decode cX8_meeting 22 = .ok (.iconst (-1), 1) := by decide +kernel
theorem dX8_meeting_23 : decode cX8_meeting 23 = .ok (.ireturn, 1) := by decide +kernel
theorem dX8_meeting_24 : decode cX8_meeting 24 = .ok (.aload_n 0, 1) := by decide +kernel
theorem dX8_meeting_25 : decode cX8_meeting 25 = .ok (.getfield 35, 3) := by decide +kernel
theorem dX8_meeting_28 : decode cX8_meeting 28 = .ok (.iload_n 1, 1) := by decide +kernel
theorem dX8_meeting_29 : decode cX8_meeting 29 = .ok (.iload_n 2, 1) := by decide +kernel
theorem dX8_meeting_30 : decode cX8_meeting 30 = .ok (.invokevirtual 180, 3) := by decide +kernel
theorem dX8_meeting_33 : decode cX8_meeting 33 = .ok (.ireturn, 1) := by decide +kernel
theorem dX8_wayAt_0 : decode cX8_wayAt 0 = .ok (.aload_n 0, 1) := by decide +kernel
theorem dX8_wayAt_1 : decode cX8_wayAt 1 = .ok (.getfield 10, 3) := by decide +kernel
theorem dX8_wayAt_4 : decode cX8_wayAt 4 = .ok (.iload_n 1, 1) := by decide +kernel
theorem dX8_wayAt_5 : decode cX8_wayAt 5 = .ok (.invokevirtual 58, 3) := by decide +kernel
theorem dX8_wayAt_8 : decode cX8_wayAt 8 = .ok (.ifCond .eq 14, 3) := by decide +kernel
theorem dX8_wayAt_11 : decode cX8_wayAt 11 = .ok (.aload_n 0, 1) := by decide +kernel
theorem dX8_wayAt_12 : decode cX8_wayAt 12 = .ok (.getfield 10, 3) := by decide +kernel
theorem dX8_wayAt_15 : decode cX8_wayAt 15 = .ok (.iload_n 2, 1) := by decide +kernel
theorem dX8_wayAt_16 : decode cX8_wayAt 16 = .ok (.invokevirtual 58, 3) := by decide +kernel
theorem dX8_wayAt_19 : decode cX8_wayAt 19 = .ok (.ifCond .ne 5, 3) := by decide +kernel
theorem dX8_wayAt_22 : decode cX8_wayAt 22 = .ok (.iconst (-1), 1) := by decide +kernel
theorem dX8_wayAt_23 : decode cX8_wayAt 23 = .ok (.ireturn, 1) := by decide +kernel
theorem dX8_wayAt_24 : decode cX8_wayAt 24 = .ok (.iload_n 3, 1) := by decide +kernel
theorem dX8_wayAt_25 : decode cX8_wayAt 25 = .ok (.ifCond .ge 6, 3) := by decide +kernel
theorem dX8_wayAt_28 : decode cX8_wayAt 28 = .ok (.bipush (-2), 2) := by decide +kernel
theorem dX8_wayAt_30 : decode cX8_wayAt 30 = .ok (.ireturn, 1) := by decide +kernel
theorem dX8_wayAt_31 : decode cX8_wayAt 31 = .ok (.aload_n 0, 1) := by decide +kernel
theorem dX8_wayAt_32 : decode cX8_wayAt 32 = .ok (.getfield 44, 3) := by decide +kernel
theorem dX8_wayAt_35 : decode cX8_wayAt 35 = .ok (.iload_n 1, 1) := by decide +kernel
theorem dX8_wayAt_36 : decode cX8_wayAt 36 = .ok (.iload_n 2, 1) := by decide +kernel
theorem dX8_wayAt_37 : decode cX8_wayAt 37 = .ok (.iload_n 3, 1) := by decide +kernel
theorem dX8_wayAt_38 : decode cX8_wayAt 38 = .ok (.invokevirtual 183, 3) := by decide +kernel
theorem dX8_wayAt_41 : decode cX8_wayAt 41 = .ok (.invokestatic 162, 3) := by decide +kernel
theorem dX8_wayAt_44 : decode cX8_wayAt 44 = .ok (.ireturn, 1) := by decide +kernel
theorem dX8_real_0 : decode cX8_real 0 = .ok (.aload_n 0, 1) := by decide +kernel
theorem dX8_real_1 : decode cX8_real 1 = .ok (.getfield 10, 3) := by decide +kernel
theorem dX8_real_4 : decode cX8_real 4 = .ok (.iload_n 1, 1) := by decide +kernel
theorem dX8_real_5 : decode cX8_real 5 = .ok (.invokevirtual 58, 3) := by decide +kernel
theorem dX8_real_8 : decode cX8_real 8 = .ok (.ifCond .eq 12, 3) := by decide +kernel
theorem dX8_real_11 : decode cX8_real 11 = .ok (.iload_n 2, 1) := by decide +kernel
theorem dX8_real_12 : decode cX8_real 12 = .ok (.ifCond .lt 8, 3) := by decide +kernel
theorem dX8_real_15 : decode cX8_real 15 = .ok (.iload_n 2, 1) := by decide +kernel
theorem dX8_real_16 : decode cX8_real 16 = .ok (.iconst 1, 1) := by decide +kernel
theorem dX8_real_17 : decode cX8_real 17 = .ok (.if_icmp .le 7, 3) := by decide +kernel
theorem dX8_real_20 : decode cX8_real 20 = .ok (.invokestatic 187, 3) := by decide +kernel
theorem dX8_real_23 : decode cX8_real 23 = .ok (.freturn, 1) := by decide +kernel
theorem dX8_real_24 : decode cX8_real 24 = .ok (.iload_n 2, 1) := by decide +kernel
theorem dX8_real_25 : decode cX8_real 25 = .ok (.ifCond .ne 14, 3) := by decide +kernel
theorem dX8_real_28 : decode cX8_real 28 = .ok (.aload_n 0, 1) := by decide +kernel
theorem dX8_real_29 : decode cX8_real 29 = .ok (.getfield 10, 3) := by decide +kernel
theorem dX8_real_32 : decode cX8_real 32 = .ok (.iload_n 1, 1) := by decide +kernel
theorem dX8_real_33 : decode cX8_real 33 = .ok (.invokevirtual 191, 3) := by decide +kernel
theorem dX8_real_36 : decode cX8_real 36 = .ok (.goto 11, 3) := by decide +kernel
theorem dX8_real_39 : decode cX8_real 39 = .ok (.aload_n 0, 1) := by decide +kernel
theorem dX8_real_40 : decode cX8_real 40 = .ok (.getfield 44, 3) := by decide +kernel
theorem dX8_real_43 : decode cX8_real 43 = .ok (.iload_n 1, 1) := by decide +kernel
theorem dX8_real_44 : decode cX8_real 44 = .ok (.invokevirtual 194, 3) := by decide +kernel
theorem dX8_real_47 : decode cX8_real 47 = .ok (.freturn, 1) := by decide +kernel
theorem dX8_distance_0 : decode cX8_distance 0 = .ok (.aload_n 0, 1) := by decide +kernel
theorem dX8_distance_1 : decode cX8_distance 1 = .ok (.getfield 10, 3) := by decide +kernel
theorem dX8_distance_4 : decode cX8_distance 4 = .ok (.iload_n 1, 1) := by decide +kernel
theorem dX8_distance_5 : decode cX8_distance 5 = .ok (.invokevirtual 58, 3) := by decide +kernel
theorem dX8_distance_8 : decode cX8_distance 8 = .ok (.ifCond .eq 14, 3) := by decide +kernel
theorem dX8_distance_11 : decode cX8_distance 11 = .ok (.aload_n 0, 1) := by decide +kernel
theorem dX8_distance_12 : decode cX8_distance 12 = .ok (.getfield 10, 3) := by decide +kernel
theorem dX8_distance_15 : decode cX8_distance 15 = .ok (.iload_n 2, 1) := by decide +kernel
theorem dX8_distance_16 : decode cX8_distance 16 = .ok (.invokevirtual 58, 3) := by decide +kernel
theorem dX8_distance_19 : decode cX8_distance 19 = .ok (.ifCond .ne 7, 3) := by decide +kernel
theorem dX8_distance_22 : decode cX8_distance 22 = .ok (.invokestatic 187, 3) := by decide +kernel
theorem dX8_distance_25 : decode cX8_distance 25 = .ok (.freturn, 1) := by decide +kernel
theorem dX8_distance_26 : decode cX8_distance 26 = .ok (.aload_n 0, 1) := by decide +kernel
theorem dX8_distance_27 : decode cX8_distance 27 = .ok (.getfield 44, 3) := by decide +kernel
theorem dX8_distance_30 : decode cX8_distance 30 = .ok (.iload_n 1, 1) := by decide +kernel
theorem dX8_distance_31 : decode cX8_distance 31 = .ok (.iload_n 2, 1) := by decide +kernel
theorem dX8_distance_32 : decode cX8_distance 32 = .ok (.invokevirtual 197, 3) := by decide +kernel
theorem dX8_distance_35 : decode cX8_distance 35 = .ok (.freturn, 1) := by decide +kernel
theorem dX8_reach_0 : decode cX8_reach 0 = .ok (.aload_n 0, 1) := by decide +kernel
theorem dX8_reach_1 : decode cX8_reach 1 = .ok (.getfield 10, 3) := by decide +kernel
theorem dX8_reach_4 : decode cX8_reach 4 = .ok (.iload_n 1, 1) := by decide +kernel
theorem dX8_reach_5 : decode cX8_reach 5 = .ok (.invokevirtual 58, 3) := by decide +kernel
theorem dX8_reach_8 : decode cX8_reach 8 = .ok (.ifCond .ne 5, 3) := by decide +kernel
theorem dX8_reach_11 : decode cX8_reach 11 = .ok (.iconst (-1), 1) := by decide +kernel
theorem dX8_reach_12 : decode cX8_reach 12 = .ok (.ireturn, 1) := by decide +kernel
theorem dX8_reach_13 : decode cX8_reach 13 = .ok (.iload_n 2, 1) := by decide +kernel
theorem dX8_reach_14 : decode cX8_reach 14 = .ok (.invokestatic 62, 3) := by decide +kernel
theorem dX8_reach_17 : decode cX8_reach 17 = .ok (.ifCond .ne 6, 3) := by decide +kernel
theorem dX8_reach_20 : decode cX8_reach 20 = .ok (.bipush (-2), 2) := by decide +kernel
theorem dX8_reach_22 : decode cX8_reach 22 = .ok (.ireturn, 1) := by decide +kernel
theorem dX8_reach_23 : decode cX8_reach 23 = .ok (.aload_n 0, 1) := by decide +kernel
theorem dX8_reach_24 : decode cX8_reach 24 = .ok (.getfield 44, 3) := by decide +kernel
theorem dX8_reach_27 : decode cX8_reach 27 = .ok (.iload_n 1, 1) := by decide +kernel
theorem dX8_reach_28 : decode cX8_reach 28 = .ok (.iload_n 2, 1) := by decide +kernel
theorem dX8_reach_29 : decode cX8_reach 29 = .ok (.invokestatic 71, 3) := by decide +kernel
theorem dX8_reach_32 : decode cX8_reach 32 = .ok (.invokevirtual 201, 3) := by decide +kernel
theorem dX8_reach_35 : decode cX8_reach 35 = .ok (.ireturn, 1) := by decide +kernel
theorem dX8_farthest_0 : decode cX8_farthest 0 = .ok (.aload_n 0, 1) := by decide +kernel
theorem dX8_farthest_1 : decode cX8_farthest 1 = .ok (.getfield 10, 3) := by decide +kernel
theorem dX8_farthest_4 : decode cX8_farthest 4 = .ok (.iload_n 1, 1) := by decide +kernel
theorem dX8_farthest_5 : decode cX8_farthest 5 = .ok (.invokevirtual 58, 3) := by decide +kernel
theorem dX8_farthest_8 : decode cX8_farthest 8 = .ok (.ifCond .ne 5, 3) := by decide +kernel
theorem dX8_farthest_11 : decode cX8_farthest 11 = .ok (.iconst (-1), 1) := by decide +kernel
theorem dX8_farthest_12 : decode cX8_farthest 12 = .ok (.ireturn, 1) := by decide +kernel
theorem dX8_farthest_13 : decode cX8_farthest 13 = .ok (.aload_n 0, 1) := by decide +kernel
theorem dX8_farthest_14 : decode cX8_farthest 14 = .ok (.getfield 44, 3) := by decide +kernel
theorem dX8_farthest_17 : decode cX8_farthest 17 = .ok (.iload_n 1, 1) := by decide +kernel
theorem dX8_farthest_18 : decode cX8_farthest 18 = .ok (.invokevirtual 205, 3) := by decide +kernel
theorem dX8_farthest_21 : decode cX8_farthest 21 = .ok (.ireturn, 1) := by decide +kernel
theorem dX8_apart_0 : decode cX8_apart 0 = .ok (.iload_n 1, 1) := by decide +kernel
theorem dX8_apart_1 : decode cX8_apart 1 = .ok (.ifCond .lt 8, 3) := by decide +kernel
theorem dX8_apart_4 : decode cX8_apart 4 = .ok (.iload_n 1, 1) := by decide +kernel
theorem dX8_apart_5 : decode cX8_apart 5 = .ok (.iconst 1, 1) := by decide +kernel
theorem dX8_apart_6 : decode cX8_apart 6 = .ok (.if_icmp .le 6, 3) := by decide +kernel
theorem dX8_apart_9 : decode cX8_apart 9 = .ok (.bipush (-2), 2) := by decide +kernel
theorem dX8_apart_11 : decode cX8_apart 11 = .ok (.ireturn, 1) := by decide +kernel
theorem dX8_apart_12 : decode cX8_apart 12 = .ok (.aload_n 0, 1) := by decide +kernel
theorem dX8_apart_13 : decode cX8_apart 13 = .ok (.getfield 44, 3) := by decide +kernel
theorem dX8_apart_16 : decode cX8_apart 16 = .ok (.invokevirtual 208, 3) := by decide +kernel
theorem dX8_apart_19 : decode cX8_apart 19 = .ok (.iload_n 1, 1) := by decide +kernel
theorem dX8_apart_20 : decode cX8_apart 20 = .ok (.ifCond .ne 13, 3) := by decide +kernel
theorem dX8_apart_23 : decode cX8_apart 23 = .ok (.aload_n 0, 1) := by decide +kernel
theorem dX8_apart_24 : decode cX8_apart 24 = .ok (.getfield 44, 3) := by decide +kernel
theorem dX8_apart_27 : decode cX8_apart 27 = .ok (.invokevirtual 211, 3) := by decide +kernel
theorem dX8_apart_30 : decode cX8_apart 30 = .ok (.goto 10, 3) := by decide +kernel
theorem dX8_apart_33 : decode cX8_apart 33 = .ok (.aload_n 0, 1) := by decide +kernel
theorem dX8_apart_34 : decode cX8_apart 34 = .ok (.getfield 44, 3) := by decide +kernel
theorem dX8_apart_37 : decode cX8_apart 37 = .ok (.invokevirtual 214, 3) := by decide +kernel
theorem dX8_apart_40 : decode cX8_apart 40 = .ok (.ireturn, 1) := by decide +kernel
theorem dX8_shape_0 : decode cX8_shape 0 = .ok (.aload_n 0, 1) := by decide +kernel
theorem dX8_shape_1 : decode cX8_shape 1 = .ok (.getfield 10, 3) := by decide +kernel
theorem dX8_shape_4 : decode cX8_shape 4 = .ok (.iload_n 1, 1) := by decide +kernel
theorem dX8_shape_5 : decode cX8_shape 5 = .ok (.invokevirtual 58, 3) := by decide +kernel
theorem dX8_shape_8 : decode cX8_shape 8 = .ok (.ifCond .ne 5, 3) := by decide +kernel
theorem dX8_shape_11 : decode cX8_shape 11 = .ok (.iconst (-1), 1) := by decide +kernel
theorem dX8_shape_12 : decode cX8_shape 12 = .ok (.ireturn, 1) := by decide +kernel
theorem dX8_shape_13 : decode cX8_shape 13 = .ok (.aload_n 0, 1) := by decide +kernel
theorem dX8_shape_14 : decode cX8_shape 14 = .ok (.getfield 35, 3) := by decide +kernel
theorem dX8_shape_17 : decode cX8_shape 17 = .ok (.iload_n 1, 1) := by decide +kernel
theorem dX8_shape_18 : decode cX8_shape 18 = .ok (.invokevirtual 168, 3) := by decide +kernel
theorem dX8_shape_21 : decode cX8_shape 21 = .ok (.bipush 15, 2) := by decide +kernel
theorem dX8_shape_23 : decode cX8_shape 23 = .ok (.if_icmp .le 6, 3) := by decide +kernel
theorem dX8_shape_26 : decode cX8_shape 26 = .ok (.bipush (-5), 2) := by decide +kernel
theorem dX8_shape_28 : decode cX8_shape 28 = .ok (.ireturn, 1) := by decide +kernel
theorem dX8_shape_29 : decode cX8_shape 29 = .ok (.aload_n 0, 1) := by decide +kernel
theorem dX8_shape_30 : decode cX8_shape 30 = .ok (.getfield 51, 3) := by decide +kernel
theorem dX8_shape_33 : decode cX8_shape 33 = .ok (.invokevirtual 217, 3) := by decide +kernel
theorem dX8_shape_36 : decode cX8_shape 36 = .ok (.aload_n 0, 1) := by decide +kernel
theorem dX8_shape_37 : decode cX8_shape 37 = .ok (.getfield 51, 3) := by decide +kernel
theorem dX8_shape_40 : decode cX8_shape 40 = .ok (.iload_n 1, 1) := by decide +kernel
theorem dX8_shape_41 : decode cX8_shape 41 = .ok (.invokevirtual 220, 3) := by decide +kernel
theorem dX8_shape_44 : decode cX8_shape 44 = .ok (.ireturn, 1) := by decide +kernel
theorem dX8_alike_0 : decode cX8_alike 0 = .ok (.aload_n 0, 1) := by decide +kernel
theorem dX8_alike_1 : decode cX8_alike 1 = .ok (.getfield 10, 3) := by decide +kernel
theorem dX8_alike_4 : decode cX8_alike 4 = .ok (.iload_n 1, 1) := by decide +kernel
theorem dX8_alike_5 : decode cX8_alike 5 = .ok (.invokevirtual 58, 3) := by decide +kernel
theorem dX8_alike_8 : decode cX8_alike 8 = .ok (.ifCond .ne 5, 3) := by decide +kernel
theorem dX8_alike_11 : decode cX8_alike 11 = .ok (.iconst (-1), 1) := by decide +kernel
theorem dX8_alike_12 : decode cX8_alike 12 = .ok (.ireturn, 1) := by decide +kernel
theorem dX8_alike_13 : decode cX8_alike 13 = .ok (.aload_n 0, 1) := by decide +kernel
theorem dX8_alike_14 : decode cX8_alike 14 = .ok (.getfield 35, 3) := by decide +kernel
theorem dX8_alike_17 : decode cX8_alike 17 = .ok (.iload_n 1, 1) := by decide +kernel
theorem dX8_alike_18 : decode cX8_alike 18 = .ok (.invokevirtual 168, 3) := by decide +kernel
theorem dX8_alike_21 : decode cX8_alike 21 = .ok (.bipush 15, 2) := by decide +kernel
theorem dX8_alike_23 : decode cX8_alike 23 = .ok (.if_icmp .le 6, 3) := by decide +kernel
theorem dX8_alike_26 : decode cX8_alike 26 = .ok (.bipush (-5), 2) := by decide +kernel
theorem dX8_alike_28 : decode cX8_alike 28 = .ok (.ireturn, 1) := by decide +kernel
theorem dX8_alike_29 : decode cX8_alike 29 = .ok (.aload_n 0, 1) := by decide +kernel
theorem dX8_alike_30 : decode cX8_alike 30 = .ok (.getfield 51, 3) := by decide +kernel
theorem dX8_alike_33 : decode cX8_alike 33 = .ok (.invokevirtual 217, 3) := by decide +kernel
theorem dX8_alike_36 : decode cX8_alike 36 = .ok (.aload_n 0, 1) := by decide +kernel
theorem dX8_alike_37 : decode cX8_alike 37 = .ok (.getfield 51, 3) := by decide +kernel
theorem dX8_alike_40 : decode cX8_alike 40 = .ok (.iload_n 1, 1) := by decide +kernel
theorem dX8_alike_41 : decode cX8_alike 41 = .ok (.invokevirtual 223, 3) := by decide +kernel
theorem dX8_alike_44 : decode cX8_alike 44 = .ok (.ireturn, 1) := by decide +kernel
theorem dX8_count_0 : decode cX8_count 0 = .ok (.iload_n 1, 1) := by decide +kernel
theorem dX8_count_1 : decode cX8_count 1 = .ok (.tableswitch 142 0 9 #[55, 63, 71, 71, 79, 87, 95, 104, 126, 134], 55) := by decide +kernel
theorem dX8_count_56 : decode cX8_count 56 = .ok (.aload_n 0, 1) := by decide +kernel
theorem dX8_count_57 : decode cX8_count 57 = .ok (.getfield 35, 3) := by decide +kernel
theorem dX8_count_60 : decode cX8_count 60 = .ok (.invokevirtual 136, 3) := by decide +kernel
theorem dX8_count_63 : decode cX8_count 63 = .ok (.ireturn, 1) := by decide +kernel
theorem dX8_count_64 : decode cX8_count 64 = .ok (.aload_n 0, 1) := by decide +kernel
theorem dX8_count_65 : decode cX8_count 65 = .ok (.getfield 10, 3) := by decide +kernel
theorem dX8_count_68 : decode cX8_count 68 = .ok (.invokevirtual 235, 3) := by decide +kernel
theorem dX8_count_71 : decode cX8_count 71 = .ok (.ireturn, 1) := by decide +kernel
theorem dX8_count_72 : decode cX8_count 72 = .ok (.aload_n 0, 1) := by decide +kernel
theorem dX8_count_73 : decode cX8_count 73 = .ok (.getfield 35, 3) := by decide +kernel
theorem dX8_count_76 : decode cX8_count 76 = .ok (.invokevirtual 238, 3) := by decide +kernel
theorem dX8_count_79 : decode cX8_count 79 = .ok (.ireturn, 1) := by decide +kernel
theorem dX8_count_80 : decode cX8_count 80 = .ok (.aload_n 0, 1) := by decide +kernel
theorem dX8_count_81 : decode cX8_count 81 = .ok (.getfield 35, 3) := by decide +kernel
theorem dX8_count_84 : decode cX8_count 84 = .ok (.invokevirtual 241, 3) := by decide +kernel
theorem dX8_count_87 : decode cX8_count 87 = .ok (.ireturn, 1) := by decide +kernel
theorem dX8_count_88 : decode cX8_count 88 = .ok (.aload_n 0, 1) := by decide +kernel
theorem dX8_count_89 : decode cX8_count 89 = .ok (.getfield 35, 3) := by decide +kernel
theorem dX8_count_92 : decode cX8_count 92 = .ok (.invokevirtual 244, 3) := by decide +kernel
theorem dX8_count_95 : decode cX8_count 95 = .ok (.ireturn, 1) := by decide +kernel
theorem dX8_count_96 : decode cX8_count 96 = .ok (.aload_n 0, 1) := by decide +kernel
theorem dX8_count_97 : decode cX8_count 97 = .ok (.getfield 35, 3) := by decide +kernel
theorem dX8_count_100 : decode cX8_count 100 = .ok (.iconst 0, 1) := by decide +kernel
theorem dX8_count_101 : decode cX8_count 101 = .ok (.invokevirtual 165, 3) := by decide +kernel
theorem dX8_count_104 : decode cX8_count 104 = .ok (.ireturn, 1) := by decide +kernel
theorem dX8_count_105 : decode cX8_count 105 = .ok (.aload_n 0, 1) := by decide +kernel
theorem dX8_count_106 : decode cX8_count 106 = .ok (.getfield 51, 3) := by decide +kernel
theorem dX8_count_109 : decode cX8_count 109 = .ok (.invokevirtual 217, 3) := by decide +kernel
theorem dX8_count_112 : decode cX8_count 112 = .ok (.aload_n 0, 1) := by decide +kernel
theorem dX8_count_113 : decode cX8_count 113 = .ok (.getfield 51, 3) := by decide +kernel
theorem dX8_count_116 : decode cX8_count 116 = .ok (.invokevirtual 226, 3) := by decide +kernel
theorem dX8_count_119 : decode cX8_count 119 = .ok (.aload_n 0, 1) := by decide +kernel
theorem dX8_count_120 : decode cX8_count 120 = .ok (.getfield 51, 3) := by decide +kernel
theorem dX8_count_123 : decode cX8_count 123 = .ok (.invokevirtual 229, 3) := by decide +kernel
theorem dX8_count_126 : decode cX8_count 126 = .ok (.ireturn, 1) := by decide +kernel
theorem dX8_count_127 : decode cX8_count 127 = .ok (.aload_n 0, 1) := by decide +kernel
theorem dX8_count_128 : decode cX8_count 128 = .ok (.getfield 26, 3) := by decide +kernel
theorem dX8_count_131 : decode cX8_count 131 = .ok (.invokevirtual 129, 3) := by decide +kernel
theorem dX8_count_134 : decode cX8_count 134 = .ok (.ireturn, 1) := by decide +kernel
theorem dX8_count_135 : decode cX8_count 135 = .ok (.aload_n 0, 1) := by decide +kernel
theorem dX8_count_136 : decode cX8_count 136 = .ok (.getfield 19, 3) := by decide +kernel
theorem dX8_count_139 : decode cX8_count 139 = .ok (.invokevirtual 112, 3) := by decide +kernel
theorem dX8_count_142 : decode cX8_count 142 = .ok (.ireturn, 1) := by decide +kernel
theorem dX8_count_143 : decode cX8_count 143 = .ok (.bipush (-2), 2) := by decide +kernel
theorem dX8_count_145 : decode cX8_count 145 = .ok (.ireturn, 1) := by decide +kernel
theorem dX8_lookAround_0 : decode cX8_lookAround 0 = .ok (.aload_n 0, 1) := by decide +kernel
theorem dX8_lookAround_1 : decode cX8_lookAround 1 = .ok (.getfield 35, 3) := by decide +kernel
theorem dX8_lookAround_4 : decode cX8_lookAround 4 = .ok (.invokevirtual 247, 3) := by decide +kernel
theorem dX8_lookAround_7 : decode cX8_lookAround 7 = .ok (.aload_n 0, 1) := by decide +kernel
theorem dX8_lookAround_8 : decode cX8_lookAround 8 = .ok (.getfield 44, 3) := by decide +kernel
theorem dX8_lookAround_11 : decode cX8_lookAround 11 = .ok (.invokevirtual 250, 3) := by decide +kernel
theorem dX8_lookAround_14 : decode cX8_lookAround 14 = .ok (.return_, 1) := by decide +kernel
theorem dX8_orNone_0 : decode cX8_orNone 0 = .ok (.iload_n 0, 1) := by decide +kernel
theorem dX8_orNone_1 : decode cX8_orNone 1 = .ok (.iconst (-1), 1) := by decide +kernel
theorem dX8_orNone_2 : decode cX8_orNone 2 = .ok (.if_icmp .ne 8, 3) := by decide +kernel
theorem dX8_orNone_5 : decode cX8_orNone 5 = .ok (.bipush (-5), 2) := by decide +kernel
theorem dX8_orNone_7 : decode cX8_orNone 7 = .ok (.goto 4, 3) := by decide +kernel
theorem dX8_orNone_10 : decode cX8_orNone 10 = .ok (.iload_n 0, 1) := by decide +kernel
theorem dX8_orNone_11 : decode cX8_orNone 11 = .ok (.ireturn, 1) := by decide +kernel
theorem dX8_noFloat_0 : decode cX8_noFloat 0 = .ok (.ldc 251, 2) := by decide +kernel
theorem dX8_noFloat_2 : decode cX8_noFloat 2 = .ok (.freturn, 1) := by decide +kernel
theorem dX8_isLength_0 : decode cX8_isLength 0 = .ok (.iload_n 0, 1) := by decide +kernel
theorem dX8_isLength_1 : decode cX8_isLength 1 = .ok (.ifCond .lt 13, 3) := by decide +kernel
theorem dX8_isLength_4 : decode cX8_isLength 4 = .ok (.iload_n 0, 1) := by decide +kernel
theorem dX8_isLength_5 : decode cX8_isLength 5 = .ok (.ldc 252, 2) := by decide +kernel
theorem dX8_isLength_7 : decode cX8_isLength 7 = .ok (.if_icmp .gt 7, 3) := by decide +kernel
theorem dX8_isLength_10 : decode cX8_isLength 10 = .ok (.iconst 1, 1) := by decide +kernel
theorem dX8_isLength_11 : decode cX8_isLength 11 = .ok (.goto 4, 3) := by decide +kernel
theorem dX8_isLength_14 : decode cX8_isLength 14 = .ok (.iconst 0, 1) := by decide +kernel
theorem dX8_isLength_15 : decode cX8_isLength 15 = .ok (.ireturn, 1) := by decide +kernel
theorem dX8_toFloat_0 : decode cX8_toFloat 0 = .ok (.iload_n 0, 1) := by decide +kernel
theorem dX8_toFloat_1 : decode cX8_toFloat 1 = .ok (.bipush 23, 2) := by decide +kernel
theorem dX8_toFloat_3 : decode cX8_toFloat 3 = .ok (.ishr, 1) := by decide +kernel
theorem dX8_toFloat_4 : decode cX8_toFloat 4 = .ok (.istore_n 1, 1) := by decide +kernel
theorem dX8_toFloat_5 : decode cX8_toFloat 5 = .ok (.iload_n 0, 1) := by decide +kernel
theorem dX8_toFloat_6 : decode cX8_toFloat 6 = .ok (.ldc 253, 2) := by decide +kernel
theorem dX8_toFloat_8 : decode cX8_toFloat 8 = .ok (.iand, 1) := by decide +kernel
theorem dX8_toFloat_9 : decode cX8_toFloat 9 = .ok (.istore_n 2, 1) := by decide +kernel
theorem dX8_toFloat_10 : decode cX8_toFloat 10 = .ok (.iload_n 1, 1) := by decide +kernel
theorem dX8_toFloat_11 : decode cX8_toFloat 11 = .ok (.ifCond .ne 8, 3) := by decide +kernel
theorem dX8_toFloat_14 : decode cX8_toFloat 14 = .ok (.iload_n 2, 1) := by decide +kernel
theorem dX8_toFloat_15 : decode cX8_toFloat 15 = .ok (.i2f, 1) := by decide +kernel
theorem dX8_toFloat_16 : decode cX8_toFloat 16 = .ok (.goto 8, 3) := by decide +kernel
theorem dX8_toFloat_19 : decode cX8_toFloat 19 = .ok (.iload_n 2, 1) := by decide +kernel
theorem dX8_toFloat_20 : decode cX8_toFloat 20 = .ok (.ldc 254, 2) := by decide +kernel
theorem dX8_toFloat_22 : decode cX8_toFloat 22 = .ok (.iadd, 1) := by decide +kernel
theorem dX8_toFloat_23 : decode cX8_toFloat 23 = .ok (.i2f, 1) := by decide +kernel
theorem dX8_toFloat_24 : decode cX8_toFloat 24 = .ok (.fstore_n 3, 1) := by decide +kernel
theorem dX8_toFloat_25 : decode cX8_toFloat 25 = .ok (.iload_n 1, 1) := by decide +kernel
theorem dX8_toFloat_26 : decode cX8_toFloat 26 = .ok (.ifCond .ne 7, 3) := by decide +kernel
theorem dX8_toFloat_29 : decode cX8_toFloat 29 = .ok (.iconst 1, 1) := by decide +kernel
theorem dX8_toFloat_30 : decode cX8_toFloat 30 = .ok (.goto 4, 3) := by decide +kernel
theorem dX8_toFloat_33 : decode cX8_toFloat 33 = .ok (.iload_n 1, 1) := by decide +kernel
theorem dX8_toFloat_34 : decode cX8_toFloat 34 = .ok (.istore 4, 2) := by decide +kernel
theorem dX8_toFloat_36 : decode cX8_toFloat 36 = .ok (.iload 4, 2) := by decide +kernel
theorem dX8_toFloat_38 : decode cX8_toFloat 38 = .ok (.sipush 150, 3) := by decide +kernel
theorem dX8_toFloat_41 : decode cX8_toFloat 41 = .ok (.if_icmp .ge 14, 3) := by decide +kernel
theorem dX8_toFloat_44 : decode cX8_toFloat 44 = .ok (.fload_n 3, 1) := by decide +kernel
theorem dX8_toFloat_45 : decode cX8_toFloat 45 = .ok (.ldc 255, 2) := by decide +kernel
theorem dX8_toFloat_47 : decode cX8_toFloat 47 = .ok (.fmul, 1) := by decide +kernel
theorem dX8_toFloat_48 : decode cX8_toFloat 48 = .ok (.fstore_n 3, 1) := by decide +kernel
theorem dX8_toFloat_49 : decode cX8_toFloat 49 = .ok (.iinc 4 1, 3) := by decide +kernel
theorem dX8_toFloat_52 : decode cX8_toFloat 52 = .ok (.goto (-16), 3) := by decide +kernel
theorem dX8_toFloat_55 : decode cX8_toFloat 55 = .ok (.fload_n 3, 1) := by decide +kernel
theorem dX8_toFloat_56 : decode cX8_toFloat 56 = .ok (.freturn, 1) := by decide +kernel
theorem dJ6_bitCount_0f7a4_0 : decode cJ6_bitCount_0f7a4 0 = .ok (.iload_n 0, 1) := by decide +kernel
theorem dJ6_bitCount_0f7a4_1 : decode cJ6_bitCount_0f7a4 1 = .ok (.iload_n 0, 1) := by decide +kernel
theorem dJ6_bitCount_0f7a4_2 : decode cJ6_bitCount_0f7a4 2 = .ok (.iconst 1, 1) := by decide +kernel
theorem dJ6_bitCount_0f7a4_3 : decode cJ6_bitCount_0f7a4 3 = .ok (.iushr, 1) := by decide +kernel
theorem dJ6_bitCount_0f7a4_4 : decode cJ6_bitCount_0f7a4 4 = .ok (.ldc_w 265, 3) := by decide +kernel
theorem dJ6_bitCount_0f7a4_7 : decode cJ6_bitCount_0f7a4 7 = .ok (.iand, 1) := by decide +kernel
theorem dJ6_bitCount_0f7a4_8 : decode cJ6_bitCount_0f7a4 8 = .ok (.isub, 1) := by decide +kernel
theorem dJ6_bitCount_0f7a4_9 : decode cJ6_bitCount_0f7a4 9 = .ok (.istore_n 0, 1) := by decide +kernel
theorem dJ6_bitCount_0f7a4_10 : decode cJ6_bitCount_0f7a4 10 = .ok (.iload_n 0, 1) := by decide +kernel
theorem dJ6_bitCount_0f7a4_11 : decode cJ6_bitCount_0f7a4 11 = .ok (.ldc_w 266, 3) := by decide +kernel
theorem dJ6_bitCount_0f7a4_14 : decode cJ6_bitCount_0f7a4 14 = .ok (.iand, 1) := by decide +kernel
theorem dJ6_bitCount_0f7a4_15 : decode cJ6_bitCount_0f7a4 15 = .ok (.iload_n 0, 1) := by decide +kernel
theorem dJ6_bitCount_0f7a4_16 : decode cJ6_bitCount_0f7a4 16 = .ok (.iconst 2, 1) := by decide +kernel
theorem dJ6_bitCount_0f7a4_17 : decode cJ6_bitCount_0f7a4 17 = .ok (.iushr, 1) := by decide +kernel
theorem dJ6_bitCount_0f7a4_18 : decode cJ6_bitCount_0f7a4 18 = .ok (.ldc_w 266, 3) := by decide +kernel
theorem dJ6_bitCount_0f7a4_21 : decode cJ6_bitCount_0f7a4 21 = .ok (.iand, 1) := by decide +kernel
theorem dJ6_bitCount_0f7a4_22 : decode cJ6_bitCount_0f7a4 22 = .ok (.iadd, 1) := by decide +kernel
theorem dJ6_bitCount_0f7a4_23 : decode cJ6_bitCount_0f7a4 23 = .ok (.istore_n 0, 1) := by decide +kernel
theorem dJ6_bitCount_0f7a4_24 : decode cJ6_bitCount_0f7a4 24 = .ok (.iload_n 0, 1) := by decide +kernel
theorem dJ6_bitCount_0f7a4_25 : decode cJ6_bitCount_0f7a4 25 = .ok (.iload_n 0, 1) := by decide +kernel
theorem dJ6_bitCount_0f7a4_26 : decode cJ6_bitCount_0f7a4 26 = .ok (.iconst 4, 1) := by decide +kernel
theorem dJ6_bitCount_0f7a4_27 : decode cJ6_bitCount_0f7a4 27 = .ok (.iushr, 1) := by decide +kernel
theorem dJ6_bitCount_0f7a4_28 : decode cJ6_bitCount_0f7a4 28 = .ok (.iadd, 1) := by decide +kernel
theorem dJ6_bitCount_0f7a4_29 : decode cJ6_bitCount_0f7a4 29 = .ok (.ldc_w 267, 3) := by decide +kernel
theorem dJ6_bitCount_0f7a4_32 : decode cJ6_bitCount_0f7a4 32 = .ok (.iand, 1) := by decide +kernel
theorem dJ6_bitCount_0f7a4_33 : decode cJ6_bitCount_0f7a4 33 = .ok (.istore_n 0, 1) := by decide +kernel
theorem dJ6_bitCount_0f7a4_34 : decode cJ6_bitCount_0f7a4 34 = .ok (.iload_n 0, 1) := by decide +kernel
theorem dJ6_bitCount_0f7a4_35 : decode cJ6_bitCount_0f7a4 35 = .ok (.iload_n 0, 1) := by decide +kernel
theorem dJ6_bitCount_0f7a4_36 : decode cJ6_bitCount_0f7a4 36 = .ok (.bipush 8, 2) := by decide +kernel
theorem dJ6_bitCount_0f7a4_38 : decode cJ6_bitCount_0f7a4 38 = .ok (.iushr, 1) := by decide +kernel
theorem dJ6_bitCount_0f7a4_39 : decode cJ6_bitCount_0f7a4 39 = .ok (.iadd, 1) := by decide +kernel
theorem dJ6_bitCount_0f7a4_40 : decode cJ6_bitCount_0f7a4 40 = .ok (.istore_n 0, 1) := by decide +kernel
theorem dJ6_bitCount_0f7a4_41 : decode cJ6_bitCount_0f7a4 41 = .ok (.iload_n 0, 1) := by decide +kernel
theorem dJ6_bitCount_0f7a4_42 : decode cJ6_bitCount_0f7a4 42 = .ok (.iload_n 0, 1) := by decide +kernel
theorem dJ6_bitCount_0f7a4_43 : decode cJ6_bitCount_0f7a4 43 = .ok (.bipush 16, 2) := by decide +kernel
theorem dJ6_bitCount_0f7a4_45 : decode cJ6_bitCount_0f7a4 45 = .ok (.iushr, 1) := by decide +kernel
theorem dJ6_bitCount_0f7a4_46 : decode cJ6_bitCount_0f7a4 46 = .ok (.iadd, 1) := by decide +kernel
theorem dJ6_bitCount_0f7a4_47 : decode cJ6_bitCount_0f7a4 47 = .ok (.istore_n 0, 1) := by decide +kernel
theorem dJ6_bitCount_0f7a4_48 : decode cJ6_bitCount_0f7a4 48 = .ok (.iload_n 0, 1) := by decide +kernel
theorem dJ6_bitCount_0f7a4_49 : decode cJ6_bitCount_0f7a4 49 = .ok (.bipush 63, 2) := by decide +kernel
theorem dJ6_bitCount_0f7a4_51 : decode cJ6_bitCount_0f7a4 51 = .ok (.iand, 1) := by decide +kernel
theorem dJ6_bitCount_0f7a4_52 : decode cJ6_bitCount_0f7a4 52 = .ok (.ireturn, 1) := by decide +kernel
theorem dJ9_min_7cf53_0 : decode cJ9_min_7cf53 0 = .ok (.iload_n 0, 1) := by decide +kernel
theorem dJ9_min_7cf53_1 : decode cJ9_min_7cf53 1 = .ok (.iload_n 1, 1) := by decide +kernel
theorem dJ9_min_7cf53_2 : decode cJ9_min_7cf53 2 = .ok (.if_icmp .gt 7, 3) := by decide +kernel
theorem dJ9_min_7cf53_5 : decode cJ9_min_7cf53 5 = .ok (.iload_n 0, 1) := by decide +kernel
theorem dJ9_min_7cf53_6 : decode cJ9_min_7cf53 6 = .ok (.goto 4, 3) := by decide +kernel
theorem dJ9_min_7cf53_9 : decode cJ9_min_7cf53 9 = .ok (.iload_n 1, 1) := by decide +kernel
theorem dJ9_min_7cf53_10 : decode cJ9_min_7cf53 10 = .ok (.ireturn, 1) := by decide +kernel
end
section
theorem dL_cell_0 : decode cL_cell 0 = .ok (.iload_n 1, 1) := by decide +kernel
theorem dL_cell_1 : decode cL_cell 1 = .ok (.aload_n 0, 1) := by decide +kernel
theorem dL_cell_2 : decode cL_cell 2 = .ok (.arraylength, 1) := by decide +kernel
theorem dL_cell_3 : decode cL_cell 3 = .ok (.if_icmp .ge 9, 3) := by decide +kernel
theorem dL_cell_6 : decode cL_cell 6 = .ok (.aload_n 0, 1) := by decide +kernel
theorem dL_cell_7 : decode cL_cell 7 = .ok (.iload_n 1, 1) := by decide +kernel
theorem dL_cell_8 : decode cL_cell 8 = .ok (.iaload, 1) := by decide +kernel
theorem dL_cell_9 : decode cL_cell 9 = .ok (.goto 16, 3) := by decide +kernel
theorem dL_cell_12 : decode cL_cell 12 = .ok (.sipush 7919, 3) := by decide +kernel
theorem dL_cell_15 : decode cL_cell 15 = .ok (.iload_n 1, 1) := by decide +kernel
theorem dL_cell_16 : decode cL_cell 16 = .ok (.bipush 43, 2) := by decide +kernel
theorem dL_cell_18 : decode cL_cell 18 = .ok (.iadd, 1) := by decide +kernel
theorem dL_cell_19 : decode cL_cell 19 = .ok (.imul, 1) := by decide +kernel
theorem dL_cell_20 : decode cL_cell 20 = .ok (.iload_n 1, 1) := by decide +kernel
theorem dL_cell_21 : decode cL_cell 21 = .ok (.bipush 73, 2) := by decide +kernel
theorem dL_cell_23 : decode cL_cell 23 = .ok (.iadd, 1) := by decide +kernel
theorem dL_cell_24 : decode cL_cell 24 = .ok (.imul, 1) := by decide +kernel
theorem dL_cell_25 : decode cL_cell 25 = .ok (.ireturn, 1) := by decide +kernel
theorem dL_low_0 : decode cL_low 0 = .ok (.iload_n 0, 1) := by decide +kernel
theorem dL_low_1 : decode cL_low 1 = .ok (.ldc 7, 2) := by decide +kernel
theorem dL_low_3 : decode cL_low 3 = .ok (.iand, 1) := by decide +kernel
theorem dL_low_4 : decode cL_low 4 = .ok (.iload_n 1, 1) := by decide +kernel
theorem dL_low_5 : decode cL_low 5 = .ok (.irem, 1) := by decide +kernel
theorem dL_low_6 : decode cL_low 6 = .ok (.ireturn, 1) := by decide +kernel
theorem dL_all_0 : decode cL_all 0 = .ok (.ldc2_w 8, 3) := by decide +kernel
theorem dL_all_3 : decode cL_all 3 = .ok (.lstore_n 1, 1) := by decide +kernel
theorem dL_all_4 : decode cL_all 4 = .ok (.iconst 0, 1) := by decide +kernel
theorem dL_all_5 : decode cL_all 5 = .ok (.istore_n 3, 1) := by decide +kernel
theorem dL_all_6 : decode cL_all 6 = .ok (.iload_n 3, 1) := by decide +kernel
theorem dL_all_7 : decode cL_all 7 = .ok (.bipush 8, 2) := by decide +kernel
theorem dL_all_9 : decode cL_all 9 = .ok (.if_icmp .ge 22, 3) := by decide +kernel
theorem dL_all_12 : decode cL_all 12 = .ok (.ldc2_w 10, 3) := by decide +kernel
theorem dL_all_15 : decode cL_all 15 = .ok (.lload_n 1, 1) := by decide +kernel
theorem dL_all_16 : decode cL_all 16 = .ok (.lmul, 1) := by decide +kernel
theorem dL_all_17 : decode cL_all 17 = .ok (.aload_n 0, 1) := by decide +kernel
theorem dL_all_18 : decode cL_all 18 = .ok (.iload_n 3, 1) := by decide +kernel
theorem dL_all_19 : decode cL_all 19 = .ok (.invokevirtual 12, 3) := by decide +kernel
theorem dL_all_22 : decode cL_all 22 = .ok (.i2l, 1) := by decide +kernel
theorem dL_all_23 : decode cL_all 23 = .ok (.ladd, 1) := by decide +kernel
theorem dL_all_24 : decode cL_all 24 = .ok (.lstore_n 1, 1) := by decide +kernel
theorem dL_all_25 : decode cL_all 25 = .ok (.iinc 3 1, 3) := by decide +kernel
theorem dL_all_28 : decode cL_all 28 = .ok (.goto (-22), 3) := by decide +kernel
theorem dL_all_31 : decode cL_all 31 = .ok (.iconst 0, 1) := by decide +kernel
theorem dL_all_32 : decode cL_all 32 = .ok (.istore_n 3, 1) := by decide +kernel
theorem dL_all_33 : decode cL_all 33 = .ok (.iload_n 3, 1) := by decide +kernel
theorem dL_all_34 : decode cL_all 34 = .ok (.aload_n 0, 1) := by decide +kernel
theorem dL_all_35 : decode cL_all 35 = .ok (.iconst 1, 1) := by decide +kernel
theorem dL_all_36 : decode cL_all 36 = .ok (.invokevirtual 12, 3) := by decide +kernel
theorem dL_all_39 : decode cL_all 39 = .ok (.if_icmp .ge 64, 3) := by decide +kernel
theorem dL_all_42 : decode cL_all 42 = .ok (.iconst 0, 1) := by decide +kernel
theorem dL_all_43 : decode cL_all 43 = .ok (.istore 4, 2) := by decide +kernel
theorem dL_all_45 : decode cL_all 45 = .ok (.iload 4, 2) := by decide +kernel
theorem dL_all_47 : decode cL_all 47 = .ok (.bipush 10, 2) := by decide +kernel
theorem dL_all_49 : decode cL_all 49 = .ok (.if_icmp .ge 24, 3) := by decide +kernel
theorem dL_all_52 : decode cL_all 52 = .ok (.ldc2_w 10, 3) := by decide +kernel
theorem dL_all_55 : decode cL_all 55 = .ok (.lload_n 1, 1) := by decide +kernel
theorem dL_all_56 : decode cL_all 56 = .ok (.lmul, 1) := by decide +kernel
theorem dL_all_57 : decode cL_all 57 = .ok (.aload_n 0, 1) := by decide +kernel
theorem dL_all_58 : decode cL_all 58 = .ok (.iload_n 3, 1) := by decide +kernel
theorem dL_all_59 : decode cL_all 59 = .ok (.iload 4, 2) := by decide +kernel
theorem dL_all_61 : decode cL_all 61 = .ok (.invokevirtual 18, 3) := by decide +kernel
theorem dL_all_64 : decode cL_all 64 = .ok (.i2l, 1) := by decide +kernel
theorem dL_all_65 : decode cL_all 65 = .ok (.ladd, 1) := by decide +kernel
theorem dL_all_66 : decode cL_all 66 = .ok (.lstore_n 1, 1) := by decide +kernel
theorem dL_all_67 : decode cL_all 67 = .ok (.iinc 4 1, 3) := by decide +kernel
theorem dL_all_70 : decode cL_all 70 = .ok (.goto (-25), 3) := by decide +kernel
theorem dL_all_73 : decode cL_all 73 = .ok (.ldc2_w 10, 3) := by decide +kernel
theorem dL_all_76 : decode cL_all 76 = .ok (.lload_n 1, 1) := by decide +kernel
theorem dL_all_77 : decode cL_all 77 = .ok (.lmul, 1) := by decide +kernel
theorem dL_all_78 : decode cL_all 78 = .ok (.aload_n 0, 1) := by decide +kernel
theorem dL_all_79 : decode cL_all 79 = .ok (.iload_n 3, 1) := by decide +kernel
theorem dL_all_80 : decode cL_all 80 = .ok (.invokevirtual 22, 3) := by decide +kernel
theorem dL_all_83 : decode cL_all 83 = .ok (.i2l, 1) := by decide +kernel
theorem dL_all_84 : decode cL_all 84 = .ok (.ladd, 1) := by decide +kernel
theorem dL_all_85 : decode cL_all 85 = .ok (.ldc2_w 25, 3) := by decide +kernel
theorem dL_all_88 : decode cL_all 88 = .ok (.aload_n 0, 1) := by decide +kernel
theorem dL_all_89 : decode cL_all 89 = .ok (.iload_n 3, 1) := by decide +kernel
theorem dL_all_90 : decode cL_all 90 = .ok (.invokevirtual 27, 3) := by decide +kernel
theorem dL_all_93 : decode cL_all 93 = .ok (.i2l, 1) := by decide +kernel
theorem dL_all_94 : decode cL_all 94 = .ok (.lmul, 1) := by decide +kernel
theorem dL_all_95 : decode cL_all 95 = .ok (.ladd, 1) := by decide +kernel
theorem dL_all_96 : decode cL_all 96 = .ok (.lstore_n 1, 1) := by decide +kernel
theorem dL_all_97 : decode cL_all 97 = .ok (.iinc 3 1, 3) := by decide +kernel
theorem dL_all_100 : decode cL_all 100 = .ok (.goto (-67), 3) := by decide +kernel
theorem dL_all_103 : decode cL_all 103 = .ok (.lload_n 1, 1) := by decide +kernel
theorem dL_all_104 : decode cL_all 104 = .ok (.lreturn, 1) := by decide +kernel
theorem dL_is_0 : decode cL_is 0 = .ok (.aload_n 0, 1) := by decide +kernel
theorem dL_is_1 : decode cL_is 1 = .ok (.iload_n 1, 1) := by decide +kernel
theorem dL_is_2 : decode cL_is 2 = .ok (.iconst 1, 1) := by decide +kernel
theorem dL_is_3 : decode cL_is 3 = .ok (.invokevirtual 18, 3) := by decide +kernel
theorem dL_is_6 : decode cL_is 6 = .ok (.ifCond .lt 7, 3) := by decide +kernel
theorem dL_is_9 : decode cL_is 9 = .ok (.iconst 1, 1) := by decide +kernel
theorem dL_is_10 : decode cL_is 10 = .ok (.goto 4, 3) := by decide +kernel
theorem dL_is_13 : decode cL_is 13 = .ok (.iconst 0, 1) := by decide +kernel
theorem dL_is_14 : decode cL_is 14 = .ok (.ireturn, 1) := by decide +kernel
theorem dL_isSound_0 : decode cL_isSound 0 = .ok (.iconst 0, 1) := by decide +kernel
theorem dL_isSound_1 : decode cL_isSound 1 = .ok (.istore_n 1, 1) := by decide +kernel
theorem dL_isSound_2 : decode cL_isSound 2 = .ok (.iconst 0, 1) := by decide +kernel
theorem dL_isSound_3 : decode cL_isSound 3 = .ok (.istore_n 2, 1) := by decide +kernel
theorem dL_isSound_4 : decode cL_isSound 4 = .ok (.iconst 0, 1) := by decide +kernel
theorem dL_isSound_5 : decode cL_isSound 5 = .ok (.istore_n 3, 1) := by decide +kernel
theorem dL_isSound_6 : decode cL_isSound 6 = .ok (.iconst 0, 1) := by decide +kernel
theorem dL_isSound_7 : decode cL_isSound 7 = .ok (.istore 4, 2) := by decide +kernel
theorem dL_isSound_9 : decode cL_isSound 9 = .ok (.iconst 0, 1) := by decide +kernel
theorem dL_isSound_10 : decode cL_isSound 10 = .ok (.istore 5, 2) := by decide +kernel
theorem dL_isSound_12 : decode cL_isSound 12 = .ok (.iconst 0, 1) := by decide +kernel
theorem dL_isSound_13 : decode cL_isSound 13 = .ok (.istore 6, 2) := by decide +kernel
theorem dL_isSound_15 : decode cL_isSound 15 = .ok (.iload 6, 2) := by decide +kernel
theorem dL_isSound_17 : decode cL_isSound 17 = .ok (.aload_n 0, 1) := by decide +kernel
theorem dL_isSound_18 : decode cL_isSound 18 = .ok (.iconst 1, 1) := by decide +kernel
theorem dL_isSound_19 : decode cL_isSound 19 = .ok (.invokevirtual 12, 3) := by decide +kernel
theorem dL_isSound_22 : decode cL_isSound 22 = .ok (.if_icmp .ge 528, 3) := by decide +kernel
theorem dL_isSound_25 : decode cL_isSound 25 = .ok (.aload_n 0, 1) := by decide +kernel
theorem dL_isSound_26 : decode cL_isSound 26 = .ok (.iload 6, 2) := by decide +kernel
theorem dL_isSound_28 : decode cL_isSound 28 = .ok (.invokestatic 30, 3) := by decide +kernel
theorem dL_isSound_31 : decode cL_isSound 31 = .ok (.ifCond .eq 479, 3) := by decide +kernel
theorem dL_isSound_34 : decode cL_isSound 34 = .ok (.aload_n 0, 1) := by decide +kernel
theorem dL_isSound_35 : decode cL_isSound 35 = .ok (.iload 6, 2) := by decide +kernel
theorem dL_isSound_37 : decode cL_isSound 37 = .ok (.iconst 0, 1) := by decide +kernel
theorem dL_isSound_38 : decode cL_isSound 38 = .ok (.invokevirtual 18, 3) := by decide +kernel
theorem dL_isSound_41 : decode cL_isSound 41 = .ok (.istore 7, 2) := by decide +kernel
theorem dL_isSound_43 : decode cL_isSound 43 = .ok (.iconst 0, 1) := by decide +kernel
theorem dL_isSound_44 : decode cL_isSound 44 = .ok (.istore 8, 2) := by decide +kernel
theorem dL_isSound_46 : decode cL_isSound 46 = .ok (.iconst 1, 1) := by decide +kernel
theorem dL_isSound_47 : decode cL_isSound 47 = .ok (.istore 9, 2) := by decide +kernel
theorem dL_isSound_49 : decode cL_isSound 49 = .ok (.iconst 0, 1) := by decide +kernel
theorem dL_isSound_50 : decode cL_isSound 50 = .ok (.istore 10, 2) := by decide +kernel
theorem dL_isSound_52 : decode cL_isSound 52 = .ok (.iinc 1 1, 3) := by decide +kernel
theorem dL_isSound_55 : decode cL_isSound 55 = .ok (.aload_n 0, 1) := by decide +kernel
theorem dL_isSound_56 : decode cL_isSound 56 = .ok (.iload 6, 2) := by decide +kernel
theorem dL_isSound_58 : decode cL_isSound 58 = .ok (.iconst 1, 1) := by decide +kernel
theorem dL_isSound_59 : decode cL_isSound 59 = .ok (.invokevirtual 18, 3) := by decide +kernel
theorem dL_isSound_62 : decode cL_isSound 62 = .ok (.iload 5, 2) := by decide +kernel
theorem dL_isSound_64 : decode cL_isSound 64 = .ok (.if_icmp .le 13, 3) := by decide +kernel
theorem dL_isSound_67 : decode cL_isSound 67 = .ok (.aload_n 0, 1) := by decide +kernel
theorem dL_isSound_68 : decode cL_isSound 68 = .ok (.iload 6, 2) := by decide +kernel
theorem dL_isSound_70 : decode cL_isSound 70 = .ok (.iconst 1, 1) := by decide +kernel
theorem dL_isSound_71 : decode cL_isSound 71 = .ok (.invokevirtual 18, 3) := by decide +kernel
theorem dL_isSound_74 : decode cL_isSound 74 = .ok (.goto 5, 3) := by decide +kernel
theorem dL_isSound_77 : decode cL_isSound 77 = .ok (.iload 5, 2) := by decide +kernel
theorem dL_isSound_79 : decode cL_isSound 79 = .ok (.istore 5, 2) := by decide +kernel
theorem dL_isSound_81 : decode cL_isSound 81 = .ok (.iconst 1, 1) := by decide +kernel
theorem dL_isSound_82 : decode cL_isSound 82 = .ok (.istore 11, 2) := by decide +kernel
theorem dL_isSound_84 : decode cL_isSound 84 = .ok (.iload 11, 2) := by decide +kernel
theorem dL_isSound_86 : decode cL_isSound 86 = .ok (.aload_n 0, 1) := by decide +kernel
theorem dL_isSound_87 : decode cL_isSound 87 = .ok (.iconst 1, 1) := by decide +kernel
theorem dL_isSound_88 : decode cL_isSound 88 = .ok (.invokevirtual 12, 3) := by decide +kernel
theorem dL_isSound_91 : decode cL_isSound 91 = .ok (.if_icmp .ge 108, 3) := by decide +kernel
theorem dL_isSound_94 : decode cL_isSound 94 = .ok (.aload_n 0, 1) := by decide +kernel
theorem dL_isSound_95 : decode cL_isSound 95 = .ok (.iload 11, 2) := by decide +kernel
theorem dL_isSound_97 : decode cL_isSound 97 = .ok (.invokestatic 30, 3) := by decide +kernel
theorem dL_isSound_100 : decode cL_isSound 100 = .ok (.ifCond .eq 19, 3) := by decide +kernel
theorem dL_isSound_103 : decode cL_isSound 103 = .ok (.aload_n 0, 1) := by decide +kernel
theorem dL_isSound_104 : decode cL_isSound 104 = .ok (.iload 11, 2) := by decide +kernel
theorem dL_isSound_106 : decode cL_isSound 106 = .ok (.iconst 0, 1) := by decide +kernel
theorem dL_isSound_107 : decode cL_isSound 107 = .ok (.invokevirtual 18, 3) := by decide +kernel
theorem dL_isSound_110 : decode cL_isSound 110 = .ok (.iload 6, 2) := by decide +kernel
theorem dL_isSound_112 : decode cL_isSound 112 = .ok (.if_icmp .ne 7, 3) := by decide +kernel
theorem dL_isSound_115 : decode cL_isSound 115 = .ok (.iconst 1, 1) := by decide +kernel
theorem dL_isSound_116 : decode cL_isSound 116 = .ok (.goto 4, 3) := by decide +kernel
theorem dL_isSound_119 : decode cL_isSound 119 = .ok (.iconst 0, 1) := by decide +kernel
theorem dL_isSound_120 : decode cL_isSound 120 = .ok (.istore 12, 2) := by decide +kernel
theorem dL_isSound_122 : decode cL_isSound 122 = .ok (.iload 8, 2) := by decide +kernel
theorem dL_isSound_124 : decode cL_isSound 124 = .ok (.iload 12, 2) := by decide +kernel
theorem dL_isSound_126 : decode cL_isSound 126 = .ok (.ifCond .eq 7, 3) := by decide +kernel
theorem dL_isSound_129 : decode cL_isSound 129 = .ok (.iconst 1, 1) := by decide +kernel
theorem dL_isSound_130 : decode cL_isSound 130 = .ok (.goto 4, 3) := by decide +kernel
theorem dL_isSound_133 : decode cL_isSound 133 = .ok (.iconst 0, 1) := by decide +kernel
theorem dL_isSound_134 : decode cL_isSound 134 = .ok (.iadd, 1) := by decide +kernel
theorem dL_isSound_135 : decode cL_isSound 135 = .ok (.istore 8, 2) := by decide +kernel
theorem dL_isSound_137 : decode cL_isSound 137 = .ok (.iload 9, 2) := by decide +kernel
theorem dL_isSound_139 : decode cL_isSound 139 = .ok (.iload 12, 2) := by decide +kernel
theorem dL_isSound_141 : decode cL_isSound 141 = .ok (.ifCond .eq 13, 3) := by decide +kernel
theorem dL_isSound_144 : decode cL_isSound 144 = .ok (.aload_n 0, 1) := by decide +kernel
theorem dL_isSound_145 : decode cL_isSound 145 = .ok (.iload 11, 2) := by decide +kernel
theorem dL_isSound_147 : decode cL_isSound 147 = .ok (.iconst 4, 1) := by decide +kernel
theorem dL_isSound_148 : decode cL_isSound 148 = .ok (.invokevirtual 18, 3) := by decide +kernel
theorem dL_isSound_151 : decode cL_isSound 151 = .ok (.goto 4, 3) := by decide +kernel
theorem dL_isSound_154 : decode cL_isSound 154 = .ok (.iconst 0, 1) := by decide +kernel
theorem dL_isSound_155 : decode cL_isSound 155 = .ok (.iadd, 1) := by decide +kernel
theorem dL_isSound_156 : decode cL_isSound 156 = .ok (.istore 9, 2) := by decide +kernel
theorem dL_isSound_158 : decode cL_isSound 158 = .ok (.iload 12, 2) := by decide +kernel
theorem dL_isSound_160 : decode cL_isSound 160 = .ok (.ifCond .eq 29, 3) := by decide +kernel
theorem dL_isSound_163 : decode cL_isSound 163 = .ok (.aload_n 0, 1) := by decide +kernel
theorem dL_isSound_164 : decode cL_isSound 164 = .ok (.iload 11, 2) := by decide +kernel
theorem dL_isSound_166 : decode cL_isSound 166 = .ok (.iconst 2, 1) := by decide +kernel
theorem dL_isSound_167 : decode cL_isSound 167 = .ok (.invokevirtual 18, 3) := by decide +kernel
theorem dL_isSound_170 : decode cL_isSound 170 = .ok (.iconst 1, 1) := by decide +kernel
theorem dL_isSound_171 : decode cL_isSound 171 = .ok (.iadd, 1) := by decide +kernel
theorem dL_isSound_172 : decode cL_isSound 172 = .ok (.iload 10, 2) := by decide +kernel
theorem dL_isSound_174 : decode cL_isSound 174 = .ok (.if_icmp .le 15, 3) := by decide +kernel
theorem dL_isSound_177 : decode cL_isSound 177 = .ok (.aload_n 0, 1) := by decide +kernel
theorem dL_isSound_178 : decode cL_isSound 178 = .ok (.iload 11, 2) := by decide +kernel
theorem dL_isSound_180 : decode cL_isSound 180 = .ok (.iconst 2, 1) := by decide +kernel
theorem dL_isSound_181 : decode cL_isSound 181 = .ok (.invokevirtual 18, 3) := by decide +kernel
theorem dL_isSound_184 : decode cL_isSound 184 = .ok (.iconst 1, 1) := by decide +kernel
theorem dL_isSound_185 : decode cL_isSound 185 = .ok (.iadd, 1) := by decide +kernel
theorem dL_isSound_186 : decode cL_isSound 186 = .ok (.goto 5, 3) := by decide +kernel
theorem dL_isSound_189 : decode cL_isSound 189 = .ok (.iload 10, 2) := by decide +kernel
theorem dL_isSound_191 : decode cL_isSound 191 = .ok (.istore 10, 2) := by decide +kernel
theorem dL_isSound_193 : decode cL_isSound 193 = .ok (.iinc 11 1, 3) := by decide +kernel
theorem dL_isSound_196 : decode cL_isSound 196 = .ok (.goto (-112), 3) := by decide +kernel
theorem dL_isSound_199 : decode cL_isSound 199 = .ok (.iload 8, 2) := by decide +kernel
theorem dL_isSound_201 : decode cL_isSound 201 = .ok (.aload_n 0, 1) := by decide +kernel
theorem dL_isSound_202 : decode cL_isSound 202 = .ok (.iload 6, 2) := by decide +kernel
theorem dL_isSound_204 : decode cL_isSound 204 = .ok (.iconst 3, 1) := by decide +kernel
theorem dL_isSound_205 : decode cL_isSound 205 = .ok (.invokevirtual 18, 3) := by decide +kernel
theorem dL_isSound_208 : decode cL_isSound 208 = .ok (.if_icmp .ne 80, 3) := by decide +kernel
theorem dL_isSound_211 : decode cL_isSound 211 = .ok (.iload 9, 2) := by decide +kernel
theorem dL_isSound_213 : decode cL_isSound 213 = .ok (.aload_n 0, 1) := by decide +kernel
theorem dL_isSound_214 : decode cL_isSound 214 = .ok (.iload 6, 2) := by decide +kernel
theorem dL_isSound_216 : decode cL_isSound 216 = .ok (.iconst 4, 1) := by decide +kernel
theorem dL_isSound_217 : decode cL_isSound 217 = .ok (.invokevirtual 18, 3) := by decide +kernel
theorem dL_isSound_220 : decode cL_isSound 220 = .ok (.if_icmp .ne 68, 3) := by decide +kernel
theorem dL_isSound_223 : decode cL_isSound 223 = .ok (.iload 10, 2) := by decide +kernel
theorem dL_isSound_225 : decode cL_isSound 225 = .ok (.aload_n 0, 1) := by decide +kernel
theorem dL_isSound_226 : decode cL_isSound 226 = .ok (.iload 6, 2) := by decide +kernel
theorem dL_isSound_228 : decode cL_isSound 228 = .ok (.iconst 2, 1) := by decide +kernel
theorem dL_isSound_229 : decode cL_isSound 229 = .ok (.invokevirtual 18, 3) := by decide +kernel
theorem dL_isSound_232 : decode cL_isSound 232 = .ok (.if_icmp .ne 56, 3) := by decide +kernel
theorem dL_isSound_235 : decode cL_isSound 235 = .ok (.aload_n 0, 1) := by decide +kernel
theorem dL_isSound_236 : decode cL_isSound 236 = .ok (.iload 6, 2) := by decide +kernel
theorem dL_isSound_238 : decode cL_isSound 238 = .ok (.iconst 1, 1) := by decide +kernel
theorem dL_isSound_239 : decode cL_isSound 239 = .ok (.invokevirtual 18, 3) := by decide +kernel
theorem dL_isSound_242 : decode cL_isSound 242 = .ok (.iload 7, 2) := by decide +kernel
theorem dL_isSound_244 : decode cL_isSound 244 = .ok (.ifCond .ge 7, 3) := by decide +kernel
theorem dL_isSound_247 : decode cL_isSound 247 = .ok (.iconst 0, 1) := by decide +kernel
theorem dL_isSound_248 : decode cL_isSound 248 = .ok (.goto 12, 3) := by decide +kernel
theorem dL_isSound_251 : decode cL_isSound 251 = .ok (.aload_n 0, 1) := by decide +kernel
theorem dL_isSound_252 : decode cL_isSound 252 = .ok (.iload 7, 2) := by decide +kernel
theorem dL_isSound_254 : decode cL_isSound 254 = .ok (.iconst 1, 1) := by decide +kernel
theorem dL_isSound_255 : decode cL_isSound 255 = .ok (.invokevirtual 18, 3) := by decide +kernel
theorem dL_isSound_258 : decode cL_isSound 258 = .ok (.iconst 1, 1) := by decide +kernel
theorem dL_isSound_259 : decode cL_isSound 259 = .ok (.iadd, 1) := by decide +kernel
theorem dL_isSound_260 : decode cL_isSound 260 = .ok (.if_icmp .ne 28, 3) := by decide +kernel
theorem dL_isSound_263 : decode cL_isSound 263 = .ok (.iload 6, 2) := by decide +kernel
theorem dL_isSound_265 : decode cL_isSound 265 = .ok (.ifCond .ne 7, 3) := by decide +kernel
theorem dL_isSound_268 : decode cL_isSound 268 = .ok (.iconst 1, 1) := by decide +kernel
theorem dL_isSound_269 : decode cL_isSound 269 = .ok (.goto 4, 3) := by decide +kernel
theorem dL_isSound_272 : decode cL_isSound 272 = .ok (.iconst 0, 1) := by decide +kernel
theorem dL_isSound_273 : decode cL_isSound 273 = .ok (.iload 7, 2) := by decide +kernel
theorem dL_isSound_275 : decode cL_isSound 275 = .ok (.bipush (-5), 2) := by decide +kernel
theorem dL_isSound_277 : decode cL_isSound 277 = .ok (.if_icmp .ne 7, 3) := by decide +kernel
theorem dL_isSound_280 : decode cL_isSound 280 = .ok (.iconst 1, 1) := by decide +kernel
theorem dL_isSound_281 : decode cL_isSound 281 = .ok (.goto 4, 3) := by decide +kernel
theorem dL_isSound_284 : decode cL_isSound 284 = .ok (.iconst 0, 1) := by decide +kernel
theorem dL_isSound_285 : decode cL_isSound 285 = .ok (.if_icmp .eq 5, 3) := by decide +kernel
theorem dL_isSound_288 : decode cL_isSound 288 = .ok (.iconst 0, 1) := by decide +kernel
theorem dL_isSound_289 : decode cL_isSound 289 = .ok (.ireturn, 1) := by decide +kernel
theorem dL_isSound_290 : decode cL_isSound 290 = .ok (.aload_n 0, 1) := by decide +kernel
theorem dL_isSound_291 : decode cL_isSound 291 = .ok (.iload 6, 2) := by decide +kernel
theorem dL_isSound_293 : decode cL_isSound 293 = .ok (.iconst 5, 1) := by decide +kernel
theorem dL_isSound_294 : decode cL_isSound 294 = .ok (.invokevirtual 18, 3) := by decide +kernel
theorem dL_isSound_297 : decode cL_isSound 297 = .ok (.istore 11, 2) := by decide +kernel
theorem dL_isSound_299 : decode cL_isSound 299 = .ok (.iload 8, 2) := by decide +kernel
theorem dL_isSound_301 : decode cL_isSound 301 = .ok (.ifCond .ne 13, 3) := by decide +kernel
theorem dL_isSound_304 : decode cL_isSound 304 = .ok (.iload 11, 2) := by decide +kernel
theorem dL_isSound_306 : decode cL_isSound 306 = .ok (.bipush (-5), 2) := by decide +kernel
theorem dL_isSound_308 : decode cL_isSound 308 = .ok (.if_icmp .eq 72, 3) := by decide +kernel
theorem dL_isSound_311 : decode cL_isSound 311 = .ok (.goto 67, 3) := by decide +kernel
theorem dL_isSound_314 : decode cL_isSound 314 = .ok (.aload_n 0, 1) := by decide +kernel
theorem dL_isSound_315 : decode cL_isSound 315 = .ok (.iload 11, 2) := by decide +kernel
theorem dL_isSound_317 : decode cL_isSound 317 = .ok (.iconst 0, 1) := by decide +kernel
theorem dL_isSound_318 : decode cL_isSound 318 = .ok (.invokevirtual 18, 3) := by decide +kernel
theorem dL_isSound_321 : decode cL_isSound 321 = .ok (.iload 6, 2) := by decide +kernel
theorem dL_isSound_323 : decode cL_isSound 323 = .ok (.if_icmp .ne 55, 3) := by decide +kernel
theorem dL_isSound_326 : decode cL_isSound 326 = .ok (.aload_n 0, 1) := by decide +kernel
theorem dL_isSound_327 : decode cL_isSound 327 = .ok (.iload 11, 2) := by decide +kernel
theorem dL_isSound_329 : decode cL_isSound 329 = .ok (.iconst 2, 1) := by decide +kernel
theorem dL_isSound_330 : decode cL_isSound 330 = .ok (.invokevirtual 18, 3) := by decide +kernel
theorem dL_isSound_333 : decode cL_isSound 333 = .ok (.iload 10, 2) := by decide +kernel
theorem dL_isSound_335 : decode cL_isSound 335 = .ok (.iconst 1, 1) := by decide +kernel
theorem dL_isSound_336 : decode cL_isSound 336 = .ok (.isub, 1) := by decide +kernel
theorem dL_isSound_337 : decode cL_isSound 337 = .ok (.if_icmp .ne 41, 3) := by decide +kernel
theorem dL_isSound_340 : decode cL_isSound 340 = .ok (.aload_n 0, 1) := by decide +kernel
theorem dL_isSound_341 : decode cL_isSound 341 = .ok (.iload 11, 2) := by decide +kernel
theorem dL_isSound_343 : decode cL_isSound 343 = .ok (.bipush 6, 2) := by decide +kernel
theorem dL_isSound_345 : decode cL_isSound 345 = .ok (.invokevirtual 18, 3) := by decide +kernel
theorem dL_isSound_348 : decode cL_isSound 348 = .ok (.aload_n 0, 1) := by decide +kernel
theorem dL_isSound_349 : decode cL_isSound 349 = .ok (.iload 6, 2) := by decide +kernel
theorem dL_isSound_351 : decode cL_isSound 351 = .ok (.bipush 6, 2) := by decide +kernel
theorem dL_isSound_353 : decode cL_isSound 353 = .ok (.invokevirtual 18, 3) := by decide +kernel
theorem dL_isSound_356 : decode cL_isSound 356 = .ok (.if_icmp .ne 22, 3) := by decide +kernel
theorem dL_isSound_359 : decode cL_isSound 359 = .ok (.aload_n 0, 1) := by decide +kernel
theorem dL_isSound_360 : decode cL_isSound 360 = .ok (.iload 11, 2) := by decide +kernel
theorem dL_isSound_362 : decode cL_isSound 362 = .ok (.bipush 7, 2) := by decide +kernel
theorem dL_isSound_364 : decode cL_isSound 364 = .ok (.invokevirtual 18, 3) := by decide +kernel
theorem dL_isSound_367 : decode cL_isSound 367 = .ok (.aload_n 0, 1) := by decide +kernel
theorem dL_isSound_368 : decode cL_isSound 368 = .ok (.iload 6, 2) := by decide +kernel
theorem dL_isSound_370 : decode cL_isSound 370 = .ok (.bipush 7, 2) := by decide +kernel
theorem dL_isSound_372 : decode cL_isSound 372 = .ok (.invokevirtual 18, 3) := by decide +kernel
theorem dL_isSound_375 : decode cL_isSound 375 = .ok (.if_icmp .eq 5, 3) := by decide +kernel
theorem dL_isSound_378 : decode cL_isSound 378 = .ok (.iconst 0, 1) := by decide +kernel
theorem dL_isSound_379 : decode cL_isSound 379 = .ok (.ireturn, 1) := by decide +kernel
theorem dL_isSound_380 : decode cL_isSound 380 = .ok (.iload_n 2, 1) := by decide +kernel
theorem dL_isSound_381 : decode cL_isSound 381 = .ok (.iload 8, 2) := by decide +kernel
theorem dL_isSound_383 : decode cL_isSound 383 = .ok (.ifCond .ne 7, 3) := by decide +kernel
theorem dL_isSound_386 : decode cL_isSound 386 = .ok (.iconst 1, 1) := by decide +kernel
theorem dL_isSound_387 : decode cL_isSound 387 = .ok (.goto 4, 3) := by decide +kernel
theorem dL_isSound_390 : decode cL_isSound 390 = .ok (.iconst 0, 1) := by decide +kernel
theorem dL_isSound_391 : decode cL_isSound 391 = .ok (.iadd, 1) := by decide +kernel
theorem dL_isSound_392 : decode cL_isSound 392 = .ok (.istore_n 2, 1) := by decide +kernel
theorem dL_isSound_393 : decode cL_isSound 393 = .ok (.iload_n 3, 1) := by decide +kernel
theorem dL_isSound_394 : decode cL_isSound 394 = .ok (.iload 8, 2) := by decide +kernel
theorem dL_isSound_396 : decode cL_isSound 396 = .ok (.ifCond .ne 14, 3) := by decide +kernel
theorem dL_isSound_399 : decode cL_isSound 399 = .ok (.aload_n 0, 1) := by decide +kernel
theorem dL_isSound_400 : decode cL_isSound 400 = .ok (.iload 6, 2) := by decide +kernel
theorem dL_isSound_402 : decode cL_isSound 402 = .ok (.bipush 9, 2) := by decide +kernel
theorem dL_isSound_404 : decode cL_isSound 404 = .ok (.invokevirtual 18, 3) := by decide +kernel
theorem dL_isSound_407 : decode cL_isSound 407 = .ok (.goto 4, 3) := by decide +kernel
theorem dL_isSound_410 : decode cL_isSound 410 = .ok (.iconst 0, 1) := by decide +kernel
theorem dL_isSound_411 : decode cL_isSound 411 = .ok (.iadd, 1) := by decide +kernel
theorem dL_isSound_412 : decode cL_isSound 412 = .ok (.istore_n 3, 1) := by decide +kernel
theorem dL_isSound_413 : decode cL_isSound 413 = .ok (.iload 4, 2) := by decide +kernel
theorem dL_isSound_415 : decode cL_isSound 415 = .ok (.iload 8, 2) := by decide +kernel
theorem dL_isSound_417 : decode cL_isSound 417 = .ok (.ifCond .ne 14, 3) := by decide +kernel
theorem dL_isSound_420 : decode cL_isSound 420 = .ok (.aload_n 0, 1) := by decide +kernel
theorem dL_isSound_421 : decode cL_isSound 421 = .ok (.iload 6, 2) := by decide +kernel
theorem dL_isSound_423 : decode cL_isSound 423 = .ok (.bipush 8, 2) := by decide +kernel
theorem dL_isSound_425 : decode cL_isSound 425 = .ok (.invokevirtual 18, 3) := by decide +kernel
theorem dL_isSound_428 : decode cL_isSound 428 = .ok (.goto 4, 3) := by decide +kernel
theorem dL_isSound_431 : decode cL_isSound 431 = .ok (.iconst 0, 1) := by decide +kernel
theorem dL_isSound_432 : decode cL_isSound 432 = .ok (.iadd, 1) := by decide +kernel
theorem dL_isSound_433 : decode cL_isSound 433 = .ok (.istore 4, 2) := by decide +kernel
theorem dL_isSound_435 : decode cL_isSound 435 = .ok (.aload_n 0, 1) := by decide +kernel
theorem dL_isSound_436 : decode cL_isSound 436 = .ok (.iload 6, 2) := by decide +kernel
theorem dL_isSound_438 : decode cL_isSound 438 = .ok (.invokevirtual 22, 3) := by decide +kernel
theorem dL_isSound_441 : decode cL_isSound 441 = .ok (.istore 12, 2) := by decide +kernel
theorem dL_isSound_443 : decode cL_isSound 443 = .ok (.iload 12, 2) := by decide +kernel
theorem dL_isSound_445 : decode cL_isSound 445 = .ok (.bipush (-5), 2) := by decide +kernel
theorem dL_isSound_447 : decode cL_isSound 447 = .ok (.if_icmp .ne 7, 3) := by decide +kernel
theorem dL_isSound_450 : decode cL_isSound 450 = .ok (.iconst 1, 1) := by decide +kernel
theorem dL_isSound_451 : decode cL_isSound 451 = .ok (.goto 4, 3) := by decide +kernel
theorem dL_isSound_454 : decode cL_isSound 454 = .ok (.iconst 0, 1) := by decide +kernel
theorem dL_isSound_455 : decode cL_isSound 455 = .ok (.iload 9, 2) := by decide +kernel
theorem dL_isSound_457 : decode cL_isSound 457 = .ok (.bipush 15, 2) := by decide +kernel
theorem dL_isSound_459 : decode cL_isSound 459 = .ok (.if_icmp .le 7, 3) := by decide +kernel
theorem dL_isSound_462 : decode cL_isSound 462 = .ok (.iconst 1, 1) := by decide +kernel
theorem dL_isSound_463 : decode cL_isSound 463 = .ok (.goto 4, 3) := by decide +kernel
theorem dL_isSound_466 : decode cL_isSound 466 = .ok (.iconst 0, 1) := by decide +kernel
theorem dL_isSound_467 : decode cL_isSound 467 = .ok (.if_icmp .ne 38, 3) := by decide +kernel
theorem dL_isSound_470 : decode cL_isSound 470 = .ok (.iload 12, 2) := by decide +kernel
theorem dL_isSound_472 : decode cL_isSound 472 = .ok (.ifCond .le 35, 3) := by decide +kernel
theorem dL_isSound_475 : decode cL_isSound 475 = .ok (.iload 12, 2) := by decide +kernel
theorem dL_isSound_477 : decode cL_isSound 477 = .ok (.iconst 2, 1) := by decide +kernel
theorem dL_isSound_478 : decode cL_isSound 478 = .ok (.iload 9, 2) := by decide +kernel
theorem dL_isSound_480 : decode cL_isSound 480 = .ok (.imul, 1) := by decide +kernel
theorem dL_isSound_481 : decode cL_isSound 481 = .ok (.iconst 1, 1) := by decide +kernel
theorem dL_isSound_482 : decode cL_isSound 482 = .ok (.isub, 1) := by decide +kernel
theorem dL_isSound_483 : decode cL_isSound 483 = .ok (.ishr, 1) := by decide +kernel
theorem dL_isSound_484 : decode cL_isSound 484 = .ok (.iconst 1, 1) := by decide +kernel
theorem dL_isSound_485 : decode cL_isSound 485 = .ok (.if_icmp .ne 20, 3) := by decide +kernel
theorem dL_isSound_488 : decode cL_isSound 488 = .ok (.iload 12, 2) := by decide +kernel
theorem dL_isSound_490 : decode cL_isSound 490 = .ok (.iconst 1, 1) := by decide +kernel
theorem dL_isSound_491 : decode cL_isSound 491 = .ok (.iand, 1) := by decide +kernel
theorem dL_isSound_492 : decode cL_isSound 492 = .ok (.ifCond .ne 13, 3) := by decide +kernel
theorem dL_isSound_495 : decode cL_isSound 495 = .ok (.aload_n 0, 1) := by decide +kernel
theorem dL_isSound_496 : decode cL_isSound 496 = .ok (.iload 6, 2) := by decide +kernel
theorem dL_isSound_498 : decode cL_isSound 498 = .ok (.invokevirtual 36, 3) := by decide +kernel
theorem dL_isSound_501 : decode cL_isSound 501 = .ok (.iconst 1, 1) := by decide +kernel
theorem dL_isSound_502 : decode cL_isSound 502 = .ok (.if_icmp .ge 5, 3) := by decide +kernel
theorem dL_isSound_505 : decode cL_isSound 505 = .ok (.iconst 0, 1) := by decide +kernel
theorem dL_isSound_506 : decode cL_isSound 506 = .ok (.ireturn, 1) := by decide +kernel
theorem dL_isSound_507 : decode cL_isSound 507 = .ok (.goto 37, 3) := by decide +kernel
theorem dL_isSound_510 : decode cL_isSound 510 = .ok (.aload_n 0, 1) := by decide +kernel
theorem dL_isSound_511 : decode cL_isSound 511 = .ok (.iload 6, 2) := by decide +kernel
theorem dL_isSound_513 : decode cL_isSound 513 = .ok (.iconst 0, 1) := by decide +kernel
theorem dL_isSound_514 : decode cL_isSound 514 = .ok (.invokevirtual 39, 3) := by decide +kernel
theorem dL_isSound_517 : decode cL_isSound 517 = .ok (.iconst (-1), 1) := by decide +kernel
theorem dL_isSound_518 : decode cL_isSound 518 = .ok (.if_icmp .ne 24, 3) := by decide +kernel
theorem dL_isSound_521 : decode cL_isSound 521 = .ok (.aload_n 0, 1) := by decide +kernel
theorem dL_isSound_522 : decode cL_isSound 522 = .ok (.iconst 0, 1) := by decide +kernel
theorem dL_isSound_523 : decode cL_isSound 523 = .ok (.iload 6, 2) := by decide +kernel
theorem dL_isSound_525 : decode cL_isSound 525 = .ok (.invokevirtual 42, 3) := by decide +kernel
theorem dL_isSound_528 : decode cL_isSound 528 = .ok (.iconst (-1), 1) := by decide +kernel
theorem dL_isSound_529 : decode cL_isSound 529 = .ok (.if_icmp .ne 13, 3) := by decide +kernel
theorem dL_isSound_532 : decode cL_isSound 532 = .ok (.aload_n 0, 1) := by decide +kernel
theorem dL_isSound_533 : decode cL_isSound 533 = .ok (.iload 6, 2) := by decide +kernel
theorem dL_isSound_535 : decode cL_isSound 535 = .ok (.invokevirtual 36, 3) := by decide +kernel
theorem dL_isSound_538 : decode cL_isSound 538 = .ok (.iconst (-1), 1) := by decide +kernel
theorem dL_isSound_539 : decode cL_isSound 539 = .ok (.if_icmp .eq 5, 3) := by decide +kernel
theorem dL_isSound_542 : decode cL_isSound 542 = .ok (.iconst 0, 1) := by decide +kernel
theorem dL_isSound_543 : decode cL_isSound 543 = .ok (.ireturn, 1) := by decide +kernel
theorem dL_isSound_544 : decode cL_isSound 544 = .ok (.iinc 6 1, 3) := by decide +kernel
theorem dL_isSound_547 : decode cL_isSound 547 = .ok (.goto (-532), 3) := by decide +kernel
theorem dL_isSound_550 : decode cL_isSound 550 = .ok (.iload_n 1, 1) := by decide +kernel
theorem dL_isSound_551 : decode cL_isSound 551 = .ok (.aload_n 0, 1) := by decide +kernel
theorem dL_isSound_552 : decode cL_isSound 552 = .ok (.iconst 0, 1) := by decide +kernel
theorem dL_isSound_553 : decode cL_isSound 553 = .ok (.invokevirtual 12, 3) := by decide +kernel
theorem dL_isSound_556 : decode cL_isSound 556 = .ok (.if_icmp .ne 51, 3) := by decide +kernel
theorem dL_isSound_559 : decode cL_isSound 559 = .ok (.iload_n 2, 1) := by decide +kernel
theorem dL_isSound_560 : decode cL_isSound 560 = .ok (.aload_n 0, 1) := by decide +kernel
theorem dL_isSound_561 : decode cL_isSound 561 = .ok (.iconst 2, 1) := by decide +kernel
theorem dL_isSound_562 : decode cL_isSound 562 = .ok (.invokevirtual 12, 3) := by decide +kernel
theorem dL_isSound_565 : decode cL_isSound 565 = .ok (.if_icmp .ne 42, 3) := by decide +kernel
theorem dL_isSound_568 : decode cL_isSound 568 = .ok (.iload_n 2, 1) := by decide +kernel
theorem dL_isSound_569 : decode cL_isSound 569 = .ok (.aload_n 0, 1) := by decide +kernel
theorem dL_isSound_570 : decode cL_isSound 570 = .ok (.iconst 3, 1) := by decide +kernel
theorem dL_isSound_571 : decode cL_isSound 571 = .ok (.invokevirtual 12, 3) := by decide +kernel
theorem dL_isSound_574 : decode cL_isSound 574 = .ok (.if_icmp .ne 33, 3) := by decide +kernel
theorem dL_isSound_577 : decode cL_isSound 577 = .ok (.iload_n 3, 1) := by decide +kernel
theorem dL_isSound_578 : decode cL_isSound 578 = .ok (.aload_n 0, 1) := by decide +kernel
theorem dL_isSound_579 : decode cL_isSound 579 = .ok (.iconst 4, 1) := by decide +kernel
theorem dL_isSound_580 : decode cL_isSound 580 = .ok (.invokevirtual 12, 3) := by decide +kernel
theorem dL_isSound_583 : decode cL_isSound 583 = .ok (.if_icmp .ne 24, 3) := by decide +kernel
theorem dL_isSound_586 : decode cL_isSound 586 = .ok (.iload 4, 2) := by decide +kernel
theorem dL_isSound_588 : decode cL_isSound 588 = .ok (.iload_n 1, 1) := by decide +kernel
theorem dL_isSound_589 : decode cL_isSound 589 = .ok (.if_icmp .ne 18, 3) := by decide +kernel
theorem dL_isSound_592 : decode cL_isSound 592 = .ok (.iload 5, 2) := by decide +kernel
theorem dL_isSound_594 : decode cL_isSound 594 = .ok (.aload_n 0, 1) := by decide +kernel
theorem dL_isSound_595 : decode cL_isSound 595 = .ok (.bipush 6, 2) := by decide +kernel
theorem dL_isSound_597 : decode cL_isSound 597 = .ok (.invokevirtual 12, 3) := by decide +kernel
theorem dL_isSound_600 : decode cL_isSound 600 = .ok (.if_icmp .ne 7, 3) := by decide +kernel
theorem dL_isSound_603 : decode cL_isSound 603 = .ok (.iconst 1, 1) := by decide +kernel
theorem dL_isSound_604 : decode cL_isSound 604 = .ok (.goto 4, 3) := by decide +kernel
theorem dL_isSound_607 : decode cL_isSound 607 = .ok (.iconst 0, 1) := by decide +kernel
theorem dL_isSound_608 : decode cL_isSound 608 = .ok (.ireturn, 1) := by decide +kernel
theorem dL_isLooked_0 : decode cL_isLooked 0 = .ok (.aload_n 0, 1) := by decide +kernel
theorem dL_isLooked_1 : decode cL_isLooked 1 = .ok (.iload_n 1, 1) := by decide +kernel
theorem dL_isLooked_2 : decode cL_isLooked 2 = .ok (.invokestatic 30, 3) := by decide +kernel
theorem dL_isLooked_5 : decode cL_isLooked 5 = .ok (.ifCond .eq 11, 3) := by decide +kernel
theorem dL_isLooked_8 : decode cL_isLooked 8 = .ok (.aload_n 0, 1) := by decide +kernel
theorem dL_isLooked_9 : decode cL_isLooked 9 = .ok (.iload_n 2, 1) := by decide +kernel
theorem dL_isLooked_10 : decode cL_isLooked 10 = .ok (.invokestatic 30, 3) := by decide +kernel
theorem dL_isLooked_13 : decode cL_isLooked 13 = .ok (.ifCond .ne 5, 3) := by decide +kernel
theorem dL_isLooked_16 : decode cL_isLooked 16 = .ok (.iconst 1, 1) := by decide +kernel
theorem dL_isLooked_17 : decode cL_isLooked 17 = .ok (.ireturn, 1) := by decide +kernel
theorem dL_isLooked_18 : decode cL_isLooked 18 = .ok (.aload_n 0, 1) := by decide +kernel
theorem dL_isLooked_19 : decode cL_isLooked 19 = .ok (.iload_n 1, 1) := by decide +kernel
theorem dL_isLooked_20 : decode cL_isLooked 20 = .ok (.iconst 1, 1) := by decide +kernel
theorem dL_isLooked_21 : decode cL_isLooked 21 = .ok (.invokevirtual 18, 3) := by decide +kernel
theorem dL_isLooked_24 : decode cL_isLooked 24 = .ok (.istore_n 3, 1) := by decide +kernel
theorem dL_isLooked_25 : decode cL_isLooked 25 = .ok (.iconst 1, 1) := by decide +kernel
theorem dL_isLooked_26 : decode cL_isLooked 26 = .ok (.istore 4, 2) := by decide +kernel
theorem dL_isLooked_28 : decode cL_isLooked 28 = .ok (.iload 4, 2) := by decide +kernel
theorem dL_isLooked_30 : decode cL_isLooked 30 = .ok (.iload_n 3, 1) := by decide +kernel
theorem dL_isLooked_31 : decode cL_isLooked 31 = .ok (.if_icmp .gt 56, 3) := by decide +kernel
theorem dL_isLooked_34 : decode cL_isLooked 34 = .ok (.aload_n 0, 1) := by decide +kernel
theorem dL_isLooked_35 : decode cL_isLooked 35 = .ok (.iload_n 1, 1) := by decide +kernel
theorem dL_isLooked_36 : decode cL_isLooked 36 = .ok (.iload 4, 2) := by decide +kernel
theorem dL_isLooked_38 : decode cL_isLooked 38 = .ok (.invokevirtual 45, 3) := by decide +kernel
theorem dL_isLooked_41 : decode cL_isLooked 41 = .ok (.istore 5, 2) := by decide +kernel
theorem dL_isLooked_43 : decode cL_isLooked 43 = .ok (.aload_n 0, 1) := by decide +kernel
theorem dL_isLooked_44 : decode cL_isLooked 44 = .ok (.iload_n 1, 1) := by decide +kernel
theorem dL_isLooked_45 : decode cL_isLooked 45 = .ok (.iload 4, 2) := by decide +kernel
theorem dL_isLooked_47 : decode cL_isLooked 47 = .ok (.invokevirtual 39, 3) := by decide +kernel
theorem dL_isLooked_50 : decode cL_isLooked 50 = .ok (.aload_n 0, 1) := by decide +kernel
theorem dL_isLooked_51 : decode cL_isLooked 51 = .ok (.aload_n 0, 1) := by decide +kernel
theorem dL_isLooked_52 : decode cL_isLooked 52 = .ok (.iload_n 1, 1) := by decide +kernel
theorem dL_isLooked_53 : decode cL_isLooked 53 = .ok (.iload 4, 2) := by decide +kernel
theorem dL_isLooked_55 : decode cL_isLooked 55 = .ok (.iconst 1, 1) := by decide +kernel
theorem dL_isLooked_56 : decode cL_isLooked 56 = .ok (.isub, 1) := by decide +kernel
theorem dL_isLooked_57 : decode cL_isLooked 57 = .ok (.invokevirtual 39, 3) := by decide +kernel
theorem dL_isLooked_60 : decode cL_isLooked 60 = .ok (.iconst 0, 1) := by decide +kernel
theorem dL_isLooked_61 : decode cL_isLooked 61 = .ok (.invokevirtual 18, 3) := by decide +kernel
theorem dL_isLooked_64 : decode cL_isLooked 64 = .ok (.if_icmp .ne 15, 3) := by decide +kernel
theorem dL_isLooked_67 : decode cL_isLooked 67 = .ok (.iload 5, 2) := by decide +kernel
theorem dL_isLooked_69 : decode cL_isLooked 69 = .ok (.iconst 1, 1) := by decide +kernel
theorem dL_isLooked_70 : decode cL_isLooked 70 = .ok (.if_icmp .lt 9, 3) := by decide +kernel
theorem dL_isLooked_73 : decode cL_isLooked 73 = .ok (.iload 5, 2) := by decide +kernel
theorem dL_isLooked_75 : decode cL_isLooked 75 = .ok (.iconst 3, 1) := by decide +kernel
theorem dL_isLooked_76 : decode cL_isLooked 76 = .ok (.if_icmp .le 5, 3) := by decide +kernel
theorem dL_isLooked_79 : decode cL_isLooked 79 = .ok (.iconst 0, 1) := by decide +kernel
theorem dL_isLooked_80 : decode cL_isLooked 80 = .ok (.ireturn, 1) := by decide +kernel
theorem dL_isLooked_81 : decode cL_isLooked 81 = .ok (.iinc 4 1, 3) := by decide +kernel
theorem dL_isLooked_84 : decode cL_isLooked 84 = .ok (.goto (-56), 3) := by decide +kernel
theorem dL_isLooked_87 : decode cL_isLooked 87 = .ok (.aload_n 0, 1) := by decide +kernel
theorem dL_isLooked_88 : decode cL_isLooked 88 = .ok (.iload_n 1, 1) := by decide +kernel
theorem dL_isLooked_89 : decode cL_isLooked 89 = .ok (.iload_n 3, 1) := by decide +kernel
theorem dL_isLooked_90 : decode cL_isLooked 90 = .ok (.invokevirtual 39, 3) := by decide +kernel
theorem dL_isLooked_93 : decode cL_isLooked 93 = .ok (.ifCond .ne 38, 3) := by decide +kernel
theorem dL_isLooked_96 : decode cL_isLooked 96 = .ok (.aload_n 0, 1) := by decide +kernel
theorem dL_isLooked_97 : decode cL_isLooked 97 = .ok (.iload_n 1, 1) := by decide +kernel
theorem dL_isLooked_98 : decode cL_isLooked 98 = .ok (.iload_n 3, 1) := by decide +kernel
theorem dL_isLooked_99 : decode cL_isLooked 99 = .ok (.iconst 1, 1) := by decide +kernel
theorem dL_isLooked_100 : decode cL_isLooked 100 = .ok (.iadd, 1) := by decide +kernel
theorem dL_isLooked_101 : decode cL_isLooked 101 = .ok (.invokevirtual 39, 3) := by decide +kernel
theorem dL_isLooked_104 : decode cL_isLooked 104 = .ok (.bipush (-5), 2) := by decide +kernel
theorem dL_isLooked_106 : decode cL_isLooked 106 = .ok (.if_icmp .ne 25, 3) := by decide +kernel
theorem dL_isLooked_109 : decode cL_isLooked 109 = .ok (.aload_n 0, 1) := by decide +kernel
theorem dL_isLooked_110 : decode cL_isLooked 110 = .ok (.iload_n 1, 1) := by decide +kernel
theorem dL_isLooked_111 : decode cL_isLooked 111 = .ok (.iconst 0, 1) := by decide +kernel
theorem dL_isLooked_112 : decode cL_isLooked 112 = .ok (.invokevirtual 45, 3) := by decide +kernel
theorem dL_isLooked_115 : decode cL_isLooked 115 = .ok (.ifCond .ne 16, 3) := by decide +kernel
theorem dL_isLooked_118 : decode cL_isLooked 118 = .ok (.aload_n 0, 1) := by decide +kernel
theorem dL_isLooked_119 : decode cL_isLooked 119 = .ok (.iload_n 1, 1) := by decide +kernel
theorem dL_isLooked_120 : decode cL_isLooked 120 = .ok (.iload_n 3, 1) := by decide +kernel
theorem dL_isLooked_121 : decode cL_isLooked 121 = .ok (.iconst 1, 1) := by decide +kernel
theorem dL_isLooked_122 : decode cL_isLooked 122 = .ok (.iadd, 1) := by decide +kernel
theorem dL_isLooked_123 : decode cL_isLooked 123 = .ok (.invokevirtual 45, 3) := by decide +kernel
theorem dL_isLooked_126 : decode cL_isLooked 126 = .ok (.bipush (-5), 2) := by decide +kernel
theorem dL_isLooked_128 : decode cL_isLooked 128 = .ok (.if_icmp .eq 5, 3) := by decide +kernel
theorem dL_isLooked_131 : decode cL_isLooked 131 = .ok (.iconst 0, 1) := by decide +kernel
theorem dL_isLooked_132 : decode cL_isLooked 132 = .ok (.ireturn, 1) := by decide +kernel
theorem dL_isLooked_133 : decode cL_isLooked 133 = .ok (.aload_n 0, 1) := by decide +kernel
theorem dL_isLooked_134 : decode cL_isLooked 134 = .ok (.iload_n 1, 1) := by decide +kernel
theorem dL_isLooked_135 : decode cL_isLooked 135 = .ok (.bipush 9, 2) := by decide +kernel
theorem dL_isLooked_137 : decode cL_isLooked 137 = .ok (.invokevirtual 18, 3) := by decide +kernel
theorem dL_isLooked_140 : decode cL_isLooked 140 = .ok (.istore 4, 2) := by decide +kernel
theorem dL_isLooked_142 : decode cL_isLooked 142 = .ok (.iconst 0, 1) := by decide +kernel
theorem dL_isLooked_143 : decode cL_isLooked 143 = .ok (.istore 5, 2) := by decide +kernel
theorem dL_isLooked_145 : decode cL_isLooked 145 = .ok (.iload 5, 2) := by decide +kernel
theorem dL_isLooked_147 : decode cL_isLooked 147 = .ok (.iload 4, 2) := by decide +kernel
theorem dL_isLooked_149 : decode cL_isLooked 149 = .ok (.if_icmp .ge 76, 3) := by decide +kernel
theorem dL_isLooked_152 : decode cL_isLooked 152 = .ok (.aload_n 0, 1) := by decide +kernel
theorem dL_isLooked_153 : decode cL_isLooked 153 = .ok (.iload_n 1, 1) := by decide +kernel
theorem dL_isLooked_154 : decode cL_isLooked 154 = .ok (.iload 5, 2) := by decide +kernel
theorem dL_isLooked_156 : decode cL_isLooked 156 = .ok (.invokevirtual 48, 3) := by decide +kernel
theorem dL_isLooked_159 : decode cL_isLooked 159 = .ok (.istore 6, 2) := by decide +kernel
theorem dL_isLooked_161 : decode cL_isLooked 161 = .ok (.iload 5, 2) := by decide +kernel
theorem dL_isLooked_163 : decode cL_isLooked 163 = .ok (.ifCond .ne 18, 3) := by decide +kernel
theorem dL_isLooked_166 : decode cL_isLooked 166 = .ok (.iload 6, 2) := by decide +kernel
theorem dL_isLooked_168 : decode cL_isLooked 168 = .ok (.aload_n 0, 1) := by decide +kernel
theorem dL_isLooked_169 : decode cL_isLooked 169 = .ok (.iload_n 1, 1) := by decide +kernel
theorem dL_isLooked_170 : decode cL_isLooked 170 = .ok (.bipush 7, 2) := by decide +kernel
theorem dL_isLooked_172 : decode cL_isLooked 172 = .ok (.invokevirtual 18, 3) := by decide +kernel
theorem dL_isLooked_175 : decode cL_isLooked 175 = .ok (.if_icmp .eq 44, 3) := by decide +kernel
theorem dL_isLooked_178 : decode cL_isLooked 178 = .ok (.goto 39, 3) := by decide +kernel
theorem dL_isLooked_181 : decode cL_isLooked 181 = .ok (.iload 6, 2) := by decide +kernel
theorem dL_isLooked_183 : decode cL_isLooked 183 = .ok (.aload_n 0, 1) := by decide +kernel
theorem dL_isLooked_184 : decode cL_isLooked 184 = .ok (.aload_n 0, 1) := by decide +kernel
theorem dL_isLooked_185 : decode cL_isLooked 185 = .ok (.iload_n 1, 1) := by decide +kernel
theorem dL_isLooked_186 : decode cL_isLooked 186 = .ok (.iload 5, 2) := by decide +kernel
theorem dL_isLooked_188 : decode cL_isLooked 188 = .ok (.iconst 1, 1) := by decide +kernel
theorem dL_isLooked_189 : decode cL_isLooked 189 = .ok (.isub, 1) := by decide +kernel
theorem dL_isLooked_190 : decode cL_isLooked 190 = .ok (.invokevirtual 48, 3) := by decide +kernel
theorem dL_isLooked_193 : decode cL_isLooked 193 = .ok (.iconst 0, 1) := by decide +kernel
theorem dL_isLooked_194 : decode cL_isLooked 194 = .ok (.invokevirtual 18, 3) := by decide +kernel
theorem dL_isLooked_197 : decode cL_isLooked 197 = .ok (.if_icmp .ne 20, 3) := by decide +kernel
theorem dL_isLooked_200 : decode cL_isLooked 200 = .ok (.iload 5, 2) := by decide +kernel
theorem dL_isLooked_202 : decode cL_isLooked 202 = .ok (.aload_n 0, 1) := by decide +kernel
theorem dL_isLooked_203 : decode cL_isLooked 203 = .ok (.iload_n 1, 1) := by decide +kernel
theorem dL_isLooked_204 : decode cL_isLooked 204 = .ok (.iconst 2, 1) := by decide +kernel
theorem dL_isLooked_205 : decode cL_isLooked 205 = .ok (.invokevirtual 18, 3) := by decide +kernel
theorem dL_isLooked_208 : decode cL_isLooked 208 = .ok (.if_icmp .ne 11, 3) := by decide +kernel
theorem dL_isLooked_211 : decode cL_isLooked 211 = .ok (.iload 6, 2) := by decide +kernel
theorem dL_isLooked_213 : decode cL_isLooked 213 = .ok (.iload_n 1, 1) := by decide +kernel
theorem dL_isLooked_214 : decode cL_isLooked 214 = .ok (.if_icmp .eq 5, 3) := by decide +kernel
theorem dL_isLooked_217 : decode cL_isLooked 217 = .ok (.iconst 0, 1) := by decide +kernel
theorem dL_isLooked_218 : decode cL_isLooked 218 = .ok (.ireturn, 1) := by decide +kernel
theorem dL_isLooked_219 : decode cL_isLooked 219 = .ok (.iinc 5 1, 3) := by decide +kernel
theorem dL_isLooked_222 : decode cL_isLooked 222 = .ok (.goto (-77), 3) := by decide +kernel
theorem dL_isLooked_225 : decode cL_isLooked 225 = .ok (.aload_n 0, 1) := by decide +kernel
theorem dL_isLooked_226 : decode cL_isLooked 226 = .ok (.iload_n 1, 1) := by decide +kernel
theorem dL_isLooked_227 : decode cL_isLooked 227 = .ok (.iload_n 2, 1) := by decide +kernel
theorem dL_isLooked_228 : decode cL_isLooked 228 = .ok (.invokevirtual 42, 3) := by decide +kernel
theorem dL_isLooked_231 : decode cL_isLooked 231 = .ok (.istore 5, 2) := by decide +kernel
theorem dL_isLooked_233 : decode cL_isLooked 233 = .ok (.aload_n 0, 1) := by decide +kernel
theorem dL_isLooked_234 : decode cL_isLooked 234 = .ok (.iload_n 1, 1) := by decide +kernel
theorem dL_isLooked_235 : decode cL_isLooked 235 = .ok (.iconst 1, 1) := by decide +kernel
theorem dL_isLooked_236 : decode cL_isLooked 236 = .ok (.invokevirtual 18, 3) := by decide +kernel
theorem dL_isLooked_239 : decode cL_isLooked 239 = .ok (.aload_n 0, 1) := by decide +kernel
theorem dL_isLooked_240 : decode cL_isLooked 240 = .ok (.iload_n 2, 1) := by decide +kernel
theorem dL_isLooked_241 : decode cL_isLooked 241 = .ok (.iconst 1, 1) := by decide +kernel
theorem dL_isLooked_242 : decode cL_isLooked 242 = .ok (.invokevirtual 18, 3) := by decide +kernel
theorem dL_isLooked_245 : decode cL_isLooked 245 = .ok (.iadd, 1) := by decide +kernel
theorem dL_isLooked_246 : decode cL_isLooked 246 = .ok (.iconst 2, 1) := by decide +kernel
theorem dL_isLooked_247 : decode cL_isLooked 247 = .ok (.aload_n 0, 1) := by decide +kernel
theorem dL_isLooked_248 : decode cL_isLooked 248 = .ok (.iload 5, 2) := by decide +kernel
theorem dL_isLooked_250 : decode cL_isLooked 250 = .ok (.iconst 1, 1) := by decide +kernel
theorem dL_isLooked_251 : decode cL_isLooked 251 = .ok (.invokevirtual 18, 3) := by decide +kernel
theorem dL_isLooked_254 : decode cL_isLooked 254 = .ok (.imul, 1) := by decide +kernel
theorem dL_isLooked_255 : decode cL_isLooked 255 = .ok (.isub, 1) := by decide +kernel
theorem dL_isLooked_256 : decode cL_isLooked 256 = .ok (.istore 6, 2) := by decide +kernel
theorem dL_isLooked_258 : decode cL_isLooked 258 = .ok (.iconst 0, 1) := by decide +kernel
theorem dL_isLooked_259 : decode cL_isLooked 259 = .ok (.istore 7, 2) := by decide +kernel
theorem dL_isLooked_261 : decode cL_isLooked 261 = .ok (.iconst 0, 1) := by decide +kernel
theorem dL_isLooked_262 : decode cL_isLooked 262 = .ok (.istore 8, 2) := by decide +kernel
theorem dL_isLooked_264 : decode cL_isLooked 264 = .ok (.iload 8, 2) := by decide +kernel
theorem dL_isLooked_266 : decode cL_isLooked 266 = .ok (.iload 6, 2) := by decide +kernel
theorem dL_isLooked_268 : decode cL_isLooked 268 = .ok (.if_icmp .gt 101, 3) := by decide +kernel
theorem dL_isLooked_271 : decode cL_isLooked 271 = .ok (.aload_n 0, 1) := by decide +kernel
theorem dL_isLooked_272 : decode cL_isLooked 272 = .ok (.iload_n 1, 1) := by decide +kernel
theorem dL_isLooked_273 : decode cL_isLooked 273 = .ok (.iload_n 2, 1) := by decide +kernel
theorem dL_isLooked_274 : decode cL_isLooked 274 = .ok (.iload 8, 2) := by decide +kernel
theorem dL_isLooked_276 : decode cL_isLooked 276 = .ok (.invokevirtual 51, 3) := by decide +kernel
theorem dL_isLooked_279 : decode cL_isLooked 279 = .ok (.istore 9, 2) := by decide +kernel
theorem dL_isLooked_281 : decode cL_isLooked 281 = .ok (.iload 7, 2) := by decide +kernel
theorem dL_isLooked_283 : decode cL_isLooked 283 = .ok (.ifCond .ne 10, 3) := by decide +kernel
theorem dL_isLooked_286 : decode cL_isLooked 286 = .ok (.iload 9, 2) := by decide +kernel
theorem dL_isLooked_288 : decode cL_isLooked 288 = .ok (.iload 5, 2) := by decide +kernel
theorem dL_isLooked_290 : decode cL_isLooked 290 = .ok (.if_icmp .ne 7, 3) := by decide +kernel
theorem dL_isLooked_293 : decode cL_isLooked 293 = .ok (.iconst 1, 1) := by decide +kernel
theorem dL_isLooked_294 : decode cL_isLooked 294 = .ok (.goto 4, 3) := by decide +kernel
theorem dL_isLooked_297 : decode cL_isLooked 297 = .ok (.iconst 0, 1) := by decide +kernel
theorem dL_isLooked_298 : decode cL_isLooked 298 = .ok (.istore 7, 2) := by decide +kernel
theorem dL_isLooked_300 : decode cL_isLooked 300 = .ok (.iload 9, 2) := by decide +kernel
theorem dL_isLooked_302 : decode cL_isLooked 302 = .ok (.aload_n 0, 1) := by decide +kernel
theorem dL_isLooked_303 : decode cL_isLooked 303 = .ok (.iload_n 2, 1) := by decide +kernel
theorem dL_isLooked_304 : decode cL_isLooked 304 = .ok (.iload_n 1, 1) := by decide +kernel
theorem dL_isLooked_305 : decode cL_isLooked 305 = .ok (.iload 6, 2) := by decide +kernel
theorem dL_isLooked_307 : decode cL_isLooked 307 = .ok (.iload 8, 2) := by decide +kernel
theorem dL_isLooked_309 : decode cL_isLooked 309 = .ok (.isub, 1) := by decide +kernel
theorem dL_isLooked_310 : decode cL_isLooked 310 = .ok (.invokevirtual 51, 3) := by decide +kernel
theorem dL_isLooked_313 : decode cL_isLooked 313 = .ok (.if_icmp .ne 48, 3) := by decide +kernel
theorem dL_isLooked_316 : decode cL_isLooked 316 = .ok (.iload 8, 2) := by decide +kernel
theorem dL_isLooked_318 : decode cL_isLooked 318 = .ok (.ifCond .le 45, 3) := by decide +kernel
theorem dL_isLooked_321 : decode cL_isLooked 321 = .ok (.aload_n 0, 1) := by decide +kernel
theorem dL_isLooked_322 : decode cL_isLooked 322 = .ok (.iload 9, 2) := by decide +kernel
theorem dL_isLooked_324 : decode cL_isLooked 324 = .ok (.iconst 0, 1) := by decide +kernel
theorem dL_isLooked_325 : decode cL_isLooked 325 = .ok (.invokevirtual 18, 3) := by decide +kernel
theorem dL_isLooked_328 : decode cL_isLooked 328 = .ok (.aload_n 0, 1) := by decide +kernel
theorem dL_isLooked_329 : decode cL_isLooked 329 = .ok (.iload_n 1, 1) := by decide +kernel
theorem dL_isLooked_330 : decode cL_isLooked 330 = .ok (.iload_n 2, 1) := by decide +kernel
theorem dL_isLooked_331 : decode cL_isLooked 331 = .ok (.iload 8, 2) := by decide +kernel
theorem dL_isLooked_333 : decode cL_isLooked 333 = .ok (.iconst 1, 1) := by decide +kernel
theorem dL_isLooked_334 : decode cL_isLooked 334 = .ok (.isub, 1) := by decide +kernel
theorem dL_isLooked_335 : decode cL_isLooked 335 = .ok (.invokevirtual 51, 3) := by decide +kernel
theorem dL_isLooked_338 : decode cL_isLooked 338 = .ok (.if_icmp .eq 25, 3) := by decide +kernel
theorem dL_isLooked_341 : decode cL_isLooked 341 = .ok (.aload_n 0, 1) := by decide +kernel
theorem dL_isLooked_342 : decode cL_isLooked 342 = .ok (.aload_n 0, 1) := by decide +kernel
theorem dL_isLooked_343 : decode cL_isLooked 343 = .ok (.iload_n 1, 1) := by decide +kernel
theorem dL_isLooked_344 : decode cL_isLooked 344 = .ok (.iload_n 2, 1) := by decide +kernel
theorem dL_isLooked_345 : decode cL_isLooked 345 = .ok (.iload 8, 2) := by decide +kernel
theorem dL_isLooked_347 : decode cL_isLooked 347 = .ok (.iconst 1, 1) := by decide +kernel
theorem dL_isLooked_348 : decode cL_isLooked 348 = .ok (.isub, 1) := by decide +kernel
theorem dL_isLooked_349 : decode cL_isLooked 349 = .ok (.invokevirtual 51, 3) := by decide +kernel
theorem dL_isLooked_352 : decode cL_isLooked 352 = .ok (.iconst 0, 1) := by decide +kernel
theorem dL_isLooked_353 : decode cL_isLooked 353 = .ok (.invokevirtual 18, 3) := by decide +kernel
theorem dL_isLooked_356 : decode cL_isLooked 356 = .ok (.iload 9, 2) := by decide +kernel
theorem dL_isLooked_358 : decode cL_isLooked 358 = .ok (.if_icmp .eq 5, 3) := by decide +kernel
theorem dL_isLooked_361 : decode cL_isLooked 361 = .ok (.iconst 0, 1) := by decide +kernel
theorem dL_isLooked_362 : decode cL_isLooked 362 = .ok (.ireturn, 1) := by decide +kernel
theorem dL_isLooked_363 : decode cL_isLooked 363 = .ok (.iinc 8 1, 3) := by decide +kernel
theorem dL_isLooked_366 : decode cL_isLooked 366 = .ok (.goto (-102), 3) := by decide +kernel
theorem dL_isLooked_369 : decode cL_isLooked 369 = .ok (.aload_n 0, 1) := by decide +kernel
theorem dL_isLooked_370 : decode cL_isLooked 370 = .ok (.iload_n 1, 1) := by decide +kernel
theorem dL_isLooked_371 : decode cL_isLooked 371 = .ok (.invokevirtual 27, 3) := by decide +kernel
theorem dL_isLooked_374 : decode cL_isLooked 374 = .ok (.istore 8, 2) := by decide +kernel
theorem dL_isLooked_376 : decode cL_isLooked 376 = .ok (.aload_n 0, 1) := by decide +kernel
theorem dL_isLooked_377 : decode cL_isLooked 377 = .ok (.iconst 0, 1) := by decide +kernel
theorem dL_isLooked_378 : decode cL_isLooked 378 = .ok (.invokevirtual 55, 3) := by decide +kernel
theorem dL_isLooked_381 : decode cL_isLooked 381 = .ok (.istore 9, 2) := by decide +kernel
theorem dL_isLooked_383 : decode cL_isLooked 383 = .ok (.aload_n 0, 1) := by decide +kernel
theorem dL_isLooked_384 : decode cL_isLooked 384 = .ok (.iconst 1, 1) := by decide +kernel
theorem dL_isLooked_385 : decode cL_isLooked 385 = .ok (.invokevirtual 55, 3) := by decide +kernel
theorem dL_isLooked_388 : decode cL_isLooked 388 = .ok (.istore 10, 2) := by decide +kernel
theorem dL_isLooked_390 : decode cL_isLooked 390 = .ok (.iload 7, 2) := by decide +kernel
theorem dL_isLooked_392 : decode cL_isLooked 392 = .ok (.ifCond .eq 141, 3) := by decide +kernel
theorem dL_isLooked_395 : decode cL_isLooked 395 = .ok (.iload 5, 2) := by decide +kernel
theorem dL_isLooked_397 : decode cL_isLooked 397 = .ok (.aload_n 0, 1) := by decide +kernel
theorem dL_isLooked_398 : decode cL_isLooked 398 = .ok (.iload_n 2, 1) := by decide +kernel
theorem dL_isLooked_399 : decode cL_isLooked 399 = .ok (.iload_n 1, 1) := by decide +kernel
theorem dL_isLooked_400 : decode cL_isLooked 400 = .ok (.invokevirtual 42, 3) := by decide +kernel
theorem dL_isLooked_403 : decode cL_isLooked 403 = .ok (.if_icmp .ne 130, 3) := by decide +kernel
theorem dL_isLooked_406 : decode cL_isLooked 406 = .ok (.aload_n 0, 1) := by decide +kernel
theorem dL_isLooked_407 : decode cL_isLooked 407 = .ok (.iload_n 1, 1) := by decide +kernel
theorem dL_isLooked_408 : decode cL_isLooked 408 = .ok (.iload_n 2, 1) := by decide +kernel
theorem dL_isLooked_409 : decode cL_isLooked 409 = .ok (.iload 6, 2) := by decide +kernel
theorem dL_isLooked_411 : decode cL_isLooked 411 = .ok (.iconst 1, 1) := by decide +kernel
theorem dL_isLooked_412 : decode cL_isLooked 412 = .ok (.iadd, 1) := by decide +kernel
theorem dL_isLooked_413 : decode cL_isLooked 413 = .ok (.invokevirtual 51, 3) := by decide +kernel
theorem dL_isLooked_416 : decode cL_isLooked 416 = .ok (.bipush (-5), 2) := by decide +kernel
theorem dL_isLooked_418 : decode cL_isLooked 418 = .ok (.if_icmp .ne 115, 3) := by decide +kernel
theorem dL_isLooked_421 : decode cL_isLooked 421 = .ok (.aload_n 0, 1) := by decide +kernel
theorem dL_isLooked_422 : decode cL_isLooked 422 = .ok (.iload_n 1, 1) := by decide +kernel
theorem dL_isLooked_423 : decode cL_isLooked 423 = .ok (.iload 4, 2) := by decide +kernel
theorem dL_isLooked_425 : decode cL_isLooked 425 = .ok (.invokevirtual 48, 3) := by decide +kernel
theorem dL_isLooked_428 : decode cL_isLooked 428 = .ok (.bipush (-5), 2) := by decide +kernel
theorem dL_isLooked_430 : decode cL_isLooked 430 = .ok (.if_icmp .ne 103, 3) := by decide +kernel
theorem dL_isLooked_433 : decode cL_isLooked 433 = .ok (.aload_n 0, 1) := by decide +kernel
theorem dL_isLooked_434 : decode cL_isLooked 434 = .ok (.iload_n 1, 1) := by decide +kernel
theorem dL_isLooked_435 : decode cL_isLooked 435 = .ok (.iload_n 2, 1) := by decide +kernel
theorem dL_isLooked_436 : decode cL_isLooked 436 = .ok (.invokevirtual 58, 3) := by decide +kernel
theorem dL_isLooked_439 : decode cL_isLooked 439 = .ok (.aload_n 0, 1) := by decide +kernel
theorem dL_isLooked_440 : decode cL_isLooked 440 = .ok (.iload_n 2, 1) := by decide +kernel
theorem dL_isLooked_441 : decode cL_isLooked 441 = .ok (.iload_n 1, 1) := by decide +kernel
theorem dL_isLooked_442 : decode cL_isLooked 442 = .ok (.invokevirtual 58, 3) := by decide +kernel
theorem dL_isLooked_445 : decode cL_isLooked 445 = .ok (.fcmp .l, 1) := by decide +kernel
theorem dL_isLooked_446 : decode cL_isLooked 446 = .ok (.ifCond .ne 87, 3) := by decide +kernel
theorem dL_isLooked_449 : decode cL_isLooked 449 = .ok (.aload_n 0, 1) := by decide +kernel
theorem dL_isLooked_450 : decode cL_isLooked 450 = .ok (.iload_n 1, 1) := by decide +kernel
theorem dL_isLooked_451 : decode cL_isLooked 451 = .ok (.iload 8, 2) := by decide +kernel
theorem dL_isLooked_453 : decode cL_isLooked 453 = .ok (.invokevirtual 58, 3) := by decide +kernel
theorem dL_isLooked_456 : decode cL_isLooked 456 = .ok (.aload_n 0, 1) := by decide +kernel
theorem dL_isLooked_457 : decode cL_isLooked 457 = .ok (.iload_n 1, 1) := by decide +kernel
theorem dL_isLooked_458 : decode cL_isLooked 458 = .ok (.iload_n 2, 1) := by decide +kernel
theorem dL_isLooked_459 : decode cL_isLooked 459 = .ok (.invokevirtual 58, 3) := by decide +kernel
theorem dL_isLooked_462 : decode cL_isLooked 462 = .ok (.fcmp .l, 1) := by decide +kernel
theorem dL_isLooked_463 : decode cL_isLooked 463 = .ok (.ifCond .lt 70, 3) := by decide +kernel
theorem dL_isLooked_466 : decode cL_isLooked 466 = .ok (.aload_n 0, 1) := by decide +kernel
theorem dL_isLooked_467 : decode cL_isLooked 467 = .ok (.iload 9, 2) := by decide +kernel
theorem dL_isLooked_469 : decode cL_isLooked 469 = .ok (.iload 10, 2) := by decide +kernel
theorem dL_isLooked_471 : decode cL_isLooked 471 = .ok (.invokevirtual 58, 3) := by decide +kernel
theorem dL_isLooked_474 : decode cL_isLooked 474 = .ok (.aload_n 0, 1) := by decide +kernel
theorem dL_isLooked_475 : decode cL_isLooked 475 = .ok (.iload_n 1, 1) := by decide +kernel
theorem dL_isLooked_476 : decode cL_isLooked 476 = .ok (.iload 8, 2) := by decide +kernel
theorem dL_isLooked_478 : decode cL_isLooked 478 = .ok (.invokevirtual 58, 3) := by decide +kernel
theorem dL_isLooked_481 : decode cL_isLooked 481 = .ok (.fcmp .l, 1) := by decide +kernel
theorem dL_isLooked_482 : decode cL_isLooked 482 = .ok (.ifCond .lt 51, 3) := by decide +kernel
theorem dL_isLooked_485 : decode cL_isLooked 485 = .ok (.iload 9, 2) := by decide +kernel
theorem dL_isLooked_487 : decode cL_isLooked 487 = .ok (.iload 10, 2) := by decide +kernel
theorem dL_isLooked_489 : decode cL_isLooked 489 = .ok (.if_icmp .gt 44, 3) := by decide +kernel
theorem dL_isLooked_492 : decode cL_isLooked 492 = .ok (.aload_n 0, 1) := by decide +kernel
theorem dL_isLooked_493 : decode cL_isLooked 493 = .ok (.iload_n 1, 1) := by decide +kernel
theorem dL_isLooked_494 : decode cL_isLooked 494 = .ok (.iload_n 1, 1) := by decide +kernel
theorem dL_isLooked_495 : decode cL_isLooked 495 = .ok (.invokevirtual 58, 3) := by decide +kernel
theorem dL_isLooked_498 : decode cL_isLooked 498 = .ok (.fconst 0, 1) := by decide +kernel
theorem dL_isLooked_499 : decode cL_isLooked 499 = .ok (.fcmp .l, 1) := by decide +kernel
theorem dL_isLooked_500 : decode cL_isLooked 500 = .ok (.ifCond .ne 33, 3) := by decide +kernel
theorem dL_isLooked_503 : decode cL_isLooked 503 = .ok (.aload_n 0, 1) := by decide +kernel
theorem dL_isLooked_504 : decode cL_isLooked 504 = .ok (.iload_n 1, 1) := by decide +kernel
theorem dL_isLooked_505 : decode cL_isLooked 505 = .ok (.iconst 0, 1) := by decide +kernel
theorem dL_isLooked_506 : decode cL_isLooked 506 = .ok (.invokevirtual 62, 3) := by decide +kernel
theorem dL_isLooked_509 : decode cL_isLooked 509 = .ok (.ifCond .lt 24, 3) := by decide +kernel
theorem dL_isLooked_512 : decode cL_isLooked 512 = .ok (.aload_n 0, 1) := by decide +kernel
theorem dL_isLooked_513 : decode cL_isLooked 513 = .ok (.iload_n 1, 1) := by decide +kernel
theorem dL_isLooked_514 : decode cL_isLooked 514 = .ok (.iconst 1, 1) := by decide +kernel
theorem dL_isLooked_515 : decode cL_isLooked 515 = .ok (.invokevirtual 65, 3) := by decide +kernel
theorem dL_isLooked_518 : decode cL_isLooked 518 = .ok (.aload_n 0, 1) := by decide +kernel
theorem dL_isLooked_519 : decode cL_isLooked 519 = .ok (.iload 5, 2) := by decide +kernel
theorem dL_isLooked_521 : decode cL_isLooked 521 = .ok (.iconst 1, 1) := by decide +kernel
theorem dL_isLooked_522 : decode cL_isLooked 522 = .ok (.invokevirtual 65, 3) := by decide +kernel
theorem dL_isLooked_525 : decode cL_isLooked 525 = .ok (.fcmp .l, 1) := by decide +kernel
theorem dL_isLooked_526 : decode cL_isLooked 526 = .ok (.ifCond .lt 7, 3) := by decide +kernel
theorem dL_isLooked_529 : decode cL_isLooked 529 = .ok (.iconst 1, 1) := by decide +kernel
theorem dL_isLooked_530 : decode cL_isLooked 530 = .ok (.goto 4, 3) := by decide +kernel
theorem dL_isLooked_533 : decode cL_isLooked 533 = .ok (.iconst 0, 1) := by decide +kernel
theorem dL_isLooked_534 : decode cL_isLooked 534 = .ok (.ireturn, 1) := by decide +kernel
theorem dL_acts_0 : decode cL_acts 0 = .ok (.aload_n 0, 1) := by decide +kernel
theorem dL_acts_1 : decode cL_acts 1 = .ok (.iconst 1, 1) := by decide +kernel
theorem dL_acts_2 : decode cL_acts 2 = .ok (.invokevirtual 12, 3) := by decide +kernel
theorem dL_acts_5 : decode cL_acts 5 = .ok (.istore_n 2, 1) := by decide +kernel
theorem dL_acts_6 : decode cL_acts 6 = .ok (.iload_n 1, 1) := by decide +kernel
theorem dL_acts_7 : decode cL_acts 7 = .ok (.iconst 4, 1) := by decide +kernel
theorem dL_acts_8 : decode cL_acts 8 = .ok (.ishr, 1) := by decide +kernel
theorem dL_acts_9 : decode cL_acts 9 = .ok (.iload_n 2, 1) := by decide +kernel
theorem dL_acts_10 : decode cL_acts 10 = .ok (.invokestatic 68, 3) := by decide +kernel
theorem dL_acts_13 : decode cL_acts 13 = .ok (.istore_n 3, 1) := by decide +kernel
theorem dL_acts_14 : decode cL_acts 14 = .ok (.iload_n 1, 1) := by decide +kernel
theorem dL_acts_15 : decode cL_acts 15 = .ok (.bipush 24, 2) := by decide +kernel
theorem dL_acts_17 : decode cL_acts 17 = .ok (.ishr, 1) := by decide +kernel
theorem dL_acts_18 : decode cL_acts 18 = .ok (.iconst 1, 1) := by decide +kernel
theorem dL_acts_19 : decode cL_acts 19 = .ok (.iand, 1) := by decide +kernel
theorem dL_acts_20 : decode cL_acts 20 = .ok (.ifCond .ne 9, 3) := by decide +kernel
theorem dL_acts_23 : decode cL_acts 23 = .ok (.iload_n 2, 1) := by decide +kernel
theorem dL_acts_24 : decode cL_acts 24 = .ok (.iconst 1, 1) := by decide +kernel
theorem dL_acts_25 : decode cL_acts 25 = .ok (.isub, 1) := by decide +kernel
theorem dL_acts_26 : decode cL_acts 26 = .ok (.goto 13, 3) := by decide +kernel
theorem dL_acts_29 : decode cL_acts 29 = .ok (.iload_n 1, 1) := by decide +kernel
theorem dL_acts_30 : decode cL_acts 30 = .ok (.bipush 11, 2) := by decide +kernel
theorem dL_acts_32 : decode cL_acts 32 = .ok (.ishr, 1) := by decide +kernel
theorem dL_acts_33 : decode cL_acts 33 = .ok (.iload_n 2, 1) := by decide +kernel
theorem dL_acts_34 : decode cL_acts 34 = .ok (.iconst 1, 1) := by decide +kernel
theorem dL_acts_35 : decode cL_acts 35 = .ok (.iadd, 1) := by decide +kernel
theorem dL_acts_36 : decode cL_acts 36 = .ok (.invokestatic 68, 3) := by decide +kernel
theorem dL_acts_39 : decode cL_acts 39 = .ok (.istore 4, 2) := by decide +kernel
theorem dL_acts_41 : decode cL_acts 41 = .ok (.iload_n 1, 1) := by decide +kernel
theorem dL_acts_42 : decode cL_acts 42 = .ok (.bipush 12, 2) := by decide +kernel
theorem dL_acts_44 : decode cL_acts 44 = .ok (.invokestatic 68, 3) := by decide +kernel
theorem dL_acts_47 : decode cL_acts 47 = .ok (.tableswitch 124 0 9 #[53, 53, 53, 53, 82, 82, 88, 88, 88, 96], 53) := by decide +kernel
theorem dL_acts_100 : decode cL_acts 100 = .ok (.aload_n 0, 1) := by decide +kernel
theorem dL_acts_101 : decode cL_acts 101 = .ok (.iload 4, 2) := by decide +kernel
theorem dL_acts_103 : decode cL_acts 103 = .ok (.bipush 100, 2) := by decide +kernel
theorem dL_acts_105 : decode cL_acts 105 = .ok (.iload_n 1, 1) := by decide +kernel
theorem dL_acts_106 : decode cL_acts 106 = .ok (.bipush 18, 2) := by decide +kernel
theorem dL_acts_108 : decode cL_acts 108 = .ok (.ishr, 1) := by decide +kernel
theorem dL_acts_109 : decode cL_acts 109 = .ok (.bipush 38, 2) := by decide +kernel
theorem dL_acts_111 : decode cL_acts 111 = .ok (.invokestatic 68, 3) := by decide +kernel
theorem dL_acts_114 : decode cL_acts 114 = .ok (.iadd, 1) := by decide +kernel
theorem dL_acts_115 : decode cL_acts 115 = .ok (.bipush 23, 2) := by decide +kernel
theorem dL_acts_117 : decode cL_acts 117 = .ok (.ishl, 1) := by decide +kernel
theorem dL_acts_118 : decode cL_acts 118 = .ok (.iload_n 1, 1) := by decide +kernel
theorem dL_acts_119 : decode cL_acts 119 = .ok (.ldc 71, 2) := by decide +kernel
theorem dL_acts_121 : decode cL_acts 121 = .ok (.invokestatic 68, 3) := by decide +kernel
theorem dL_acts_124 : decode cL_acts 124 = .ok (.iadd, 1) := by decide +kernel
theorem dL_acts_125 : decode cL_acts 125 = .ok (.invokevirtual 72, 3) := by decide +kernel
theorem dL_acts_128 : decode cL_acts 128 = .ok (.ireturn, 1) := by decide +kernel
theorem dL_acts_129 : decode cL_acts 129 = .ok (.aload_n 0, 1) := by decide +kernel
theorem dL_acts_130 : decode cL_acts 130 = .ok (.iload_n 3, 1) := by decide +kernel
theorem dL_acts_131 : decode cL_acts 131 = .ok (.invokevirtual 75, 3) := by decide +kernel
theorem dL_acts_134 : decode cL_acts 134 = .ok (.ireturn, 1) := by decide +kernel
theorem dL_acts_135 : decode cL_acts 135 = .ok (.aload_n 0, 1) := by decide +kernel
theorem dL_acts_136 : decode cL_acts 136 = .ok (.iload_n 3, 1) := by decide +kernel
theorem dL_acts_137 : decode cL_acts 137 = .ok (.iload 4, 2) := by decide +kernel
theorem dL_acts_139 : decode cL_acts 139 = .ok (.invokevirtual 78, 3) := by decide +kernel
theorem dL_acts_142 : decode cL_acts 142 = .ok (.ireturn, 1) := by decide +kernel
theorem dL_acts_143 : decode cL_acts 143 = .ok (.aload_n 0, 1) := by decide +kernel
theorem dL_acts_144 : decode cL_acts 144 = .ok (.iload_n 3, 1) := by decide +kernel
theorem dL_acts_145 : decode cL_acts 145 = .ok (.bipush 100, 2) := by decide +kernel
theorem dL_acts_147 : decode cL_acts 147 = .ok (.iload_n 1, 1) := by decide +kernel
theorem dL_acts_148 : decode cL_acts 148 = .ok (.bipush 18, 2) := by decide +kernel
theorem dL_acts_150 : decode cL_acts 150 = .ok (.ishr, 1) := by decide +kernel
theorem dL_acts_151 : decode cL_acts 151 = .ok (.bipush 38, 2) := by decide +kernel
theorem dL_acts_153 : decode cL_acts 153 = .ok (.invokestatic 68, 3) := by decide +kernel
theorem dL_acts_156 : decode cL_acts 156 = .ok (.iadd, 1) := by decide +kernel
theorem dL_acts_157 : decode cL_acts 157 = .ok (.bipush 23, 2) := by decide +kernel
theorem dL_acts_159 : decode cL_acts 159 = .ok (.ishl, 1) := by decide +kernel
theorem dL_acts_160 : decode cL_acts 160 = .ok (.iload_n 1, 1) := by decide +kernel
theorem dL_acts_161 : decode cL_acts 161 = .ok (.ldc 71, 2) := by decide +kernel
theorem dL_acts_163 : decode cL_acts 163 = .ok (.invokestatic 68, 3) := by decide +kernel
theorem dL_acts_166 : decode cL_acts 166 = .ok (.iadd, 1) := by decide +kernel
theorem dL_acts_167 : decode cL_acts 167 = .ok (.invokevirtual 81, 3) := by decide +kernel
theorem dL_acts_170 : decode cL_acts 170 = .ok (.ireturn, 1) := by decide +kernel
theorem dL_acts_171 : decode cL_acts 171 = .ok (.aload_n 0, 1) := by decide +kernel
theorem dL_acts_172 : decode cL_acts 172 = .ok (.iload 4, 2) := by decide +kernel
theorem dL_acts_174 : decode cL_acts 174 = .ok (.invokevirtual 84, 3) := by decide +kernel
theorem dL_acts_177 : decode cL_acts 177 = .ok (.ireturn, 1) := by decide +kernel
theorem dL_law_0 : decode cL_law 0 = .ok (.new 13, 3) := by decide +kernel
theorem dL_law_3 : decode cL_law 3 = .ok (.dup, 1) := by decide +kernel
theorem dL_law_4 : decode cL_law 4 = .ok (.invokespecial 87, 3) := by decide +kernel
theorem dL_law_7 : decode cL_law 7 = .ok (.astore_n 1, 1) := by decide +kernel
theorem dL_law_8 : decode cL_law 8 = .ok (.aload_n 0, 1) := by decide +kernel
theorem dL_law_9 : decode cL_law 9 = .ok (.iconst 0, 1) := by decide +kernel
theorem dL_law_10 : decode cL_law 10 = .ok (.invokestatic 88, 3) := by decide +kernel
theorem dL_law_13 : decode cL_law 13 = .ok (.istore_n 2, 1) := by decide +kernel
theorem dL_law_14 : decode cL_law 14 = .ok (.iconst 0, 1) := by decide +kernel
theorem dL_law_15 : decode cL_law 15 = .ok (.istore_n 3, 1) := by decide +kernel
theorem dL_law_16 : decode cL_law 16 = .ok (.iconst 0, 1) := by decide +kernel
theorem dL_law_17 : decode cL_law 17 = .ok (.istore 4, 2) := by decide +kernel
theorem dL_law_19 : decode cL_law 19 = .ok (.iload 4, 2) := by decide +kernel
theorem dL_law_21 : decode cL_law 21 = .ok (.bipush 12, 2) := by decide +kernel
theorem dL_law_23 : decode cL_law 23 = .ok (.if_icmp .ge 69, 3) := by decide +kernel
theorem dL_law_26 : decode cL_law 26 = .ok (.iload_n 3, 1) := by decide +kernel
theorem dL_law_27 : decode cL_law 27 = .ok (.ifCond .eq 22, 3) := by decide +kernel
theorem dL_law_30 : decode cL_law 30 = .ok (.iload_n 3, 1) := by decide +kernel
theorem dL_law_31 : decode cL_law 31 = .ok (.bipush 12, 2) := by decide +kernel
theorem dL_law_33 : decode cL_law 33 = .ok (.iload 4, 2) := by decide +kernel
theorem dL_law_35 : decode cL_law 35 = .ok (.isub, 1) := by decide +kernel
theorem dL_law_36 : decode cL_law 36 = .ok (.if_icmp .ge 17, 3) := by decide +kernel
theorem dL_law_39 : decode cL_law 39 = .ok (.iload_n 2, 1) := by decide +kernel
theorem dL_law_40 : decode cL_law 40 = .ok (.iload 4, 2) := by decide +kernel
theorem dL_law_42 : decode cL_law 42 = .ok (.ishr, 1) := by decide +kernel
theorem dL_law_43 : decode cL_law 43 = .ok (.iconst 1, 1) := by decide +kernel
theorem dL_law_44 : decode cL_law 44 = .ok (.iand, 1) := by decide +kernel
theorem dL_law_45 : decode cL_law 45 = .ok (.iconst 1, 1) := by decide +kernel
theorem dL_law_46 : decode cL_law 46 = .ok (.if_icmp .ne 7, 3) := by decide +kernel
theorem dL_law_49 : decode cL_law 49 = .ok (.iconst 1, 1) := by decide +kernel
theorem dL_law_50 : decode cL_law 50 = .ok (.goto 4, 3) := by decide +kernel
theorem dL_law_53 : decode cL_law 53 = .ok (.iconst 0, 1) := by decide +kernel
theorem dL_law_54 : decode cL_law 54 = .ok (.istore 5, 2) := by decide +kernel
theorem dL_law_56 : decode cL_law 56 = .ok (.aload_n 1, 1) := by decide +kernel
theorem dL_law_57 : decode cL_law 57 = .ok (.iload 5, 2) := by decide +kernel
theorem dL_law_59 : decode cL_law 59 = .ok (.ifCond .eq 8, 3) := by decide +kernel
theorem dL_law_62 : decode cL_law 62 = .ok (.bipush 40, 2) := by decide +kernel
theorem dL_law_64 : decode cL_law 64 = .ok (.goto 5, 3) := by decide +kernel
theorem dL_law_67 : decode cL_law 67 = .ok (.bipush 41, 2) := by decide +kernel
theorem dL_law_69 : decode cL_law 69 = .ok (.invokevirtual 92, 3) := by decide +kernel
theorem dL_law_72 : decode cL_law 72 = .ok (.pop, 1) := by decide +kernel
theorem dL_law_73 : decode cL_law 73 = .ok (.iload_n 3, 1) := by decide +kernel
theorem dL_law_74 : decode cL_law 74 = .ok (.iload 5, 2) := by decide +kernel
theorem dL_law_76 : decode cL_law 76 = .ok (.ifCond .eq 7, 3) := by decide +kernel
theorem dL_law_79 : decode cL_law 79 = .ok (.iconst 1, 1) := by decide +kernel
theorem dL_law_80 : decode cL_law 80 = .ok (.goto 4, 3) := by decide +kernel
theorem dL_law_83 : decode cL_law 83 = .ok (.iconst (-1), 1) := by decide +kernel
theorem dL_law_84 : decode cL_law 84 = .ok (.iadd, 1) := by decide +kernel
theorem dL_law_85 : decode cL_law 85 = .ok (.istore_n 3, 1) := by decide +kernel
theorem dL_law_86 : decode cL_law 86 = .ok (.iinc 4 1, 3) := by decide +kernel
theorem dL_law_89 : decode cL_law 89 = .ok (.goto (-70), 3) := by decide +kernel
theorem dL_law_92 : decode cL_law 92 = .ok (.iconst 0, 1) := by decide +kernel
theorem dL_law_93 : decode cL_law 93 = .ok (.istore 4, 2) := by decide +kernel
theorem dL_law_95 : decode cL_law 95 = .ok (.iload 4, 2) := by decide +kernel
theorem dL_law_97 : decode cL_law 97 = .ok (.bipush 24, 2) := by decide +kernel
theorem dL_law_99 : decode cL_law 99 = .ok (.if_icmp .ge 142, 3) := by decide +kernel
theorem dL_law_102 : decode cL_law 102 = .ok (.aload_n 0, 1) := by decide +kernel
theorem dL_law_103 : decode cL_law 103 = .ok (.iconst 1, 1) := by decide +kernel
theorem dL_law_104 : decode cL_law 104 = .ok (.iload 4, 2) := by decide +kernel
theorem dL_law_106 : decode cL_law 106 = .ok (.iadd, 1) := by decide +kernel
theorem dL_law_107 : decode cL_law 107 = .ok (.invokestatic 88, 3) := by decide +kernel
theorem dL_law_110 : decode cL_law 110 = .ok (.istore 5, 2) := by decide +kernel
theorem dL_law_112 : decode cL_law 112 = .ok (.aload_n 1, 1) := by decide +kernel
theorem dL_law_113 : decode cL_law 113 = .ok (.invokestatic 96, 3) := by decide +kernel
theorem dL_law_116 : decode cL_law 116 = .ok (.lstore 6, 2) := by decide +kernel
theorem dL_law_118 : decode cL_law 118 = .ok (.aload_n 1, 1) := by decide +kernel
theorem dL_law_119 : decode cL_law 119 = .ok (.iload 5, 2) := by decide +kernel
theorem dL_law_121 : decode cL_law 121 = .ok (.invokestatic 100, 3) := by decide +kernel
theorem dL_law_124 : decode cL_law 124 = .ok (.istore 8, 2) := by decide +kernel
theorem dL_law_126 : decode cL_law 126 = .ok (.iload 8, 2) := by decide +kernel
theorem dL_law_128 : decode cL_law 128 = .ok (.ifCond .ge 15, 3) := by decide +kernel
theorem dL_law_131 : decode cL_law 131 = .ok (.aload_n 1, 1) := by decide +kernel
theorem dL_law_132 : decode cL_law 132 = .ok (.invokestatic 96, 3) := by decide +kernel
theorem dL_law_135 : decode cL_law 135 = .ok (.lload 6, 2) := by decide +kernel
theorem dL_law_137 : decode cL_law 137 = .ok (.lcmp, 1) := by decide +kernel
theorem dL_law_138 : decode cL_law 138 = .ok (.ifCond .eq 5, 3) := by decide +kernel
theorem dL_law_141 : decode cL_law 141 = .ok (.iconst 0, 1) := by decide +kernel
theorem dL_law_142 : decode cL_law 142 = .ok (.ireturn, 1) := by decide +kernel
theorem dL_law_143 : decode cL_law 143 = .ok (.iload 8, 2) := by decide +kernel
theorem dL_law_145 : decode cL_law 145 = .ok (.ifCond .lt 32, 3) := by decide +kernel
theorem dL_law_148 : decode cL_law 148 = .ok (.iload 5, 2) := by decide +kernel
theorem dL_law_150 : decode cL_law 150 = .ok (.bipush 28, 2) := by decide +kernel
theorem dL_law_152 : decode cL_law 152 = .ok (.ishr, 1) := by decide +kernel
theorem dL_law_153 : decode cL_law 153 = .ok (.iconst 3, 1) := by decide +kernel
theorem dL_law_154 : decode cL_law 154 = .ok (.iand, 1) := by decide +kernel
theorem dL_law_155 : decode cL_law 155 = .ok (.ifCond .ne 22, 3) := by decide +kernel
theorem dL_law_158 : decode cL_law 158 = .ok (.aload_n 1, 1) := by decide +kernel
theorem dL_law_159 : decode cL_law 159 = .ok (.invokevirtual 104, 3) := by decide +kernel
theorem dL_law_162 : decode cL_law 162 = .ok (.ifCond .lt 13, 3) := by decide +kernel
theorem dL_law_165 : decode cL_law 165 = .ok (.aload_n 1, 1) := by decide +kernel
theorem dL_law_166 : decode cL_law 166 = .ok (.invokestatic 96, 3) := by decide +kernel
theorem dL_law_169 : decode cL_law 169 = .ok (.lload 6, 2) := by decide +kernel
theorem dL_law_171 : decode cL_law 171 = .ok (.lcmp, 1) := by decide +kernel
theorem dL_law_172 : decode cL_law 172 = .ok (.ifCond .eq 5, 3) := by decide +kernel
theorem dL_law_175 : decode cL_law 175 = .ok (.iconst 0, 1) := by decide +kernel
theorem dL_law_176 : decode cL_law 176 = .ok (.ireturn, 1) := by decide +kernel
theorem dL_law_177 : decode cL_law 177 = .ok (.iload 4, 2) := by decide +kernel
theorem dL_law_179 : decode cL_law 179 = .ok (.iconst 4, 1) := by decide +kernel
theorem dL_law_180 : decode cL_law 180 = .ok (.irem, 1) := by decide +kernel
theorem dL_law_181 : decode cL_law 181 = .ok (.iconst 1, 1) := by decide +kernel
theorem dL_law_182 : decode cL_law 182 = .ok (.if_icmp .ne 10, 3) := by decide +kernel
theorem dL_law_185 : decode cL_law 185 = .ok (.aload_n 1, 1) := by decide +kernel
theorem dL_law_186 : decode cL_law 186 = .ok (.invokestatic 108, 3) := by decide +kernel
theorem dL_law_189 : decode cL_law 189 = .ok (.ifCond .eq 44, 3) := by decide +kernel
theorem dL_law_192 : decode cL_law 192 = .ok (.iload 4, 2) := by decide +kernel
theorem dL_law_194 : decode cL_law 194 = .ok (.iconst 3, 1) := by decide +kernel
theorem dL_law_195 : decode cL_law 195 = .ok (.irem, 1) := by decide +kernel
theorem dL_law_196 : decode cL_law 196 = .ok (.iconst 2, 1) := by decide +kernel
theorem dL_law_197 : decode cL_law 197 = .ok (.if_icmp .ne 38, 3) := by decide +kernel
theorem dL_law_200 : decode cL_law 200 = .ok (.aload_n 1, 1) := by decide +kernel
theorem dL_law_201 : decode cL_law 201 = .ok (.iload 5, 2) := by decide +kernel
theorem dL_law_203 : decode cL_law 203 = .ok (.bipush 7, 2) := by decide +kernel
theorem dL_law_205 : decode cL_law 205 = .ok (.ishr, 1) := by decide +kernel
theorem dL_law_206 : decode cL_law 206 = .ok (.aload_n 1, 1) := by decide +kernel
theorem dL_law_207 : decode cL_law 207 = .ok (.iconst 1, 1) := by decide +kernel
theorem dL_law_208 : decode cL_law 208 = .ok (.invokevirtual 12, 3) := by decide +kernel
theorem dL_law_211 : decode cL_law 211 = .ok (.invokestatic 68, 3) := by decide +kernel
theorem dL_law_214 : decode cL_law 214 = .ok (.iload 5, 2) := by decide +kernel
theorem dL_law_216 : decode cL_law 216 = .ok (.bipush 12, 2) := by decide +kernel
theorem dL_law_218 : decode cL_law 218 = .ok (.ishr, 1) := by decide +kernel
theorem dL_law_219 : decode cL_law 219 = .ok (.aload_n 1, 1) := by decide +kernel
theorem dL_law_220 : decode cL_law 220 = .ok (.iconst 1, 1) := by decide +kernel
theorem dL_law_221 : decode cL_law 221 = .ok (.invokevirtual 12, 3) := by decide +kernel
theorem dL_law_224 : decode cL_law 224 = .ok (.invokestatic 68, 3) := by decide +kernel
theorem dL_law_227 : decode cL_law 227 = .ok (.invokestatic 112, 3) := by decide +kernel
theorem dL_law_230 : decode cL_law 230 = .ok (.ifCond .ne 5, 3) := by decide +kernel
theorem dL_law_233 : decode cL_law 233 = .ok (.iconst 0, 1) := by decide +kernel
theorem dL_law_234 : decode cL_law 234 = .ok (.ireturn, 1) := by decide +kernel
theorem dL_law_235 : decode cL_law 235 = .ok (.iinc 4 1, 3) := by decide +kernel
theorem dL_law_238 : decode cL_law 238 = .ok (.goto (-143), 3) := by decide +kernel
theorem dL_law_241 : decode cL_law 241 = .ok (.aload_n 1, 1) := by decide +kernel
theorem dL_law_242 : decode cL_law 242 = .ok (.invokestatic 96, 3) := by decide +kernel
theorem dL_law_245 : decode cL_law 245 = .ok (.lstore 4, 2) := by decide +kernel
theorem dL_law_247 : decode cL_law 247 = .ok (.aload_n 1, 1) := by decide +kernel
theorem dL_law_248 : decode cL_law 248 = .ok (.invokevirtual 116, 3) := by decide +kernel
theorem dL_law_251 : decode cL_law 251 = .ok (.aload_n 1, 1) := by decide +kernel
theorem dL_law_252 : decode cL_law 252 = .ok (.iconst 0, 1) := by decide +kernel
theorem dL_law_253 : decode cL_law 253 = .ok (.invokevirtual 12, 3) := by decide +kernel
theorem dL_law_256 : decode cL_law 256 = .ok (.if_icmp .eq 5, 3) := by decide +kernel
theorem dL_law_259 : decode cL_law 259 = .ok (.iconst 0, 1) := by decide +kernel
theorem dL_law_260 : decode cL_law 260 = .ok (.ireturn, 1) := by decide +kernel
theorem dL_law_261 : decode cL_law 261 = .ok (.aload_n 1, 1) := by decide +kernel
theorem dL_law_262 : decode cL_law 262 = .ok (.iconst 0, 1) := by decide +kernel
theorem dL_law_263 : decode cL_law 263 = .ok (.invokevirtual 84, 3) := by decide +kernel
theorem dL_law_266 : decode cL_law 266 = .ok (.pop, 1) := by decide +kernel
theorem dL_law_267 : decode cL_law 267 = .ok (.aload_n 1, 1) := by decide +kernel
theorem dL_law_268 : decode cL_law 268 = .ok (.iconst 0, 1) := by decide +kernel
theorem dL_law_269 : decode cL_law 269 = .ok (.iconst 0, 1) := by decide +kernel
theorem dL_law_270 : decode cL_law 270 = .ok (.invokevirtual 72, 3) := by decide +kernel
theorem dL_law_273 : decode cL_law 273 = .ok (.pop, 1) := by decide +kernel
theorem dL_law_274 : decode cL_law 274 = .ok (.aload_n 1, 1) := by decide +kernel
theorem dL_law_275 : decode cL_law 275 = .ok (.iconst 1, 1) := by decide +kernel
theorem dL_law_276 : decode cL_law 276 = .ok (.iconst 2, 1) := by decide +kernel
theorem dL_law_277 : decode cL_law 277 = .ok (.invokevirtual 78, 3) := by decide +kernel
theorem dL_law_280 : decode cL_law 280 = .ok (.pop, 1) := by decide +kernel
theorem dL_law_281 : decode cL_law 281 = .ok (.aload_n 1, 1) := by decide +kernel
theorem dL_law_282 : decode cL_law 282 = .ok (.invokevirtual 119, 3) := by decide +kernel
theorem dL_law_285 : decode cL_law 285 = .ok (.aload_n 1, 1) := by decide +kernel
theorem dL_law_286 : decode cL_law 286 = .ok (.iconst 0, 1) := by decide +kernel
theorem dL_law_287 : decode cL_law 287 = .ok (.invokevirtual 12, 3) := by decide +kernel
theorem dL_law_290 : decode cL_law 290 = .ok (.if_icmp .ne 122, 3) := by decide +kernel
theorem dL_law_293 : decode cL_law 293 = .ok (.aload_n 1, 1) := by decide +kernel
theorem dL_law_294 : decode cL_law 294 = .ok (.invokestatic 96, 3) := by decide +kernel
theorem dL_law_297 : decode cL_law 297 = .ok (.lload 4, 2) := by decide +kernel
theorem dL_law_299 : decode cL_law 299 = .ok (.lcmp, 1) := by decide +kernel
theorem dL_law_300 : decode cL_law 300 = .ok (.ifCond .ne 112, 3) := by decide +kernel
theorem dL_law_303 : decode cL_law 303 = .ok (.aload_n 1, 1) := by decide +kernel
theorem dL_law_304 : decode cL_law 304 = .ok (.invokevirtual 104, 3) := by decide +kernel
theorem dL_law_307 : decode cL_law 307 = .ok (.ifCond .lt 105, 3) := by decide +kernel
theorem dL_law_310 : decode cL_law 310 = .ok (.aload_n 1, 1) := by decide +kernel
theorem dL_law_311 : decode cL_law 311 = .ok (.invokevirtual 119, 3) := by decide +kernel
theorem dL_law_314 : decode cL_law 314 = .ok (.ifCond .lt 98, 3) := by decide +kernel
theorem dL_law_317 : decode cL_law 317 = .ok (.aload_n 1, 1) := by decide +kernel
theorem dL_law_318 : decode cL_law 318 = .ok (.invokestatic 96, 3) := by decide +kernel
theorem dL_law_321 : decode cL_law 321 = .ok (.lload 4, 2) := by decide +kernel
theorem dL_law_323 : decode cL_law 323 = .ok (.lcmp, 1) := by decide +kernel
theorem dL_law_324 : decode cL_law 324 = .ok (.ifCond .ne 88, 3) := by decide +kernel
theorem dL_law_327 : decode cL_law 327 = .ok (.aload_n 1, 1) := by decide +kernel
theorem dL_law_328 : decode cL_law 328 = .ok (.bipush 10, 2) := by decide +kernel
theorem dL_law_330 : decode cL_law 330 = .ok (.invokevirtual 12, 3) := by decide +kernel
theorem dL_law_333 : decode cL_law 333 = .ok (.bipush (-2), 2) := by decide +kernel
theorem dL_law_335 : decode cL_law 335 = .ok (.if_icmp .ne 77, 3) := by decide +kernel
theorem dL_law_338 : decode cL_law 338 = .ok (.aload_n 1, 1) := by decide +kernel
theorem dL_law_339 : decode cL_law 339 = .ok (.iconst 2, 1) := by decide +kernel
theorem dL_law_340 : decode cL_law 340 = .ok (.invokevirtual 55, 3) := by decide +kernel
theorem dL_law_343 : decode cL_law 343 = .ok (.bipush (-2), 2) := by decide +kernel
theorem dL_law_345 : decode cL_law 345 = .ok (.if_icmp .ne 67, 3) := by decide +kernel
theorem dL_law_348 : decode cL_law 348 = .ok (.aload_n 1, 1) := by decide +kernel
theorem dL_law_349 : decode cL_law 349 = .ok (.iconst 0, 1) := by decide +kernel
theorem dL_law_350 : decode cL_law 350 = .ok (.bipush 7, 2) := by decide +kernel
theorem dL_law_352 : decode cL_law 352 = .ok (.invokevirtual 122, 3) := by decide +kernel
theorem dL_law_355 : decode cL_law 355 = .ok (.bipush (-2), 2) := by decide +kernel
theorem dL_law_357 : decode cL_law 357 = .ok (.if_icmp .ne 55, 3) := by decide +kernel
theorem dL_law_360 : decode cL_law 360 = .ok (.aload_n 1, 1) := by decide +kernel
theorem dL_law_361 : decode cL_law 361 = .ok (.bipush 90, 2) := by decide +kernel
theorem dL_law_363 : decode cL_law 363 = .ok (.invokevirtual 27, 3) := by decide +kernel
theorem dL_law_366 : decode cL_law 366 = .ok (.iconst (-1), 1) := by decide +kernel
theorem dL_law_367 : decode cL_law 367 = .ok (.if_icmp .ne 45, 3) := by decide +kernel
theorem dL_law_370 : decode cL_law 370 = .ok (.aload_n 1, 1) := by decide +kernel
theorem dL_law_371 : decode cL_law 371 = .ok (.iconst (-1), 1) := by decide +kernel
theorem dL_law_372 : decode cL_law 372 = .ok (.invokevirtual 22, 3) := by decide +kernel
theorem dL_law_375 : decode cL_law 375 = .ok (.iconst (-1), 1) := by decide +kernel
theorem dL_law_376 : decode cL_law 376 = .ok (.if_icmp .ne 36, 3) := by decide +kernel
theorem dL_law_379 : decode cL_law 379 = .ok (.aload_n 1, 1) := by decide +kernel
theorem dL_law_380 : decode cL_law 380 = .ok (.iconst 0, 1) := by decide +kernel
theorem dL_law_381 : decode cL_law 381 = .ok (.iconst (-1), 1) := by decide +kernel
theorem dL_law_382 : decode cL_law 382 = .ok (.invokevirtual 62, 3) := by decide +kernel
theorem dL_law_385 : decode cL_law 385 = .ok (.bipush (-2), 2) := by decide +kernel
theorem dL_law_387 : decode cL_law 387 = .ok (.if_icmp .ne 25, 3) := by decide +kernel
theorem dL_law_390 : decode cL_law 390 = .ok (.aload_n 1, 1) := by decide +kernel
theorem dL_law_391 : decode cL_law 391 = .ok (.iconst 0, 1) := by decide +kernel
theorem dL_law_392 : decode cL_law 392 = .ok (.bipush 90, 2) := by decide +kernel
theorem dL_law_394 : decode cL_law 394 = .ok (.invokevirtual 58, 3) := by decide +kernel
theorem dL_law_397 : decode cL_law 397 = .ok (.aload_n 1, 1) := by decide +kernel
theorem dL_law_398 : decode cL_law 398 = .ok (.iconst 0, 1) := by decide +kernel
theorem dL_law_399 : decode cL_law 399 = .ok (.bipush 90, 2) := by decide +kernel
theorem dL_law_401 : decode cL_law 401 = .ok (.invokevirtual 58, 3) := by decide +kernel
theorem dL_law_404 : decode cL_law 404 = .ok (.fcmp .l, 1) := by decide +kernel
theorem dL_law_405 : decode cL_law 405 = .ok (.ifCond .eq 7, 3) := by decide +kernel
theorem dL_law_408 : decode cL_law 408 = .ok (.iconst 1, 1) := by decide +kernel
theorem dL_law_409 : decode cL_law 409 = .ok (.goto 4, 3) := by decide +kernel
theorem dL_law_412 : decode cL_law 412 = .ok (.iconst 0, 1) := by decide +kernel
theorem dL_law_413 : decode cL_law 413 = .ok (.ireturn, 1) := by decide +kernel
end
section
/-! THE WORLD: eighty cells, made once; a state is (int rows, float rows, scalars, the history's slots) -/
abbrev al_St : Type := (Nat → Nat → Int32) × (Nat → Nat → UInt32) × (Nat → Int32) × (Nat → Nat)
abbrev al_CY : Type := ClassId × ClassId × ClassId × ClassId
/-- the objects that stand alone, by their places -/
def al_c0 (cy : al_CY) (ad : Nat → Nat) (σ : al_St) (k : Nat) : va_E :=
  match k with
  | 0 => .inr (8, [.ref (ad 8), .ref (ad 1), .ref (ad 3), .ref (ad 5), .ref (ad 6), .ref (ad 7)])
  | 1 => .inr (5, [.ref (ad 2), .int (σ.2.2.1 6)])
  | 2 => .inl (cy.2.2.1, 60, .inl (σ.1 25))
  | 3 => .inr (1, [.ref (ad 4), .ref (ad 13), .int (σ.2.2.1 7), .int (σ.2.2.1 8)])
  | 4 => .inl (cy.2.2.2, 4, .inr (.inr (.inr (.inr (fun j => some (ad (8 + σ.2.2.2 j)))))))
  | 5 => .inr (4, [.ref (ad 8), .ref (ad (14 + 2 * 12)), .ref (ad (14 + 2 * 13)), .ref (ad (14 + 2 * 14)), .ref (ad (14 + 2 * 15)), .ref (ad (14 + 2 * 16)), .ref (ad (14 + 2 * 17)), .ref (ad (14 + 2 * 18)), .ref (ad (14 + 2 * 19)), .ref (ad (14 + 2 * 20)), .ref (ad (14 + 2 * 21)), .int (σ.2.2.1 9)])
  | 6 => .inr (7, [.ref (ad 8), .ref (ad 5), .ref (ad (64 + 2 * 6)), .ref (ad (64 + 2 * 7)), .ref (ad (14 + 2 * 22)), .int (σ.2.2.1 10), .int (σ.2.2.1 11)])
  | 7 => .inr (3, [.ref (ad 8), .ref (ad 5), .ref (ad (14 + 2 * 23)), .ref (ad (14 + 2 * 24)), .int (σ.2.2.1 12)])
  | t => .inr (6, [.ref (ad (14 + 2 * (2 * (t - 8)))), .ref (ad (14 + 2 * (2 * (t - 8) + 1))), .ref (ad (64 + 2 * (t - 8))), .int (σ.2.2.1 (t - 8))])
def al_cE (cy : al_CY) (ad : Nat → Nat) (σ : al_St) (k : Nat) : va_E :=
  if k < 14 then al_c0 cy ad σ k
  else if k < 64 then (if k % 2 = 0 then .inr (2, [.ref (ad (k + 1))]) else .inl (cy.1, 90, .inl (σ.1 ((k - 15) / 2))))
  else (if k % 2 = 0 then .inr (0, [.ref (ad (k + 1))]) else .inl (cy.2.1, 90, .inr (.inr (.inl (σ.2.1 ((k - 65) / 2))))))
theorem al_cE_tree (cy : al_CY) (ad : Nat → Nat) (σ : al_St) {t : Nat} (ht : t < 6) : al_cE cy ad σ (8 + t) = .inr (6, [.ref (ad (14 + 2 * (2 * t))), .ref (ad (14 + 2 * (2 * t + 1))), .ref (ad (64 + 2 * t)), .int (σ.2.2.1 t)]) := by
  have h : t = 0 ∨ t = 1 ∨ t = 2 ∨ t = 3 ∨ t = 4 ∨ t = 5 := by omega
  rcases h with rfl | rfl | rfl | rfl | rfl | rfl <;> rfl
theorem al_cE_row (cy : al_CY) (ad : Nat → Nat) (σ : al_St) {i : Nat} (hi : i < 25) : al_cE cy ad σ (14 + 2 * i) = .inr (2, [.ref (ad (15 + 2 * i))]) := by
  have h1 : ¬ 14 + 2 * i < 14 := by omega
  have h2 : 14 + 2 * i < 64 := by omega
  have h3 : (14 + 2 * i) % 2 = 0 := by omega
  have h4 : 14 + 2 * i + 1 = 15 + 2 * i := by omega
  simp only [al_cE, h1, h2, h3, if_true, if_false, h4]
theorem al_cE_arr (cy : al_CY) (ad : Nat → Nat) (σ : al_St) {i : Nat} (hi : i < 25) : al_cE cy ad σ (15 + 2 * i) = .inl (cy.1, 90, .inl (σ.1 i)) := by
  have h1 : ¬ 15 + 2 * i < 14 := by omega
  have h2 : 15 + 2 * i < 64 := by omega
  have h3 : ¬ (15 + 2 * i) % 2 = 0 := by omega
  have h4 : (15 + 2 * i - 15) / 2 = i := by omega
  simp only [al_cE, h1, h2, h3, if_true, if_false, h4]
theorem al_cE_frow (cy : al_CY) (ad : Nat → Nat) (σ : al_St) {i : Nat} : al_cE cy ad σ (64 + 2 * i) = .inr (0, [.ref (ad (65 + 2 * i))]) := by
  have h1 : ¬ 64 + 2 * i < 14 := by omega
  have h2 : ¬ 64 + 2 * i < 64 := by omega
  have h3 : (64 + 2 * i) % 2 = 0 := by omega
  have h4 : 64 + 2 * i + 1 = 65 + 2 * i := by omega
  simp only [al_cE, h1, h2, h3, if_true, if_false, h4]
theorem al_cE_farr (cy : al_CY) (ad : Nat → Nat) (σ : al_St) {i : Nat} : al_cE cy ad σ (65 + 2 * i) = .inl (cy.2.1, 90, .inr (.inr (.inl (σ.2.1 i)))) := by
  have h1 : ¬ 65 + 2 * i < 14 := by omega
  have h2 : ¬ 65 + 2 * i < 64 := by omega
  have h3 : ¬ (65 + 2 * i) % 2 = 0 := by omega
  have h4 : (65 + 2 * i - 65) / 2 = i := by omega
  simp only [al_cE, h1, h2, h3, if_true, if_false, h4]
def al_W (cy : al_CY) (ad : Nat → Nat) (σ : al_St) : va_W := (List.range 80).map (fun k => (ad k, al_cE cy ad σ k))
theorem al_W_at (cy : al_CY) (ad : Nat → Nat) (σ : al_St) {k : Nat} (hk : k < 80) : (al_W cy ad σ)[k]? = some (ad k, al_cE cy ad σ k) := by
  simp [al_W, hk]
theorem al_W_set (cy : al_CY) (ad : Nat → Nat) (σ σ' : al_St) {k : Nat} {e : va_E} (h1 : al_cE cy ad σ' k = e) (h2 : ∀ j, j < 80 → j ≠ k → al_cE cy ad σ' j = al_cE cy ad σ j) : (al_W cy ad σ).set k (ad k, e) = al_W cy ad σ' := by
  apply List.ext_getElem?
  intro j
  by_cases hj : j < 80
  · rw [al_W_at cy ad σ' hj]
    by_cases hjk : j = k
    · subst hjk
      rw [List.getElem?_set_self (by simp [al_W, hj]), h1]
    · rw [List.getElem?_set_ne (Ne.symm hjk), al_W_at cy ad σ hj, h2 j hj hjk]
  · rw [List.getElem?_eq_none (by simp [al_W]; omega), List.getElem?_eq_none (by simp [al_W]; omega)]
/-- the addresses are apart -/
def al_dis (ad : Nat → Nat) : Prop := ∀ i j, i < 80 → j < 80 → ad i = ad j → i = j
/-- the world's own cells -/
def al_A (ad : Nat → Nat) : Nat → Prop := fun q => ∃ k, k < 80 ∧ q = ad k
/-- the heap holds the state; the history's slots name trees -/
def al_H (D : va_G) (cy : al_CY) (ad : Nat → Nat) (σ : al_St) (H : Heap) : Prop := va_P D vwCl (al_W cy ad σ) H ∧ al_dis ad ∧ ∀ j, σ.2.2.2 j < 6
abbrev al_tys (cy : al_CY) : List (ClassId × FieldType) := [(cy.1, .int), (cy.2.1, .float), (cy.2.2.1, .char), (cy.2.2.2, .object RX6)]
theorem al_W_D {cy : al_CY} {ad : Nat → Nat} {σ : al_St} (h : al_dis ad) : va_D (al_A ad) (al_W cy ad σ) := by
  have key : ∀ (k : Nat) (q : Nat × va_E), (al_W cy ad σ)[k]? = some q → k < 80 ∧ q.1 = ad k := by
    intro k q hq
    have hl := (List.getElem?_eq_some_iff.mp hq).1
    have hk : k < 80 := by simpa [al_W] using hl
    rw [al_W_at cy ad σ hk] at hq
    cases hq
    exact ⟨hk, rfl⟩
  refine ⟨fun i j p q hi hj he => ?_, fun k q hq => ?_⟩
  · obtain ⟨a1, a2⟩ := key i p hi
    obtain ⟨b1, b2⟩ := key j q hj
    exact h i j a1 b1 (by rw [← a2, ← b2]; exact he)
  · obtain ⟨a1, a2⟩ := key k q hq
    exact ⟨k, a1, a2⟩
/-- one cell of the world -/
theorem al_H.cell {D : va_G} {cy : al_CY} {ad : Nat → Nat} {σ : al_St} {H : Heap} (h : al_H D cy ad σ H) {k : Nat} (hk : k < 80) {e : va_E} (he : al_cE cy ad σ k = e) : (al_W cy ad σ)[k]? = some (ad k, e) := by
  rw [al_W_at cy ad σ hk, he]
/-! contracts: a start in the world; an end that leaves the heap; an end that leaves another state -/
abbrev al_ws (y : MethodName) (bytes : ByteArray) (maxL : Nat) (ret : Option FieldType) : List Cond := Cond.code y bytes maxL ret :: al_G
abbrev al_rm (f lo : Nat) : Room := { frames := f, cells := 0, slots := 0, locals := lo }
def al_Pc (D : va_G) (cy : al_CY) (ad : Nat → Nat) (σ : al_St) (av : List Value) : Array Value → State → Prop := va_Pc av (fun U => al_H D cy ad σ U.heap ∧ va_K D vwCl (al_tys cy) U)
def al_Qp (v : Option Value) : Array Value → State → Outcome → State → Prop := fun _ st o t => o = .returned v ∧ t.heap = st.heap
def al_Qs (D : va_G) (cy : al_CY) (ad : Nat → Nat) (v : Option Value) (σ : al_St) : Array Value → State → Outcome → State → Prop := fun _ st o t => o = .returned v ∧ al_H D cy ad σ t.heap ∧ va_F (al_A ad) st t
/-- a method that only reads -/
abbrev al_MP (l : Launch) (y : MethodName) (bytes : ByteArray) (maxL : Nat) (ret : Option FieldType) (f lo : Nat) (D : va_G) (cy : al_CY) (ad : Nat → Nat) (σ : al_St) (av : List Value) (v : Option Value) : Prop := Met l y (al_ws y bytes maxL ret) (al_rm f lo) (al_Pc D cy ad σ av) (al_Qp v) 0 0 (fun _ => False)
/-- a method that leaves the state σ' -/
abbrev al_MS (l : Launch) (y : MethodName) (bytes : ByteArray) (maxL : Nat) (ret : Option FieldType) (f lo : Nat) (D : va_G) (cy : al_CY) (ad : Nat → Nat) (σ : al_St) (av : List Value) (v : Option Value) (σ' : al_St) : Prop := Met l y (al_ws y bytes maxL ret) (al_rm f lo) (al_Pc D cy ad σ av) (al_Qs D cy ad v σ') 0 0 (al_A ad)
theorem al_blind {D : va_G} {cy : al_CY} {ad : Nat → Nat} {σ : al_St} {av : List Value} : FrameBlind (al_Pc D cy ad σ av) := fun a U g mk q => ⟨q.1, q.2.1, va_K.moved (u := U) (U := U.calling g mk a) (Vm.Alike.refl U.vm) q.2.2⟩
/-- what a call needs of the tables -/
def al_mv (y : MethodName) (bytes : ByteArray) (maxL : Nat) (ret : Option FieldType) (n : Nat) : Prop := Cond.code y bytes maxL ret ∈ al_G ∧ Cond.initialized y.cls ∈ al_G ∧ (y.cls ≠ "java/lang/invoke/MethodHandle" ∧ y.cls ≠ "java/lang/invoke/VarHandle" ∧ (parseMethodDescriptor y.desc).map (fun d => d.parameters.length) = some n) ∧ plainName y.cls = true
def al_mi (y : MethodName) (bytes : ByteArray) (maxL : Nat) (ret : Option FieldType) (n : Nat) : Prop := al_mv y bytes maxL ret n ∧ Cond.instanceMethod y ∈ al_G ∧ Cond.selects y.cls y y ∈ al_G
def al_mst (y : MethodName) (bytes : ByteArray) (maxL : Nat) (ret : Option FieldType) (n : Nat) : Prop := al_mv y bytes maxL ret n ∧ Cond.static y ∈ al_G
section ALW
variable {p : Program} {l : Launch} {e : Env} {R : Room} {s : State} {m : MethodId} {args : Array Value} {below : List Frame} {meth : Method} {c : Code} {H : Heap} {locs : List Loc} {cells slots : Nat} {Q : State → Prop}
variable {y : MethodName} {bytes cc : ByteArray} {maxL nL n index f lo pc : Nat} {ret : Option FieldType} {own : String} {b : Addr} {As rest st0 : List Value} {ls : Array Slot}
variable {D : va_G} {cy : al_CY} {ad : Nat → Nat} {σ σ' : al_St} {v : Option Value} {H0 : Heap}
theorem al_cb (ht : ∀ w ∈ al_G, w.before args s = true) (hm : al_mv y bytes maxL ret n) (hl : Cond.methodLink own index y ∈ al_G) (hR : f + 1 ≤ R.frames ∧ 8 + (maxL + 11) + lo ≤ R.locals) : CallB R s args own index y bytes maxL ret (al_ws y bytes maxL ret) (al_rm f lo) 0 0 n :=
  callB_of n ht (al_GoodIn hm.1) rfl rfl rfl (ht _ hm.2.1) (ht _ hl) hm.2.2.1 hR
theorem al_runP (hr : va_Run p l e R s m args below meth c H locs cells slots 0 0 (F0 m pc ls st0) rest (al_Qp v #[]) (fun _ => False)) (kk : W p l e R s m args below meth c H locs cells slots Q (F0 m (pc + 3) ls (v.toList ++ rest))) : W p l e R s m args below meth c H locs cells slots Q (F0 m pc ls st0) := by
  intro T hT X
  obtain ⟨w, st₀, t, T', L, h0, X', hL, e1, e2, ⟨hv, hh⟩, st⟩ := hr T hT X
  cases hv
  have hL0 : L = [] := by
    cases L with
    | nil => rfl
    | cons a L => exact (hL a List.mem_cons_self).elim
  subst hL0
  rw [List.append_nil] at X'
  obtain ⟨t2, a1, b1⟩ := kk T' (by rw [e1, hh, h0]) X'
  exact ⟨t2, st t2 a1, b1⟩
theorem al_runS (hr : va_Run p l e R s m args below meth c H locs cells slots 0 0 (F0 m pc ls st0) rest (al_Qs D cy ad v σ' #[]) (al_A ad)) (hS : va_S (al_A ad) H0 H locs) (kk : ∀ (H1 : Heap) (locs1 : List Loc), al_H D cy ad σ' H1 → va_S (al_A ad) H0 H1 locs1 → W p l e R s m args below meth c H1 locs1 cells slots Q (F0 m (pc + 3) ls (v.toList ++ rest))) : W p l e R s m args below meth c H locs cells slots Q (F0 m pc ls st0) := by
  intro T hT X
  obtain ⟨w, st₀, t, T', L, h0, X', hL, e1, e2, ⟨hv, hw, hz, hk⟩, st⟩ := hr T hT X
  cases hv
  rw [h0] at hz hk
  obtain ⟨t2, a1, b1⟩ := kk T'.heap (locs ++ L) (by rw [e1]; exact hw)
    ⟨Nat.le_trans hS.1 (by rw [e1]; exact hz), fun q h1 h2 => by rw [e1, hk q (Nat.lt_of_lt_of_le h1 hS.1) h2]; exact hS.2.1 q h1 h2, fun q hq => by
      rcases List.mem_append.mp hq with h | h
      · exact hS.2.2 q h
      · exact hL q h⟩ T' rfl X'
  exact ⟨t2, st t2 a1, b1⟩
/-- the receiver is an object of the world -/
def al_rc (D : va_G) (cy : al_CY) (ad : Nat → Nat) (σ : al_St) (k : Nat) (C : String) : Prop := k < 80 ∧ ∃ (ci : Nat) (fs : List Value) (T : u_T) (N : Nat), al_cE cy ad σ k = .inr (ci, fs) ∧ vwCl[ci]? = some (C, T, N)
theorem al_recv (hK : va_K D vwCl (al_tys cy) s) (hW : al_H D cy ad σ H) {k : Nat} {C : String} (h : al_rc D cy ad σ k C) : ∃ cell : Cell, H[ad k]? = some cell ∧ cell.vm.isStatics = false ∧ s.vm.findClass C = some cell.cls := by
  obtain ⟨hk, ci, fs, T, N, h1, h2⟩ := h
  exact va_recv hK hW.1 h2 (hW.cell hk h1)
/-- a call of a method that only reads -/
theorem al_cP (S : CallFix p m c cc nL s args al_G own) (hK : va_K D vwCl (al_tys cy) s) (hW : al_H D cy ad σ H) (hM : al_MP l y bytes maxL ret f lo D cy ad σ (.ref b :: As) v) (hm : al_mi y bytes maxL ret n) (hl : Cond.methodLink own index y ∈ al_G) {k : Nat} (hb : b = ad k) (hrc : al_rc D cy ad σ k y.cls) (hn : As.length = n) (hsz : ls.size = nL) (hst : st0 = As.reverse ++ .ref b :: rest) (hrest : (rest.map fun v => v.category).sum ≤ 8) (hdg : decode cc pc = .ok (.invokevirtual index, 3)) (hR : f + 1 ≤ R.frames ∧ 8 + (maxL + 11) + lo ≤ R.locals) (hf : cells ≤ R.cells ∧ slots ≤ R.slots)
    (kk : W p l e R s m args below meth c H locs cells slots Q (F0 m (pc + 3) ls (v.toList ++ rest))) : W p l e R s m args below meth c H locs cells slots Q (F0 m pc ls st0) :=
  al_runP (va_runV (As := As) (rest := rest) S hM ⟨al_cb S.2.2.2.2 hm.1 hl hR, S.2.2.2.2 _ hm.2.1, S.2.2.2.2 _ hm.2.2⟩ ⟨al_blind, by rw [hb]; exact al_recv hK hW hrc, fun U hU hV => ⟨rfl, by rw [hU]; exact hW, va_K.moved hV.alike hK⟩⟩ rfl hn hsz hst (lv_room hrest) hdg hf) kk
theorem al_cPs (S : CallFix p m c cc nL s args al_G own) (hK : va_K D vwCl (al_tys cy) s) (hW : al_H D cy ad σ H) (hM : al_MP l y bytes maxL ret f lo D cy ad σ As v) (hm : al_mst y bytes maxL ret n) (hl : Cond.methodLink own index y ∈ al_G) (hn : As.length = n) (hsz : ls.size = nL) (hst : st0 = As.reverse ++ rest) (hrest : (rest.map fun v => v.category).sum ≤ 8) (hdg : decode cc pc = .ok (.invokestatic index, 3)) (hR : f + 1 ≤ R.frames ∧ 8 + (maxL + 11) + lo ≤ R.locals) (hf : cells ≤ R.cells ∧ slots ≤ R.slots)
    (kk : W p l e R s m args below meth c H locs cells slots Q (F0 m (pc + 3) ls (v.toList ++ rest))) : W p l e R s m args below meth c H locs cells slots Q (F0 m pc ls st0) :=
  al_runP (va_runS (As := As) (rest := rest) S hM ⟨al_cb S.2.2.2.2 hm.1 hl hR, S.2.2.2.2 _ hm.2⟩ ⟨al_blind, fun U hU hV => ⟨rfl, by rw [hU]; exact hW, va_K.moved hV.alike hK⟩⟩ rfl hn hsz hst (lv_room hrest) hdg hf) kk
/-- a call of a method that writes -/
theorem al_cS (S : CallFix p m c cc nL s args al_G own) (hK : va_K D vwCl (al_tys cy) s) (hW : al_H D cy ad σ H) (hS : va_S (al_A ad) H0 H locs) (hM : al_MS l y bytes maxL ret f lo D cy ad σ (.ref b :: As) v σ') (hm : al_mi y bytes maxL ret n) (hl : Cond.methodLink own index y ∈ al_G) {k : Nat} (hb : b = ad k) (hrc : al_rc D cy ad σ k y.cls) (hn : As.length = n) (hsz : ls.size = nL) (hst : st0 = As.reverse ++ .ref b :: rest) (hrest : (rest.map fun v => v.category).sum ≤ 8) (hdg : decode cc pc = .ok (.invokevirtual index, 3)) (hR : f + 1 ≤ R.frames ∧ 8 + (maxL + 11) + lo ≤ R.locals) (hf : cells ≤ R.cells ∧ slots ≤ R.slots)
    (kk : ∀ (H1 : Heap) (locs1 : List Loc), al_H D cy ad σ' H1 → va_S (al_A ad) H0 H1 locs1 → W p l e R s m args below meth c H1 locs1 cells slots Q (F0 m (pc + 3) ls (v.toList ++ rest))) : W p l e R s m args below meth c H locs cells slots Q (F0 m pc ls st0) :=
  al_runS (va_runV (As := As) (rest := rest) S hM ⟨al_cb S.2.2.2.2 hm.1 hl hR, S.2.2.2.2 _ hm.2.1, S.2.2.2.2 _ hm.2.2⟩ ⟨al_blind, by rw [hb]; exact al_recv hK hW hrc, fun U hU hV => ⟨rfl, by rw [hU]; exact hW, va_K.moved hV.alike hK⟩⟩ rfl hn hsz hst (lv_room hrest) hdg hf) hS kk
theorem al_cSs (S : CallFix p m c cc nL s args al_G own) (hK : va_K D vwCl (al_tys cy) s) (hW : al_H D cy ad σ H) (hS : va_S (al_A ad) H0 H locs) (hM : al_MS l y bytes maxL ret f lo D cy ad σ As v σ') (hm : al_mst y bytes maxL ret n) (hl : Cond.methodLink own index y ∈ al_G) (hn : As.length = n) (hsz : ls.size = nL) (hst : st0 = As.reverse ++ rest) (hrest : (rest.map fun v => v.category).sum ≤ 8) (hdg : decode cc pc = .ok (.invokestatic index, 3)) (hR : f + 1 ≤ R.frames ∧ 8 + (maxL + 11) + lo ≤ R.locals) (hf : cells ≤ R.cells ∧ slots ≤ R.slots)
    (kk : ∀ (H1 : Heap) (locs1 : List Loc), al_H D cy ad σ' H1 → va_S (al_A ad) H0 H1 locs1 → W p l e R s m args below meth c H1 locs1 cells slots Q (F0 m (pc + 3) ls (v.toList ++ rest))) : W p l e R s m args below meth c H locs cells slots Q (F0 m pc ls st0) :=
  al_runS (va_runS (As := As) (rest := rest) S hM ⟨al_cb S.2.2.2.2 hm.1 hl hR, S.2.2.2.2 _ hm.2⟩ ⟨al_blind, fun U hU hV => ⟨rfl, by rw [hU]; exact hW, va_K.moved hV.alike hK⟩⟩ rfl hn hsz hst (lv_room hrest) hdg hf) hS kk
end ALW
/-- a method's body, from its entry -/
theorem al_met {l : Launch} {y : MethodName} {cc : ByteArray} {maxL f lo : Nat} {ret : Option FieldType} {D : va_G} {cy : al_CY} {ad : Nat → Nat} {σ : al_St} {av : List Value} {Qc : Array Value → State → Outcome → State → Prop} {free : Addr → Prop} {n : Nat} (hm : al_mv y cc maxL ret n) (hlen : (lg_sl av).length ≤ maxL)
    (body : ∀ (p : Program) (e : Env) (s : State) (m : MethodId) (args : Array Value) (below : List Frame) (meth : Method) (c : Code) (ls : Array Slot), CallFix p m c cc maxL s args al_G y.cls → meth.sig.returnType = ret → meth.locks = false → va_K D vwCl (al_tys cy) s → al_H D cy ad σ s.heap → va_S (al_A ad) s.heap s.heap [] → lv_has ls maxL (lv_args 0 av) → W p l e (al_rm f lo) s m args below meth c s.heap [] 0 0 (MQ below Qc args s 0 0 free) (F0 m 0 ls [])) : Met l y (al_ws y cc maxL ret) (al_rm f lo) (al_Pc D cy ad σ av) Qc 0 0 free := by
  refine Met.ofW (cc := cc) (maxL := maxL) (ret := ret) hm.2.2.2 rfl ?_
  intro p e s m args below meth c s₁ B hml hv
  obtain ⟨rfl, hW, hK⟩ := hv
  have hts := atoms_spec (ws := al_ws y cc maxL ret) B.pre
  rw [lg_entry_eq]
  exact body p e s m _ below meth c _ ⟨B.exec, B.bytes, hml, findClass_of_methodNamed B.named, fun w h => hts w (List.mem_cons_of_mem _ h)⟩ B.returns B.notSynchronized hK hW va_S.rf (lv_entry av hlen)
end
section
/-! updates of the state; reads and writes of a row; a row for each field -/
def al_sR (σ : al_St) (i : Nat) (f : Nat → Int32) : al_St := (fun k => if k = i then f else σ.1 k, σ.2)
def al_sF (σ : al_St) (i : Nat) (f : Nat → UInt32) : al_St := (σ.1, fun k => if k = i then f else σ.2.1 k, σ.2.2)
def al_sV (σ : al_St) (i : Nat) (x : Int32) : al_St := (σ.1, σ.2.1, fun k => if k = i then x else σ.2.2.1 k, σ.2.2.2)
def al_sT (σ : al_St) (f : Nat → Nat) : al_St := (σ.1, σ.2.1, σ.2.2.1, f)
def al_rg (f : Nat → Int32) (x : Int32) : Int32 := if x < 0 then -1 else if 90 ≤ x then -1 else f x.toNatClampNeg
def al_fg (f : Nat → UInt32) (x : Int32) : UInt32 := if x < 0 then FP.fconst0 else if 90 ≤ x then FP.fconst0 else f x.toNatClampNeg
def al_rs (f : Nat → Int32) (x v : Int32) : Nat → Int32 := if x < 0 then f else if 90 ≤ x then f else upd f x.toNatClampNeg v
def al_fs (f : Nat → UInt32) (x : Int32) (v : UInt32) : Nat → UInt32 := if x < 0 then f else if 90 ≤ x then f else vf_upd f x.toNatClampNeg v
/-- the row i with v at the place x -/
def al_set (σ : al_St) (i : Nat) (x v : Int32) : al_St := al_sR σ i (al_rs (σ.1 i) x v)
def al_fset (σ : al_St) (i : Nat) (x : Int32) (v : UInt32) : al_St := al_sF σ i (al_fs (σ.2.1 i) x v)
theorem al_vin {x N : Int32} {n : Nat} (hN : N.toInt = n) (h1 : ¬ x < 0) (h2 : ¬ N ≤ x) : vp_in x n := by
  rw [vp_in_iff]
  have a : ¬ x.toInt < 0 := fun h => h1 (by rw [Int32.lt_iff_toInt_lt]; exact h)
  have b : ¬ N.toInt ≤ x.toInt := fun h => h2 (by rw [Int32.le_iff_toInt_le]; exact h)
  omega
theorem al_sR_sR (σ : al_St) (i : Nat) (f g : Nat → Int32) : al_sR (al_sR σ i f) i g = al_sR σ i g := by
  simp only [al_sR]
  refine Prod.ext ?_ rfl
  funext k
  by_cases h : k = i <;> simp [h]
theorem al_sF_sF (σ : al_St) (i : Nat) (f g : Nat → UInt32) : al_sF (al_sF σ i f) i g = al_sF σ i g := by
  simp only [al_sF]
  refine Prod.ext rfl (Prod.ext ?_ rfl)
  funext k
  by_cases h : k = i <;> simp [h]
theorem al_sR_self (σ : al_St) (i : Nat) : al_sR σ i (σ.1 i) = σ := by
  simp only [al_sR]
  refine Prod.ext ?_ rfl
  funext k
  by_cases h : k = i <;> simp [h]
theorem al_sF_self (σ : al_St) (i : Nat) : al_sF σ i (σ.2.1 i) = σ := by
  simp only [al_sF]
  refine Prod.ext rfl (Prod.ext ?_ rfl)
  funext k
  by_cases h : k = i <;> simp [h]
theorem al_cE_big {cy : al_CY} {ad : Nat → Nat} {σ σ' : al_St} (h1 : σ'.1 = σ.1) (h2 : σ'.2.1 = σ.2.1) {k : Nat} (hk : ¬ k < 14) : al_cE cy ad σ' k = al_cE cy ad σ k := by
  simp only [al_cE, hk, if_false, h1, h2]
theorem al_cE_small {cy : al_CY} {ad : Nat → Nat} {σ σ' : al_St} {k : Nat} (hk : k < 14) (h : al_c0 cy ad σ' k = al_c0 cy ad σ k) : al_cE cy ad σ' k = al_cE cy ad σ k := by
  simp only [al_cE, hk, if_true, h]
theorem al_c0_out {P : Nat → Prop} (h0 : P 0) (h1 : P 1) (h2 : P 2) (h3 : P 3) (h4 : P 4) (h5 : P 5) (h6 : P 6) (h7 : P 7) (h8 : P 8) (h9 : P 9) (h10 : P 10) (h11 : P 11) (h12 : P 12) (h13 : P 13) : ∀ k, k < 14 → P k := by
  intro k hk
  have h : k = 0 ∨ k = 1 ∨ k = 2 ∨ k = 3 ∨ k = 4 ∨ k = 5 ∨ k = 6 ∨ k = 7 ∨ k = 8 ∨ k = 9 ∨ k = 10 ∨ k = 11 ∨ k = 12 ∨ k = 13 := by omega
  rcases h with rfl | rfl | rfl | rfl | rfl | rfl | rfl | rfl | rfl | rfl | rfl | rfl | rfl | rfl <;> assumption
theorem al_c0_congr {cy : al_CY} {ad : Nat → Nat} {σ σ' : al_St} (h25 : σ'.1 25 = σ.1 25) (h3 : σ'.2.2 = σ.2.2) : ∀ k, k < 14 → al_c0 cy ad σ' k = al_c0 cy ad σ k := by
  refine al_c0_out ?_ ?_ ?_ ?_ ?_ ?_ ?_ ?_ ?_ ?_ ?_ ?_ ?_ ?_ <;> simp only [al_c0, h25, h3]
/-- another int row: only its array's cell changes -/
theorem al_W_sR (cy : al_CY) (ad : Nat → Nat) (σ : al_St) {i : Nat} (hi : i < 25) (g : Nat → Int32) : (al_W cy ad σ).set (15 + 2 * i) (ad (15 + 2 * i), .inl (cy.1, 90, .inl g)) = al_W cy ad (al_sR σ i g) := by
  refine al_W_set cy ad σ _ ?_ (fun j hj hne => ?_)
  · rw [al_cE_arr cy ad _ hi]
    simp [al_sR]
  · by_cases h1 : j < 14
    · have h25 : ¬ 25 = i := by omega
      exact al_cE_small h1 (al_c0_congr (σ := σ) (σ' := al_sR σ i g) (by simp [al_sR, h25]) rfl j h1)
    · by_cases h2 : j < 64
      · by_cases h3 : j % 2 = 0
        · simp only [al_cE, h1, h2, h3, if_true, if_false]
        · have h4 : ¬ (j - 15) / 2 = i := by omega
          simp only [al_cE, h1, h2, h3, if_true, if_false, al_sR, h4]
      · simp only [al_cE, h1, h2, if_false, al_sR]
theorem al_W_sF (cy : al_CY) (ad : Nat → Nat) (σ : al_St) {i : Nat} (g : Nat → UInt32) : (al_W cy ad σ).set (65 + 2 * i) (ad (65 + 2 * i), .inl (cy.2.1, 90, .inr (.inr (.inl g)))) = al_W cy ad (al_sF σ i g) := by
  refine al_W_set cy ad σ _ ?_ (fun j hj hne => ?_)
  · rw [al_cE_farr cy ad _]
    simp [al_sF]
  · by_cases h1 : j < 14
    · exact al_cE_small h1 (al_c0_congr (σ := σ) (σ' := al_sF σ i g) rfl rfl j h1)
    · by_cases h2 : j < 64
      · simp only [al_cE, h1, h2, if_true, if_false, al_sF]
      · by_cases h3 : j % 2 = 0
        · simp only [al_cE, h1, h2, h3, if_true, if_false]
        · have h4 : ¬ (j - 65) / 2 = i := by omega
          simp only [al_cE, h1, h2, h3, if_false, al_sF, h4]
/-- the text's signs are the row 25 -/
theorem al_W_sg (cy : al_CY) (ad : Nat → Nat) (σ : al_St) (g : Nat → Int32) : (al_W cy ad σ).set 2 (ad 2, .inl (cy.2.2.1, 60, .inl g)) = al_W cy ad (al_sR σ 25 g) := by
  have key : ∀ k, k < 14 → (k ≠ 2 → al_c0 cy ad (al_sR σ 25 g) k = al_c0 cy ad σ k) := by
    refine al_c0_out ?_ ?_ ?_ ?_ ?_ ?_ ?_ ?_ ?_ ?_ ?_ ?_ ?_ ?_ <;> first | exact fun _ => rfl | exact fun h => absurd rfl h
  refine al_W_set cy ad σ _ ?_ (fun j hj hne => ?_)
  · simp [al_cE, al_c0, al_sR]
  · by_cases h1 : j < 14
    · exact al_cE_small h1 (key j h1 hne)
    · by_cases h2 : j < 64
      · by_cases h3 : j % 2 = 0
        · simp only [al_cE, h1, h2, h3, if_true, if_false]
        · have h4 : ¬ (j - 15) / 2 = 25 := by omega
          simp only [al_cE, h1, h2, h3, if_true, if_false, al_sR, h4]
      · simp only [al_cE, h1, h2, if_false, al_sR]
/-- a scalar changes its own object alone -/
theorem al_W_sV (cy : al_CY) (ad : Nat → Nat) (σ : al_St) {i q : Nat} {x : Int32} {e : va_E} (he : al_cE cy ad (al_sV σ i x) q = e) (h : ∀ k, k < 14 → (k ≠ q → al_c0 cy ad (al_sV σ i x) k = al_c0 cy ad σ k)) : (al_W cy ad σ).set q (ad q, e) = al_W cy ad (al_sV σ i x) := by
  refine al_W_set cy ad σ _ he (fun j hj hne => ?_)
  by_cases h1 : j < 14
  · exact al_cE_small h1 (h j h1 hne)
  · exact al_cE_big (σ := σ) (σ' := al_sV σ i x) rfl rfl h1
theorem al_H.sV {D : va_G} {cy : al_CY} {ad : Nat → Nat} {σ : al_St} {H H1 : Heap} {i q : Nat} {x : Int32} {e : va_E} (h0 : al_H D cy ad σ H) (h : va_P D vwCl ((al_W cy ad σ).set q (ad q, e)) H1) (he : al_cE cy ad (al_sV σ i x) q = e) (hk : ∀ k, k < 14 → (k ≠ q → al_c0 cy ad (al_sV σ i x) k = al_c0 cy ad σ k)) : al_H D cy ad (al_sV σ i x) H1 := by
  rw [al_W_sV cy ad σ he hk] at h
  exact ⟨h, h0.2.1, h0.2.2⟩
theorem al_H.sR {D : va_G} {cy : al_CY} {ad : Nat → Nat} {σ : al_St} {H H1 : Heap} {i : Nat} {g : Nat → Int32} (h0 : al_H D cy ad σ H) (hi : i < 25) (h : va_P D vwCl ((al_W cy ad σ).set (15 + 2 * i) (ad (15 + 2 * i), .inl (cy.1, 90, .inl g))) H1) : al_H D cy ad (al_sR σ i g) H1 := by
  rw [al_W_sR cy ad σ hi g] at h
  exact ⟨h, h0.2.1, h0.2.2⟩
theorem al_H.sG {D : va_G} {cy : al_CY} {ad : Nat → Nat} {σ : al_St} {H H1 : Heap} {g : Nat → Int32} (h0 : al_H D cy ad σ H) (h : va_P D vwCl ((al_W cy ad σ).set 2 (ad 2, .inl (cy.2.2.1, 60, .inl g))) H1) : al_H D cy ad (al_sR σ 25 g) H1 := by
  rw [al_W_sg cy ad σ g] at h
  exact ⟨h, h0.2.1, h0.2.2⟩
theorem al_H.sF {D : va_G} {cy : al_CY} {ad : Nat → Nat} {σ : al_St} {H H1 : Heap} {i : Nat} {g : Nat → UInt32} (h0 : al_H D cy ad σ H) (h : va_P D vwCl ((al_W cy ad σ).set (65 + 2 * i) (ad (65 + 2 * i), .inl (cy.2.1, 90, .inr (.inr (.inl g))))) H1) : al_H D cy ad (al_sF σ i g) H1 := by
  rw [al_W_sF cy ad σ g] at h
  exact ⟨h, h0.2.1, h0.2.2⟩
theorem al_arrV {cA : ClassId} {n : Nat} {f g : Nat → Value} (h : ∀ j, j < n → f j = g j) : arrV cA n f = arrV cA n g := by
  simp only [arrV]
  congr 1
  apply Array.ext
  · simp
  · intro i h1 h2
    simp only [Array.getElem_ofFn]
    exact h i (by simpa using h1)
/-- a state that has the same rows below their ends -/
theorem al_H.congr {D : va_G} {cy : al_CY} {ad : Nat → Nat} {σ σ' : al_St} {H : Heap} (h : al_H D cy ad σ H) (h1 : ∀ i j, i < 25 → j < 90 → σ'.1 i j = σ.1 i j) (h25 : σ'.1 25 = σ.1 25) (h2 : ∀ i j, j < 90 → σ'.2.1 i j = σ.2.1 i j) (h3 : σ'.2.2 = σ.2.2) : al_H D cy ad σ' H := by
  refine ⟨fun k q hq => ?_, h.2.1, fun j => by rw [h3]; exact h.2.2 j⟩
  have hl := (List.getElem?_eq_some_iff.mp hq).1
  have hk : k < 80 := by simpa [al_W] using hl
  rw [al_W_at cy ad σ' hk] at hq
  cases hq
  have h0 := h.1 k _ (al_W_at cy ad σ hk)
  by_cases a1 : k < 14
  · have e : al_cE cy ad σ' k = al_cE cy ad σ k := al_cE_small a1 (al_c0_congr h25 h3 k a1)
    rw [e]
    exact h0
  · by_cases a2 : k < 64
    · by_cases a3 : k % 2 = 0
      · have e : al_cE cy ad σ' k = al_cE cy ad σ k := by simp only [al_cE, a1, a2, a3, if_true, if_false]
        rw [e]
        exact h0
      · simp only [al_cE, a1, a2, a3, if_true, if_false] at h0 ⊢
        have h0 : H[ad k]? = some (vp_cell cy.1 (90, .inl (σ.1 ((k - 15) / 2)))) := h0
        have e : vp_cell cy.1 (90, .inl (σ.1 ((k - 15) / 2))) = vp_cell cy.1 (90, .inl (σ'.1 ((k - 15) / 2))) := by
          rw [vp_cell_i, vp_cell_i]
          refine al_arrV (fun j hj => ?_)
          rw [h1 ((k - 15) / 2) j (by omega) hj]
        rw [e] at h0
        exact h0
    · by_cases a3 : k % 2 = 0
      · have e : al_cE cy ad σ' k = al_cE cy ad σ k := by simp only [al_cE, a1, a2, a3, if_true, if_false]
        rw [e]
        exact h0
      · simp only [al_cE, a1, a2, a3, if_false] at h0 ⊢
        have h0 : H[ad k]? = some (vp_cell cy.2.1 (90, .inr (.inr (.inl (σ.2.1 ((k - 65) / 2)))))) := h0
        have e : vp_cell cy.2.1 (90, .inr (.inr (.inl (σ.2.1 ((k - 65) / 2))))) = vp_cell cy.2.1 (90, .inr (.inr (.inl (σ'.2.1 ((k - 65) / 2))))) := by
          rw [vp_cell_f, vp_cell_f]
          refine al_arrV (fun j hj => ?_)
          rw [h2 ((k - 65) / 2) j hj]
        rw [e] at h0
        exact h0
theorem al_rc_R (D : va_G) (cy : al_CY) (ad : Nat → Nat) (σ : al_St) {i : Nat} (hi : i < 25) : al_rc D cy ad σ (14 + 2 * i) RX2 := ⟨by omega, 2, _, TX2, 1, al_cE_row cy ad σ hi, rfl⟩
theorem al_rc_F (D : va_G) (cy : al_CY) (ad : Nat → Nat) (σ : al_St) {i : Nat} (hi : i < 8) : al_rc D cy ad σ (64 + 2 * i) RX0 := ⟨by omega, 0, _, TX0, 1, al_cE_frow cy ad σ, rfl⟩
theorem al_rc_T (D : va_G) (cy : al_CY) (ad : Nat → Nat) (σ : al_St) {t : Nat} (ht : t < 6) : al_rc D cy ad σ (8 + t) RX6 := ⟨by omega, 6, _, TX6, 4, al_cE_tree cy ad σ ht, rfl⟩
theorem al_rc_8 (D : va_G) (cy : al_CY) (ad : Nat → Nat) (σ : al_St) : al_rc D cy ad σ 0 RX8 := ⟨by decide, 8, _, TX8, 6, rfl, rfl⟩
theorem al_rc_5 (D : va_G) (cy : al_CY) (ad : Nat → Nat) (σ : al_St) : al_rc D cy ad σ 1 RX5 := ⟨by decide, 5, _, TX5, 2, rfl, rfl⟩
theorem al_rc_1 (D : va_G) (cy : al_CY) (ad : Nat → Nat) (σ : al_St) : al_rc D cy ad σ 3 RX1 := ⟨by decide, 1, _, TX1, 4, rfl, rfl⟩
theorem al_rc_4 (D : va_G) (cy : al_CY) (ad : Nat → Nat) (σ : al_St) : al_rc D cy ad σ 5 RX4 := ⟨by decide, 4, _, TX4, 12, rfl, rfl⟩
theorem al_rc_7 (D : va_G) (cy : al_CY) (ad : Nat → Nat) (σ : al_St) : al_rc D cy ad σ 6 RX7 := ⟨by decide, 7, _, TX7, 7, rfl, rfl⟩
theorem al_rc_3 (D : va_G) (cy : al_CY) (ad : Nat → Nat) (σ : al_St) : al_rc D cy ad σ 7 RX3 := ⟨by decide, 3, _, TX3, 5, rfl, rfl⟩
theorem al_inc (k : Nat) : nI k + Int32.ofInt 1 = nI (k + 1) := nI_1 k
section ALF
variable {p : Program} {l : Launch} {e : Env} {R : Room} {s : State} {m : MethodId} {args : Array Value} {below : List Frame} {meth : Method} {c : Code} {H : Heap} {locs : List Loc} {cells slots : Nat} {Q : State → Prop}
variable {cc : ByteArray} {nL n pc : Nat} {own : String} {rest : List Value} {ls : Array Slot}
variable {D : va_G} {cy : al_CY} {ad : Nat → Nat} {σ : al_St} {H0 : Heap} {x v : Int32} {w : UInt32}
theorem al_ialen (S : CallFix p m c cc nL s args al_G own) (hK : va_K D vwCl (al_tys cy) s) (hW : al_H D cy ad σ H) {i : Nat} (hi : i < 25) (hdg : decode cc pc = .ok (.arraylength, 1)) (kk : W p l e R s m args below meth c H locs cells slots Q (F0 m (pc + 1) ls (.int 90 :: rest))) : W p l e R s m args below meth c H locs cells slots Q (F0 m pc ls (.ref (ad (15 + 2 * i)) :: rest)) :=
  va_alen S.1 S.2.1 hK hW.1 (15 + 2 * i) 0 (hW.cell (by omega) (al_cE_arr cy ad σ hi)) rfl rfl hdg kk
theorem al_iald (S : CallFix p m c cc nL s args al_G own) (hK : va_K D vwCl (al_tys cy) s) (hW : al_H D cy ad σ H) {i : Nat} (hi : i < 25) (h1 : ¬ x < 0) (h2 : ¬ 90 ≤ x) (hdg : decode cc pc = .ok (.iaload, 1)) (kk : W p l e R s m args below meth c H locs cells slots Q (F0 m (pc + 1) ls (.int (σ.1 i x.toNatClampNeg) :: rest))) : W p l e R s m args below meth c H locs cells slots Q (F0 m pc ls (.int x :: .ref (ad (15 + 2 * i)) :: rest)) :=
  va_iald S.1 S.2.1 hK hW.1 (15 + 2 * i) 0 (hW.cell (by omega) (al_cE_arr cy ad σ hi)) rfl (al_vin rfl h1 h2) hdg kk
theorem al_iast (S : CallFix p m c cc nL s args al_G own) (hK : va_K D vwCl (al_tys cy) s) (hW : al_H D cy ad σ H) (hS : va_S (al_A ad) H0 H locs) {i : Nat} (hi : i < 25) (h1 : ¬ x < 0) (h2 : ¬ 90 ≤ x) (hdg : decode cc pc = .ok (.iastore, 1)) (kk : ∀ (H1 : Heap) (locs1 : List Loc), al_H D cy ad (al_sR σ i (upd (σ.1 i) x.toNatClampNeg v)) H1 → va_S (al_A ad) H0 H1 locs1 → W p l e R s m args below meth c H1 locs1 cells slots Q (F0 m (pc + 1) ls rest)) : W p l e R s m args below meth c H locs cells slots Q (F0 m pc ls (.int v :: .int x :: .ref (ad (15 + 2 * i)) :: rest)) :=
  va_iast S.1 S.2.1 hK hW.1 (al_W_D hW.2.1) hS (15 + 2 * i) 0 (hW.cell (by omega) (al_cE_arr cy ad σ hi)) rfl (al_vin rfl h1 h2) hdg (fun H1 locs1 a _ b => kk H1 locs1 (hW.sR hi a) b)
theorem al_falen (S : CallFix p m c cc nL s args al_G own) (hK : va_K D vwCl (al_tys cy) s) (hW : al_H D cy ad σ H) {i : Nat} (hi : i < 8) (hdg : decode cc pc = .ok (.arraylength, 1)) (kk : W p l e R s m args below meth c H locs cells slots Q (F0 m (pc + 1) ls (.int 90 :: rest))) : W p l e R s m args below meth c H locs cells slots Q (F0 m pc ls (.ref (ad (65 + 2 * i)) :: rest)) :=
  va_alen S.1 S.2.1 hK hW.1 (65 + 2 * i) 1 (hW.cell (by omega) (al_cE_farr cy ad σ)) rfl rfl hdg kk
theorem al_fald (S : CallFix p m c cc nL s args al_G own) (hK : va_K D vwCl (al_tys cy) s) (hW : al_H D cy ad σ H) {i : Nat} (hi : i < 8) (h1 : ¬ x < 0) (h2 : ¬ 90 ≤ x) (hdg : decode cc pc = .ok (.faload, 1)) (kk : W p l e R s m args below meth c H locs cells slots Q (F0 m (pc + 1) ls (.float (σ.2.1 i x.toNatClampNeg) :: rest))) : W p l e R s m args below meth c H locs cells slots Q (F0 m pc ls (.int x :: .ref (ad (65 + 2 * i)) :: rest)) :=
  va_fald S.1 S.2.1 hK hW.1 (65 + 2 * i) 1 (hW.cell (by omega) (al_cE_farr cy ad σ)) rfl (al_vin rfl h1 h2) hdg kk
theorem al_fast (S : CallFix p m c cc nL s args al_G own) (hK : va_K D vwCl (al_tys cy) s) (hW : al_H D cy ad σ H) (hS : va_S (al_A ad) H0 H locs) {i : Nat} (hi : i < 8) (h1 : ¬ x < 0) (h2 : ¬ 90 ≤ x) (hdg : decode cc pc = .ok (.fastore, 1)) (kk : ∀ (H1 : Heap) (locs1 : List Loc), al_H D cy ad (al_sF σ i (vf_upd (σ.2.1 i) x.toNatClampNeg w)) H1 → va_S (al_A ad) H0 H1 locs1 → W p l e R s m args below meth c H1 locs1 cells slots Q (F0 m (pc + 1) ls rest)) : W p l e R s m args below meth c H locs cells slots Q (F0 m pc ls (.float w :: .int x :: .ref (ad (65 + 2 * i)) :: rest)) :=
  va_fast S.1 S.2.1 hK hW.1 (al_W_D hW.2.1) hS (65 + 2 * i) 1 (hW.cell (by omega) (al_cE_farr cy ad σ)) rfl (al_vin rfl h1 h2) hdg (fun H1 locs1 a _ b => kk H1 locs1 (hW.sF a) b)
theorem al_calen (S : CallFix p m c cc nL s args al_G own) (hK : va_K D vwCl (al_tys cy) s) (hW : al_H D cy ad σ H) (hdg : decode cc pc = .ok (.arraylength, 1)) (kk : W p l e R s m args below meth c H locs cells slots Q (F0 m (pc + 1) ls (.int 60 :: rest))) : W p l e R s m args below meth c H locs cells slots Q (F0 m pc ls (.ref (ad 2) :: rest)) :=
  va_alen S.1 S.2.1 hK hW.1 2 2 (hW.cell (by decide) rfl) rfl rfl hdg kk
theorem al_cald (S : CallFix p m c cc nL s args al_G own) (hK : va_K D vwCl (al_tys cy) s) (hW : al_H D cy ad σ H) (h1 : ¬ x < 0) (h2 : ¬ 60 ≤ x) (hdg : decode cc pc = .ok (.caload, 1)) (kk : W p l e R s m args below meth c H locs cells slots Q (F0 m (pc + 1) ls (.int (σ.1 25 x.toNatClampNeg) :: rest))) : W p l e R s m args below meth c H locs cells slots Q (F0 m pc ls (.int x :: .ref (ad 2) :: rest)) :=
  va_cald S.1 S.2.1 hK hW.1 2 2 (hW.cell (by decide) rfl) rfl (al_vin rfl h1 h2) hdg kk
theorem al_qalen (S : CallFix p m c cc nL s args al_G own) (hK : va_K D vwCl (al_tys cy) s) (hW : al_H D cy ad σ H) (hdg : decode cc pc = .ok (.arraylength, 1)) (kk : W p l e R s m args below meth c H locs cells slots Q (F0 m (pc + 1) ls (.int 4 :: rest))) : W p l e R s m args below meth c H locs cells slots Q (F0 m pc ls (.ref (ad 4) :: rest)) :=
  va_alen S.1 S.2.1 hK hW.1 4 3 (hW.cell (by decide) rfl) rfl rfl hdg kk
theorem al_qald (S : CallFix p m c cc nL s args al_G own) (hK : va_K D vwCl (al_tys cy) s) (hW : al_H D cy ad σ H) (h1 : ¬ x < 0) (h2 : ¬ 4 ≤ x) (hdg : decode cc pc = .ok (.aaload, 1)) (kk : W p l e R s m args below meth c H locs cells slots Q (F0 m (pc + 1) ls (.ref (ad (8 + σ.2.2.2 x.toNatClampNeg)) :: rest))) : W p l e R s m args below meth c H locs cells slots Q (F0 m pc ls (.int x :: .ref (ad 4) :: rest)) :=
  va_aldq S.1 S.2.1 hK hW.1 4 3 (hW.cell (by decide) rfl) rfl (al_vin rfl h1 h2) hdg kk
/-- AncestorLooks$Row.cells -/
theorem al_g_RX2_9 (S : CallFix p m c cc nL s args al_G RX2) (hK : va_K D vwCl (al_tys cy) s) (hW : al_H D cy ad σ H) {i : Nat} (hi : i < 25) (hdg : decode cc pc = .ok (.getfield 9, 3)) (kk : W p l e R s m args below meth c H locs cells slots Q (F0 m (pc + 3) ls (.ref (ad (15 + 2 * i)) :: rest))) : W p l e R s m args below meth c H locs cells slots Q (F0 m pc ls (.ref (ad (14 + 2 * i)) :: rest)) :=
  va_get S.1 S.2.1 S.2.2.2.2 al_in2 S.2.2.2.1 hK hW.1 (14 + 2 * i) (hW.cell (by omega) (al_cE_row cy ad σ hi)) rfl 0 (by decide) (S.2.2.2.2 _ al_fl_RX2_9) (fun _ h9 => h9) rfl hdg kk
/-- AncestorLooks$FloatRow.cells -/
theorem al_g_RX0_9 (S : CallFix p m c cc nL s args al_G RX0) (hK : va_K D vwCl (al_tys cy) s) (hW : al_H D cy ad σ H) {i : Nat} (hi : i < 8) (hdg : decode cc pc = .ok (.getfield 9, 3)) (kk : W p l e R s m args below meth c H locs cells slots Q (F0 m (pc + 3) ls (.ref (ad (65 + 2 * i)) :: rest))) : W p l e R s m args below meth c H locs cells slots Q (F0 m pc ls (.ref (ad (64 + 2 * i)) :: rest)) :=
  va_get S.1 S.2.1 S.2.2.2.2 al_in0 S.2.2.2.1 hK hW.1 (64 + 2 * i) (hW.cell (by omega) (al_cE_frow cy ad σ)) rfl 0 (by decide) (S.2.2.2.2 _ al_fl_RX0_9) (fun _ h9 => h9) rfl hdg kk
/-- AncestorLooks$Tree.parents -/
theorem al_g_RX6_12 (S : CallFix p m c cc nL s args al_G RX6) (hK : va_K D vwCl (al_tys cy) s) (hW : al_H D cy ad σ H) {t : Nat} (ht : t < 6) (hdg : decode cc pc = .ok (.getfield 12, 3)) (kk : W p l e R s m args below meth c H locs cells slots Q (F0 m (pc + 3) ls (.ref (ad (14 + 2 * (2 * t))) :: rest))) : W p l e R s m args below meth c H locs cells slots Q (F0 m pc ls (.ref (ad (8 + t)) :: rest)) :=
  va_get S.1 S.2.1 S.2.2.2.2 al_in6 S.2.2.2.1 hK hW.1 (8 + t) (hW.cell (by omega) (al_cE_tree cy ad σ ht)) rfl 0 (by decide) (S.2.2.2.2 _ al_fl_RX6_12) (fun _ h9 => h9) rfl hdg kk
/-- AncestorLooks$Tree.bits -/
theorem al_g_RX6_18 (S : CallFix p m c cc nL s args al_G RX6) (hK : va_K D vwCl (al_tys cy) s) (hW : al_H D cy ad σ H) {t : Nat} (ht : t < 6) (hdg : decode cc pc = .ok (.getfield 18, 3)) (kk : W p l e R s m args below meth c H locs cells slots Q (F0 m (pc + 3) ls (.ref (ad (14 + 2 * (2 * t + 1))) :: rest))) : W p l e R s m args below meth c H locs cells slots Q (F0 m pc ls (.ref (ad (8 + t)) :: rest)) :=
  va_get S.1 S.2.1 S.2.2.2.2 al_in6 S.2.2.2.1 hK hW.1 (8 + t) (hW.cell (by omega) (al_cE_tree cy ad σ ht)) rfl 1 (by decide) (S.2.2.2.2 _ al_fl_RX6_18) (fun _ h9 => h9) rfl hdg kk
/-- AncestorLooks$Tree.lengths -/
theorem al_g_RX6_24 (S : CallFix p m c cc nL s args al_G RX6) (hK : va_K D vwCl (al_tys cy) s) (hW : al_H D cy ad σ H) {t : Nat} (ht : t < 6) (hdg : decode cc pc = .ok (.getfield 24, 3)) (kk : W p l e R s m args below meth c H locs cells slots Q (F0 m (pc + 3) ls (.ref (ad (64 + 2 * t)) :: rest))) : W p l e R s m args below meth c H locs cells slots Q (F0 m pc ls (.ref (ad (8 + t)) :: rest)) :=
  va_get S.1 S.2.1 S.2.2.2.2 al_in6 S.2.2.2.1 hK hW.1 (8 + t) (hW.cell (by omega) (al_cE_tree cy ad σ ht)) rfl 2 (by decide) (S.2.2.2.2 _ al_fl_RX6_24) (fun _ h9 => h9) rfl hdg kk
/-- AncestorLooks$Tree.ever -/
theorem al_g_RX6_32 (S : CallFix p m c cc nL s args al_G RX6) (hK : va_K D vwCl (al_tys cy) s) (hW : al_H D cy ad σ H) {t : Nat} (ht : t < 6) (hdg : decode cc pc = .ok (.getfield 32, 3)) (kk : W p l e R s m args below meth c H locs cells slots Q (F0 m (pc + 3) ls (.int (σ.2.2.1 t) :: rest))) : W p l e R s m args below meth c H locs cells slots Q (F0 m pc ls (.ref (ad (8 + t)) :: rest)) :=
  va_get S.1 S.2.1 S.2.2.2.2 al_in6 S.2.2.2.1 hK hW.1 (8 + t) (hW.cell (by omega) (al_cE_tree cy ad σ ht)) rfl 3 (by decide) (S.2.2.2.2 _ al_fl_RX6_32) (fun _ h9 => h9) rfl hdg kk
theorem al_V_tree {t : Nat} {x : Int32} (ht : t < 6) : ∀ k, k < 14 → (k ≠ 8 + t → al_c0 cy ad (al_sV σ t x) k = al_c0 cy ad σ k) := by
      have h : t = 0 ∨ t = 1 ∨ t = 2 ∨ t = 3 ∨ t = 4 ∨ t = 5 := by omega
      rcases h with rfl | rfl | rfl | rfl | rfl | rfl <;> (refine al_c0_out ?_ ?_ ?_ ?_ ?_ ?_ ?_ ?_ ?_ ?_ ?_ ?_ ?_ ?_ <;> first | exact fun _ => rfl | exact fun h => absurd rfl h)
theorem al_p_RX6_32 (S : CallFix p m c cc nL s args al_G RX6) (hK : va_K D vwCl (al_tys cy) s) (hW : al_H D cy ad σ H) (hS : va_S (al_A ad) H0 H locs) {t : Nat} (ht : t < 6) (hdg : decode cc pc = .ok (.putfield 32, 3)) (kk : ∀ (H1 : Heap) (locs1 : List Loc), al_H D cy ad (al_sV σ t v) H1 → va_S (al_A ad) H0 H1 locs1 → W p l e R s m args below meth c H1 locs1 cells slots Q (F0 m (pc + 3) ls (rest))) : W p l e R s m args below meth c H locs cells slots Q (F0 m pc ls (.int v :: .ref (ad (8 + t)) :: rest)) :=
  va_put S.1 S.2.1 S.2.2.2.2 al_in6 tyX6 tyX6_ok nmX6 S.2.2.2.1 hK hW.1 (al_W_D hW.2.1) hS (8 + t) (hW.cell (by omega) (al_cE_tree cy ad σ ht)) rfl 3 (by decide) (S.2.2.2.2 _ al_fl_RX6_32) (fun _ h9 => h9) rfl (tyX6_ok 3 (by decide)) rfl rfl (Nat.le_of_ble_eq_true rfl) hdg (fun H1 locs1 a _ b => kk H1 locs1 (hW.sV a (by rw [al_cE_tree cy ad _ ht]; simp [al_sV]) (al_V_tree ht)) b)
/-- AncestorLooks$Text.signs -/
theorem al_g_RX5_9 (S : CallFix p m c cc nL s args al_G RX5) (hK : va_K D vwCl (al_tys cy) s) (hW : al_H D cy ad σ H) (hdg : decode cc pc = .ok (.getfield 9, 3)) (kk : W p l e R s m args below meth c H locs cells slots Q (F0 m (pc + 3) ls (.ref (ad (2)) :: rest))) : W p l e R s m args below meth c H locs cells slots Q (F0 m pc ls (.ref (ad (1)) :: rest)) :=
  va_get S.1 S.2.1 S.2.2.2.2 al_in5 S.2.2.2.1 hK hW.1 (1) (hW.cell (by decide) rfl) rfl 0 (by decide) (S.2.2.2.2 _ al_fl_RX5_9) (fun _ h9 => h9) rfl hdg kk
/-- AncestorLooks$Text.used -/
theorem al_g_RX5_15 (S : CallFix p m c cc nL s args al_G RX5) (hK : va_K D vwCl (al_tys cy) s) (hW : al_H D cy ad σ H) (hdg : decode cc pc = .ok (.getfield 15, 3)) (kk : W p l e R s m args below meth c H locs cells slots Q (F0 m (pc + 3) ls (.int (σ.2.2.1 6) :: rest))) : W p l e R s m args below meth c H locs cells slots Q (F0 m pc ls (.ref (ad (1)) :: rest)) :=
  va_get S.1 S.2.1 S.2.2.2.2 al_in5 S.2.2.2.1 hK hW.1 (1) (hW.cell (by decide) rfl) rfl 1 (by decide) (S.2.2.2.2 _ al_fl_RX5_15) (fun _ h9 => h9) rfl hdg kk
theorem al_p_RX5_15 (S : CallFix p m c cc nL s args al_G RX5) (hK : va_K D vwCl (al_tys cy) s) (hW : al_H D cy ad σ H) (hS : va_S (al_A ad) H0 H locs) (hdg : decode cc pc = .ok (.putfield 15, 3)) (kk : ∀ (H1 : Heap) (locs1 : List Loc), al_H D cy ad (al_sV σ 6 v) H1 → va_S (al_A ad) H0 H1 locs1 → W p l e R s m args below meth c H1 locs1 cells slots Q (F0 m (pc + 3) ls (rest))) : W p l e R s m args below meth c H locs cells slots Q (F0 m pc ls (.int v :: .ref (ad (1)) :: rest)) :=
  va_put S.1 S.2.1 S.2.2.2.2 al_in5 tyX5 tyX5_ok nmX5 S.2.2.2.1 hK hW.1 (al_W_D hW.2.1) hS (1) (hW.cell (by decide) rfl) rfl 1 (by decide) (S.2.2.2.2 _ al_fl_RX5_15) (fun _ h9 => h9) rfl (tyX5_ok 1 (by decide)) rfl rfl (Nat.le_of_ble_eq_true rfl) hdg (fun H1 locs1 a _ b => kk H1 locs1 (hW.sV a rfl (al_c0_out (fun _ => rfl) (fun h => absurd rfl h) (fun _ => rfl) (fun _ => rfl) (fun _ => rfl) (fun _ => rfl) (fun _ => rfl) (fun _ => rfl) (fun _ => rfl) (fun _ => rfl) (fun _ => rfl) (fun _ => rfl) (fun _ => rfl) (fun _ => rfl))) b)
/-- AncestorLooks$History.states -/
theorem al_g_RX1_11 (S : CallFix p m c cc nL s args al_G RX1) (hK : va_K D vwCl (al_tys cy) s) (hW : al_H D cy ad σ H) (hdg : decode cc pc = .ok (.getfield 11, 3)) (kk : W p l e R s m args below meth c H locs cells slots Q (F0 m (pc + 3) ls (.ref (ad (4)) :: rest))) : W p l e R s m args below meth c H locs cells slots Q (F0 m pc ls (.ref (ad (3)) :: rest)) :=
  va_get S.1 S.2.1 S.2.2.2.2 al_in1 S.2.2.2.1 hK hW.1 (3) (hW.cell (by decide) rfl) rfl 0 (by decide) (S.2.2.2.2 _ al_fl_RX1_11) (fun _ h9 => h9) rfl hdg kk
/-- AncestorLooks$History.snapshot -/
theorem al_g_RX1_18 (S : CallFix p m c cc nL s args al_G RX1) (hK : va_K D vwCl (al_tys cy) s) (hW : al_H D cy ad σ H) (hdg : decode cc pc = .ok (.getfield 18, 3)) (kk : W p l e R s m args below meth c H locs cells slots Q (F0 m (pc + 3) ls (.ref (ad (13)) :: rest))) : W p l e R s m args below meth c H locs cells slots Q (F0 m pc ls (.ref (ad (3)) :: rest)) :=
  va_get S.1 S.2.1 S.2.2.2.2 al_in1 S.2.2.2.1 hK hW.1 (3) (hW.cell (by decide) rfl) rfl 1 (by decide) (S.2.2.2.2 _ al_fl_RX1_18) (fun _ h9 => h9) rfl hdg kk
/-- AncestorLooks$History.used -/
theorem al_g_RX1_22 (S : CallFix p m c cc nL s args al_G RX1) (hK : va_K D vwCl (al_tys cy) s) (hW : al_H D cy ad σ H) (hdg : decode cc pc = .ok (.getfield 22, 3)) (kk : W p l e R s m args below meth c H locs cells slots Q (F0 m (pc + 3) ls (.int (σ.2.2.1 7) :: rest))) : W p l e R s m args below meth c H locs cells slots Q (F0 m pc ls (.ref (ad (3)) :: rest)) :=
  va_get S.1 S.2.1 S.2.2.2.2 al_in1 S.2.2.2.1 hK hW.1 (3) (hW.cell (by decide) rfl) rfl 2 (by decide) (S.2.2.2.2 _ al_fl_RX1_22) (fun _ h9 => h9) rfl hdg kk
theorem al_p_RX1_22 (S : CallFix p m c cc nL s args al_G RX1) (hK : va_K D vwCl (al_tys cy) s) (hW : al_H D cy ad σ H) (hS : va_S (al_A ad) H0 H locs) (hdg : decode cc pc = .ok (.putfield 22, 3)) (kk : ∀ (H1 : Heap) (locs1 : List Loc), al_H D cy ad (al_sV σ 7 v) H1 → va_S (al_A ad) H0 H1 locs1 → W p l e R s m args below meth c H1 locs1 cells slots Q (F0 m (pc + 3) ls (rest))) : W p l e R s m args below meth c H locs cells slots Q (F0 m pc ls (.int v :: .ref (ad (3)) :: rest)) :=
  va_put S.1 S.2.1 S.2.2.2.2 al_in1 tyX1 tyX1_ok nmX1 S.2.2.2.1 hK hW.1 (al_W_D hW.2.1) hS (3) (hW.cell (by decide) rfl) rfl 2 (by decide) (S.2.2.2.2 _ al_fl_RX1_22) (fun _ h9 => h9) rfl (tyX1_ok 2 (by decide)) rfl rfl (Nat.le_of_ble_eq_true rfl) hdg (fun H1 locs1 a _ b => kk H1 locs1 (hW.sV a rfl (al_c0_out (fun _ => rfl) (fun _ => rfl) (fun _ => rfl) (fun h => absurd rfl h) (fun _ => rfl) (fun _ => rfl) (fun _ => rfl) (fun _ => rfl) (fun _ => rfl) (fun _ => rfl) (fun _ => rfl) (fun _ => rfl) (fun _ => rfl) (fun _ => rfl))) b)
/-- AncestorLooks$History.kept -/
theorem al_g_RX1_26 (S : CallFix p m c cc nL s args al_G RX1) (hK : va_K D vwCl (al_tys cy) s) (hW : al_H D cy ad σ H) (hdg : decode cc pc = .ok (.getfield 26, 3)) (kk : W p l e R s m args below meth c H locs cells slots Q (F0 m (pc + 3) ls (.int (σ.2.2.1 8) :: rest))) : W p l e R s m args below meth c H locs cells slots Q (F0 m pc ls (.ref (ad (3)) :: rest)) :=
  va_get S.1 S.2.1 S.2.2.2.2 al_in1 S.2.2.2.1 hK hW.1 (3) (hW.cell (by decide) rfl) rfl 3 (by decide) (S.2.2.2.2 _ al_fl_RX1_26) (fun _ h9 => h9) rfl hdg kk
theorem al_p_RX1_26 (S : CallFix p m c cc nL s args al_G RX1) (hK : va_K D vwCl (al_tys cy) s) (hW : al_H D cy ad σ H) (hS : va_S (al_A ad) H0 H locs) (hn : narrow .boolean (.int v) = .int v) (hf : fits .boolean (.int v) = true) (hdg : decode cc pc = .ok (.putfield 26, 3)) (kk : ∀ (H1 : Heap) (locs1 : List Loc), al_H D cy ad (al_sV σ 8 v) H1 → va_S (al_A ad) H0 H1 locs1 → W p l e R s m args below meth c H1 locs1 cells slots Q (F0 m (pc + 3) ls (rest))) : W p l e R s m args below meth c H locs cells slots Q (F0 m pc ls (.int v :: .ref (ad (3)) :: rest)) :=
  va_put S.1 S.2.1 S.2.2.2.2 al_in1 tyX1 tyX1_ok nmX1 S.2.2.2.1 hK hW.1 (al_W_D hW.2.1) hS (3) (hW.cell (by decide) rfl) rfl 3 (by decide) (S.2.2.2.2 _ al_fl_RX1_26) (fun _ h9 => h9) rfl (tyX1_ok 3 (by decide)) hn hf (Nat.le_of_ble_eq_true rfl) hdg (fun H1 locs1 a _ b => kk H1 locs1 (hW.sV a rfl (al_c0_out (fun _ => rfl) (fun _ => rfl) (fun _ => rfl) (fun h => absurd rfl h) (fun _ => rfl) (fun _ => rfl) (fun _ => rfl) (fun _ => rfl) (fun _ => rfl) (fun _ => rfl) (fun _ => rfl) (fun _ => rfl) (fun _ => rfl) (fun _ => rfl))) b)
/-- AncestorLooks$Survey.tree -/
theorem al_g_RX4_9 (S : CallFix p m c cc nL s args al_G RX4) (hK : va_K D vwCl (al_tys cy) s) (hW : al_H D cy ad σ H) (hdg : decode cc pc = .ok (.getfield 9, 3)) (kk : W p l e R s m args below meth c H locs cells slots Q (F0 m (pc + 3) ls (.ref (ad (8)) :: rest))) : W p l e R s m args below meth c H locs cells slots Q (F0 m pc ls (.ref (ad (5)) :: rest)) :=
  va_get S.1 S.2.1 S.2.2.2.2 al_in4 S.2.2.2.1 hK hW.1 (5) (hW.cell (by decide) rfl) rfl 0 (by decide) (S.2.2.2.2 _ al_fl_RX4_9) (fun _ h9 => h9) rfl hdg kk
/-- AncestorLooks$Survey.firstChild -/
theorem al_g_RX4_18 (S : CallFix p m c cc nL s args al_G RX4) (hK : va_K D vwCl (al_tys cy) s) (hW : al_H D cy ad σ H) (hdg : decode cc pc = .ok (.getfield 18, 3)) (kk : W p l e R s m args below meth c H locs cells slots Q (F0 m (pc + 3) ls (.ref (ad (14 + 2 * 12)) :: rest))) : W p l e R s m args below meth c H locs cells slots Q (F0 m pc ls (.ref (ad (5)) :: rest)) :=
  va_get S.1 S.2.1 S.2.2.2.2 al_in4 S.2.2.2.1 hK hW.1 (5) (hW.cell (by decide) rfl) rfl 1 (by decide) (S.2.2.2.2 _ al_fl_RX4_18) (fun _ h9 => h9) rfl hdg kk
/-- AncestorLooks$Survey.nextChild -/
theorem al_g_RX4_22 (S : CallFix p m c cc nL s args al_G RX4) (hK : va_K D vwCl (al_tys cy) s) (hW : al_H D cy ad σ H) (hdg : decode cc pc = .ok (.getfield 22, 3)) (kk : W p l e R s m args below meth c H locs cells slots Q (F0 m (pc + 3) ls (.ref (ad (14 + 2 * 13)) :: rest))) : W p l e R s m args below meth c H locs cells slots Q (F0 m pc ls (.ref (ad (5)) :: rest)) :=
  va_get S.1 S.2.1 S.2.2.2.2 al_in4 S.2.2.2.1 hK hW.1 (5) (hW.cell (by decide) rfl) rfl 2 (by decide) (S.2.2.2.2 _ al_fl_RX4_22) (fun _ h9 => h9) rfl hdg kk
/-- AncestorLooks$Survey.downward -/
theorem al_g_RX4_25 (S : CallFix p m c cc nL s args al_G RX4) (hK : va_K D vwCl (al_tys cy) s) (hW : al_H D cy ad σ H) (hdg : decode cc pc = .ok (.getfield 25, 3)) (kk : W p l e R s m args below meth c H locs cells slots Q (F0 m (pc + 3) ls (.ref (ad (14 + 2 * 14)) :: rest))) : W p l e R s m args below meth c H locs cells slots Q (F0 m pc ls (.ref (ad (5)) :: rest)) :=
  va_get S.1 S.2.1 S.2.2.2.2 al_in4 S.2.2.2.1 hK hW.1 (5) (hW.cell (by decide) rfl) rfl 3 (by decide) (S.2.2.2.2 _ al_fl_RX4_25) (fun _ h9 => h9) rfl hdg kk
/-- AncestorLooks$Survey.depths -/
theorem al_g_RX4_28 (S : CallFix p m c cc nL s args al_G RX4) (hK : va_K D vwCl (al_tys cy) s) (hW : al_H D cy ad σ H) (hdg : decode cc pc = .ok (.getfield 28, 3)) (kk : W p l e R s m args below meth c H locs cells slots Q (F0 m (pc + 3) ls (.ref (ad (14 + 2 * 15)) :: rest))) : W p l e R s m args below meth c H locs cells slots Q (F0 m pc ls (.ref (ad (5)) :: rest)) :=
  va_get S.1 S.2.1 S.2.2.2.2 al_in4 S.2.2.2.1 hK hW.1 (5) (hW.cell (by decide) rfl) rfl 4 (by decide) (S.2.2.2.2 _ al_fl_RX4_28) (fun _ h9 => h9) rfl hdg kk
/-- AncestorLooks$Survey.heights -/
theorem al_g_RX4_31 (S : CallFix p m c cc nL s args al_G RX4) (hK : va_K D vwCl (al_tys cy) s) (hW : al_H D cy ad σ H) (hdg : decode cc pc = .ok (.getfield 31, 3)) (kk : W p l e R s m args below meth c H locs cells slots Q (F0 m (pc + 3) ls (.ref (ad (14 + 2 * 16)) :: rest))) : W p l e R s m args below meth c H locs cells slots Q (F0 m pc ls (.ref (ad (5)) :: rest)) :=
  va_get S.1 S.2.1 S.2.2.2.2 al_in4 S.2.2.2.1 hK hW.1 (5) (hW.cell (by decide) rfl) rfl 5 (by decide) (S.2.2.2.2 _ al_fl_RX4_31) (fun _ h9 => h9) rfl hdg kk
/-- AncestorLooks$Survey.children -/
theorem al_g_RX4_34 (S : CallFix p m c cc nL s args al_G RX4) (hK : va_K D vwCl (al_tys cy) s) (hW : al_H D cy ad σ H) (hdg : decode cc pc = .ok (.getfield 34, 3)) (kk : W p l e R s m args below meth c H locs cells slots Q (F0 m (pc + 3) ls (.ref (ad (14 + 2 * 17)) :: rest))) : W p l e R s m args below meth c H locs cells slots Q (F0 m pc ls (.ref (ad (5)) :: rest)) :=
  va_get S.1 S.2.1 S.2.2.2.2 al_in4 S.2.2.2.1 hK hW.1 (5) (hW.cell (by decide) rfl) rfl 6 (by decide) (S.2.2.2.2 _ al_fl_RX4_34) (fun _ h9 => h9) rfl hdg kk
/-- AncestorLooks$Survey.sizes -/
theorem al_g_RX4_37 (S : CallFix p m c cc nL s args al_G RX4) (hK : va_K D vwCl (al_tys cy) s) (hW : al_H D cy ad σ H) (hdg : decode cc pc = .ok (.getfield 37, 3)) (kk : W p l e R s m args below meth c H locs cells slots Q (F0 m (pc + 3) ls (.ref (ad (14 + 2 * 18)) :: rest))) : W p l e R s m args below meth c H locs cells slots Q (F0 m pc ls (.ref (ad (5)) :: rest)) :=
  va_get S.1 S.2.1 S.2.2.2.2 al_in4 S.2.2.2.1 hK hW.1 (5) (hW.cell (by decide) rfl) rfl 7 (by decide) (S.2.2.2.2 _ al_fl_RX4_37) (fun _ h9 => h9) rfl hdg kk
/-- AncestorLooks$Survey.longChildren -/
theorem al_g_RX4_40 (S : CallFix p m c cc nL s args al_G RX4) (hK : va_K D vwCl (al_tys cy) s) (hW : al_H D cy ad σ H) (hdg : decode cc pc = .ok (.getfield 40, 3)) (kk : W p l e R s m args below meth c H locs cells slots Q (F0 m (pc + 3) ls (.ref (ad (14 + 2 * 19)) :: rest))) : W p l e R s m args below meth c H locs cells slots Q (F0 m pc ls (.ref (ad (5)) :: rest)) :=
  va_get S.1 S.2.1 S.2.2.2.2 al_in4 S.2.2.2.1 hK hW.1 (5) (hW.cell (by decide) rfl) rfl 8 (by decide) (S.2.2.2.2 _ al_fl_RX4_40) (fun _ h9 => h9) rfl hdg kk
/-- AncestorLooks$Survey.tops -/
theorem al_g_RX4_43 (S : CallFix p m c cc nL s args al_G RX4) (hK : va_K D vwCl (al_tys cy) s) (hW : al_H D cy ad σ H) (hdg : decode cc pc = .ok (.getfield 43, 3)) (kk : W p l e R s m args below meth c H locs cells slots Q (F0 m (pc + 3) ls (.ref (ad (14 + 2 * 20)) :: rest))) : W p l e R s m args below meth c H locs cells slots Q (F0 m pc ls (.ref (ad (5)) :: rest)) :=
  va_get S.1 S.2.1 S.2.2.2.2 al_in4 S.2.2.2.1 hK hW.1 (5) (hW.cell (by decide) rfl) rfl 9 (by decide) (S.2.2.2.2 _ al_fl_RX4_43) (fun _ h9 => h9) rfl hdg kk
/-- AncestorLooks$Survey.feet -/
theorem al_g_RX4_46 (S : CallFix p m c cc nL s args al_G RX4) (hK : va_K D vwCl (al_tys cy) s) (hW : al_H D cy ad σ H) (hdg : decode cc pc = .ok (.getfield 46, 3)) (kk : W p l e R s m args below meth c H locs cells slots Q (F0 m (pc + 3) ls (.ref (ad (14 + 2 * 21)) :: rest))) : W p l e R s m args below meth c H locs cells slots Q (F0 m pc ls (.ref (ad (5)) :: rest)) :=
  va_get S.1 S.2.1 S.2.2.2.2 al_in4 S.2.2.2.1 hK hW.1 (5) (hW.cell (by decide) rfl) rfl 10 (by decide) (S.2.2.2.2 _ al_fl_RX4_46) (fun _ h9 => h9) rfl hdg kk
/-- AncestorLooks$Survey.present -/
theorem al_g_RX4_49 (S : CallFix p m c cc nL s args al_G RX4) (hK : va_K D vwCl (al_tys cy) s) (hW : al_H D cy ad σ H) (hdg : decode cc pc = .ok (.getfield 49, 3)) (kk : W p l e R s m args below meth c H locs cells slots Q (F0 m (pc + 3) ls (.int (σ.2.2.1 9) :: rest))) : W p l e R s m args below meth c H locs cells slots Q (F0 m pc ls (.ref (ad (5)) :: rest)) :=
  va_get S.1 S.2.1 S.2.2.2.2 al_in4 S.2.2.2.1 hK hW.1 (5) (hW.cell (by decide) rfl) rfl 11 (by decide) (S.2.2.2.2 _ al_fl_RX4_49) (fun _ h9 => h9) rfl hdg kk
theorem al_p_RX4_49 (S : CallFix p m c cc nL s args al_G RX4) (hK : va_K D vwCl (al_tys cy) s) (hW : al_H D cy ad σ H) (hS : va_S (al_A ad) H0 H locs) (hdg : decode cc pc = .ok (.putfield 49, 3)) (kk : ∀ (H1 : Heap) (locs1 : List Loc), al_H D cy ad (al_sV σ 9 v) H1 → va_S (al_A ad) H0 H1 locs1 → W p l e R s m args below meth c H1 locs1 cells slots Q (F0 m (pc + 3) ls (rest))) : W p l e R s m args below meth c H locs cells slots Q (F0 m pc ls (.int v :: .ref (ad (5)) :: rest)) :=
  va_put S.1 S.2.1 S.2.2.2.2 al_in4 tyX4 tyX4_ok nmX4 S.2.2.2.1 hK hW.1 (al_W_D hW.2.1) hS (5) (hW.cell (by decide) rfl) rfl 11 (by decide) (S.2.2.2.2 _ al_fl_RX4_49) (fun _ h9 => h9) rfl (tyX4_ok 11 (by decide)) rfl rfl (Nat.le_of_ble_eq_true rfl) hdg (fun H1 locs1 a _ b => kk H1 locs1 (hW.sV a rfl (al_c0_out (fun _ => rfl) (fun _ => rfl) (fun _ => rfl) (fun _ => rfl) (fun _ => rfl) (fun h => absurd rfl h) (fun _ => rfl) (fun _ => rfl) (fun _ => rfl) (fun _ => rfl) (fun _ => rfl) (fun _ => rfl) (fun _ => rfl) (fun _ => rfl))) b)
/-- AncestorLooks$Ways.tree -/
theorem al_g_RX7_9 (S : CallFix p m c cc nL s args al_G RX7) (hK : va_K D vwCl (al_tys cy) s) (hW : al_H D cy ad σ H) (hdg : decode cc pc = .ok (.getfield 9, 3)) (kk : W p l e R s m args below meth c H locs cells slots Q (F0 m (pc + 3) ls (.ref (ad (8)) :: rest))) : W p l e R s m args below meth c H locs cells slots Q (F0 m pc ls (.ref (ad (6)) :: rest)) :=
  va_get S.1 S.2.1 S.2.2.2.2 al_in7 S.2.2.2.1 hK hW.1 (6) (hW.cell (by decide) rfl) rfl 0 (by decide) (S.2.2.2.2 _ al_fl_RX7_9) (fun _ h9 => h9) rfl hdg kk
/-- AncestorLooks$Ways.survey -/
theorem al_g_RX7_15 (S : CallFix p m c cc nL s args al_G RX7) (hK : va_K D vwCl (al_tys cy) s) (hW : al_H D cy ad σ H) (hdg : decode cc pc = .ok (.getfield 15, 3)) (kk : W p l e R s m args below meth c H locs cells slots Q (F0 m (pc + 3) ls (.ref (ad (5)) :: rest))) : W p l e R s m args below meth c H locs cells slots Q (F0 m pc ls (.ref (ad (6)) :: rest)) :=
  va_get S.1 S.2.1 S.2.2.2.2 al_in7 S.2.2.2.1 hK hW.1 (6) (hW.cell (by decide) rfl) rfl 1 (by decide) (S.2.2.2.2 _ al_fl_RX7_15) (fun _ h9 => h9) rfl hdg kk
/-- AncestorLooks$Ways.paths -/
theorem al_g_RX7_22 (S : CallFix p m c cc nL s args al_G RX7) (hK : va_K D vwCl (al_tys cy) s) (hW : al_H D cy ad σ H) (hdg : decode cc pc = .ok (.getfield 22, 3)) (kk : W p l e R s m args below meth c H locs cells slots Q (F0 m (pc + 3) ls (.ref (ad (64 + 2 * 6)) :: rest))) : W p l e R s m args below meth c H locs cells slots Q (F0 m pc ls (.ref (ad (6)) :: rest)) :=
  va_get S.1 S.2.1 S.2.2.2.2 al_in7 S.2.2.2.1 hK hW.1 (6) (hW.cell (by decide) rfl) rfl 2 (by decide) (S.2.2.2.2 _ al_fl_RX7_22) (fun _ h9 => h9) rfl hdg kk
/-- AncestorLooks$Ways.meetingPaths -/
theorem al_g_RX7_26 (S : CallFix p m c cc nL s args al_G RX7) (hK : va_K D vwCl (al_tys cy) s) (hW : al_H D cy ad σ H) (hdg : decode cc pc = .ok (.getfield 26, 3)) (kk : W p l e R s m args below meth c H locs cells slots Q (F0 m (pc + 3) ls (.ref (ad (64 + 2 * 7)) :: rest))) : W p l e R s m args below meth c H locs cells slots Q (F0 m pc ls (.ref (ad (6)) :: rest)) :=
  va_get S.1 S.2.1 S.2.2.2.2 al_in7 S.2.2.2.1 hK hW.1 (6) (hW.cell (by decide) rfl) rfl 3 (by decide) (S.2.2.2.2 _ al_fl_RX7_26) (fun _ h9 => h9) rfl hdg kk
/-- AncestorLooks$Ways.marks -/
theorem al_g_RX7_32 (S : CallFix p m c cc nL s args al_G RX7) (hK : va_K D vwCl (al_tys cy) s) (hW : al_H D cy ad σ H) (hdg : decode cc pc = .ok (.getfield 32, 3)) (kk : W p l e R s m args below meth c H locs cells slots Q (F0 m (pc + 3) ls (.ref (ad (14 + 2 * 22)) :: rest))) : W p l e R s m args below meth c H locs cells slots Q (F0 m pc ls (.ref (ad (6)) :: rest)) :=
  va_get S.1 S.2.1 S.2.2.2.2 al_in7 S.2.2.2.1 hK hW.1 (6) (hW.cell (by decide) rfl) rfl 4 (by decide) (S.2.2.2.2 _ al_fl_RX7_32) (fun _ h9 => h9) rfl hdg kk
/-- AncestorLooks$Ways.pairFirst -/
theorem al_g_RX7_36 (S : CallFix p m c cc nL s args al_G RX7) (hK : va_K D vwCl (al_tys cy) s) (hW : al_H D cy ad σ H) (hdg : decode cc pc = .ok (.getfield 36, 3)) (kk : W p l e R s m args below meth c H locs cells slots Q (F0 m (pc + 3) ls (.int (σ.2.2.1 10) :: rest))) : W p l e R s m args below meth c H locs cells slots Q (F0 m pc ls (.ref (ad (6)) :: rest)) :=
  va_get S.1 S.2.1 S.2.2.2.2 al_in7 S.2.2.2.1 hK hW.1 (6) (hW.cell (by decide) rfl) rfl 5 (by decide) (S.2.2.2.2 _ al_fl_RX7_36) (fun _ h9 => h9) rfl hdg kk
theorem al_p_RX7_36 (S : CallFix p m c cc nL s args al_G RX7) (hK : va_K D vwCl (al_tys cy) s) (hW : al_H D cy ad σ H) (hS : va_S (al_A ad) H0 H locs) (hdg : decode cc pc = .ok (.putfield 36, 3)) (kk : ∀ (H1 : Heap) (locs1 : List Loc), al_H D cy ad (al_sV σ 10 v) H1 → va_S (al_A ad) H0 H1 locs1 → W p l e R s m args below meth c H1 locs1 cells slots Q (F0 m (pc + 3) ls (rest))) : W p l e R s m args below meth c H locs cells slots Q (F0 m pc ls (.int v :: .ref (ad (6)) :: rest)) :=
  va_put S.1 S.2.1 S.2.2.2.2 al_in7 tyX7 tyX7_ok nmX7 S.2.2.2.1 hK hW.1 (al_W_D hW.2.1) hS (6) (hW.cell (by decide) rfl) rfl 5 (by decide) (S.2.2.2.2 _ al_fl_RX7_36) (fun _ h9 => h9) rfl (tyX7_ok 5 (by decide)) rfl rfl (Nat.le_of_ble_eq_true rfl) hdg (fun H1 locs1 a _ b => kk H1 locs1 (hW.sV a rfl (al_c0_out (fun _ => rfl) (fun _ => rfl) (fun _ => rfl) (fun _ => rfl) (fun _ => rfl) (fun _ => rfl) (fun h => absurd rfl h) (fun _ => rfl) (fun _ => rfl) (fun _ => rfl) (fun _ => rfl) (fun _ => rfl) (fun _ => rfl) (fun _ => rfl))) b)
/-- AncestorLooks$Ways.pairSecond -/
theorem al_g_RX7_40 (S : CallFix p m c cc nL s args al_G RX7) (hK : va_K D vwCl (al_tys cy) s) (hW : al_H D cy ad σ H) (hdg : decode cc pc = .ok (.getfield 40, 3)) (kk : W p l e R s m args below meth c H locs cells slots Q (F0 m (pc + 3) ls (.int (σ.2.2.1 11) :: rest))) : W p l e R s m args below meth c H locs cells slots Q (F0 m pc ls (.ref (ad (6)) :: rest)) :=
  va_get S.1 S.2.1 S.2.2.2.2 al_in7 S.2.2.2.1 hK hW.1 (6) (hW.cell (by decide) rfl) rfl 6 (by decide) (S.2.2.2.2 _ al_fl_RX7_40) (fun _ h9 => h9) rfl hdg kk
theorem al_p_RX7_40 (S : CallFix p m c cc nL s args al_G RX7) (hK : va_K D vwCl (al_tys cy) s) (hW : al_H D cy ad σ H) (hS : va_S (al_A ad) H0 H locs) (hdg : decode cc pc = .ok (.putfield 40, 3)) (kk : ∀ (H1 : Heap) (locs1 : List Loc), al_H D cy ad (al_sV σ 11 v) H1 → va_S (al_A ad) H0 H1 locs1 → W p l e R s m args below meth c H1 locs1 cells slots Q (F0 m (pc + 3) ls (rest))) : W p l e R s m args below meth c H locs cells slots Q (F0 m pc ls (.int v :: .ref (ad (6)) :: rest)) :=
  va_put S.1 S.2.1 S.2.2.2.2 al_in7 tyX7 tyX7_ok nmX7 S.2.2.2.1 hK hW.1 (al_W_D hW.2.1) hS (6) (hW.cell (by decide) rfl) rfl 6 (by decide) (S.2.2.2.2 _ al_fl_RX7_40) (fun _ h9 => h9) rfl (tyX7_ok 6 (by decide)) rfl rfl (Nat.le_of_ble_eq_true rfl) hdg (fun H1 locs1 a _ b => kk H1 locs1 (hW.sV a rfl (al_c0_out (fun _ => rfl) (fun _ => rfl) (fun _ => rfl) (fun _ => rfl) (fun _ => rfl) (fun _ => rfl) (fun h => absurd rfl h) (fun _ => rfl) (fun _ => rfl) (fun _ => rfl) (fun _ => rfl) (fun _ => rfl) (fun _ => rfl) (fun _ => rfl))) b)
/-- AncestorLooks$Shapes.tree -/
theorem al_g_RX3_9 (S : CallFix p m c cc nL s args al_G RX3) (hK : va_K D vwCl (al_tys cy) s) (hW : al_H D cy ad σ H) (hdg : decode cc pc = .ok (.getfield 9, 3)) (kk : W p l e R s m args below meth c H locs cells slots Q (F0 m (pc + 3) ls (.ref (ad (8)) :: rest))) : W p l e R s m args below meth c H locs cells slots Q (F0 m pc ls (.ref (ad (7)) :: rest)) :=
  va_get S.1 S.2.1 S.2.2.2.2 al_in3 S.2.2.2.1 hK hW.1 (7) (hW.cell (by decide) rfl) rfl 0 (by decide) (S.2.2.2.2 _ al_fl_RX3_9) (fun _ h9 => h9) rfl hdg kk
/-- AncestorLooks$Shapes.survey -/
theorem al_g_RX3_15 (S : CallFix p m c cc nL s args al_G RX3) (hK : va_K D vwCl (al_tys cy) s) (hW : al_H D cy ad σ H) (hdg : decode cc pc = .ok (.getfield 15, 3)) (kk : W p l e R s m args below meth c H locs cells slots Q (F0 m (pc + 3) ls (.ref (ad (5)) :: rest))) : W p l e R s m args below meth c H locs cells slots Q (F0 m pc ls (.ref (ad (7)) :: rest)) :=
  va_get S.1 S.2.1 S.2.2.2.2 al_in3 S.2.2.2.1 hK hW.1 (7) (hW.cell (by decide) rfl) rfl 1 (by decide) (S.2.2.2.2 _ al_fl_RX3_15) (fun _ h9 => h9) rfl hdg kk
/-- AncestorLooks$Shapes.shapes -/
theorem al_g_RX3_22 (S : CallFix p m c cc nL s args al_G RX3) (hK : va_K D vwCl (al_tys cy) s) (hW : al_H D cy ad σ H) (hdg : decode cc pc = .ok (.getfield 22, 3)) (kk : W p l e R s m args below meth c H locs cells slots Q (F0 m (pc + 3) ls (.ref (ad (14 + 2 * 23)) :: rest))) : W p l e R s m args below meth c H locs cells slots Q (F0 m pc ls (.ref (ad (7)) :: rest)) :=
  va_get S.1 S.2.1 S.2.2.2.2 al_in3 S.2.2.2.1 hK hW.1 (7) (hW.cell (by decide) rfl) rfl 2 (by decide) (S.2.2.2.2 _ al_fl_RX3_22) (fun _ h9 => h9) rfl hdg kk
/-- AncestorLooks$Shapes.table -/
theorem al_g_RX3_26 (S : CallFix p m c cc nL s args al_G RX3) (hK : va_K D vwCl (al_tys cy) s) (hW : al_H D cy ad σ H) (hdg : decode cc pc = .ok (.getfield 26, 3)) (kk : W p l e R s m args below meth c H locs cells slots Q (F0 m (pc + 3) ls (.ref (ad (14 + 2 * 24)) :: rest))) : W p l e R s m args below meth c H locs cells slots Q (F0 m pc ls (.ref (ad (7)) :: rest)) :=
  va_get S.1 S.2.1 S.2.2.2.2 al_in3 S.2.2.2.1 hK hW.1 (7) (hW.cell (by decide) rfl) rfl 3 (by decide) (S.2.2.2.2 _ al_fl_RX3_26) (fun _ h9 => h9) rfl hdg kk
/-- AncestorLooks$Shapes.kinds -/
theorem al_g_RX3_29 (S : CallFix p m c cc nL s args al_G RX3) (hK : va_K D vwCl (al_tys cy) s) (hW : al_H D cy ad σ H) (hdg : decode cc pc = .ok (.getfield 29, 3)) (kk : W p l e R s m args below meth c H locs cells slots Q (F0 m (pc + 3) ls (.int (σ.2.2.1 12) :: rest))) : W p l e R s m args below meth c H locs cells slots Q (F0 m pc ls (.ref (ad (7)) :: rest)) :=
  va_get S.1 S.2.1 S.2.2.2.2 al_in3 S.2.2.2.1 hK hW.1 (7) (hW.cell (by decide) rfl) rfl 4 (by decide) (S.2.2.2.2 _ al_fl_RX3_29) (fun _ h9 => h9) rfl hdg kk
theorem al_p_RX3_29 (S : CallFix p m c cc nL s args al_G RX3) (hK : va_K D vwCl (al_tys cy) s) (hW : al_H D cy ad σ H) (hS : va_S (al_A ad) H0 H locs) (hdg : decode cc pc = .ok (.putfield 29, 3)) (kk : ∀ (H1 : Heap) (locs1 : List Loc), al_H D cy ad (al_sV σ 12 v) H1 → va_S (al_A ad) H0 H1 locs1 → W p l e R s m args below meth c H1 locs1 cells slots Q (F0 m (pc + 3) ls (rest))) : W p l e R s m args below meth c H locs cells slots Q (F0 m pc ls (.int v :: .ref (ad (7)) :: rest)) :=
  va_put S.1 S.2.1 S.2.2.2.2 al_in3 tyX3 tyX3_ok nmX3 S.2.2.2.1 hK hW.1 (al_W_D hW.2.1) hS (7) (hW.cell (by decide) rfl) rfl 4 (by decide) (S.2.2.2.2 _ al_fl_RX3_29) (fun _ h9 => h9) rfl (tyX3_ok 4 (by decide)) rfl rfl (Nat.le_of_ble_eq_true rfl) hdg (fun H1 locs1 a _ b => kk H1 locs1 (hW.sV a rfl (al_c0_out (fun _ => rfl) (fun _ => rfl) (fun _ => rfl) (fun _ => rfl) (fun _ => rfl) (fun _ => rfl) (fun _ => rfl) (fun h => absurd rfl h) (fun _ => rfl) (fun _ => rfl) (fun _ => rfl) (fun _ => rfl) (fun _ => rfl) (fun _ => rfl))) b)
/-- AncestorLooks.tree -/
theorem al_g_RX8_10 (S : CallFix p m c cc nL s args al_G RX8) (hK : va_K D vwCl (al_tys cy) s) (hW : al_H D cy ad σ H) (hdg : decode cc pc = .ok (.getfield 10, 3)) (kk : W p l e R s m args below meth c H locs cells slots Q (F0 m (pc + 3) ls (.ref (ad (8)) :: rest))) : W p l e R s m args below meth c H locs cells slots Q (F0 m pc ls (.ref (ad (0)) :: rest)) :=
  va_get S.1 S.2.1 S.2.2.2.2 al_in8 S.2.2.2.1 hK hW.1 (0) (hW.cell (by decide) rfl) rfl 0 (by decide) (S.2.2.2.2 _ al_fl_RX8_10) (fun _ h9 => h9) rfl hdg kk
/-- AncestorLooks.text -/
theorem al_g_RX8_19 (S : CallFix p m c cc nL s args al_G RX8) (hK : va_K D vwCl (al_tys cy) s) (hW : al_H D cy ad σ H) (hdg : decode cc pc = .ok (.getfield 19, 3)) (kk : W p l e R s m args below meth c H locs cells slots Q (F0 m (pc + 3) ls (.ref (ad (1)) :: rest))) : W p l e R s m args below meth c H locs cells slots Q (F0 m pc ls (.ref (ad (0)) :: rest)) :=
  va_get S.1 S.2.1 S.2.2.2.2 al_in8 S.2.2.2.1 hK hW.1 (0) (hW.cell (by decide) rfl) rfl 1 (by decide) (S.2.2.2.2 _ al_fl_RX8_19) (fun _ h9 => h9) rfl hdg kk
/-- AncestorLooks.history -/
theorem al_g_RX8_26 (S : CallFix p m c cc nL s args al_G RX8) (hK : va_K D vwCl (al_tys cy) s) (hW : al_H D cy ad σ H) (hdg : decode cc pc = .ok (.getfield 26, 3)) (kk : W p l e R s m args below meth c H locs cells slots Q (F0 m (pc + 3) ls (.ref (ad (3)) :: rest))) : W p l e R s m args below meth c H locs cells slots Q (F0 m pc ls (.ref (ad (0)) :: rest)) :=
  va_get S.1 S.2.1 S.2.2.2.2 al_in8 S.2.2.2.1 hK hW.1 (0) (hW.cell (by decide) rfl) rfl 2 (by decide) (S.2.2.2.2 _ al_fl_RX8_26) (fun _ h9 => h9) rfl hdg kk
/-- AncestorLooks.survey -/
theorem al_g_RX8_35 (S : CallFix p m c cc nL s args al_G RX8) (hK : va_K D vwCl (al_tys cy) s) (hW : al_H D cy ad σ H) (hdg : decode cc pc = .ok (.getfield 35, 3)) (kk : W p l e R s m args below meth c H locs cells slots Q (F0 m (pc + 3) ls (.ref (ad (5)) :: rest))) : W p l e R s m args below meth c H locs cells slots Q (F0 m pc ls (.ref (ad (0)) :: rest)) :=
  va_get S.1 S.2.1 S.2.2.2.2 al_in8 S.2.2.2.1 hK hW.1 (0) (hW.cell (by decide) rfl) rfl 3 (by decide) (S.2.2.2.2 _ al_fl_RX8_35) (fun _ h9 => h9) rfl hdg kk
/-- AncestorLooks.ways -/
theorem al_g_RX8_44 (S : CallFix p m c cc nL s args al_G RX8) (hK : va_K D vwCl (al_tys cy) s) (hW : al_H D cy ad σ H) (hdg : decode cc pc = .ok (.getfield 44, 3)) (kk : W p l e R s m args below meth c H locs cells slots Q (F0 m (pc + 3) ls (.ref (ad (6)) :: rest))) : W p l e R s m args below meth c H locs cells slots Q (F0 m pc ls (.ref (ad (0)) :: rest)) :=
  va_get S.1 S.2.1 S.2.2.2.2 al_in8 S.2.2.2.1 hK hW.1 (0) (hW.cell (by decide) rfl) rfl 4 (by decide) (S.2.2.2.2 _ al_fl_RX8_44) (fun _ h9 => h9) rfl hdg kk
/-- AncestorLooks.shapes -/
theorem al_g_RX8_51 (S : CallFix p m c cc nL s args al_G RX8) (hK : va_K D vwCl (al_tys cy) s) (hW : al_H D cy ad σ H) (hdg : decode cc pc = .ok (.getfield 51, 3)) (kk : W p l e R s m args below meth c H locs cells slots Q (F0 m (pc + 3) ls (.ref (ad (7)) :: rest))) : W p l e R s m args below meth c H locs cells slots Q (F0 m pc ls (.ref (ad (0)) :: rest)) :=
  va_get S.1 S.2.1 S.2.2.2.2 al_in8 S.2.2.2.1 hK hW.1 (0) (hW.cell (by decide) rfl) rfl 5 (by decide) (S.2.2.2.2 _ al_fl_RX8_51) (fun _ h9 => h9) rfl hdg kk
end ALF
end
section
/-! helpers; rows of ints and floats -/
theorem al_He {D : va_G} {cy : al_CY} {ad : Nat → Nat} {σ σ' : al_St} {H : Heap} (h : al_H D cy ad σ H) (e : σ = σ') : al_H D cy ad σ' H := e ▸ h
def al_min (a b : Int32) : Int32 := if b < a then b else a
def al_fill (n : Nat) (v : Int32) (f : Nat → Int32) : Nat → Int32 := fun j => if j < n then v else f j
def al_cpy (n : Nat) (g f : Nat → Int32) : Nat → Int32 := fun j => if j < n then g j else f j
def al_fcpy (n : Nat) (g f : Nat → UInt32) : Nat → UInt32 := fun j => if j < n then g j else f j
theorem al_nn {n : Nat} (h : n < 2 ^ 31) : ¬ nI n < 0 := nI_pos h
theorem al_rg_lt {f : Nat → Int32} {n : Nat} (h : n < 90) : al_rg f (nI n) = f n := by
  have h1 : ¬ nI n < 0 := nI_pos (by omega)
  have h2 : ¬ (90 : Int32) ≤ nI n := nI_ge (a := n) (b := 90) h (by omega)
  simp only [al_rg, h1, h2, if_false, nI_clamp (show n < 2 ^ 31 by omega)]
theorem al_fg_lt {f : Nat → UInt32} {n : Nat} (h : n < 90) : al_fg f (nI n) = f n := by
  have h1 : ¬ nI n < 0 := nI_pos (by omega)
  have h2 : ¬ (90 : Int32) ≤ nI n := nI_ge (a := n) (b := 90) h (by omega)
  simp only [al_fg, h1, h2, if_false, nI_clamp (show n < 2 ^ 31 by omega)]
theorem al_90 {n : Nat} (h : n < 90) : ¬ (90 : Int32) ≤ nI n := nI_ge (a := n) (b := 90) h (by omega)
theorem al_90' {n : Nat} (h : n = 90) : (90 : Int32) ≤ nI n := by rw [h]; decide
theorem al_fill_up {n : Nat} {v : Int32} {f : Nat → Int32} (h : n < 2 ^ 31) : upd (al_fill n v f) (nI n).toNatClampNeg v = al_fill (n + 1) v f := by
  rw [nI_clamp h]
  funext j
  simp only [upd, al_fill]
  by_cases h1 : j = n
  · simp [h1]
  · by_cases h2 : j < n
    · have h3 : j < n + 1 := by omega
      simp [h1, h2, h3]
    · have h3 : ¬ j < n + 1 := by omega
      simp [h1, h2, h3]
theorem al_cpy_up {n : Nat} {g f : Nat → Int32} (h : n < 90) : upd (al_cpy n g f) (nI n).toNatClampNeg (al_rg g (nI n)) = al_cpy (n + 1) g f := by
  rw [nI_clamp (show n < 2 ^ 31 by omega), al_rg_lt h]
  funext j
  simp only [upd, al_cpy]
  by_cases h1 : j = n
  · simp [h1]
  · by_cases h2 : j < n
    · have h3 : j < n + 1 := by omega
      simp [h1, h2, h3]
    · have h3 : ¬ j < n + 1 := by omega
      simp [h1, h2, h3]
theorem al_fcpy_up {n : Nat} {g f : Nat → UInt32} (h : n < 90) : vf_upd (al_fcpy n g f) (nI n).toNatClampNeg (al_fg g (nI n)) = al_fcpy (n + 1) g f := by
  rw [nI_clamp (show n < 2 ^ 31 by omega), al_fg_lt h]
  funext j
  simp only [vf_upd, al_fcpy]
  by_cases h1 : j = n
  · simp [h1]
  · by_cases h2 : j < n
    · have h3 : j < n + 1 := by omega
      simp [h1, h2, h3]
    · have h3 : ¬ j < n + 1 := by omega
      simp [h1, h2, h3]
theorem al_mv_X2_get : al_mv yX2_get cX2_get 2 (some .int) 1 := ⟨al_c_X2_get, al_ini_RX2, ⟨by decide +kernel, by decide +kernel, by decide +kernel⟩, by decide +kernel⟩
theorem al_mi_X2_get : al_mi yX2_get cX2_get 2 (some .int) 1 := ⟨al_mv_X2_get, al_in_X2_get, al_se_X2_get⟩
set_option maxHeartbeats 4000000 in
set_option maxRecDepth 100000 in
theorem al_X2_get (l : Launch) (D : va_G) (cy : al_CY) (ad : Nat → Nat) (σ : al_St) (i : Nat) (hi : i < 25) (x : Int32) : al_MP l yX2_get cX2_get 2 (some .int) 0 0 D cy ad σ [.ref (ad (14 + 2 * i)), .int x] (some (.int (al_rg (σ.1 i) x))) := by
  refine al_met al_mv_X2_get (Nat.le_of_ble_eq_true rfl) ?_
  intro p e s m args below meth c ls S hr hlocks hK hW hS hl
  have hl : lv_has ls 2 [(0, .ref (ad (14 + 2 * i))), (1, .int x)] := hl
  refine lv_iload_n S.1 S.2.1 dX2_get_0 rfl (lv_at hl 1 rfl) ?_
  refine lv_if_lt (tgt := 22) S.1 S.2.1 dX2_get_1 (by decide) (fun c1 => ?_) (fun c1 => ?_)
  · refine lv_iconst (v := -1) S.1 S.2.1 dX2_get_22 (by decide) ?_
    exact W.iret S.1 S.2.1 hr (fun t9 ht9 _ => ⟨(congrArg (fun z => Outcome.returned (some (Value.int z))) (by simp only [al_rg, if_pos (c1)])), ht9⟩) (fun q hq => absurd hq List.not_mem_nil) dX2_get_23
  · refine lv_iload_n S.1 S.2.1 dX2_get_4 rfl (lv_at hl 1 rfl) ?_
    refine lv_aload_n S.1 S.2.1 dX2_get_5 rfl (lv_at hl 0 rfl) ?_
    refine al_g_RX2_9 S hK hW (i := i) (by omega) dX2_get_6 ?_
    refine al_ialen S hK hW (i := i) (by omega) dX2_get_9 ?_
    refine lv_icmp_ge (tgt := 22) S.1 S.2.1 dX2_get_10 (by decide) (fun c2 => ?_) (fun c2 => ?_)
    · refine lv_iconst (v := -1) S.1 S.2.1 dX2_get_22 (by decide) ?_
      exact W.iret S.1 S.2.1 hr (fun t9 ht9 _ => ⟨(congrArg (fun z => Outcome.returned (some (Value.int z))) (by simp only [al_rg, if_neg (c1), if_pos (c2)])), ht9⟩) (fun q hq => absurd hq List.not_mem_nil) dX2_get_23
    · refine lv_aload_n S.1 S.2.1 dX2_get_13 rfl (lv_at hl 0 rfl) ?_
      refine al_g_RX2_9 S hK hW (i := i) (by omega) dX2_get_14 ?_
      refine lv_iload_n S.1 S.2.1 dX2_get_17 rfl (lv_at hl 1 rfl) ?_
      refine al_iald S hK hW (i := i) (by omega) c1 c2 dX2_get_18 ?_
      refine lv_goto (tgt := 23) S.1 S.2.1 dX2_get_19 (by decide) ?_
      exact W.iret S.1 S.2.1 hr (fun t9 ht9 _ => ⟨(congrArg (fun z => Outcome.returned (some (Value.int z))) (by simp only [al_rg, if_neg (c1), if_neg (c2)])), ht9⟩) (fun q hq => absurd hq List.not_mem_nil) dX2_get_23
theorem al_mv_X2_set : al_mv yX2_set cX2_set 3 none 2 := ⟨al_c_X2_set, al_ini_RX2, ⟨by decide +kernel, by decide +kernel, by decide +kernel⟩, by decide +kernel⟩
theorem al_mi_X2_set : al_mi yX2_set cX2_set 3 none 2 := ⟨al_mv_X2_set, al_in_X2_set, al_se_X2_set⟩
set_option maxHeartbeats 4000000 in
set_option maxRecDepth 100000 in
theorem al_X2_set (l : Launch) (D : va_G) (cy : al_CY) (ad : Nat → Nat) (σ : al_St) (i : Nat) (hi : i < 25) (x : Int32) (v : Int32) : al_MS l yX2_set cX2_set 3 none 0 0 D cy ad σ [.ref (ad (14 + 2 * i)), .int x, .int v] none (al_set σ i x v) := by
  refine al_met al_mv_X2_set (Nat.le_of_ble_eq_true rfl) ?_
  intro p e s m args below meth c ls S hr hlocks hK hW hS hl
  have hl : lv_has ls 3 [(0, .ref (ad (14 + 2 * i))), (1, .int x), (2, .int v)] := hl
  refine lv_iload_n S.1 S.2.1 dX2_set_0 rfl (lv_at hl 1 rfl) ?_
  refine lv_if_lt (tgt := 20) S.1 S.2.1 dX2_set_1 (by decide) (fun c1 => ?_) (fun c1 => ?_)
  · exact W.vret S.1 S.2.1 hr (fun t9 ht9 _ => ⟨rfl, by rw [ht9]; exact (al_He hW (by simp only [al_set, al_rs, if_pos (c1), al_sR_self])), hS.F ht9⟩) hS.2.2 dX2_set_20
  · refine lv_iload_n S.1 S.2.1 dX2_set_4 rfl (lv_at hl 1 rfl) ?_
    refine lv_aload_n S.1 S.2.1 dX2_set_5 rfl (lv_at hl 0 rfl) ?_
    refine al_g_RX2_9 S hK hW (i := i) (by omega) dX2_set_6 ?_
    refine al_ialen S hK hW (i := i) (by omega) dX2_set_9 ?_
    refine lv_icmp_ge (tgt := 20) S.1 S.2.1 dX2_set_10 (by decide) (fun c2 => ?_) (fun c2 => ?_)
    · exact W.vret S.1 S.2.1 hr (fun t9 ht9 _ => ⟨rfl, by rw [ht9]; exact (al_He hW (by simp only [al_set, al_rs, if_neg (c1), if_pos (c2), al_sR_self])), hS.F ht9⟩) hS.2.2 dX2_set_20
    · refine lv_aload_n S.1 S.2.1 dX2_set_13 rfl (lv_at hl 0 rfl) ?_
      refine al_g_RX2_9 S hK hW (i := i) (by omega) dX2_set_14 ?_
      refine lv_iload_n S.1 S.2.1 dX2_set_17 rfl (lv_at hl 1 rfl) ?_
      refine lv_iload_n S.1 S.2.1 dX2_set_18 rfl (lv_at hl 2 rfl) ?_
      refine al_iast S hK hW hS (i := i) (by omega) c1 c2 dX2_set_19 (fun H locs hW hS => ?_)
      exact W.vret S.1 S.2.1 hr (fun t9 ht9 _ => ⟨rfl, by rw [ht9]; exact (al_He hW (by simp only [al_set, al_rs, if_neg (c1), if_neg (c2), al_sR_self])), hS.F ht9⟩) hS.2.2 dX2_set_20
theorem al_mv_X0_get : al_mv yX0_get cX0_get 2 (some .float) 1 := ⟨al_c_X0_get, al_ini_RX0, ⟨by decide +kernel, by decide +kernel, by decide +kernel⟩, by decide +kernel⟩
theorem al_mi_X0_get : al_mi yX0_get cX0_get 2 (some .float) 1 := ⟨al_mv_X0_get, al_in_X0_get, al_se_X0_get⟩
set_option maxHeartbeats 4000000 in
set_option maxRecDepth 100000 in
theorem al_X0_get (l : Launch) (D : va_G) (cy : al_CY) (ad : Nat → Nat) (σ : al_St) (i : Nat) (hi : i < 8) (x : Int32) : al_MP l yX0_get cX0_get 2 (some .float) 0 0 D cy ad σ [.ref (ad (64 + 2 * i)), .int x] (some (.float (al_fg (σ.2.1 i) x))) := by
  refine al_met al_mv_X0_get (Nat.le_of_ble_eq_true rfl) ?_
  intro p e s m args below meth c ls S hr hlocks hK hW hS hl
  have hl : lv_has ls 2 [(0, .ref (ad (64 + 2 * i))), (1, .int x)] := hl
  refine lv_iload_n S.1 S.2.1 dX0_get_0 rfl (lv_at hl 1 rfl) ?_
  refine lv_if_lt (tgt := 22) S.1 S.2.1 dX0_get_1 (by decide) (fun c1 => ?_) (fun c1 => ?_)
  · refine lv_fconst0 S.1 S.2.1 dX0_get_22 ?_
    exact W.fret S.1 S.2.1 hr (fun t9 ht9 _ => ⟨(congrArg (fun z => Outcome.returned (some (Value.float z))) (by simp only [al_fg, if_pos (c1)])), ht9⟩) (fun q hq => absurd hq List.not_mem_nil) dX0_get_23
  · refine lv_iload_n S.1 S.2.1 dX0_get_4 rfl (lv_at hl 1 rfl) ?_
    refine lv_aload_n S.1 S.2.1 dX0_get_5 rfl (lv_at hl 0 rfl) ?_
    refine al_g_RX0_9 S hK hW (i := i) (by omega) dX0_get_6 ?_
    refine al_falen S hK hW (i := i) (by omega) dX0_get_9 ?_
    refine lv_icmp_ge (tgt := 22) S.1 S.2.1 dX0_get_10 (by decide) (fun c2 => ?_) (fun c2 => ?_)
    · refine lv_fconst0 S.1 S.2.1 dX0_get_22 ?_
      exact W.fret S.1 S.2.1 hr (fun t9 ht9 _ => ⟨(congrArg (fun z => Outcome.returned (some (Value.float z))) (by simp only [al_fg, if_neg (c1), if_pos (c2)])), ht9⟩) (fun q hq => absurd hq List.not_mem_nil) dX0_get_23
    · refine lv_aload_n S.1 S.2.1 dX0_get_13 rfl (lv_at hl 0 rfl) ?_
      refine al_g_RX0_9 S hK hW (i := i) (by omega) dX0_get_14 ?_
      refine lv_iload_n S.1 S.2.1 dX0_get_17 rfl (lv_at hl 1 rfl) ?_
      refine al_fald S hK hW (i := i) (by omega) c1 c2 dX0_get_18 ?_
      refine lv_goto (tgt := 23) S.1 S.2.1 dX0_get_19 (by decide) ?_
      exact W.fret S.1 S.2.1 hr (fun t9 ht9 _ => ⟨(congrArg (fun z => Outcome.returned (some (Value.float z))) (by simp only [al_fg, if_neg (c1), if_neg (c2)])), ht9⟩) (fun q hq => absurd hq List.not_mem_nil) dX0_get_23
theorem al_mv_X0_set : al_mv yX0_set cX0_set 3 none 2 := ⟨al_c_X0_set, al_ini_RX0, ⟨by decide +kernel, by decide +kernel, by decide +kernel⟩, by decide +kernel⟩
theorem al_mi_X0_set : al_mi yX0_set cX0_set 3 none 2 := ⟨al_mv_X0_set, al_in_X0_set, al_se_X0_set⟩
set_option maxHeartbeats 4000000 in
set_option maxRecDepth 100000 in
theorem al_X0_set (l : Launch) (D : va_G) (cy : al_CY) (ad : Nat → Nat) (σ : al_St) (i : Nat) (hi : i < 8) (x : Int32) (v : UInt32) : al_MS l yX0_set cX0_set 3 none 0 0 D cy ad σ [.ref (ad (64 + 2 * i)), .int x, .float v] none (al_fset σ i x v) := by
  refine al_met al_mv_X0_set (Nat.le_of_ble_eq_true rfl) ?_
  intro p e s m args below meth c ls S hr hlocks hK hW hS hl
  have hl : lv_has ls 3 [(0, .ref (ad (64 + 2 * i))), (1, .int x), (2, .float v)] := hl
  refine lv_iload_n S.1 S.2.1 dX0_set_0 rfl (lv_at hl 1 rfl) ?_
  refine lv_if_lt (tgt := 20) S.1 S.2.1 dX0_set_1 (by decide) (fun c1 => ?_) (fun c1 => ?_)
  · exact W.vret S.1 S.2.1 hr (fun t9 ht9 _ => ⟨rfl, by rw [ht9]; exact (al_He hW (by simp only [al_fset, al_fs, if_pos (c1), al_sF_self])), hS.F ht9⟩) hS.2.2 dX0_set_20
  · refine lv_iload_n S.1 S.2.1 dX0_set_4 rfl (lv_at hl 1 rfl) ?_
    refine lv_aload_n S.1 S.2.1 dX0_set_5 rfl (lv_at hl 0 rfl) ?_
    refine al_g_RX0_9 S hK hW (i := i) (by omega) dX0_set_6 ?_
    refine al_falen S hK hW (i := i) (by omega) dX0_set_9 ?_
    refine lv_icmp_ge (tgt := 20) S.1 S.2.1 dX0_set_10 (by decide) (fun c2 => ?_) (fun c2 => ?_)
    · exact W.vret S.1 S.2.1 hr (fun t9 ht9 _ => ⟨rfl, by rw [ht9]; exact (al_He hW (by simp only [al_fset, al_fs, if_neg (c1), if_pos (c2), al_sF_self])), hS.F ht9⟩) hS.2.2 dX0_set_20
    · refine lv_aload_n S.1 S.2.1 dX0_set_13 rfl (lv_at hl 0 rfl) ?_
      refine al_g_RX0_9 S hK hW (i := i) (by omega) dX0_set_14 ?_
      refine lv_iload_n S.1 S.2.1 dX0_set_17 rfl (lv_at hl 1 rfl) ?_
      refine lv_fload_n S.1 S.2.1 dX0_set_18 rfl (lv_at hl 2 rfl) ?_
      refine al_fast S hK hW hS (i := i) (by omega) c1 c2 dX0_set_19 (fun H locs hW hS => ?_)
      exact W.vret S.1 S.2.1 hr (fun t9 ht9 _ => ⟨rfl, by rw [ht9]; exact (al_He hW (by simp only [al_fset, al_fs, if_neg (c1), if_neg (c2), al_sF_self])), hS.F ht9⟩) hS.2.2 dX0_set_20
end
section
/-! rows filled and copied; trees -/
def al_fillL (i : Nat) (v : Int32) : Nat → Nat → al_St → al_St
  | 0, _, σ => σ
  | n + 1, k, σ => al_fillL i v n (k + 1) (al_sR σ i (upd (σ.1 i) (nI k).toNatClampNeg v))
theorem al_fillL_eq (i : Nat) (v : Int32) (σ : al_St) : ∀ (n k : Nat), k + n < 2 ^ 31 → al_fillL i v n k (al_sR σ i (al_fill k v (σ.1 i))) = al_sR σ i (al_fill (k + n) v (σ.1 i))
  | 0, _, _ => rfl
  | n + 1, k, h => by
    have e : (al_sR σ i (al_fill k v (σ.1 i))).1 i = al_fill k v (σ.1 i) := by simp [al_sR]
    rw [al_fillL, e, al_sR_sR, al_fill_up (by omega), al_fillL_eq i v σ n (k + 1) (by omega)]
    congr 2
    omega
theorem al_fill0 {i : Nat} {v : Int32} {σ : al_St} : al_sR σ i (al_fill 0 v (σ.1 i)) = σ := by
  have e : al_fill 0 v (σ.1 i) = σ.1 i := by funext j; simp [al_fill]
  rw [e, al_sR_self]
theorem al_fill90 (i : Nat) (v : Int32) (σ : al_St) : al_fillL i v 90 0 σ = al_sR σ i (al_fill 90 v (σ.1 i)) := by
  have h := al_fillL_eq i v σ 90 0 (by omega)
  rw [al_fill0] at h
  exact h
def al_cpyL (i j : Nat) : Nat → Nat → al_St → al_St
  | 0, _, σ => σ
  | n + 1, k, σ => al_cpyL i j n (k + 1) (al_sR σ i (upd (σ.1 i) (nI k).toNatClampNeg (al_rg (σ.1 j) (nI k))))
theorem al_cpyL_eq (i j : Nat) (σ : al_St) : ∀ (n k : Nat), k + n ≤ 90 → al_cpyL i j n k (al_sR σ i (al_cpy k (σ.1 j) (σ.1 i))) = al_sR σ i (al_cpy (k + n) (σ.1 j) (σ.1 i))
  | 0, _, _ => rfl
  | n + 1, k, h => by
    have e : (al_sR σ i (al_cpy k (σ.1 j) (σ.1 i))).1 i = al_cpy k (σ.1 j) (σ.1 i) := by simp [al_sR]
    have e2 : al_rg ((al_sR σ i (al_cpy k (σ.1 j) (σ.1 i))).1 j) (nI k) = al_rg (σ.1 j) (nI k) := by
      rw [al_rg_lt (by omega), al_rg_lt (by omega)]
      by_cases h1 : j = i
      · subst h1
        simp [al_sR, al_cpy]
      · simp [al_sR, h1]
    rw [al_cpyL, e, e2, al_sR_sR, al_cpy_up (by omega), al_cpyL_eq i j σ n (k + 1) (by omega)]
    congr 2
    omega
theorem al_cpy90 (i j : Nat) (σ : al_St) : al_cpyL i j 90 0 σ = al_sR σ i (al_cpy 90 (σ.1 j) (σ.1 i)) := by
  have h := al_cpyL_eq i j σ 90 0 (by omega)
  have e : al_cpy 0 (σ.1 j) (σ.1 i) = σ.1 i := by funext a; simp [al_cpy]
  rw [e, al_sR_self] at h
  exact h
def al_fcpyL (i j : Nat) : Nat → Nat → al_St → al_St
  | 0, _, σ => σ
  | n + 1, k, σ => al_fcpyL i j n (k + 1) (al_sF σ i (vf_upd (σ.2.1 i) (nI k).toNatClampNeg (al_fg (σ.2.1 j) (nI k))))
theorem al_fcpyL_eq (i j : Nat) (σ : al_St) : ∀ (n k : Nat), k + n ≤ 90 → al_fcpyL i j n k (al_sF σ i (al_fcpy k (σ.2.1 j) (σ.2.1 i))) = al_sF σ i (al_fcpy (k + n) (σ.2.1 j) (σ.2.1 i))
  | 0, _, _ => rfl
  | n + 1, k, h => by
    have e : (al_sF σ i (al_fcpy k (σ.2.1 j) (σ.2.1 i))).2.1 i = al_fcpy k (σ.2.1 j) (σ.2.1 i) := by simp [al_sF]
    have e2 : al_fg ((al_sF σ i (al_fcpy k (σ.2.1 j) (σ.2.1 i))).2.1 j) (nI k) = al_fg (σ.2.1 j) (nI k) := by
      rw [al_fg_lt (by omega), al_fg_lt (by omega)]
      by_cases h1 : j = i
      · subst h1
        simp [al_sF, al_fcpy]
      · simp [al_sF, h1]
    rw [al_fcpyL, e, e2, al_sF_sF, al_fcpy_up (by omega), al_fcpyL_eq i j σ n (k + 1) (by omega)]
    congr 2
    omega
theorem al_fcpy90 (i j : Nat) (σ : al_St) : al_fcpyL i j 90 0 σ = al_sF σ i (al_fcpy 90 (σ.2.1 j) (σ.2.1 i)) := by
  have h := al_fcpyL_eq i j σ 90 0 (by omega)
  have e : al_fcpy 0 (σ.2.1 j) (σ.2.1 i) = σ.2.1 i := by funext a; simp [al_fcpy]
  rw [e, al_sF_self] at h
  exact h
theorem al_Hcpy {D : va_G} {cy : al_CY} {ad : Nat → Nat} {σ : al_St} {H : Heap} {i j : Nat} (h : al_H D cy ad (al_sR σ i (al_cpy 90 (σ.1 j) (σ.1 i))) H) (hi : i < 25) : al_H D cy ad (al_sR σ i (σ.1 j)) H := by
  refine h.congr (fun a b ha hb => ?_) ?_ (fun _ _ _ => rfl) rfl
  · by_cases h1 : a = i <;> simp [al_sR, al_cpy, h1, hb]
  · have h25 : ¬ 25 = i := by omega
    simp [al_sR, h25]
theorem al_Hfcpy {D : va_G} {cy : al_CY} {ad : Nat → Nat} {σ : al_St} {H : Heap} {i j : Nat} (h : al_H D cy ad (al_sF σ i (al_fcpy 90 (σ.2.1 j) (σ.2.1 i))) H) : al_H D cy ad (al_sF σ i (σ.2.1 j)) H := by
  refine h.congr (fun _ _ _ _ => rfl) rfl (fun a b hb => ?_) rfl
  by_cases h1 : a = i <;> simp [al_sF, al_fcpy, h1, hb]
/-- a tree's own updates -/
def al_isN (σ : al_St) (t : Nat) (x : Int32) : Int32 := if x < 0 then 0 else if σ.2.2.1 t ≤ x then 0 else if al_rg (σ.1 (2 * t)) x = -2 then 0 else 1
def al_stretch (σ : al_St) (t : Nat) (x b : Int32) (w : UInt32) : al_St := al_fset (al_set σ (2 * t + 1) x b) t x w
def al_append (σ : al_St) (t : Nat) (u b : Int32) (w : UInt32) : al_St := al_stretch (al_set (al_sV σ t (σ.2.2.1 t + 1)) (2 * t) (σ.2.2.1 t) u) t (σ.2.2.1 t) b w
def al_copyT (σ : al_St) (t u : Nat) : al_St := al_sV (al_sF (al_sR (al_sR σ (2 * t) (σ.1 (2 * u))) (2 * t + 1) ((al_sR σ (2 * t) (σ.1 (2 * u))).1 (2 * u + 1))) t (σ.2.1 u)) t (σ.2.2.1 u)
def al_room (σ : al_St) (t : Nat) (x : Int32) : Int32 := if 90 < σ.2.2.1 t + x then 0 else 1
set_option maxHeartbeats 4000000 in
set_option maxRecDepth 100000 in
theorem al_lp_X2_fill {p : Program} {e : Env} {s : State} {m : MethodId} {args : Array Value} {below : List Frame} {meth : Method} {c : Code} {Q : State → Prop} (l : Launch) (D : va_G) (cy : al_CY) (ad : Nat → Nat) (i : Nat) (hi : i < 25) (v : Int32) (S : CallFix p m c cX2_fill 3 s args al_G RX2) (hK : va_K D vwCl (al_tys cy) s) {H0 : Heap} : ∀ (n : Nat) (σ : al_St) (k : Nat) (H : Heap) (locs : List Loc) (ls : Array Slot), k + n = 90 → al_H D cy ad σ H → va_S (al_A ad) H0 H locs → lv_has ls 3 [(0, .ref (ad (14 + 2 * i))), (1, .int v), (2, .int (nI k))] → (∀ (σ' : al_St) (H : Heap) (locs : List Loc) (ls : Array Slot), al_fillL i v n k σ = σ' → al_H D cy ad σ' H → va_S (al_A ad) H0 H locs → lv_has ls 3 [(0, .ref (ad (14 + 2 * i)))] → W p l e (al_rm 0 0) s m args below meth c H locs 0 0 Q (F0 m 24 ls [])) → W p l e (al_rm 0 0) s m args below meth c H locs 0 0 Q (F0 m 2 ls []) := by
  intro n
  induction n with
  | zero =>
    intro σ k H locs ls hk hW hS hl K
    refine lv_iload_n S.1 S.2.1 dX2_fill_2 rfl (lv_at hl 2 rfl) ?_
    refine lv_aload_n S.1 S.2.1 dX2_fill_3 rfl (lv_at hl 0 rfl) ?_
    refine al_g_RX2_9 S hK hW (i := i) (by omega) dX2_fill_4 ?_
    refine al_ialen S hK hW (i := i) (by omega) dX2_fill_7 ?_
    refine lv_icmp_ge (tgt := 24) S.1 S.2.1 dX2_fill_8 (by decide) (fun c1 => ?_) (fun c1 => ?_)
    · exact K σ  _ _ _ (by simp only [al_fillL, if_pos (c1)]) hW hS (lv_sub hl [0] rfl)
    · exact absurd (al_90' (by omega)) c1
  | succ n ih =>
    intro σ k H locs ls hk hW hS hl K
    refine lv_iload_n S.1 S.2.1 dX2_fill_2 rfl (lv_at hl 2 rfl) ?_
    refine lv_aload_n S.1 S.2.1 dX2_fill_3 rfl (lv_at hl 0 rfl) ?_
    refine al_g_RX2_9 S hK hW (i := i) (by omega) dX2_fill_4 ?_
    refine al_ialen S hK hW (i := i) (by omega) dX2_fill_7 ?_
    refine lv_icmp_ge (tgt := 24) S.1 S.2.1 dX2_fill_8 (by decide) (fun c1 => ?_) (fun c1 => ?_)
    · exact absurd c1 (al_90 (by omega))
    · refine lv_aload_n S.1 S.2.1 dX2_fill_11 rfl (lv_at hl 0 rfl) ?_
      refine al_g_RX2_9 S hK hW (i := i) (by omega) dX2_fill_12 ?_
      refine lv_iload_n S.1 S.2.1 dX2_fill_15 rfl (lv_at hl 2 rfl) ?_
      refine lv_iload_n S.1 S.2.1 dX2_fill_16 rfl (lv_at hl 1 rfl) ?_
      refine al_iast S hK hW hS (i := i) (by omega) (al_nn (by omega)) c1 dX2_fill_17 (fun H locs hW hS => ?_)
      refine lv_iinc (k := 2) (v := nI (k + 1)) (lv' := [(2, .int (nI (k + 1))), (0, .ref (ad (14 + 2 * i))), (1, .int v)]) S.1 S.2.1 dX2_fill_18 hl rfl (al_inc k) (by decide) rfl (fun ls hl => ?_)
      refine lv_goto (tgt := 2) S.1 S.2.1 dX2_fill_21 (by decide) ?_
      exact ih (al_sR σ i (upd (σ.1 i) (nI k).toNatClampNeg v)) (k + 1) _ _ _ (by omega) hW hS (lv_sub hl [1, 2, 0] rfl) (fun σ'  H locs ls e9 hW hS hl => K σ'  H locs ls (by simp only [al_fillL, if_neg (c1)]; exact e9) hW hS hl)
theorem al_mv_X2_fill : al_mv yX2_fill cX2_fill 3 none 1 := ⟨al_c_X2_fill, al_ini_RX2, ⟨by decide +kernel, by decide +kernel, by decide +kernel⟩, by decide +kernel⟩
theorem al_mi_X2_fill : al_mi yX2_fill cX2_fill 3 none 1 := ⟨al_mv_X2_fill, al_in_X2_fill, al_se_X2_fill⟩
set_option maxHeartbeats 4000000 in
set_option maxRecDepth 100000 in
theorem al_X2_fill (l : Launch) (D : va_G) (cy : al_CY) (ad : Nat → Nat) (σ : al_St) (i : Nat) (hi : i < 25) (v : Int32) : al_MS l yX2_fill cX2_fill 3 none 0 0 D cy ad σ [.ref (ad (14 + 2 * i)), .int v] none (al_sR σ i (al_fill 90 v (σ.1 i))) := by
  refine al_met al_mv_X2_fill (Nat.le_of_ble_eq_true rfl) ?_
  intro p e s m args below meth c ls S hr hlocks hK hW hS hl
  have hl : lv_has ls 3 [(0, .ref (ad (14 + 2 * i))), (1, .int v)] := hl
  refine lv_iconst (v := 0) S.1 S.2.1 dX2_fill_0 (by decide) ?_
  refine lv_istore_n (lv' := [(2, .int 0), (0, .ref (ad (14 + 2 * i))), (1, .int v)]) S.1 S.2.1 dX2_fill_1 rfl hl (by decide) rfl (fun ls hl => ?_)
  refine al_lp_X2_fill l D cy ad i hi v S hK 90 σ 0 _ _ _ (by omega) hW hS (lv_sub hl [1, 2, 0] rfl) (fun σ1 H locs ls e2 hW hS hl => ?_)
  exact W.vret S.1 S.2.1 hr (fun t9 ht9 _ => ⟨rfl, by rw [ht9]; exact (al_He hW (by rw [← e2, al_fill90])), hS.F ht9⟩) hS.2.2 dX2_fill_24
set_option maxHeartbeats 4000000 in
set_option maxRecDepth 100000 in
theorem al_lp_X2_copyFrom {p : Program} {e : Env} {s : State} {m : MethodId} {args : Array Value} {below : List Frame} {meth : Method} {c : Code} {Q : State → Prop} (l : Launch) (D : va_G) (cy : al_CY) (ad : Nat → Nat) (i : Nat) (hi : i < 25) (j : Nat) (hj : j < 25) (S : CallFix p m c cX2_copyFrom 3 s args al_G RX2) (hK : va_K D vwCl (al_tys cy) s) {H0 : Heap} : ∀ (n : Nat) (σ : al_St) (k : Nat) (H : Heap) (locs : List Loc) (ls : Array Slot), k + n = 90 → al_H D cy ad σ H → va_S (al_A ad) H0 H locs → lv_has ls 3 [(0, .ref (ad (14 + 2 * i))), (1, .ref (ad (14 + 2 * j))), (2, .int (nI k))] → (∀ (σ' : al_St) (H : Heap) (locs : List Loc) (ls : Array Slot), al_cpyL i j n k σ = σ' → al_H D cy ad σ' H → va_S (al_A ad) H0 H locs → lv_has ls 3 [(0, .ref (ad (14 + 2 * i)))] → W p l e (al_rm 1 21) s m args below meth c H locs 0 0 Q (F0 m 28 ls [])) → W p l e (al_rm 1 21) s m args below meth c H locs 0 0 Q (F0 m 2 ls []) := by
  intro n
  induction n with
  | zero =>
    intro σ k H locs ls hk hW hS hl K
    refine lv_iload_n S.1 S.2.1 dX2_copyFrom_2 rfl (lv_at hl 2 rfl) ?_
    refine lv_aload_n S.1 S.2.1 dX2_copyFrom_3 rfl (lv_at hl 0 rfl) ?_
    refine al_g_RX2_9 S hK hW (i := i) (by omega) dX2_copyFrom_4 ?_
    refine al_ialen S hK hW (i := i) (by omega) dX2_copyFrom_7 ?_
    refine lv_icmp_ge (tgt := 28) S.1 S.2.1 dX2_copyFrom_8 (by decide) (fun c1 => ?_) (fun c1 => ?_)
    · exact K σ  _ _ _ (by simp only [al_cpyL, if_pos (c1)]) hW hS (lv_sub hl [0] rfl)
    · exact absurd (al_90' (by omega)) c1
  | succ n ih =>
    intro σ k H locs ls hk hW hS hl K
    refine lv_iload_n S.1 S.2.1 dX2_copyFrom_2 rfl (lv_at hl 2 rfl) ?_
    refine lv_aload_n S.1 S.2.1 dX2_copyFrom_3 rfl (lv_at hl 0 rfl) ?_
    refine al_g_RX2_9 S hK hW (i := i) (by omega) dX2_copyFrom_4 ?_
    refine al_ialen S hK hW (i := i) (by omega) dX2_copyFrom_7 ?_
    refine lv_icmp_ge (tgt := 28) S.1 S.2.1 dX2_copyFrom_8 (by decide) (fun c1 => ?_) (fun c1 => ?_)
    · exact absurd c1 (al_90 (by omega))
    · refine lv_aload_n S.1 S.2.1 dX2_copyFrom_11 rfl (lv_at hl 0 rfl) ?_
      refine al_g_RX2_9 S hK hW (i := i) (by omega) dX2_copyFrom_12 ?_
      refine lv_iload_n S.1 S.2.1 dX2_copyFrom_15 rfl (lv_at hl 2 rfl) ?_
      refine lv_aload_n S.1 S.2.1 dX2_copyFrom_16 rfl (lv_at hl 1 rfl) ?_
      refine lv_iload_n S.1 S.2.1 dX2_copyFrom_17 rfl (lv_at hl 2 rfl) ?_
      refine al_cP (rest := [.int (nI k), .ref (ad (15 + 2 * i))]) S hK hW (al_X2_get l D cy ad σ j (by omega) (nI k)) al_mi_X2_get al_ml_RX2_15 rfl (al_rc_R D cy ad _ (i := j) (by omega)) rfl hl.1 rfl (Nat.le_of_ble_eq_true rfl) dX2_copyFrom_18 ⟨Nat.le_of_ble_eq_true rfl, Nat.le_of_ble_eq_true rfl⟩ ⟨Nat.zero_le _, Nat.zero_le _⟩ ?_
      refine W.eq (g2 := F0 m 21 ls [.int (al_rg (σ.1 j) (nI k)), .int (nI k), .ref (ad (15 + 2 * i))]) rfl ?_
      refine al_iast S hK hW hS (i := i) (by omega) (al_nn (by omega)) c1 dX2_copyFrom_21 (fun H locs hW hS => ?_)
      refine lv_iinc (k := 2) (v := nI (k + 1)) (lv' := [(2, .int (nI (k + 1))), (0, .ref (ad (14 + 2 * i))), (1, .ref (ad (14 + 2 * j)))]) S.1 S.2.1 dX2_copyFrom_22 hl rfl (al_inc k) (by decide) rfl (fun ls hl => ?_)
      refine lv_goto (tgt := 2) S.1 S.2.1 dX2_copyFrom_25 (by decide) ?_
      exact ih (al_sR σ i (upd (σ.1 i) (nI k).toNatClampNeg (al_rg (σ.1 j) (nI k)))) (k + 1) _ _ _ (by omega) hW hS (lv_sub hl [1, 2, 0] rfl) (fun σ'  H locs ls e9 hW hS hl => K σ'  H locs ls (by simp only [al_cpyL, if_neg (c1)]; exact e9) hW hS hl)
theorem al_mv_X2_copyFrom : al_mv yX2_copyFrom cX2_copyFrom 3 none 1 := ⟨al_c_X2_copyFrom, al_ini_RX2, ⟨by decide +kernel, by decide +kernel, by decide +kernel⟩, by decide +kernel⟩
theorem al_mi_X2_copyFrom : al_mi yX2_copyFrom cX2_copyFrom 3 none 1 := ⟨al_mv_X2_copyFrom, al_in_X2_copyFrom, al_se_X2_copyFrom⟩
set_option maxHeartbeats 4000000 in
set_option maxRecDepth 100000 in
theorem al_X2_copyFrom (l : Launch) (D : va_G) (cy : al_CY) (ad : Nat → Nat) (σ : al_St) (i : Nat) (hi : i < 25) (j : Nat) (hj : j < 25) : al_MS l yX2_copyFrom cX2_copyFrom 3 none 1 21 D cy ad σ [.ref (ad (14 + 2 * i)), .ref (ad (14 + 2 * j))] none (al_sR σ i (σ.1 j)) := by
  refine al_met al_mv_X2_copyFrom (Nat.le_of_ble_eq_true rfl) ?_
  intro p e s m args below meth c ls S hr hlocks hK hW hS hl
  have hl : lv_has ls 3 [(0, .ref (ad (14 + 2 * i))), (1, .ref (ad (14 + 2 * j)))] := hl
  refine lv_iconst (v := 0) S.1 S.2.1 dX2_copyFrom_0 (by decide) ?_
  refine lv_istore_n (lv' := [(2, .int 0), (0, .ref (ad (14 + 2 * i))), (1, .ref (ad (14 + 2 * j)))]) S.1 S.2.1 dX2_copyFrom_1 rfl hl (by decide) rfl (fun ls hl => ?_)
  refine al_lp_X2_copyFrom l D cy ad i hi j hj S hK 90 σ 0 _ _ _ (by omega) hW hS (lv_sub hl [1, 2, 0] rfl) (fun σ1 H locs ls e2 hW hS hl => ?_)
  exact W.vret S.1 S.2.1 hr (fun t9 ht9 _ => ⟨rfl, by rw [ht9]; exact (al_Hcpy (al_He hW (by rw [← e2, al_cpy90])) hi), hS.F ht9⟩) hS.2.2 dX2_copyFrom_28
set_option maxHeartbeats 4000000 in
set_option maxRecDepth 100000 in
theorem al_lp_X0_copyFrom {p : Program} {e : Env} {s : State} {m : MethodId} {args : Array Value} {below : List Frame} {meth : Method} {c : Code} {Q : State → Prop} (l : Launch) (D : va_G) (cy : al_CY) (ad : Nat → Nat) (i : Nat) (hi : i < 8) (j : Nat) (hj : j < 8) (S : CallFix p m c cX0_copyFrom 3 s args al_G RX0) (hK : va_K D vwCl (al_tys cy) s) {H0 : Heap} : ∀ (n : Nat) (σ : al_St) (k : Nat) (H : Heap) (locs : List Loc) (ls : Array Slot), k + n = 90 → al_H D cy ad σ H → va_S (al_A ad) H0 H locs → lv_has ls 3 [(0, .ref (ad (64 + 2 * i))), (1, .ref (ad (64 + 2 * j))), (2, .int (nI k))] → (∀ (σ' : al_St) (H : Heap) (locs : List Loc) (ls : Array Slot), al_fcpyL i j n k σ = σ' → al_H D cy ad σ' H → va_S (al_A ad) H0 H locs → lv_has ls 3 [(0, .ref (ad (64 + 2 * i)))] → W p l e (al_rm 1 21) s m args below meth c H locs 0 0 Q (F0 m 28 ls [])) → W p l e (al_rm 1 21) s m args below meth c H locs 0 0 Q (F0 m 2 ls []) := by
  intro n
  induction n with
  | zero =>
    intro σ k H locs ls hk hW hS hl K
    refine lv_iload_n S.1 S.2.1 dX0_copyFrom_2 rfl (lv_at hl 2 rfl) ?_
    refine lv_aload_n S.1 S.2.1 dX0_copyFrom_3 rfl (lv_at hl 0 rfl) ?_
    refine al_g_RX0_9 S hK hW (i := i) (by omega) dX0_copyFrom_4 ?_
    refine al_falen S hK hW (i := i) (by omega) dX0_copyFrom_7 ?_
    refine lv_icmp_ge (tgt := 28) S.1 S.2.1 dX0_copyFrom_8 (by decide) (fun c1 => ?_) (fun c1 => ?_)
    · exact K σ  _ _ _ (by simp only [al_fcpyL, if_pos (c1)]) hW hS (lv_sub hl [0] rfl)
    · exact absurd (al_90' (by omega)) c1
  | succ n ih =>
    intro σ k H locs ls hk hW hS hl K
    refine lv_iload_n S.1 S.2.1 dX0_copyFrom_2 rfl (lv_at hl 2 rfl) ?_
    refine lv_aload_n S.1 S.2.1 dX0_copyFrom_3 rfl (lv_at hl 0 rfl) ?_
    refine al_g_RX0_9 S hK hW (i := i) (by omega) dX0_copyFrom_4 ?_
    refine al_falen S hK hW (i := i) (by omega) dX0_copyFrom_7 ?_
    refine lv_icmp_ge (tgt := 28) S.1 S.2.1 dX0_copyFrom_8 (by decide) (fun c1 => ?_) (fun c1 => ?_)
    · exact absurd c1 (al_90 (by omega))
    · refine lv_aload_n S.1 S.2.1 dX0_copyFrom_11 rfl (lv_at hl 0 rfl) ?_
      refine al_g_RX0_9 S hK hW (i := i) (by omega) dX0_copyFrom_12 ?_
      refine lv_iload_n S.1 S.2.1 dX0_copyFrom_15 rfl (lv_at hl 2 rfl) ?_
      refine lv_aload_n S.1 S.2.1 dX0_copyFrom_16 rfl (lv_at hl 1 rfl) ?_
      refine lv_iload_n S.1 S.2.1 dX0_copyFrom_17 rfl (lv_at hl 2 rfl) ?_
      refine al_cP (rest := [.int (nI k), .ref (ad (65 + 2 * i))]) S hK hW (al_X0_get l D cy ad σ j (by omega) (nI k)) al_mi_X0_get al_ml_RX0_15 rfl (al_rc_F D cy ad _ (i := j) (by omega)) rfl hl.1 rfl (Nat.le_of_ble_eq_true rfl) dX0_copyFrom_18 ⟨Nat.le_of_ble_eq_true rfl, Nat.le_of_ble_eq_true rfl⟩ ⟨Nat.zero_le _, Nat.zero_le _⟩ ?_
      refine W.eq (g2 := F0 m 21 ls [.float (al_fg (σ.2.1 j) (nI k)), .int (nI k), .ref (ad (65 + 2 * i))]) rfl ?_
      refine al_fast S hK hW hS (i := i) (by omega) (al_nn (by omega)) c1 dX0_copyFrom_21 (fun H locs hW hS => ?_)
      refine lv_iinc (k := 2) (v := nI (k + 1)) (lv' := [(2, .int (nI (k + 1))), (0, .ref (ad (64 + 2 * i))), (1, .ref (ad (64 + 2 * j)))]) S.1 S.2.1 dX0_copyFrom_22 hl rfl (al_inc k) (by decide) rfl (fun ls hl => ?_)
      refine lv_goto (tgt := 2) S.1 S.2.1 dX0_copyFrom_25 (by decide) ?_
      exact ih (al_sF σ i (vf_upd (σ.2.1 i) (nI k).toNatClampNeg (al_fg (σ.2.1 j) (nI k)))) (k + 1) _ _ _ (by omega) hW hS (lv_sub hl [1, 2, 0] rfl) (fun σ'  H locs ls e9 hW hS hl => K σ'  H locs ls (by simp only [al_fcpyL, if_neg (c1)]; exact e9) hW hS hl)
theorem al_mv_X0_copyFrom : al_mv yX0_copyFrom cX0_copyFrom 3 none 1 := ⟨al_c_X0_copyFrom, al_ini_RX0, ⟨by decide +kernel, by decide +kernel, by decide +kernel⟩, by decide +kernel⟩
theorem al_mi_X0_copyFrom : al_mi yX0_copyFrom cX0_copyFrom 3 none 1 := ⟨al_mv_X0_copyFrom, al_in_X0_copyFrom, al_se_X0_copyFrom⟩
set_option maxHeartbeats 4000000 in
set_option maxRecDepth 100000 in
theorem al_X0_copyFrom (l : Launch) (D : va_G) (cy : al_CY) (ad : Nat → Nat) (σ : al_St) (i : Nat) (hi : i < 8) (j : Nat) (hj : j < 8) : al_MS l yX0_copyFrom cX0_copyFrom 3 none 1 21 D cy ad σ [.ref (ad (64 + 2 * i)), .ref (ad (64 + 2 * j))] none (al_sF σ i (σ.2.1 j)) := by
  refine al_met al_mv_X0_copyFrom (Nat.le_of_ble_eq_true rfl) ?_
  intro p e s m args below meth c ls S hr hlocks hK hW hS hl
  have hl : lv_has ls 3 [(0, .ref (ad (64 + 2 * i))), (1, .ref (ad (64 + 2 * j)))] := hl
  refine lv_iconst (v := 0) S.1 S.2.1 dX0_copyFrom_0 (by decide) ?_
  refine lv_istore_n (lv' := [(2, .int 0), (0, .ref (ad (64 + 2 * i))), (1, .ref (ad (64 + 2 * j)))]) S.1 S.2.1 dX0_copyFrom_1 rfl hl (by decide) rfl (fun ls hl => ?_)
  refine al_lp_X0_copyFrom l D cy ad i hi j hj S hK 90 σ 0 _ _ _ (by omega) hW hS (lv_sub hl [1, 2, 0] rfl) (fun σ1 H locs ls e2 hW hS hl => ?_)
  exact W.vret S.1 S.2.1 hr (fun t9 ht9 _ => ⟨rfl, by rw [ht9]; exact (al_Hfcpy (al_He hW (by rw [← e2, al_fcpy90]))), hS.F ht9⟩) hS.2.2 dX0_copyFrom_28
theorem al_mv_X6_ever : al_mv yX6_ever cX6_ever 1 (some .int) 0 := ⟨al_c_X6_ever, al_ini_RX6, ⟨by decide +kernel, by decide +kernel, by decide +kernel⟩, by decide +kernel⟩
theorem al_mi_X6_ever : al_mi yX6_ever cX6_ever 1 (some .int) 0 := ⟨al_mv_X6_ever, al_in_X6_ever, al_se_X6_ever⟩
set_option maxHeartbeats 4000000 in
set_option maxRecDepth 100000 in
theorem al_X6_ever (l : Launch) (D : va_G) (cy : al_CY) (ad : Nat → Nat) (σ : al_St) (t : Nat) (ht : t < 6) : al_MP l yX6_ever cX6_ever 1 (some .int) 0 0 D cy ad σ [.ref (ad (8 + t))] (some (.int (σ.2.2.1 t))) := by
  refine al_met al_mv_X6_ever (Nat.le_of_ble_eq_true rfl) ?_
  intro p e s m args below meth c ls S hr hlocks hK hW hS hl
  have hl : lv_has ls 1 [(0, .ref (ad (8 + t)))] := hl
  refine lv_aload_n S.1 S.2.1 dX6_ever_0 rfl (lv_at hl 0 rfl) ?_
  refine al_g_RX6_32 S hK hW (t := t) (by omega) dX6_ever_1 ?_
  exact W.iret S.1 S.2.1 hr (fun t9 ht9 _ => ⟨(congrArg (fun z => Outcome.returned (some (Value.int z))) rfl), ht9⟩) (fun q hq => absurd hq List.not_mem_nil) dX6_ever_4
theorem al_mv_X6_isNode : al_mv yX6_isNode cX6_isNode 2 (some .boolean) 1 := ⟨al_c_X6_isNode, al_ini_RX6, ⟨by decide +kernel, by decide +kernel, by decide +kernel⟩, by decide +kernel⟩
theorem al_mi_X6_isNode : al_mi yX6_isNode cX6_isNode 2 (some .boolean) 1 := ⟨al_mv_X6_isNode, al_in_X6_isNode, al_se_X6_isNode⟩
set_option maxHeartbeats 4000000 in
set_option maxRecDepth 100000 in
theorem al_X6_isNode (l : Launch) (D : va_G) (cy : al_CY) (ad : Nat → Nat) (σ : al_St) (t : Nat) (ht : t < 6) (x : Int32) : al_MP l yX6_isNode cX6_isNode 2 (some .boolean) 1 21 D cy ad σ [.ref (ad (8 + t)), .int x] (some (.int (al_isN σ t x))) := by
  refine al_met al_mv_X6_isNode (Nat.le_of_ble_eq_true rfl) ?_
  intro p e s m args below meth c ls S hr hlocks hK hW hS hl
  have hl : lv_has ls 2 [(0, .ref (ad (8 + t))), (1, .int x)] := hl
  refine lv_iload_n S.1 S.2.1 dX6_isNode_0 rfl (lv_at hl 1 rfl) ?_
  refine lv_if_lt (tgt := 29) S.1 S.2.1 dX6_isNode_1 (by decide) (fun c1 => ?_) (fun c1 => ?_)
  · refine lv_iconst (v := 0) S.1 S.2.1 dX6_isNode_29 (by decide) ?_
    exact W.zret S.1 S.2.1 hr rfl (fun t9 ht9 _ => ⟨(congrArg (fun z => Outcome.returned (some (Value.int z))) (by simp only [al_isN, if_pos (c1)])), ht9⟩) (fun q hq => absurd hq List.not_mem_nil) dX6_isNode_30
  · refine lv_iload_n S.1 S.2.1 dX6_isNode_4 rfl (lv_at hl 1 rfl) ?_
    refine lv_aload_n S.1 S.2.1 dX6_isNode_5 rfl (lv_at hl 0 rfl) ?_
    refine al_g_RX6_32 S hK hW (t := t) (by omega) dX6_isNode_6 ?_
    refine lv_icmp_ge (tgt := 29) S.1 S.2.1 dX6_isNode_9 (by decide) (fun c2 => ?_) (fun c2 => ?_)
    · refine lv_iconst (v := 0) S.1 S.2.1 dX6_isNode_29 (by decide) ?_
      exact W.zret S.1 S.2.1 hr rfl (fun t9 ht9 _ => ⟨(congrArg (fun z => Outcome.returned (some (Value.int z))) (by simp only [al_isN, if_neg (c1), if_pos (c2)])), ht9⟩) (fun q hq => absurd hq List.not_mem_nil) dX6_isNode_30
    · refine lv_aload_n S.1 S.2.1 dX6_isNode_12 rfl (lv_at hl 0 rfl) ?_
      refine al_g_RX6_12 S hK hW (t := t) (by omega) dX6_isNode_13 ?_
      refine lv_iload_n S.1 S.2.1 dX6_isNode_16 rfl (lv_at hl 1 rfl) ?_
      refine al_cP (rest := []) S hK hW (al_X2_get l D cy ad σ (2 * t) (by omega) x) al_mi_X2_get al_ml_RX6_36 rfl (al_rc_R D cy ad _ (i := 2 * t) (by omega)) rfl hl.1 rfl (Nat.le_of_ble_eq_true rfl) dX6_isNode_17 ⟨Nat.le_of_ble_eq_true rfl, Nat.le_of_ble_eq_true rfl⟩ ⟨Nat.zero_le _, Nat.zero_le _⟩ ?_
      refine W.eq (g2 := F0 m 20 ls [.int (al_rg (σ.1 (2 * t)) x)]) rfl ?_
      refine lv_bipush (v := -2) S.1 S.2.1 dX6_isNode_20 (by decide) ?_
      refine lv_icmp_eq (tgt := 29) S.1 S.2.1 dX6_isNode_22 (by decide) (fun c3 => ?_) (fun c3 => ?_)
      · refine lv_iconst (v := 0) S.1 S.2.1 dX6_isNode_29 (by decide) ?_
        exact W.zret S.1 S.2.1 hr rfl (fun t9 ht9 _ => ⟨(congrArg (fun z => Outcome.returned (some (Value.int z))) (by simp only [al_isN, if_neg (c1), if_neg (c2), if_pos (c3)])), ht9⟩) (fun q hq => absurd hq List.not_mem_nil) dX6_isNode_30
      · refine lv_iconst (v := 1) S.1 S.2.1 dX6_isNode_25 (by decide) ?_
        refine lv_goto (tgt := 30) S.1 S.2.1 dX6_isNode_26 (by decide) ?_
        exact W.zret S.1 S.2.1 hr rfl (fun t9 ht9 _ => ⟨(congrArg (fun z => Outcome.returned (some (Value.int z))) (by simp only [al_isN, if_neg (c1), if_neg (c2), if_neg (c3)])), ht9⟩) (fun q hq => absurd hq List.not_mem_nil) dX6_isNode_30
theorem al_mv_X6_hasRoomFor : al_mv yX6_hasRoomFor cX6_hasRoomFor 2 (some .boolean) 1 := ⟨al_c_X6_hasRoomFor, al_ini_RX6, ⟨by decide +kernel, by decide +kernel, by decide +kernel⟩, by decide +kernel⟩
theorem al_mi_X6_hasRoomFor : al_mi yX6_hasRoomFor cX6_hasRoomFor 2 (some .boolean) 1 := ⟨al_mv_X6_hasRoomFor, al_in_X6_hasRoomFor, al_se_X6_hasRoomFor⟩
set_option maxHeartbeats 4000000 in
set_option maxRecDepth 100000 in
theorem al_X6_hasRoomFor (l : Launch) (D : va_G) (cy : al_CY) (ad : Nat → Nat) (σ : al_St) (t : Nat) (ht : t < 6) (x : Int32) : al_MP l yX6_hasRoomFor cX6_hasRoomFor 2 (some .boolean) 0 0 D cy ad σ [.ref (ad (8 + t)), .int x] (some (.int (al_room σ t x))) := by
  refine al_met al_mv_X6_hasRoomFor (Nat.le_of_ble_eq_true rfl) ?_
  intro p e s m args below meth c ls S hr hlocks hK hW hS hl
  have hl : lv_has ls 2 [(0, .ref (ad (8 + t))), (1, .int x)] := hl
  refine lv_aload_n S.1 S.2.1 dX6_hasRoomFor_0 rfl (lv_at hl 0 rfl) ?_
  refine al_g_RX6_32 S hK hW (t := t) (by omega) dX6_hasRoomFor_1 ?_
  refine lv_iload_n S.1 S.2.1 dX6_hasRoomFor_4 rfl (lv_at hl 1 rfl) ?_
  refine lv_iadd S.1 S.2.1 dX6_hasRoomFor_5 ?_
  refine lv_bipush (v := 90) S.1 S.2.1 dX6_hasRoomFor_6 (by decide) ?_
  refine lv_icmp_gt (tgt := 15) S.1 S.2.1 dX6_hasRoomFor_8 (by decide) (fun c1 => ?_) (fun c1 => ?_)
  · refine lv_iconst (v := 0) S.1 S.2.1 dX6_hasRoomFor_15 (by decide) ?_
    exact W.zret S.1 S.2.1 hr rfl (fun t9 ht9 _ => ⟨(congrArg (fun z => Outcome.returned (some (Value.int z))) (by simp only [al_room, if_pos (c1)])), ht9⟩) (fun q hq => absurd hq List.not_mem_nil) dX6_hasRoomFor_16
  · refine lv_iconst (v := 1) S.1 S.2.1 dX6_hasRoomFor_11 (by decide) ?_
    refine lv_goto (tgt := 16) S.1 S.2.1 dX6_hasRoomFor_12 (by decide) ?_
    exact W.zret S.1 S.2.1 hr rfl (fun t9 ht9 _ => ⟨(congrArg (fun z => Outcome.returned (some (Value.int z))) (by simp only [al_room, if_neg (c1)])), ht9⟩) (fun q hq => absurd hq List.not_mem_nil) dX6_hasRoomFor_16
theorem al_mv_X6_parentOf : al_mv yX6_parentOf cX6_parentOf 2 (some .int) 1 := ⟨al_c_X6_parentOf, al_ini_RX6, ⟨by decide +kernel, by decide +kernel, by decide +kernel⟩, by decide +kernel⟩
theorem al_mi_X6_parentOf : al_mi yX6_parentOf cX6_parentOf 2 (some .int) 1 := ⟨al_mv_X6_parentOf, al_in_X6_parentOf, al_se_X6_parentOf⟩
set_option maxHeartbeats 4000000 in
set_option maxRecDepth 100000 in
theorem al_X6_parentOf (l : Launch) (D : va_G) (cy : al_CY) (ad : Nat → Nat) (σ : al_St) (t : Nat) (ht : t < 6) (x : Int32) : al_MP l yX6_parentOf cX6_parentOf 2 (some .int) 1 21 D cy ad σ [.ref (ad (8 + t)), .int x] (some (.int (al_rg (σ.1 (2 * t)) x))) := by
  refine al_met al_mv_X6_parentOf (Nat.le_of_ble_eq_true rfl) ?_
  intro p e s m args below meth c ls S hr hlocks hK hW hS hl
  have hl : lv_has ls 2 [(0, .ref (ad (8 + t))), (1, .int x)] := hl
  refine lv_aload_n S.1 S.2.1 dX6_parentOf_0 rfl (lv_at hl 0 rfl) ?_
  refine al_g_RX6_12 S hK hW (t := t) (by omega) dX6_parentOf_1 ?_
  refine lv_iload_n S.1 S.2.1 dX6_parentOf_4 rfl (lv_at hl 1 rfl) ?_
  refine al_cP (rest := []) S hK hW (al_X2_get l D cy ad σ (2 * t) (by omega) x) al_mi_X2_get al_ml_RX6_36 rfl (al_rc_R D cy ad _ (i := 2 * t) (by omega)) rfl hl.1 rfl (Nat.le_of_ble_eq_true rfl) dX6_parentOf_5 ⟨Nat.le_of_ble_eq_true rfl, Nat.le_of_ble_eq_true rfl⟩ ⟨Nat.zero_le _, Nat.zero_le _⟩ ?_
  refine W.eq (g2 := F0 m 8 ls [.int (al_rg (σ.1 (2 * t)) x)]) rfl ?_
  exact W.iret S.1 S.2.1 hr (fun t9 ht9 _ => ⟨(congrArg (fun z => Outcome.returned (some (Value.int z))) rfl), ht9⟩) (fun q hq => absurd hq List.not_mem_nil) dX6_parentOf_8
theorem al_mv_X6_bitsOf : al_mv yX6_bitsOf cX6_bitsOf 2 (some .int) 1 := ⟨al_c_X6_bitsOf, al_ini_RX6, ⟨by decide +kernel, by decide +kernel, by decide +kernel⟩, by decide +kernel⟩
theorem al_mi_X6_bitsOf : al_mi yX6_bitsOf cX6_bitsOf 2 (some .int) 1 := ⟨al_mv_X6_bitsOf, al_in_X6_bitsOf, al_se_X6_bitsOf⟩
set_option maxHeartbeats 4000000 in
set_option maxRecDepth 100000 in
theorem al_X6_bitsOf (l : Launch) (D : va_G) (cy : al_CY) (ad : Nat → Nat) (σ : al_St) (t : Nat) (ht : t < 6) (x : Int32) : al_MP l yX6_bitsOf cX6_bitsOf 2 (some .int) 1 21 D cy ad σ [.ref (ad (8 + t)), .int x] (some (.int (al_rg (σ.1 (2 * t + 1)) x))) := by
  refine al_met al_mv_X6_bitsOf (Nat.le_of_ble_eq_true rfl) ?_
  intro p e s m args below meth c ls S hr hlocks hK hW hS hl
  have hl : lv_has ls 2 [(0, .ref (ad (8 + t))), (1, .int x)] := hl
  refine lv_aload_n S.1 S.2.1 dX6_bitsOf_0 rfl (lv_at hl 0 rfl) ?_
  refine al_g_RX6_18 S hK hW (t := t) (by omega) dX6_bitsOf_1 ?_
  refine lv_iload_n S.1 S.2.1 dX6_bitsOf_4 rfl (lv_at hl 1 rfl) ?_
  refine al_cP (rest := []) S hK hW (al_X2_get l D cy ad σ (2 * t + 1) (by omega) x) al_mi_X2_get al_ml_RX6_36 rfl (al_rc_R D cy ad _ (i := 2 * t + 1) (by omega)) rfl hl.1 rfl (Nat.le_of_ble_eq_true rfl) dX6_bitsOf_5 ⟨Nat.le_of_ble_eq_true rfl, Nat.le_of_ble_eq_true rfl⟩ ⟨Nat.zero_le _, Nat.zero_le _⟩ ?_
  refine W.eq (g2 := F0 m 8 ls [.int (al_rg (σ.1 (2 * t + 1)) x)]) rfl ?_
  exact W.iret S.1 S.2.1 hr (fun t9 ht9 _ => ⟨(congrArg (fun z => Outcome.returned (some (Value.int z))) rfl), ht9⟩) (fun q hq => absurd hq List.not_mem_nil) dX6_bitsOf_8
theorem al_mv_X6_lengthOf : al_mv yX6_lengthOf cX6_lengthOf 2 (some .float) 1 := ⟨al_c_X6_lengthOf, al_ini_RX6, ⟨by decide +kernel, by decide +kernel, by decide +kernel⟩, by decide +kernel⟩
theorem al_mi_X6_lengthOf : al_mi yX6_lengthOf cX6_lengthOf 2 (some .float) 1 := ⟨al_mv_X6_lengthOf, al_in_X6_lengthOf, al_se_X6_lengthOf⟩
set_option maxHeartbeats 4000000 in
set_option maxRecDepth 100000 in
theorem al_X6_lengthOf (l : Launch) (D : va_G) (cy : al_CY) (ad : Nat → Nat) (σ : al_St) (t : Nat) (ht : t < 6) (x : Int32) : al_MP l yX6_lengthOf cX6_lengthOf 2 (some .float) 1 21 D cy ad σ [.ref (ad (8 + t)), .int x] (some (.float (al_fg (σ.2.1 t) x))) := by
  refine al_met al_mv_X6_lengthOf (Nat.le_of_ble_eq_true rfl) ?_
  intro p e s m args below meth c ls S hr hlocks hK hW hS hl
  have hl : lv_has ls 2 [(0, .ref (ad (8 + t))), (1, .int x)] := hl
  refine lv_aload_n S.1 S.2.1 dX6_lengthOf_0 rfl (lv_at hl 0 rfl) ?_
  refine al_g_RX6_24 S hK hW (t := t) (by omega) dX6_lengthOf_1 ?_
  refine lv_iload_n S.1 S.2.1 dX6_lengthOf_4 rfl (lv_at hl 1 rfl) ?_
  refine al_cP (rest := []) S hK hW (al_X0_get l D cy ad σ t (by omega) x) al_mi_X0_get al_ml_RX6_40 rfl (al_rc_F D cy ad _ (i := t) (by omega)) rfl hl.1 rfl (Nat.le_of_ble_eq_true rfl) dX6_lengthOf_5 ⟨Nat.le_of_ble_eq_true rfl, Nat.le_of_ble_eq_true rfl⟩ ⟨Nat.zero_le _, Nat.zero_le _⟩ ?_
  refine W.eq (g2 := F0 m 8 ls [.float (al_fg (σ.2.1 t) x)]) rfl ?_
  exact W.fret S.1 S.2.1 hr (fun t9 ht9 _ => ⟨(congrArg (fun z => Outcome.returned (some (Value.float z))) rfl), ht9⟩) (fun q hq => absurd hq List.not_mem_nil) dX6_lengthOf_8
theorem al_mv_X6_stretch : al_mv yX6_stretch cX6_stretch 4 none 3 := ⟨al_c_X6_stretch, al_ini_RX6, ⟨by decide +kernel, by decide +kernel, by decide +kernel⟩, by decide +kernel⟩
theorem al_mi_X6_stretch : al_mi yX6_stretch cX6_stretch 4 none 3 := ⟨al_mv_X6_stretch, al_in_X6_stretch, al_se_X6_stretch⟩
set_option maxHeartbeats 4000000 in
set_option maxRecDepth 100000 in
theorem al_X6_stretch (l : Launch) (D : va_G) (cy : al_CY) (ad : Nat → Nat) (σ : al_St) (t : Nat) (ht : t < 6) (x : Int32) (b : Int32) (w : UInt32) : al_MS l yX6_stretch cX6_stretch 4 none 1 22 D cy ad σ [.ref (ad (8 + t)), .int x, .int b, .float w] none (al_stretch σ t x b w) := by
  refine al_met al_mv_X6_stretch (Nat.le_of_ble_eq_true rfl) ?_
  intro p e s m args below meth c ls S hr hlocks hK hW hS hl
  have hl : lv_has ls 4 [(0, .ref (ad (8 + t))), (1, .int x), (2, .int b), (3, .float w)] := hl
  refine lv_aload_n S.1 S.2.1 dX6_stretch_0 rfl (lv_at hl 0 rfl) ?_
  refine al_g_RX6_18 S hK hW (t := t) (by omega) dX6_stretch_1 ?_
  refine lv_iload_n S.1 S.2.1 dX6_stretch_4 rfl (lv_at hl 1 rfl) ?_
  refine lv_iload_n S.1 S.2.1 dX6_stretch_5 rfl (lv_at hl 2 rfl) ?_
  refine al_cS (rest := []) S hK hW hS (al_X2_set l D cy ad σ (2 * t + 1) (by omega) x b) al_mi_X2_set al_ml_RX6_28 rfl (al_rc_R D cy ad _ (i := 2 * t + 1) (by omega)) rfl hl.1 rfl (Nat.le_of_ble_eq_true rfl) dX6_stretch_6 ⟨Nat.le_of_ble_eq_true rfl, Nat.le_of_ble_eq_true rfl⟩ ⟨Nat.zero_le _, Nat.zero_le _⟩ (fun H locs hW hS => ?_)
  refine W.eq (g2 := F0 m 9 ls []) rfl ?_
  refine lv_aload_n S.1 S.2.1 dX6_stretch_9 rfl (lv_at hl 0 rfl) ?_
  refine al_g_RX6_24 S hK hW (t := t) (by omega) dX6_stretch_10 ?_
  refine lv_iload_n S.1 S.2.1 dX6_stretch_13 rfl (lv_at hl 1 rfl) ?_
  refine lv_fload_n S.1 S.2.1 dX6_stretch_14 rfl (lv_at hl 3 rfl) ?_
  refine al_cS (rest := []) S hK hW hS (al_X0_set l D cy ad (al_set σ (2 * t + 1) x b) t (by omega) x w) al_mi_X0_set al_ml_RX6_47 rfl (al_rc_F D cy ad _ (i := t) (by omega)) rfl hl.1 rfl (Nat.le_of_ble_eq_true rfl) dX6_stretch_15 ⟨Nat.le_of_ble_eq_true rfl, Nat.le_of_ble_eq_true rfl⟩ ⟨Nat.zero_le _, Nat.zero_le _⟩ (fun H locs hW hS => ?_)
  refine W.eq (g2 := F0 m 18 ls []) rfl ?_
  exact W.vret S.1 S.2.1 hr (fun t9 ht9 _ => ⟨rfl, by rw [ht9]; exact (al_He hW (by simp only [al_stretch])), hS.F ht9⟩) hS.2.2 dX6_stretch_18
theorem al_mv_X6_append : al_mv yX6_append cX6_append 5 (some .int) 3 := ⟨al_c_X6_append, al_ini_RX6, ⟨by decide +kernel, by decide +kernel, by decide +kernel⟩, by decide +kernel⟩
theorem al_mi_X6_append : al_mi yX6_append cX6_append 5 (some .int) 3 := ⟨al_mv_X6_append, al_in_X6_append, al_se_X6_append⟩
set_option maxHeartbeats 4000000 in
set_option maxRecDepth 100000 in
theorem al_X6_append (l : Launch) (D : va_G) (cy : al_CY) (ad : Nat → Nat) (σ : al_St) (t : Nat) (ht : t < 6) (u : Int32) (b : Int32) (w : UInt32) : al_MS l yX6_append cX6_append 5 (some .int) 2 45 D cy ad σ [.ref (ad (8 + t)), .int u, .int b, .float w] (some (.int (σ.2.2.1 t))) (al_append σ t u b w) := by
  refine al_met al_mv_X6_append (Nat.le_of_ble_eq_true rfl) ?_
  intro p e s m args below meth c ls S hr hlocks hK hW hS hl
  have hl : lv_has ls 5 [(0, .ref (ad (8 + t))), (1, .int u), (2, .int b), (3, .float w)] := hl
  refine lv_aload_n S.1 S.2.1 dX6_append_0 rfl (lv_at hl 0 rfl) ?_
  refine al_g_RX6_32 S hK hW (t := t) (by omega) dX6_append_1 ?_
  refine lv_istore (lv' := [(4, .int (σ.2.2.1 t)), (0, .ref (ad (8 + t))), (1, .int u), (2, .int b), (3, .float w)]) S.1 S.2.1 dX6_append_4 hl (by decide) rfl (fun ls hl => ?_)
  refine lv_aload_n S.1 S.2.1 dX6_append_6 rfl (lv_at hl 1 rfl) ?_
  refine lv_dup S.1 S.2.1 dX6_append_7 rfl ?_
  refine al_g_RX6_32 S hK hW (t := t) (by omega) dX6_append_8 ?_
  refine lv_iconst (v := 1) S.1 S.2.1 dX6_append_11 (by decide) ?_
  refine lv_iadd S.1 S.2.1 dX6_append_12 ?_
  refine al_p_RX6_32 S hK hW hS (t := t) (by omega) dX6_append_13 (fun H locs hW hS => ?_)
  refine lv_aload_n S.1 S.2.1 dX6_append_16 rfl (lv_at hl 1 rfl) ?_
  refine al_g_RX6_12 S hK hW (t := t) (by omega) dX6_append_17 ?_
  refine lv_iload S.1 S.2.1 dX6_append_20 (lv_at hl 0 rfl) ?_
  refine lv_iload_n S.1 S.2.1 dX6_append_22 rfl (lv_at hl 2 rfl) ?_
  refine al_cS (rest := []) S hK hW hS (al_X2_set l D cy ad (al_sV σ t ((σ.2.2.1 t) + 1)) (2 * t) (by omega) (σ.2.2.1 t) u) al_mi_X2_set al_ml_RX6_28 rfl (al_rc_R D cy ad _ (i := 2 * t) (by omega)) rfl hl.1 rfl (Nat.le_of_ble_eq_true rfl) dX6_append_23 ⟨Nat.le_of_ble_eq_true rfl, Nat.le_of_ble_eq_true rfl⟩ ⟨Nat.zero_le _, Nat.zero_le _⟩ (fun H locs hW hS => ?_)
  refine W.eq (g2 := F0 m 26 ls []) rfl ?_
  refine lv_aload_n S.1 S.2.1 dX6_append_26 rfl (lv_at hl 1 rfl) ?_
  refine lv_iload S.1 S.2.1 dX6_append_27 (lv_at hl 0 rfl) ?_
  refine lv_iload_n S.1 S.2.1 dX6_append_29 rfl (lv_at hl 3 rfl) ?_
  refine lv_fload_n S.1 S.2.1 dX6_append_30 rfl (lv_at hl 4 rfl) ?_
  refine al_cS (rest := []) S hK hW hS (al_X6_stretch l D cy ad (al_set (al_sV σ t ((σ.2.2.1 t) + 1)) (2 * t) (σ.2.2.1 t) u) t (by omega) (σ.2.2.1 t) b w) al_mi_X6_stretch al_ml_RX6_43 rfl (al_rc_T D cy ad _ (t := t) (by omega)) rfl hl.1 rfl (Nat.le_of_ble_eq_true rfl) dX6_append_31 ⟨Nat.le_of_ble_eq_true rfl, Nat.le_of_ble_eq_true rfl⟩ ⟨Nat.zero_le _, Nat.zero_le _⟩ (fun H locs hW hS => ?_)
  refine W.eq (g2 := F0 m 34 ls []) rfl ?_
  refine lv_iload S.1 S.2.1 dX6_append_34 (lv_at hl 0 rfl) ?_
  exact W.iret S.1 S.2.1 hr (fun t9 ht9 _ => ⟨(congrArg (fun z => Outcome.returned (some (Value.int z))) rfl), by rw [ht9]; exact (al_He hW (by simp only [al_append])), hS.F ht9⟩) hS.2.2 dX6_append_36
theorem al_mv_X6_remove : al_mv yX6_remove cX6_remove 2 none 1 := ⟨al_c_X6_remove, al_ini_RX6, ⟨by decide +kernel, by decide +kernel, by decide +kernel⟩, by decide +kernel⟩
theorem al_mi_X6_remove : al_mi yX6_remove cX6_remove 2 none 1 := ⟨al_mv_X6_remove, al_in_X6_remove, al_se_X6_remove⟩
set_option maxHeartbeats 4000000 in
set_option maxRecDepth 100000 in
theorem al_X6_remove (l : Launch) (D : va_G) (cy : al_CY) (ad : Nat → Nat) (σ : al_St) (t : Nat) (ht : t < 6) (x : Int32) : al_MS l yX6_remove cX6_remove 2 none 1 22 D cy ad σ [.ref (ad (8 + t)), .int x] none (al_set σ (2 * t) x (-2)) := by
  refine al_met al_mv_X6_remove (Nat.le_of_ble_eq_true rfl) ?_
  intro p e s m args below meth c ls S hr hlocks hK hW hS hl
  have hl : lv_has ls 2 [(0, .ref (ad (8 + t))), (1, .int x)] := hl
  refine lv_aload_n S.1 S.2.1 dX6_remove_0 rfl (lv_at hl 0 rfl) ?_
  refine al_g_RX6_12 S hK hW (t := t) (by omega) dX6_remove_1 ?_
  refine lv_iload_n S.1 S.2.1 dX6_remove_4 rfl (lv_at hl 1 rfl) ?_
  refine lv_bipush (v := -2) S.1 S.2.1 dX6_remove_5 (by decide) ?_
  refine al_cS (rest := []) S hK hW hS (al_X2_set l D cy ad σ (2 * t) (by omega) x (-2)) al_mi_X2_set al_ml_RX6_28 rfl (al_rc_R D cy ad _ (i := 2 * t) (by omega)) rfl hl.1 rfl (Nat.le_of_ble_eq_true rfl) dX6_remove_7 ⟨Nat.le_of_ble_eq_true rfl, Nat.le_of_ble_eq_true rfl⟩ ⟨Nat.zero_le _, Nat.zero_le _⟩ (fun H locs hW hS => ?_)
  refine W.eq (g2 := F0 m 10 ls []) rfl ?_
  exact W.vret S.1 S.2.1 hr (fun t9 ht9 _ => ⟨rfl, by rw [ht9]; exact hW, hS.F ht9⟩) hS.2.2 dX6_remove_10
theorem al_mv_X6_hang : al_mv yX6_hang cX6_hang 3 none 2 := ⟨al_c_X6_hang, al_ini_RX6, ⟨by decide +kernel, by decide +kernel, by decide +kernel⟩, by decide +kernel⟩
theorem al_mi_X6_hang : al_mi yX6_hang cX6_hang 3 none 2 := ⟨al_mv_X6_hang, al_in_X6_hang, al_se_X6_hang⟩
set_option maxHeartbeats 4000000 in
set_option maxRecDepth 100000 in
theorem al_X6_hang (l : Launch) (D : va_G) (cy : al_CY) (ad : Nat → Nat) (σ : al_St) (t : Nat) (ht : t < 6) (x : Int32) (u : Int32) : al_MS l yX6_hang cX6_hang 3 none 1 22 D cy ad σ [.ref (ad (8 + t)), .int x, .int u] none (al_set σ (2 * t) x u) := by
  refine al_met al_mv_X6_hang (Nat.le_of_ble_eq_true rfl) ?_
  intro p e s m args below meth c ls S hr hlocks hK hW hS hl
  have hl : lv_has ls 3 [(0, .ref (ad (8 + t))), (1, .int x), (2, .int u)] := hl
  refine lv_aload_n S.1 S.2.1 dX6_hang_0 rfl (lv_at hl 0 rfl) ?_
  refine al_g_RX6_12 S hK hW (t := t) (by omega) dX6_hang_1 ?_
  refine lv_iload_n S.1 S.2.1 dX6_hang_4 rfl (lv_at hl 1 rfl) ?_
  refine lv_iload_n S.1 S.2.1 dX6_hang_5 rfl (lv_at hl 2 rfl) ?_
  refine al_cS (rest := []) S hK hW hS (al_X2_set l D cy ad σ (2 * t) (by omega) x u) al_mi_X2_set al_ml_RX6_28 rfl (al_rc_R D cy ad _ (i := 2 * t) (by omega)) rfl hl.1 rfl (Nat.le_of_ble_eq_true rfl) dX6_hang_6 ⟨Nat.le_of_ble_eq_true rfl, Nat.le_of_ble_eq_true rfl⟩ ⟨Nat.zero_le _, Nat.zero_le _⟩ (fun H locs hW hS => ?_)
  refine W.eq (g2 := F0 m 9 ls []) rfl ?_
  exact W.vret S.1 S.2.1 hr (fun t9 ht9 _ => ⟨rfl, by rw [ht9]; exact hW, hS.F ht9⟩) hS.2.2 dX6_hang_9
theorem al_mv_X6_copyFrom : al_mv yX6_copyFrom cX6_copyFrom 2 none 1 := ⟨al_c_X6_copyFrom, al_ini_RX6, ⟨by decide +kernel, by decide +kernel, by decide +kernel⟩, by decide +kernel⟩
theorem al_mi_X6_copyFrom : al_mi yX6_copyFrom cX6_copyFrom 2 none 1 := ⟨al_mv_X6_copyFrom, al_in_X6_copyFrom, al_se_X6_copyFrom⟩
set_option maxHeartbeats 4000000 in
set_option maxRecDepth 100000 in
theorem al_X6_copyFrom (l : Launch) (D : va_G) (cy : al_CY) (ad : Nat → Nat) (σ : al_St) (t : Nat) (ht : t < 6) (u : Nat) (hu : u < 6) : al_MS l yX6_copyFrom cX6_copyFrom 2 none 2 43 D cy ad σ [.ref (ad (8 + t)), .ref (ad (8 + u))] none (al_copyT σ t u) := by
  refine al_met al_mv_X6_copyFrom (Nat.le_of_ble_eq_true rfl) ?_
  intro p e s m args below meth c ls S hr hlocks hK hW hS hl
  have hl : lv_has ls 2 [(0, .ref (ad (8 + t))), (1, .ref (ad (8 + u)))] := hl
  refine lv_aload_n S.1 S.2.1 dX6_copyFrom_0 rfl (lv_at hl 0 rfl) ?_
  refine al_g_RX6_12 S hK hW (t := t) (by omega) dX6_copyFrom_1 ?_
  refine lv_aload_n S.1 S.2.1 dX6_copyFrom_4 rfl (lv_at hl 1 rfl) ?_
  refine al_g_RX6_12 S hK hW (t := u) (by omega) dX6_copyFrom_5 ?_
  refine al_cS (rest := []) S hK hW hS (al_X2_copyFrom l D cy ad σ (2 * t) (by omega) (2 * u) (by omega)) al_mi_X2_copyFrom al_ml_RX6_50 rfl (al_rc_R D cy ad _ (i := 2 * t) (by omega)) rfl hl.1 rfl (Nat.le_of_ble_eq_true rfl) dX6_copyFrom_8 ⟨Nat.le_of_ble_eq_true rfl, Nat.le_of_ble_eq_true rfl⟩ ⟨Nat.zero_le _, Nat.zero_le _⟩ (fun H locs hW hS => ?_)
  refine W.eq (g2 := F0 m 11 ls []) rfl ?_
  refine lv_aload_n S.1 S.2.1 dX6_copyFrom_11 rfl (lv_at hl 0 rfl) ?_
  refine al_g_RX6_18 S hK hW (t := t) (by omega) dX6_copyFrom_12 ?_
  refine lv_aload_n S.1 S.2.1 dX6_copyFrom_15 rfl (lv_at hl 1 rfl) ?_
  refine al_g_RX6_18 S hK hW (t := u) (by omega) dX6_copyFrom_16 ?_
  refine al_cS (rest := []) S hK hW hS (al_X2_copyFrom l D cy ad (al_sR σ (2 * t) (σ.1 (2 * u))) (2 * t + 1) (by omega) (2 * u + 1) (by omega)) al_mi_X2_copyFrom al_ml_RX6_50 rfl (al_rc_R D cy ad _ (i := 2 * t + 1) (by omega)) rfl hl.1 rfl (Nat.le_of_ble_eq_true rfl) dX6_copyFrom_19 ⟨Nat.le_of_ble_eq_true rfl, Nat.le_of_ble_eq_true rfl⟩ ⟨Nat.zero_le _, Nat.zero_le _⟩ (fun H locs hW hS => ?_)
  refine W.eq (g2 := F0 m 22 ls []) rfl ?_
  refine lv_aload_n S.1 S.2.1 dX6_copyFrom_22 rfl (lv_at hl 0 rfl) ?_
  refine al_g_RX6_24 S hK hW (t := t) (by omega) dX6_copyFrom_23 ?_
  refine lv_aload_n S.1 S.2.1 dX6_copyFrom_26 rfl (lv_at hl 1 rfl) ?_
  refine al_g_RX6_24 S hK hW (t := u) (by omega) dX6_copyFrom_27 ?_
  refine al_cS (rest := []) S hK hW hS (al_X0_copyFrom l D cy ad (al_sR (al_sR σ (2 * t) (σ.1 (2 * u))) (2 * t + 1) ((al_sR σ (2 * t) (σ.1 (2 * u))).1 (2 * u + 1))) t (by omega) u (by omega)) al_mi_X0_copyFrom al_ml_RX6_54 rfl (al_rc_F D cy ad _ (i := t) (by omega)) rfl hl.1 rfl (Nat.le_of_ble_eq_true rfl) dX6_copyFrom_30 ⟨Nat.le_of_ble_eq_true rfl, Nat.le_of_ble_eq_true rfl⟩ ⟨Nat.zero_le _, Nat.zero_le _⟩ (fun H locs hW hS => ?_)
  refine W.eq (g2 := F0 m 33 ls []) rfl ?_
  refine lv_aload_n S.1 S.2.1 dX6_copyFrom_33 rfl (lv_at hl 0 rfl) ?_
  refine lv_aload_n S.1 S.2.1 dX6_copyFrom_34 rfl (lv_at hl 1 rfl) ?_
  refine al_g_RX6_32 S hK hW (t := u) (by omega) dX6_copyFrom_35 ?_
  refine al_p_RX6_32 S hK hW hS (t := t) (by omega) dX6_copyFrom_38 (fun H locs hW hS => ?_)
  exact W.vret S.1 S.2.1 hr (fun t9 ht9 _ => ⟨rfl, by rw [ht9]; exact (al_He hW rfl), hS.F ht9⟩) hS.2.2 dX6_copyFrom_41
end
section
/-! text and history -/
theorem al_nle {a b : Int32} (h : a < b) : ¬ b ≤ a := fun h2 => by
  rw [Int32.lt_iff_toInt_lt] at h
  rw [Int32.le_iff_toInt_le] at h2
  omega
theorem al_60 {n : Nat} (h : n < 60) : ¬ (60 : Int32) ≤ nI n := nI_ge (a := n) (b := 60) h (by omega)
theorem al_60' {n : Nat} (h : n = 60) : (60 : Int32) ≤ nI n := by rw [h]; decide
def al_tup (f : Nat → Nat) (i t : Nat) : Nat → Nat := fun j => if j = i then t else f j
section ALG
variable {p : Program} {l : Launch} {e : Env} {R : Room} {s : State} {m : MethodId} {args : Array Value} {below : List Frame} {meth : Method} {c : Code} {H : Heap} {locs : List Loc} {cells slots : Nat} {Q : State → Prop}
variable {cc : ByteArray} {nL n pc : Nat} {own : String} {rest : List Value} {ls : Array Slot}
variable {D : va_G} {cy : al_CY} {ad : Nat → Nat} {σ : al_St} {H0 : Heap} {x v : Int32} {w : UInt32}
theorem al_cast (S : CallFix p m c cc nL s args al_G own) (hK : va_K D vwCl (al_tys cy) s) (hW : al_H D cy ad σ H) (hS : va_S (al_A ad) H0 H locs) (h1 : ¬ x < 0) (h2 : ¬ 60 ≤ x) (hv : vp_nar .char v = v) (hdg : decode cc pc = .ok (.castore, 1)) (kk : ∀ (H1 : Heap) (locs1 : List Loc), al_H D cy ad (al_sR σ 25 (upd (σ.1 25) x.toNatClampNeg v)) H1 → va_S (al_A ad) H0 H1 locs1 → W p l e R s m args below meth c H1 locs1 cells slots Q (F0 m (pc + 1) ls rest)) : W p l e R s m args below meth c H locs cells slots Q (F0 m pc ls (.int v :: .int x :: .ref (ad 2) :: rest)) :=
  va_cast S.1 S.2.1 hK hW.1 (al_W_D hW.2.1) hS 2 2 (hW.cell (by decide) rfl) rfl (al_vin rfl h1 h2) hdg (fun H1 locs1 a _ b => kk H1 locs1 (hW.sG (by rw [hv] at a; exact a)) b)
theorem al_W_sT (cy : al_CY) (ad : Nat → Nat) (σ : al_St) (i t : Nat) : (al_W cy ad σ).set 4 (ad 4, .inl (cy.2.2.2, 4, .inr (.inr (.inr (.inr (va_up (fun j => some (ad (8 + σ.2.2.2 j))) i (some (ad (8 + t))))))))) = al_W cy ad (al_sT σ (al_tup σ.2.2.2 i t)) := by
  have key : ∀ k, k < 14 → (k ≠ 4 → al_c0 cy ad (al_sT σ (al_tup σ.2.2.2 i t)) k = al_c0 cy ad σ k) := by
    refine al_c0_out ?_ ?_ ?_ ?_ ?_ ?_ ?_ ?_ ?_ ?_ ?_ ?_ ?_ ?_ <;> first | exact fun _ => rfl | exact fun h => absurd rfl h
  have e : (fun j => some (ad (8 + al_tup σ.2.2.2 i t j))) = va_up (fun j => some (ad (8 + σ.2.2.2 j))) i (some (ad (8 + t))) := by
    funext j
    by_cases h : j = i <;> simp [al_tup, va_up, h]
  refine al_W_set cy ad σ _ ?_ (fun j hj hne => ?_)
  · rw [← e]
    rfl
  · by_cases h1 : j < 14
    · exact al_cE_small h1 (key j h1 hne)
    · exact al_cE_big (σ := σ) (σ' := al_sT σ (al_tup σ.2.2.2 i t)) rfl rfl h1
theorem al_qast (S : CallFix p m c cc nL s args al_G own) (hK : va_K D vwCl (al_tys cy) s) (hW : al_H D cy ad σ H) (hS : va_S (al_A ad) H0 H locs) {t : Nat} (ht : t < 6) (h1 : ¬ x < 0) (h2 : ¬ 4 ≤ x) (hdg : decode cc pc = .ok (.aastore, 1)) (kk : ∀ (H1 : Heap) (locs1 : List Loc), al_H D cy ad (al_sT σ (al_tup σ.2.2.2 x.toNatClampNeg t)) H1 → va_S (al_A ad) H0 H1 locs1 → W p l e R s m args below meth c H1 locs1 cells slots Q (F0 m (pc + 1) ls rest)) : W p l e R s m args below meth c H locs cells slots Q (F0 m pc ls (.ref (ad (8 + t)) :: .int x :: .ref (ad 4) :: rest)) :=
  va_astq S.1 S.2.1 hK hW.1 (al_W_D hW.2.1) hS 4 3 (8 + t) 6 (r := (RX6, TX6, 4)) (hW.cell (by decide) rfl) rfl (hW.cell (by omega) (al_cE_tree cy ad σ ht)) rfl (al_vin rfl h1 h2) hdg (fun H1 locs1 a _ b => kk H1 locs1 ⟨by rw [← al_W_sT]; exact a, hW.2.1, fun j => by
    show al_tup σ.2.2.2 x.toNatClampNeg t j < 6
    simp only [al_tup]
    split
    · exact ht
    · exact hW.2.2 j⟩ b)
end ALG
def al_put (σ : al_St) (x : Int32) : Int32 × al_St := if σ.2.2.1 6 < 0 then (0, σ) else if σ.2.2.1 6 < 60 then (1, al_sV (al_sR σ 25 (upd (σ.1 25) (σ.2.2.1 6).toNatClampNeg x)) 6 ((al_sR σ 25 (upd (σ.1 25) (σ.2.2.1 6).toNatClampNeg x)).2.2.1 6 + 1)) else (0, σ)
def al_plantL (u : Nat) : Nat → Nat → Int32 → al_St → al_St
  | 0, _, _, σ => σ
  | n + 1, k, a, σ => if σ.2.2.1 6 ≤ nI k then σ else if σ.1 25 (nI k).toNatClampNeg = 40 then al_plantL u n (k + 1) (σ.2.2.1 u) (al_append σ u a 1065353216 FP.fconst1) else al_plantL u n (k + 1) (al_rg (σ.1 (2 * u)) a) σ
def al_faultE (σ : al_St) (o : Int32) : Int32 := if σ.2.2.1 6 = 0 then σ.2.2.1 6 else if o ≤ 0 then -1 else σ.2.2.1 6
def al_faultL (σ : al_St) : Nat → Nat → Int32 → Int32
  | 0, _, o => al_faultE σ o
  | n + 1, k, o => if σ.2.2.1 6 ≤ nI k then al_faultE σ o else if σ.1 25 (nI k).toNatClampNeg = 40 then al_faultL σ n (k + 1) (o + 1) else if σ.1 25 (nI k).toNatClampNeg = 41 then (if o ≤ 0 then nI k else al_faultL σ n (k + 1) (o + (-1))) else nI k
theorem al_mv_X5_length : al_mv yX5_length cX5_length 1 (some .int) 0 := ⟨al_c_X5_length, al_ini_RX5, ⟨by decide +kernel, by decide +kernel, by decide +kernel⟩, by decide +kernel⟩
theorem al_mi_X5_length : al_mi yX5_length cX5_length 1 (some .int) 0 := ⟨al_mv_X5_length, al_in_X5_length, al_se_X5_length⟩
set_option maxHeartbeats 4000000 in
set_option maxRecDepth 100000 in
theorem al_X5_length (l : Launch) (D : va_G) (cy : al_CY) (ad : Nat → Nat) (σ : al_St) : al_MP l yX5_length cX5_length 1 (some .int) 0 0 D cy ad σ [.ref (ad (1))] (some (.int (σ.2.2.1 6))) := by
  refine al_met al_mv_X5_length (Nat.le_of_ble_eq_true rfl) ?_
  intro p e s m args below meth c ls S hr hlocks hK hW hS hl
  have hl : lv_has ls 1 [(0, .ref (ad (1)))] := hl
  refine lv_aload_n S.1 S.2.1 dX5_length_0 rfl (lv_at hl 0 rfl) ?_
  refine al_g_RX5_15 S hK hW dX5_length_1 ?_
  exact W.iret S.1 S.2.1 hr (fun t9 ht9 _ => ⟨(congrArg (fun z => Outcome.returned (some (Value.int z))) rfl), ht9⟩) (fun q hq => absurd hq List.not_mem_nil) dX5_length_4
theorem al_mv_X5_put : al_mv yX5_put cX5_put 2 (some .boolean) 1 := ⟨al_c_X5_put, al_ini_RX5, ⟨by decide +kernel, by decide +kernel, by decide +kernel⟩, by decide +kernel⟩
theorem al_mi_X5_put : al_mi yX5_put cX5_put 2 (some .boolean) 1 := ⟨al_mv_X5_put, al_in_X5_put, al_se_X5_put⟩
set_option maxHeartbeats 4000000 in
set_option maxRecDepth 100000 in
theorem al_X5_put (l : Launch) (D : va_G) (cy : al_CY) (ad : Nat → Nat) (σ : al_St) (x : Int32) (hx : vp_nar .char x = x) : al_MS l yX5_put cX5_put 2 (some .boolean) 0 0 D cy ad σ [.ref (ad (1)), .int x] (some (.int ((al_put σ x).1))) ((al_put σ x).2) := by
  refine al_met al_mv_X5_put (Nat.le_of_ble_eq_true rfl) ?_
  intro p e s m args below meth c ls S hr hlocks hK hW hS hl
  have hl : lv_has ls 2 [(0, .ref (ad (1))), (1, .int x)] := hl
  refine lv_aload_n S.1 S.2.1 dX5_put_0 rfl (lv_at hl 0 rfl) ?_
  refine al_g_RX5_15 S hK hW dX5_put_1 ?_
  refine lv_if_lt (tgt := 19) S.1 S.2.1 dX5_put_4 (by decide) (fun c1 => ?_) (fun c1 => ?_)
  · refine lv_iconst (v := 0) S.1 S.2.1 dX5_put_19 (by decide) ?_
    exact W.zret S.1 S.2.1 hr rfl (fun t9 ht9 _ => ⟨(congrArg (fun z => Outcome.returned (some (Value.int z))) (by simp only [al_put, if_pos (c1)])), by rw [ht9]; exact (al_He hW (by simp only [al_put, if_pos (c1)])), hS.F ht9⟩) hS.2.2 dX5_put_20
  · refine lv_aload_n S.1 S.2.1 dX5_put_7 rfl (lv_at hl 0 rfl) ?_
    refine al_g_RX5_15 S hK hW dX5_put_8 ?_
    refine lv_aload_n S.1 S.2.1 dX5_put_11 rfl (lv_at hl 0 rfl) ?_
    refine al_g_RX5_9 S hK hW dX5_put_12 ?_
    refine al_calen S hK hW dX5_put_15 ?_
    refine lv_icmp_lt (tgt := 21) S.1 S.2.1 dX5_put_16 (by decide) (fun c2 => ?_) (fun c2 => ?_)
    · refine lv_aload_n S.1 S.2.1 dX5_put_21 rfl (lv_at hl 0 rfl) ?_
      refine al_g_RX5_9 S hK hW dX5_put_22 ?_
      refine lv_aload_n S.1 S.2.1 dX5_put_25 rfl (lv_at hl 0 rfl) ?_
      refine al_g_RX5_15 S hK hW dX5_put_26 ?_
      refine lv_iload_n S.1 S.2.1 dX5_put_29 rfl (lv_at hl 1 rfl) ?_
      refine al_cast S hK hW hS c1 (al_nle c2) hx dX5_put_30 (fun H locs hW hS => ?_)
      refine lv_aload_n S.1 S.2.1 dX5_put_31 rfl (lv_at hl 0 rfl) ?_
      refine lv_dup S.1 S.2.1 dX5_put_32 rfl ?_
      refine al_g_RX5_15 S hK hW dX5_put_33 ?_
      refine lv_iconst (v := 1) S.1 S.2.1 dX5_put_36 (by decide) ?_
      refine lv_iadd S.1 S.2.1 dX5_put_37 ?_
      refine al_p_RX5_15 S hK hW hS dX5_put_38 (fun H locs hW hS => ?_)
      refine lv_iconst (v := 1) S.1 S.2.1 dX5_put_41 (by decide) ?_
      exact W.zret S.1 S.2.1 hr rfl (fun t9 ht9 _ => ⟨(congrArg (fun z => Outcome.returned (some (Value.int z))) (by simp only [al_put, if_neg (c1), if_pos (c2)])), by rw [ht9]; exact (al_He hW (by simp only [al_put, if_neg (c1), if_pos (c2)])), hS.F ht9⟩) hS.2.2 dX5_put_42
    · refine lv_iconst (v := 0) S.1 S.2.1 dX5_put_19 (by decide) ?_
      exact W.zret S.1 S.2.1 hr rfl (fun t9 ht9 _ => ⟨(congrArg (fun z => Outcome.returned (some (Value.int z))) (by simp only [al_put, if_neg (c1), if_neg (c2)])), by rw [ht9]; exact (al_He hW (by simp only [al_put, if_neg (c1), if_neg (c2)])), hS.F ht9⟩) hS.2.2 dX5_put_20
theorem al_mv_X5_branches : al_mv yX5_branches cX5_branches 1 (some .int) 0 := ⟨al_c_X5_branches, al_ini_RX5, ⟨by decide +kernel, by decide +kernel, by decide +kernel⟩, by decide +kernel⟩
theorem al_mi_X5_branches : al_mi yX5_branches cX5_branches 1 (some .int) 0 := ⟨al_mv_X5_branches, al_in_X5_branches, al_se_X5_branches⟩
set_option maxHeartbeats 4000000 in
set_option maxRecDepth 100000 in
theorem al_X5_branches (l : Launch) (D : va_G) (cy : al_CY) (ad : Nat → Nat) (σ : al_St) : al_MP l yX5_branches cX5_branches 1 (some .int) 0 0 D cy ad σ [.ref (ad (1))] (some (.int (σ.2.2.1 6 / 2))) := by
  refine al_met al_mv_X5_branches (Nat.le_of_ble_eq_true rfl) ?_
  intro p e s m args below meth c ls S hr hlocks hK hW hS hl
  have hl : lv_has ls 1 [(0, .ref (ad (1)))] := hl
  refine lv_aload_n S.1 S.2.1 dX5_branches_0 rfl (lv_at hl 0 rfl) ?_
  refine al_g_RX5_15 S hK hW dX5_branches_1 ?_
  refine lv_iconst (v := 2) S.1 S.2.1 dX5_branches_4 (by decide) ?_
  refine lv_idiv S.1 S.2.1 dX5_branches_5 (by decide) ?_
  exact W.iret S.1 S.2.1 hr (fun t9 ht9 _ => ⟨(congrArg (fun z => Outcome.returned (some (Value.int z))) (by simp only [])), ht9⟩) (fun q hq => absurd hq List.not_mem_nil) dX5_branches_6
set_option maxHeartbeats 4000000 in
set_option maxRecDepth 100000 in
theorem al_tl_X5_fault {p : Program} {e : Env} {s : State} {m : MethodId} {args : Array Value} {below : List Frame} {meth : Method} {c : Code} (l : Launch) (D : va_G) (cy : al_CY) (ad : Nat → Nat) (S : CallFix p m c cX5_fault 3 s args al_G RX5) (hr : meth.sig.returnType = (some .int)) (hlocks : meth.locks = false) (hK : va_K D vwCl (al_tys cy) s) {H : Heap} {σ : al_St} (hh : H = s.heap) (hW : al_H D cy ad σ H) : ∀ (n : Nat) (k : Nat) (o : Int32) (ls : Array Slot), k + n = 60 → lv_has ls 3 [(0, .ref (ad (1))), (1, .int o), (2, .int (nI k))] → W p l e (al_rm 0 0) s m args below meth c H [] 0 0 (MQ below (al_Qp (some (.int (al_faultL σ n k o)))) args s 0 0 (fun _ => False)) (F0 m 4 ls []) := by
  intro n
  induction n with
  | zero =>
    intro k o ls hk hl
    subst hh
    refine lv_iload_n S.1 S.2.1 dX5_fault_4 rfl (lv_at hl 2 rfl) ?_
    refine lv_aload_n S.1 S.2.1 dX5_fault_5 rfl (lv_at hl 0 rfl) ?_
    refine al_g_RX5_15 S hK hW dX5_fault_6 ?_
    refine lv_icmp_ge (tgt := 67) S.1 S.2.1 dX5_fault_9 (by decide) (fun c1 => ?_) (fun c1 => ?_)
    · refine lv_aload_n S.1 S.2.1 dX5_fault_67 rfl (lv_at hl 0 rfl) ?_
      refine al_g_RX5_15 S hK hW dX5_fault_68 ?_
      refine lv_if_eq (tgt := 78) S.1 S.2.1 dX5_fault_71 (by decide) (fun c2 => ?_) (fun c2 => ?_)
      · refine lv_aload_n S.1 S.2.1 dX5_fault_78 rfl (lv_at hl 0 rfl) ?_
        refine al_g_RX5_15 S hK hW dX5_fault_79 ?_
        refine lv_goto (tgt := 86) S.1 S.2.1 dX5_fault_82 (by decide) ?_
        exact W.iret S.1 S.2.1 hr (fun t9 ht9 _ => ⟨(congrArg (fun z => Outcome.returned (some (Value.int z))) (by simp only [al_faultL, al_faultE, if_pos (c1), if_pos (c2)])), ht9⟩) (fun q hq => absurd hq List.not_mem_nil) dX5_fault_86
      · refine lv_iload_n S.1 S.2.1 dX5_fault_74 rfl (lv_at hl 1 rfl) ?_
        refine lv_if_le (tgt := 85) S.1 S.2.1 dX5_fault_75 (by decide) (fun c3 => ?_) (fun c3 => ?_)
        · refine lv_iconst (v := -1) S.1 S.2.1 dX5_fault_85 (by decide) ?_
          exact W.iret S.1 S.2.1 hr (fun t9 ht9 _ => ⟨(congrArg (fun z => Outcome.returned (some (Value.int z))) (by simp only [al_faultL, al_faultE, if_pos (c1), if_neg (c2), if_pos (c3)])), ht9⟩) (fun q hq => absurd hq List.not_mem_nil) dX5_fault_86
        · refine lv_aload_n S.1 S.2.1 dX5_fault_78 rfl (lv_at hl 0 rfl) ?_
          refine al_g_RX5_15 S hK hW dX5_fault_79 ?_
          refine lv_goto (tgt := 86) S.1 S.2.1 dX5_fault_82 (by decide) ?_
          exact W.iret S.1 S.2.1 hr (fun t9 ht9 _ => ⟨(congrArg (fun z => Outcome.returned (some (Value.int z))) (by simp only [al_faultL, al_faultE, if_pos (c1), if_neg (c2), if_neg (c3)])), ht9⟩) (fun q hq => absurd hq List.not_mem_nil) dX5_fault_86
    · refine lv_iload_n S.1 S.2.1 dX5_fault_12 rfl (lv_at hl 2 rfl) ?_
      refine lv_aload_n S.1 S.2.1 dX5_fault_13 rfl (lv_at hl 0 rfl) ?_
      refine al_g_RX5_9 S hK hW dX5_fault_14 ?_
      refine al_calen S hK hW dX5_fault_17 ?_
      refine lv_icmp_ge (tgt := 67) S.1 S.2.1 dX5_fault_18 (by decide) (fun c4 => ?_) (fun c4 => ?_)
      · refine lv_aload_n S.1 S.2.1 dX5_fault_67 rfl (lv_at hl 0 rfl) ?_
        refine al_g_RX5_15 S hK hW dX5_fault_68 ?_
        refine lv_if_eq (tgt := 78) S.1 S.2.1 dX5_fault_71 (by decide) (fun c5 => ?_) (fun c5 => ?_)
        · refine lv_aload_n S.1 S.2.1 dX5_fault_78 rfl (lv_at hl 0 rfl) ?_
          refine al_g_RX5_15 S hK hW dX5_fault_79 ?_
          refine lv_goto (tgt := 86) S.1 S.2.1 dX5_fault_82 (by decide) ?_
          exact W.iret S.1 S.2.1 hr (fun t9 ht9 _ => ⟨(congrArg (fun z => Outcome.returned (some (Value.int z))) (by simp only [al_faultL, al_faultE, if_neg (c1), if_pos (c4), if_pos (c5)])), ht9⟩) (fun q hq => absurd hq List.not_mem_nil) dX5_fault_86
        · refine lv_iload_n S.1 S.2.1 dX5_fault_74 rfl (lv_at hl 1 rfl) ?_
          refine lv_if_le (tgt := 85) S.1 S.2.1 dX5_fault_75 (by decide) (fun c6 => ?_) (fun c6 => ?_)
          · refine lv_iconst (v := -1) S.1 S.2.1 dX5_fault_85 (by decide) ?_
            exact W.iret S.1 S.2.1 hr (fun t9 ht9 _ => ⟨(congrArg (fun z => Outcome.returned (some (Value.int z))) (by simp only [al_faultL, al_faultE, if_neg (c1), if_pos (c4), if_neg (c5), if_pos (c6)])), ht9⟩) (fun q hq => absurd hq List.not_mem_nil) dX5_fault_86
          · refine lv_aload_n S.1 S.2.1 dX5_fault_78 rfl (lv_at hl 0 rfl) ?_
            refine al_g_RX5_15 S hK hW dX5_fault_79 ?_
            refine lv_goto (tgt := 86) S.1 S.2.1 dX5_fault_82 (by decide) ?_
            exact W.iret S.1 S.2.1 hr (fun t9 ht9 _ => ⟨(congrArg (fun z => Outcome.returned (some (Value.int z))) (by simp only [al_faultL, al_faultE, if_neg (c1), if_pos (c4), if_neg (c5), if_neg (c6)])), ht9⟩) (fun q hq => absurd hq List.not_mem_nil) dX5_fault_86
      · exact absurd (al_60' (by omega)) c4
  | succ n ih =>
    intro k o ls hk hl
    subst hh
    refine lv_iload_n S.1 S.2.1 dX5_fault_4 rfl (lv_at hl 2 rfl) ?_
    refine lv_aload_n S.1 S.2.1 dX5_fault_5 rfl (lv_at hl 0 rfl) ?_
    refine al_g_RX5_15 S hK hW dX5_fault_6 ?_
    refine lv_icmp_ge (tgt := 67) S.1 S.2.1 dX5_fault_9 (by decide) (fun c1 => ?_) (fun c1 => ?_)
    · refine lv_aload_n S.1 S.2.1 dX5_fault_67 rfl (lv_at hl 0 rfl) ?_
      refine al_g_RX5_15 S hK hW dX5_fault_68 ?_
      refine lv_if_eq (tgt := 78) S.1 S.2.1 dX5_fault_71 (by decide) (fun c2 => ?_) (fun c2 => ?_)
      · refine lv_aload_n S.1 S.2.1 dX5_fault_78 rfl (lv_at hl 0 rfl) ?_
        refine al_g_RX5_15 S hK hW dX5_fault_79 ?_
        refine lv_goto (tgt := 86) S.1 S.2.1 dX5_fault_82 (by decide) ?_
        exact W.iret S.1 S.2.1 hr (fun t9 ht9 _ => ⟨(congrArg (fun z => Outcome.returned (some (Value.int z))) (by simp only [al_faultL, al_faultE, if_pos (c1), if_pos (c2)])), ht9⟩) (fun q hq => absurd hq List.not_mem_nil) dX5_fault_86
      · refine lv_iload_n S.1 S.2.1 dX5_fault_74 rfl (lv_at hl 1 rfl) ?_
        refine lv_if_le (tgt := 85) S.1 S.2.1 dX5_fault_75 (by decide) (fun c3 => ?_) (fun c3 => ?_)
        · refine lv_iconst (v := -1) S.1 S.2.1 dX5_fault_85 (by decide) ?_
          exact W.iret S.1 S.2.1 hr (fun t9 ht9 _ => ⟨(congrArg (fun z => Outcome.returned (some (Value.int z))) (by simp only [al_faultL, al_faultE, if_pos (c1), if_neg (c2), if_pos (c3)])), ht9⟩) (fun q hq => absurd hq List.not_mem_nil) dX5_fault_86
        · refine lv_aload_n S.1 S.2.1 dX5_fault_78 rfl (lv_at hl 0 rfl) ?_
          refine al_g_RX5_15 S hK hW dX5_fault_79 ?_
          refine lv_goto (tgt := 86) S.1 S.2.1 dX5_fault_82 (by decide) ?_
          exact W.iret S.1 S.2.1 hr (fun t9 ht9 _ => ⟨(congrArg (fun z => Outcome.returned (some (Value.int z))) (by simp only [al_faultL, al_faultE, if_pos (c1), if_neg (c2), if_neg (c3)])), ht9⟩) (fun q hq => absurd hq List.not_mem_nil) dX5_fault_86
    · refine lv_iload_n S.1 S.2.1 dX5_fault_12 rfl (lv_at hl 2 rfl) ?_
      refine lv_aload_n S.1 S.2.1 dX5_fault_13 rfl (lv_at hl 0 rfl) ?_
      refine al_g_RX5_9 S hK hW dX5_fault_14 ?_
      refine al_calen S hK hW dX5_fault_17 ?_
      refine lv_icmp_ge (tgt := 67) S.1 S.2.1 dX5_fault_18 (by decide) (fun c4 => ?_) (fun c4 => ?_)
      · exact absurd c4 (al_60 (by omega))
      · refine lv_aload_n S.1 S.2.1 dX5_fault_21 rfl (lv_at hl 0 rfl) ?_
        refine al_g_RX5_9 S hK hW dX5_fault_22 ?_
        refine lv_iload_n S.1 S.2.1 dX5_fault_25 rfl (lv_at hl 2 rfl) ?_
        refine al_cald S hK hW (al_nn (by omega)) c4 dX5_fault_26 ?_
        refine lv_bipush (v := 40) S.1 S.2.1 dX5_fault_27 (by decide) ?_
        refine lv_icmp_ne (tgt := 38) S.1 S.2.1 dX5_fault_29 (by decide) (fun c5 => ?_) (fun c5 => ?_)
        · refine lv_aload_n S.1 S.2.1 dX5_fault_38 rfl (lv_at hl 0 rfl) ?_
          refine al_g_RX5_9 S hK hW dX5_fault_39 ?_
          refine lv_iload_n S.1 S.2.1 dX5_fault_42 rfl (lv_at hl 2 rfl) ?_
          refine al_cald S hK hW (al_nn (by omega)) c4 dX5_fault_43 ?_
          refine lv_bipush (v := 41) S.1 S.2.1 dX5_fault_44 (by decide) ?_
          refine lv_icmp_ne (tgt := 59) S.1 S.2.1 dX5_fault_46 (by decide) (fun c6 => ?_) (fun c6 => ?_)
          · refine lv_iload_n S.1 S.2.1 dX5_fault_59 rfl (lv_at hl 2 rfl) ?_
            exact W.iret S.1 S.2.1 hr (fun t9 ht9 _ => ⟨(congrArg (fun z => Outcome.returned (some (Value.int z))) (by simp only [al_faultL, al_faultE, if_neg (c1), if_neg (c4), if_neg (c5), if_neg (c6)])), ht9⟩) (fun q hq => absurd hq List.not_mem_nil) dX5_fault_60
          · refine lv_iload_n S.1 S.2.1 dX5_fault_49 rfl (lv_at hl 1 rfl) ?_
            refine lv_if_le (tgt := 59) S.1 S.2.1 dX5_fault_50 (by decide) (fun c7 => ?_) (fun c7 => ?_)
            · refine lv_iload_n S.1 S.2.1 dX5_fault_59 rfl (lv_at hl 2 rfl) ?_
              exact W.iret S.1 S.2.1 hr (fun t9 ht9 _ => ⟨(congrArg (fun z => Outcome.returned (some (Value.int z))) (by simp only [al_faultL, al_faultE, if_neg (c1), if_neg (c4), if_neg (c5), if_pos (c6), if_pos (c7)])), ht9⟩) (fun q hq => absurd hq List.not_mem_nil) dX5_fault_60
            · refine lv_iinc (k := 1) (v := o + (-1)) (lv' := [(1, .int (o + (-1))), (0, .ref (ad (1))), (2, .int (nI k))]) S.1 S.2.1 dX5_fault_53 hl rfl rfl (by decide) rfl (fun ls hl => ?_)
              refine lv_goto (tgt := 61) S.1 S.2.1 dX5_fault_56 (by decide) ?_
              refine lv_iinc (k := 2) (v := nI (k + 1)) (lv' := [(2, .int (nI (k + 1))), (1, .int (o + (-1))), (0, .ref (ad (1)))]) S.1 S.2.1 dX5_fault_61 hl rfl (al_inc k) (by decide) rfl (fun ls hl => ?_)
              refine lv_goto (tgt := 4) S.1 S.2.1 dX5_fault_64 (by decide) ?_
              rw [show al_faultL σ (n + 1) k o = al_faultL σ n (k + 1) (o + (-1)) from by simp only [al_faultL, al_faultE, if_neg (c1), if_neg (c4), if_neg (c5), if_pos (c6), if_neg (c7)]]
              exact ih (k + 1) (o + (-1)) _ (by omega) (lv_sub hl [2, 1, 0] rfl)
        · refine lv_iinc (k := 1) (v := o + 1) (lv' := [(1, .int (o + 1)), (0, .ref (ad (1))), (2, .int (nI k))]) S.1 S.2.1 dX5_fault_32 hl rfl rfl (by decide) rfl (fun ls hl => ?_)
          refine lv_goto (tgt := 61) S.1 S.2.1 dX5_fault_35 (by decide) ?_
          refine lv_iinc (k := 2) (v := nI (k + 1)) (lv' := [(2, .int (nI (k + 1))), (1, .int (o + 1)), (0, .ref (ad (1)))]) S.1 S.2.1 dX5_fault_61 hl rfl (al_inc k) (by decide) rfl (fun ls hl => ?_)
          refine lv_goto (tgt := 4) S.1 S.2.1 dX5_fault_64 (by decide) ?_
          rw [show al_faultL σ (n + 1) k o = al_faultL σ n (k + 1) (o + 1) from by simp only [al_faultL, al_faultE, if_neg (c1), if_neg (c4), if_pos (c5)]]
          exact ih (k + 1) (o + 1) _ (by omega) (lv_sub hl [2, 1, 0] rfl)
theorem al_mv_X5_fault : al_mv yX5_fault cX5_fault 3 (some .int) 0 := ⟨al_c_X5_fault, al_ini_RX5, ⟨by decide +kernel, by decide +kernel, by decide +kernel⟩, by decide +kernel⟩
theorem al_mi_X5_fault : al_mi yX5_fault cX5_fault 3 (some .int) 0 := ⟨al_mv_X5_fault, al_in_X5_fault, al_se_X5_fault⟩
set_option maxHeartbeats 4000000 in
set_option maxRecDepth 100000 in
theorem al_X5_fault (l : Launch) (D : va_G) (cy : al_CY) (ad : Nat → Nat) (σ : al_St) : al_MP l yX5_fault cX5_fault 3 (some .int) 0 0 D cy ad σ [.ref (ad (1))] (some (.int (al_faultL σ 60 0 0))) := by
  refine al_met al_mv_X5_fault (Nat.le_of_ble_eq_true rfl) ?_
  intro p e s m args below meth c ls S hr hlocks hK hW hS hl
  have hl : lv_has ls 3 [(0, .ref (ad (1)))] := hl
  refine lv_iconst (v := 0) S.1 S.2.1 dX5_fault_0 (by decide) ?_
  refine lv_istore_n (lv' := [(1, .int 0), (0, .ref (ad (1)))]) S.1 S.2.1 dX5_fault_1 rfl hl (by decide) rfl (fun ls hl => ?_)
  refine lv_iconst (v := 0) S.1 S.2.1 dX5_fault_2 (by decide) ?_
  refine lv_istore_n (lv' := [(2, .int 0), (1, .int 0), (0, .ref (ad (1)))]) S.1 S.2.1 dX5_fault_3 rfl hl (by decide) rfl (fun ls hl => ?_)
  exact al_tl_X5_fault l D cy ad  S hr hlocks hK rfl hW 60 0 0 _ (by omega) (lv_sub hl [2, 1, 0] rfl)
set_option maxHeartbeats 4000000 in
set_option maxRecDepth 100000 in
theorem al_lp_X5_plant {p : Program} {e : Env} {s : State} {m : MethodId} {args : Array Value} {below : List Frame} {meth : Method} {c : Code} {Q : State → Prop} (l : Launch) (D : va_G) (cy : al_CY) (ad : Nat → Nat) (u : Nat) (hu : u < 6) (S : CallFix p m c cX5_plant 5 s args al_G RX5) (hK : va_K D vwCl (al_tys cy) s) {H0 : Heap} : ∀ (n : Nat) (σ : al_St) (k : Nat) (a : Int32) (H : Heap) (locs : List Loc) (ls : Array Slot), k + n = 60 → al_H D cy ad σ H → va_S (al_A ad) H0 H locs → lv_has ls 5 [(0, .ref (ad (1))), (1, .ref (ad (8 + u))), (3, .int a), (4, .int (nI k))] → (∀ (σ' : al_St) (H : Heap) (locs : List Loc) (ls : Array Slot), al_plantL u n k a σ = σ' → al_H D cy ad σ' H → va_S (al_A ad) H0 H locs → lv_has ls 5 [(0, .ref (ad (1)))] → W p l e (al_rm 3 69) s m args below meth c H locs 0 0 Q (F0 m 59 ls [])) → W p l e (al_rm 3 69) s m args below meth c H locs 0 0 Q (F0 m 5 ls []) := by
  intro n
  induction n with
  | zero =>
    intro σ k a H locs ls hk hW hS hl K
    refine lv_iload S.1 S.2.1 dX5_plant_5 (lv_at hl 3 rfl) ?_
    refine lv_aload_n S.1 S.2.1 dX5_plant_7 rfl (lv_at hl 0 rfl) ?_
    refine al_g_RX5_15 S hK hW dX5_plant_8 ?_
    refine lv_icmp_ge (tgt := 59) S.1 S.2.1 dX5_plant_11 (by decide) (fun c1 => ?_) (fun c1 => ?_)
    · exact K σ  _ _ _ (by simp only [al_plantL, if_pos (c1)]) hW hS (lv_sub hl [0] rfl)
    · refine lv_iload S.1 S.2.1 dX5_plant_14 (lv_at hl 3 rfl) ?_
      refine lv_aload_n S.1 S.2.1 dX5_plant_16 rfl (lv_at hl 0 rfl) ?_
      refine al_g_RX5_9 S hK hW dX5_plant_17 ?_
      refine al_calen S hK hW dX5_plant_20 ?_
      refine lv_icmp_ge (tgt := 59) S.1 S.2.1 dX5_plant_21 (by decide) (fun c2 => ?_) (fun c2 => ?_)
      · exact K σ  _ _ _ (by simp only [al_plantL, if_neg (c1), if_pos (c2)]) hW hS (lv_sub hl [0] rfl)
      · exact absurd (al_60' (by omega)) c2
  | succ n ih =>
    intro σ k a H locs ls hk hW hS hl K
    refine lv_iload S.1 S.2.1 dX5_plant_5 (lv_at hl 3 rfl) ?_
    refine lv_aload_n S.1 S.2.1 dX5_plant_7 rfl (lv_at hl 0 rfl) ?_
    refine al_g_RX5_15 S hK hW dX5_plant_8 ?_
    refine lv_icmp_ge (tgt := 59) S.1 S.2.1 dX5_plant_11 (by decide) (fun c1 => ?_) (fun c1 => ?_)
    · exact K σ  _ _ _ (by simp only [al_plantL, if_pos (c1)]) hW hS (lv_sub hl [0] rfl)
    · refine lv_iload S.1 S.2.1 dX5_plant_14 (lv_at hl 3 rfl) ?_
      refine lv_aload_n S.1 S.2.1 dX5_plant_16 rfl (lv_at hl 0 rfl) ?_
      refine al_g_RX5_9 S hK hW dX5_plant_17 ?_
      refine al_calen S hK hW dX5_plant_20 ?_
      refine lv_icmp_ge (tgt := 59) S.1 S.2.1 dX5_plant_21 (by decide) (fun c2 => ?_) (fun c2 => ?_)
      · exact absurd c2 (al_60 (by omega))
      · refine lv_aload_n S.1 S.2.1 dX5_plant_24 rfl (lv_at hl 0 rfl) ?_
        refine al_g_RX5_9 S hK hW dX5_plant_25 ?_
        refine lv_iload S.1 S.2.1 dX5_plant_28 (lv_at hl 3 rfl) ?_
        refine al_cald S hK hW (al_nn (by omega)) c2 dX5_plant_30 ?_
        refine lv_bipush (v := 40) S.1 S.2.1 dX5_plant_31 (by decide) ?_
        refine lv_icmp_ne (tgt := 47) S.1 S.2.1 dX5_plant_33 (by decide) (fun c3 => ?_) (fun c3 => ?_)
        · refine lv_aload_n S.1 S.2.1 dX5_plant_47 rfl (lv_at hl 1 rfl) ?_
          refine lv_iload_n S.1 S.2.1 dX5_plant_48 rfl (lv_at hl 2 rfl) ?_
          refine al_cP (rest := []) S hK hW (al_X6_parentOf l D cy ad σ u (by omega) a) al_mi_X6_parentOf al_ml_RX5_26 rfl (al_rc_T D cy ad _ (t := u) (by omega)) rfl hl.1 rfl (Nat.le_of_ble_eq_true rfl) dX5_plant_49 ⟨Nat.le_of_ble_eq_true rfl, Nat.le_of_ble_eq_true rfl⟩ ⟨Nat.zero_le _, Nat.zero_le _⟩ ?_
          refine W.eq (g2 := F0 m 52 ls [.int (al_rg (σ.1 (2 * u)) a)]) rfl ?_
          refine lv_istore_n (lv' := [(3, .int (al_rg (σ.1 (2 * u)) a)), (0, .ref (ad (1))), (1, .ref (ad (8 + u))), (4, .int (nI k))]) S.1 S.2.1 dX5_plant_52 rfl hl (by decide) rfl (fun ls hl => ?_)
          refine lv_iinc (k := 3) (v := nI (k + 1)) (lv' := [(4, .int (nI (k + 1))), (3, .int (al_rg (σ.1 (2 * u)) a)), (0, .ref (ad (1))), (1, .ref (ad (8 + u)))]) S.1 S.2.1 dX5_plant_53 hl rfl (al_inc k) (by decide) rfl (fun ls hl => ?_)
          refine lv_goto (tgt := 5) S.1 S.2.1 dX5_plant_56 (by decide) ?_
          exact ih σ (k + 1) (al_rg (σ.1 (2 * u)) a) _ _ _ (by omega) hW hS (lv_sub hl [2, 3, 1, 0] rfl) (fun σ'  H locs ls e9 hW hS hl => K σ'  H locs ls (by simp only [al_plantL, if_neg (c1), if_neg (c2), if_neg (c3)]; exact e9) hW hS hl)
        · refine lv_aload_n S.1 S.2.1 dX5_plant_36 rfl (lv_at hl 1 rfl) ?_
          refine lv_iload_n S.1 S.2.1 dX5_plant_37 rfl (lv_at hl 2 rfl) ?_
          refine lv_ldc S.1 S.2.1 S.2.2.2.1 (S.2.2.2.2 _ al_k_RX5_19) dX5_plant_38 ?_
          refine lv_fconst1 S.1 S.2.1 dX5_plant_40 ?_
          refine al_cS (rest := []) S hK hW hS (al_X6_append l D cy ad σ u (by omega) a 1065353216 FP.fconst1) al_mi_X6_append al_ml_RX5_20 rfl (al_rc_T D cy ad _ (t := u) (by omega)) rfl hl.1 rfl (Nat.le_of_ble_eq_true rfl) dX5_plant_41 ⟨Nat.le_of_ble_eq_true rfl, Nat.le_of_ble_eq_true rfl⟩ ⟨Nat.zero_le _, Nat.zero_le _⟩ (fun H locs hW hS => ?_)
          refine W.eq (g2 := F0 m 44 ls [.int (σ.2.2.1 u)]) rfl ?_
          refine lv_goto (tgt := 52) S.1 S.2.1 dX5_plant_44 (by decide) ?_
          refine lv_istore_n (lv' := [(3, .int (σ.2.2.1 u)), (0, .ref (ad (1))), (1, .ref (ad (8 + u))), (4, .int (nI k))]) S.1 S.2.1 dX5_plant_52 rfl hl (by decide) rfl (fun ls hl => ?_)
          refine lv_iinc (k := 3) (v := nI (k + 1)) (lv' := [(4, .int (nI (k + 1))), (3, .int (σ.2.2.1 u)), (0, .ref (ad (1))), (1, .ref (ad (8 + u)))]) S.1 S.2.1 dX5_plant_53 hl rfl (al_inc k) (by decide) rfl (fun ls hl => ?_)
          refine lv_goto (tgt := 5) S.1 S.2.1 dX5_plant_56 (by decide) ?_
          exact ih (al_append σ u a 1065353216 FP.fconst1) (k + 1) (σ.2.2.1 u) _ _ _ (by omega) hW hS (lv_sub hl [2, 3, 1, 0] rfl) (fun σ'  H locs ls e9 hW hS hl => K σ'  H locs ls (by simp only [al_plantL, if_neg (c1), if_neg (c2), if_pos (c3)]; exact e9) hW hS hl)
theorem al_mv_X5_plant : al_mv yX5_plant cX5_plant 5 none 2 := ⟨al_c_X5_plant, al_ini_RX5, ⟨by decide +kernel, by decide +kernel, by decide +kernel⟩, by decide +kernel⟩
theorem al_mi_X5_plant : al_mi yX5_plant cX5_plant 5 none 2 := ⟨al_mv_X5_plant, al_in_X5_plant, al_se_X5_plant⟩
set_option maxHeartbeats 4000000 in
set_option maxRecDepth 100000 in
theorem al_X5_plant (l : Launch) (D : va_G) (cy : al_CY) (ad : Nat → Nat) (σ : al_St) (u : Nat) (hu : u < 6) (a : Int32) : al_MS l yX5_plant cX5_plant 5 none 3 69 D cy ad σ [.ref (ad (1)), .ref (ad (8 + u)), .int a] none (al_plantL u 60 0 a σ) := by
  refine al_met al_mv_X5_plant (Nat.le_of_ble_eq_true rfl) ?_
  intro p e s m args below meth c ls S hr hlocks hK hW hS hl
  have hl : lv_has ls 5 [(0, .ref (ad (1))), (1, .ref (ad (8 + u))), (2, .int a)] := hl
  refine lv_iload_n S.1 S.2.1 dX5_plant_0 rfl (lv_at hl 2 rfl) ?_
  refine lv_istore_n (lv' := [(3, .int a), (0, .ref (ad (1))), (1, .ref (ad (8 + u))), (2, .int a)]) S.1 S.2.1 dX5_plant_1 rfl hl (by decide) rfl (fun ls hl => ?_)
  refine lv_iconst (v := 0) S.1 S.2.1 dX5_plant_2 (by decide) ?_
  refine lv_istore (lv' := [(4, .int 0), (3, .int a), (0, .ref (ad (1))), (1, .ref (ad (8 + u))), (2, .int a)]) S.1 S.2.1 dX5_plant_3 hl (by decide) rfl (fun ls hl => ?_)
  refine al_lp_X5_plant l D cy ad u hu S hK 60 σ 0 a _ _ _ (by omega) hW hS (lv_sub hl [2, 3, 1, 0] rfl) (fun σ1 H locs ls e2 hW hS hl => ?_)
  exact W.vret S.1 S.2.1 hr (fun t9 ht9 _ => ⟨rfl, by rw [ht9]; exact (al_He hW (by simp only [e2])), hS.F ht9⟩) hS.2.2 dX5_plant_59

def al_drop (σ : al_St) : al_St := al_sV (al_sT σ (al_tup (al_tup (al_tup (al_tup σ.2.2.2 0 (σ.2.2.2 1)) 1 (σ.2.2.2 2)) 2 (σ.2.2.2 3)) 3 (σ.2.2.2 0))) 7 3
def al_rec1 (σ : al_St) (u : Nat) : al_St := al_sV (al_copyT σ (σ.2.2.2 (σ.2.2.1 7).toNatClampNeg) u) 7 ((al_copyT σ (σ.2.2.2 (σ.2.2.1 7).toNatClampNeg) u).2.2.1 7 + 1)
def al_record (σ : al_St) (u : Nat) : al_St := if σ.2.2.1 7 < 4 then al_rec1 σ u else al_rec1 (al_drop σ) u
def al_takeBack (σ : al_St) (u : Nat) : al_St := al_sV (al_copyT σ u (σ.2.2.2 (σ.2.2.1 7 - 1).toNatClampNeg)) 7 ((al_copyT σ u (σ.2.2.2 (σ.2.2.1 7 - 1).toNatClampNeg)).2.2.1 7 - 1)
def al_keepS (σ : al_St) (u : Nat) : al_St := al_sV (al_copyT σ 5 u) 8 1
theorem al_mv_X1_length : al_mv yX1_length cX1_length 1 (some .int) 0 := ⟨al_c_X1_length, al_ini_RX1, ⟨by decide +kernel, by decide +kernel, by decide +kernel⟩, by decide +kernel⟩
theorem al_mi_X1_length : al_mi yX1_length cX1_length 1 (some .int) 0 := ⟨al_mv_X1_length, al_in_X1_length, al_se_X1_length⟩
set_option maxHeartbeats 4000000 in
set_option maxRecDepth 100000 in
theorem al_X1_length (l : Launch) (D : va_G) (cy : al_CY) (ad : Nat → Nat) (σ : al_St) : al_MP l yX1_length cX1_length 1 (some .int) 0 0 D cy ad σ [.ref (ad (3))] (some (.int (σ.2.2.1 7))) := by
  refine al_met al_mv_X1_length (Nat.le_of_ble_eq_true rfl) ?_
  intro p e s m args below meth c ls S hr hlocks hK hW hS hl
  have hl : lv_has ls 1 [(0, .ref (ad (3)))] := hl
  refine lv_aload_n S.1 S.2.1 dX1_length_0 rfl (lv_at hl 0 rfl) ?_
  refine al_g_RX1_22 S hK hW dX1_length_1 ?_
  exact W.iret S.1 S.2.1 hr (fun t9 ht9 _ => ⟨(congrArg (fun z => Outcome.returned (some (Value.int z))) rfl), ht9⟩) (fun q hq => absurd hq List.not_mem_nil) dX1_length_4
theorem al_mv_X1_hasSnapshot : al_mv yX1_hasSnapshot cX1_hasSnapshot 1 (some .boolean) 0 := ⟨al_c_X1_hasSnapshot, al_ini_RX1, ⟨by decide +kernel, by decide +kernel, by decide +kernel⟩, by decide +kernel⟩
theorem al_mi_X1_hasSnapshot : al_mi yX1_hasSnapshot cX1_hasSnapshot 1 (some .boolean) 0 := ⟨al_mv_X1_hasSnapshot, al_in_X1_hasSnapshot, al_se_X1_hasSnapshot⟩
set_option maxHeartbeats 4000000 in
set_option maxRecDepth 100000 in
theorem al_X1_hasSnapshot (l : Launch) (D : va_G) (cy : al_CY) (ad : Nat → Nat) (σ : al_St) (hz : narrow .boolean (.int (σ.2.2.1 8)) = .int (σ.2.2.1 8)) : al_MP l yX1_hasSnapshot cX1_hasSnapshot 1 (some .boolean) 0 0 D cy ad σ [.ref (ad (3))] (some (.int (σ.2.2.1 8))) := by
  refine al_met al_mv_X1_hasSnapshot (Nat.le_of_ble_eq_true rfl) ?_
  intro p e s m args below meth c ls S hr hlocks hK hW hS hl
  have hl : lv_has ls 1 [(0, .ref (ad (3)))] := hl
  refine lv_aload_n S.1 S.2.1 dX1_hasSnapshot_0 rfl (lv_at hl 0 rfl) ?_
  refine al_g_RX1_26 S hK hW dX1_hasSnapshot_1 ?_
  exact W.zret S.1 S.2.1 hr hz (fun t9 ht9 _ => ⟨(congrArg (fun z => Outcome.returned (some (Value.int z))) rfl), ht9⟩) (fun q hq => absurd hq List.not_mem_nil) dX1_hasSnapshot_4
theorem al_mv_X1_stateAt : al_mv yX1_stateAt cX1_stateAt 2 (some (.object "AncestorLooks$Tree")) 1 := ⟨al_c_X1_stateAt, al_ini_RX1, ⟨by decide +kernel, by decide +kernel, by decide +kernel⟩, by decide +kernel⟩
theorem al_mi_X1_stateAt : al_mi yX1_stateAt cX1_stateAt 2 (some (.object "AncestorLooks$Tree")) 1 := ⟨al_mv_X1_stateAt, al_in_X1_stateAt, al_se_X1_stateAt⟩
set_option maxHeartbeats 4000000 in
set_option maxRecDepth 100000 in
theorem al_X1_stateAt (l : Launch) (D : va_G) (cy : al_CY) (ad : Nat → Nat) (σ : al_St) (x : Int32) (h1 : ¬ x < 0) (h2 : ¬ 4 ≤ x) : al_MP l yX1_stateAt cX1_stateAt 2 (some (.object "AncestorLooks$Tree")) 0 0 D cy ad σ [.ref (ad (3)), .int x] (some (.ref (ad (8 + σ.2.2.2 x.toNatClampNeg)))) := by
  refine al_met al_mv_X1_stateAt (Nat.le_of_ble_eq_true rfl) ?_
  intro p e s m args below meth c ls S hr hlocks hK hW hS hl
  have hl : lv_has ls 2 [(0, .ref (ad (3))), (1, .int x)] := hl
  refine lv_iload_n S.1 S.2.1 dX1_stateAt_0 rfl (lv_at hl 1 rfl) ?_
  refine lv_if_lt (tgt := 22) S.1 S.2.1 dX1_stateAt_1 (by decide) (fun c1 => ?_) (fun c1 => ?_)
  · exact absurd c1 h1
  · refine lv_iload_n S.1 S.2.1 dX1_stateAt_4 rfl (lv_at hl 1 rfl) ?_
    refine lv_aload_n S.1 S.2.1 dX1_stateAt_5 rfl (lv_at hl 0 rfl) ?_
    refine al_g_RX1_11 S hK hW dX1_stateAt_6 ?_
    refine al_qalen S hK hW dX1_stateAt_9 ?_
    refine lv_icmp_ge (tgt := 22) S.1 S.2.1 dX1_stateAt_10 (by decide) (fun c2 => ?_) (fun c2 => ?_)
    · exact absurd c2 h2
    · refine lv_aload_n S.1 S.2.1 dX1_stateAt_13 rfl (lv_at hl 0 rfl) ?_
      refine al_g_RX1_11 S hK hW dX1_stateAt_14 ?_
      refine lv_iload_n S.1 S.2.1 dX1_stateAt_17 rfl (lv_at hl 1 rfl) ?_
      refine al_qald S hK hW c1 c2 dX1_stateAt_18 ?_
      refine lv_goto (tgt := 23) S.1 S.2.1 dX1_stateAt_19 (by decide) ?_
      exact W.aret S.1 S.2.1 hr (Or.inl ⟨_, rfl⟩) (Or.inr ⟨_, rfl⟩) (fun t9 ht9 _ => ⟨rfl, ht9⟩) (fun q hq => absurd hq List.not_mem_nil) dX1_stateAt_23
theorem al_drop_eq (σ : al_St) : al_sV (al_sT (al_sT (al_sT (al_sT σ (al_tup σ.2.2.2 (1 - 1 : Int32).toNatClampNeg (σ.2.2.2 (1 : Int32).toNatClampNeg))) (al_tup (al_sT σ (al_tup σ.2.2.2 (1 - 1 : Int32).toNatClampNeg (σ.2.2.2 (1 : Int32).toNatClampNeg))).2.2.2 (2 - 1 : Int32).toNatClampNeg ((al_sT σ (al_tup σ.2.2.2 (1 - 1 : Int32).toNatClampNeg (σ.2.2.2 (1 : Int32).toNatClampNeg))).2.2.2 (2 : Int32).toNatClampNeg))) (al_tup (al_sT (al_sT σ (al_tup σ.2.2.2 (1 - 1 : Int32).toNatClampNeg (σ.2.2.2 (1 : Int32).toNatClampNeg))) (al_tup (al_sT σ (al_tup σ.2.2.2 (1 - 1 : Int32).toNatClampNeg (σ.2.2.2 (1 : Int32).toNatClampNeg))).2.2.2 (2 - 1 : Int32).toNatClampNeg ((al_sT σ (al_tup σ.2.2.2 (1 - 1 : Int32).toNatClampNeg (σ.2.2.2 (1 : Int32).toNatClampNeg))).2.2.2 (2 : Int32).toNatClampNeg))).2.2.2 (3 - 1 : Int32).toNatClampNeg ((al_sT (al_sT σ (al_tup σ.2.2.2 (1 - 1 : Int32).toNatClampNeg (σ.2.2.2 (1 : Int32).toNatClampNeg))) (al_tup (al_sT σ (al_tup σ.2.2.2 (1 - 1 : Int32).toNatClampNeg (σ.2.2.2 (1 : Int32).toNatClampNeg))).2.2.2 (2 - 1 : Int32).toNatClampNeg ((al_sT σ (al_tup σ.2.2.2 (1 - 1 : Int32).toNatClampNeg (σ.2.2.2 (1 : Int32).toNatClampNeg))).2.2.2 (2 : Int32).toNatClampNeg))).2.2.2 (3 : Int32).toNatClampNeg))) (al_tup (al_sT (al_sT (al_sT σ (al_tup σ.2.2.2 (1 - 1 : Int32).toNatClampNeg (σ.2.2.2 (1 : Int32).toNatClampNeg))) (al_tup (al_sT σ (al_tup σ.2.2.2 (1 - 1 : Int32).toNatClampNeg (σ.2.2.2 (1 : Int32).toNatClampNeg))).2.2.2 (2 - 1 : Int32).toNatClampNeg ((al_sT σ (al_tup σ.2.2.2 (1 - 1 : Int32).toNatClampNeg (σ.2.2.2 (1 : Int32).toNatClampNeg))).2.2.2 (2 : Int32).toNatClampNeg))) (al_tup (al_sT (al_sT σ (al_tup σ.2.2.2 (1 - 1 : Int32).toNatClampNeg (σ.2.2.2 (1 : Int32).toNatClampNeg))) (al_tup (al_sT σ (al_tup σ.2.2.2 (1 - 1 : Int32).toNatClampNeg (σ.2.2.2 (1 : Int32).toNatClampNeg))).2.2.2 (2 - 1 : Int32).toNatClampNeg ((al_sT σ (al_tup σ.2.2.2 (1 - 1 : Int32).toNatClampNeg (σ.2.2.2 (1 : Int32).toNatClampNeg))).2.2.2 (2 : Int32).toNatClampNeg))).2.2.2 (3 - 1 : Int32).toNatClampNeg ((al_sT (al_sT σ (al_tup σ.2.2.2 (1 - 1 : Int32).toNatClampNeg (σ.2.2.2 (1 : Int32).toNatClampNeg))) (al_tup (al_sT σ (al_tup σ.2.2.2 (1 - 1 : Int32).toNatClampNeg (σ.2.2.2 (1 : Int32).toNatClampNeg))).2.2.2 (2 - 1 : Int32).toNatClampNeg ((al_sT σ (al_tup σ.2.2.2 (1 - 1 : Int32).toNatClampNeg (σ.2.2.2 (1 : Int32).toNatClampNeg))).2.2.2 (2 : Int32).toNatClampNeg))).2.2.2 (3 : Int32).toNatClampNeg))).2.2.2 (4 - 1 : Int32).toNatClampNeg (σ.2.2.2 (0 : Int32).toNatClampNeg))) 7 (4 - 1) = al_drop σ := rfl
theorem al_mv_X1_dropOldest : al_mv yX1_dropOldest cX1_dropOldest 3 none 0 := ⟨al_c_X1_dropOldest, al_ini_RX1, ⟨by decide +kernel, by decide +kernel, by decide +kernel⟩, by decide +kernel⟩
theorem al_mi_X1_dropOldest : al_mi yX1_dropOldest cX1_dropOldest 3 none 0 := ⟨al_mv_X1_dropOldest, al_in_X1_dropOldest, al_se_X1_dropOldest⟩
set_option maxHeartbeats 4000000 in
set_option maxRecDepth 100000 in
theorem al_X1_dropOldest (l : Launch) (D : va_G) (cy : al_CY) (ad : Nat → Nat) (σ : al_St) : al_MS l yX1_dropOldest cX1_dropOldest 3 none 1 21 D cy ad σ [.ref (ad (3))] none (al_drop σ) := by
  have hT0 : ∀ H, al_H D cy ad σ H → σ.2.2.2 (Int32.toNatClampNeg 0) < 6 := fun _ h => h.2.2 _
  refine al_met al_mv_X1_dropOldest (Nat.le_of_ble_eq_true rfl) ?_
  intro p e s m args below meth c ls S hr hlocks hK hW hS hl
  have hl : lv_has ls 3 [(0, .ref (ad (3)))] := hl
  have hT1 := hT0 _ hW
  refine lv_aload_n S.1 S.2.1 dX1_dropOldest_0 rfl (lv_at hl 0 rfl) ?_
  refine lv_iconst (v := 0) S.1 S.2.1 dX1_dropOldest_1 (by decide) ?_
  refine al_cP (rest := []) S hK hW (al_X1_stateAt l D cy ad σ 0 (by decide) (by decide)) al_mi_X1_stateAt al_ml_RX1_33 rfl (al_rc_1 D cy ad _) rfl hl.1 rfl (Nat.le_of_ble_eq_true rfl) dX1_dropOldest_2 ⟨Nat.le_of_ble_eq_true rfl, Nat.le_of_ble_eq_true rfl⟩ ⟨Nat.zero_le _, Nat.zero_le _⟩ ?_
  refine W.eq (g2 := F0 m 5 ls [.ref (ad (8 + (σ.2.2.2 (0 : Int32).toNatClampNeg)))]) rfl ?_
  refine lv_astore_n (lv' := [(1, .ref (ad (8 + (σ.2.2.2 (0 : Int32).toNatClampNeg)))), (0, .ref (ad (3)))]) S.1 S.2.1 dX1_dropOldest_5 rfl hl (by decide) rfl (fun ls hl => ?_)
  refine lv_iconst (v := 1) S.1 S.2.1 dX1_dropOldest_6 (by decide) ?_
  refine lv_istore_n (lv' := [(2, .int 1), (1, .ref (ad (8 + (σ.2.2.2 (0 : Int32).toNatClampNeg)))), (0, .ref (ad (3)))]) S.1 S.2.1 dX1_dropOldest_7 rfl hl (by decide) rfl (fun ls hl => ?_)
  refine lv_iload_n S.1 S.2.1 dX1_dropOldest_8 rfl (lv_at hl 0 rfl) ?_
  refine lv_aload_n S.1 S.2.1 dX1_dropOldest_9 rfl (lv_at hl 2 rfl) ?_
  refine al_g_RX1_11 S hK hW dX1_dropOldest_10 ?_
  refine al_qalen S hK hW dX1_dropOldest_13 ?_
  refine lv_icmp_ge (tgt := 37) S.1 S.2.1 dX1_dropOldest_14 (by decide) (fun c1 => ?_) (fun c1 => ?_)
  · exact absurd c1 (by decide)
  · refine lv_aload_n S.1 S.2.1 dX1_dropOldest_17 rfl (lv_at hl 2 rfl) ?_
    refine al_g_RX1_11 S hK hW dX1_dropOldest_18 ?_
    refine lv_iload_n S.1 S.2.1 dX1_dropOldest_21 rfl (lv_at hl 0 rfl) ?_
    refine lv_iconst (v := 1) S.1 S.2.1 dX1_dropOldest_22 (by decide) ?_
    refine lv_isub S.1 S.2.1 dX1_dropOldest_23 ?_
    refine lv_aload_n S.1 S.2.1 dX1_dropOldest_24 rfl (lv_at hl 2 rfl) ?_
    refine al_g_RX1_11 S hK hW dX1_dropOldest_25 ?_
    refine lv_iload_n S.1 S.2.1 dX1_dropOldest_28 rfl (lv_at hl 0 rfl) ?_
    refine al_qald S hK hW (by decide) c1 dX1_dropOldest_29 ?_
    refine al_qast S hK hW hS (t := (σ.2.2.2 (1 : Int32).toNatClampNeg)) (hW.2.2 _) (by decide) (by decide) dX1_dropOldest_30 (fun H locs hW hS => ?_)
    refine lv_iinc (k := 0) (v := 2) (lv' := [(2, .int 2), (1, .ref (ad (8 + (σ.2.2.2 (0 : Int32).toNatClampNeg)))), (0, .ref (ad (3)))]) S.1 S.2.1 dX1_dropOldest_31 hl rfl (by decide) (by decide) rfl (fun ls hl => ?_)
    refine lv_goto (tgt := 8) S.1 S.2.1 dX1_dropOldest_34 (by decide) ?_
    refine lv_iload_n S.1 S.2.1 dX1_dropOldest_8 rfl (lv_at hl 0 rfl) ?_
    refine lv_aload_n S.1 S.2.1 dX1_dropOldest_9 rfl (lv_at hl 2 rfl) ?_
    refine al_g_RX1_11 S hK hW dX1_dropOldest_10 ?_
    refine al_qalen S hK hW dX1_dropOldest_13 ?_
    refine lv_icmp_ge (tgt := 37) S.1 S.2.1 dX1_dropOldest_14 (by decide) (fun c2 => ?_) (fun c2 => ?_)
    · exact absurd c2 (by decide)
    · refine lv_aload_n S.1 S.2.1 dX1_dropOldest_17 rfl (lv_at hl 2 rfl) ?_
      refine al_g_RX1_11 S hK hW dX1_dropOldest_18 ?_
      refine lv_iload_n S.1 S.2.1 dX1_dropOldest_21 rfl (lv_at hl 0 rfl) ?_
      refine lv_iconst (v := 1) S.1 S.2.1 dX1_dropOldest_22 (by decide) ?_
      refine lv_isub S.1 S.2.1 dX1_dropOldest_23 ?_
      refine lv_aload_n S.1 S.2.1 dX1_dropOldest_24 rfl (lv_at hl 2 rfl) ?_
      refine al_g_RX1_11 S hK hW dX1_dropOldest_25 ?_
      refine lv_iload_n S.1 S.2.1 dX1_dropOldest_28 rfl (lv_at hl 0 rfl) ?_
      refine al_qald S hK hW (by decide) c2 dX1_dropOldest_29 ?_
      refine al_qast S hK hW hS (t := ((al_sT σ (al_tup σ.2.2.2 (1 - 1 : Int32).toNatClampNeg (σ.2.2.2 (1 : Int32).toNatClampNeg))).2.2.2 (2 : Int32).toNatClampNeg)) (hW.2.2 _) (by decide) (by decide) dX1_dropOldest_30 (fun H locs hW hS => ?_)
      refine lv_iinc (k := 0) (v := 3) (lv' := [(2, .int 3), (1, .ref (ad (8 + (σ.2.2.2 (0 : Int32).toNatClampNeg)))), (0, .ref (ad (3)))]) S.1 S.2.1 dX1_dropOldest_31 hl rfl (by decide) (by decide) rfl (fun ls hl => ?_)
      refine lv_goto (tgt := 8) S.1 S.2.1 dX1_dropOldest_34 (by decide) ?_
      refine lv_iload_n S.1 S.2.1 dX1_dropOldest_8 rfl (lv_at hl 0 rfl) ?_
      refine lv_aload_n S.1 S.2.1 dX1_dropOldest_9 rfl (lv_at hl 2 rfl) ?_
      refine al_g_RX1_11 S hK hW dX1_dropOldest_10 ?_
      refine al_qalen S hK hW dX1_dropOldest_13 ?_
      refine lv_icmp_ge (tgt := 37) S.1 S.2.1 dX1_dropOldest_14 (by decide) (fun c3 => ?_) (fun c3 => ?_)
      · exact absurd c3 (by decide)
      · refine lv_aload_n S.1 S.2.1 dX1_dropOldest_17 rfl (lv_at hl 2 rfl) ?_
        refine al_g_RX1_11 S hK hW dX1_dropOldest_18 ?_
        refine lv_iload_n S.1 S.2.1 dX1_dropOldest_21 rfl (lv_at hl 0 rfl) ?_
        refine lv_iconst (v := 1) S.1 S.2.1 dX1_dropOldest_22 (by decide) ?_
        refine lv_isub S.1 S.2.1 dX1_dropOldest_23 ?_
        refine lv_aload_n S.1 S.2.1 dX1_dropOldest_24 rfl (lv_at hl 2 rfl) ?_
        refine al_g_RX1_11 S hK hW dX1_dropOldest_25 ?_
        refine lv_iload_n S.1 S.2.1 dX1_dropOldest_28 rfl (lv_at hl 0 rfl) ?_
        refine al_qald S hK hW (by decide) c3 dX1_dropOldest_29 ?_
        refine al_qast S hK hW hS (t := ((al_sT (al_sT σ (al_tup σ.2.2.2 (1 - 1 : Int32).toNatClampNeg (σ.2.2.2 (1 : Int32).toNatClampNeg))) (al_tup (al_sT σ (al_tup σ.2.2.2 (1 - 1 : Int32).toNatClampNeg (σ.2.2.2 (1 : Int32).toNatClampNeg))).2.2.2 (2 - 1 : Int32).toNatClampNeg ((al_sT σ (al_tup σ.2.2.2 (1 - 1 : Int32).toNatClampNeg (σ.2.2.2 (1 : Int32).toNatClampNeg))).2.2.2 (2 : Int32).toNatClampNeg))).2.2.2 (3 : Int32).toNatClampNeg)) (hW.2.2 _) (by decide) (by decide) dX1_dropOldest_30 (fun H locs hW hS => ?_)
        refine lv_iinc (k := 0) (v := 4) (lv' := [(2, .int 4), (1, .ref (ad (8 + (σ.2.2.2 (0 : Int32).toNatClampNeg)))), (0, .ref (ad (3)))]) S.1 S.2.1 dX1_dropOldest_31 hl rfl (by decide) (by decide) rfl (fun ls hl => ?_)
        refine lv_goto (tgt := 8) S.1 S.2.1 dX1_dropOldest_34 (by decide) ?_
        refine lv_iload_n S.1 S.2.1 dX1_dropOldest_8 rfl (lv_at hl 0 rfl) ?_
        refine lv_aload_n S.1 S.2.1 dX1_dropOldest_9 rfl (lv_at hl 2 rfl) ?_
        refine al_g_RX1_11 S hK hW dX1_dropOldest_10 ?_
        refine al_qalen S hK hW dX1_dropOldest_13 ?_
        refine lv_icmp_ge (tgt := 37) S.1 S.2.1 dX1_dropOldest_14 (by decide) (fun c4 => ?_) (fun c4 => ?_)
        · refine lv_aload_n S.1 S.2.1 dX1_dropOldest_37 rfl (lv_at hl 2 rfl) ?_
          refine al_g_RX1_11 S hK hW dX1_dropOldest_38 ?_
          refine al_qalen S hK hW dX1_dropOldest_41 ?_
          refine lv_if_le (tgt := 58) S.1 S.2.1 dX1_dropOldest_42 (by decide) (fun c5 => ?_) (fun c5 => ?_)
          · exact absurd c5 (by decide)
          · refine lv_aload_n S.1 S.2.1 dX1_dropOldest_45 rfl (lv_at hl 2 rfl) ?_
            refine al_g_RX1_11 S hK hW dX1_dropOldest_46 ?_
            refine lv_aload_n S.1 S.2.1 dX1_dropOldest_49 rfl (lv_at hl 2 rfl) ?_
            refine al_g_RX1_11 S hK hW dX1_dropOldest_50 ?_
            refine al_qalen S hK hW dX1_dropOldest_53 ?_
            refine lv_iconst (v := 1) S.1 S.2.1 dX1_dropOldest_54 (by decide) ?_
            refine lv_isub S.1 S.2.1 dX1_dropOldest_55 ?_
            refine lv_aload_n S.1 S.2.1 dX1_dropOldest_56 rfl (lv_at hl 1 rfl) ?_
            refine al_qast S hK hW hS (t := (σ.2.2.2 (0 : Int32).toNatClampNeg)) hT1 (by decide) (by decide) dX1_dropOldest_57 (fun H locs hW hS => ?_)
            refine lv_aload_n S.1 S.2.1 dX1_dropOldest_58 rfl (lv_at hl 2 rfl) ?_
            refine lv_aload_n S.1 S.2.1 dX1_dropOldest_59 rfl (lv_at hl 2 rfl) ?_
            refine al_g_RX1_11 S hK hW dX1_dropOldest_60 ?_
            refine al_qalen S hK hW dX1_dropOldest_63 ?_
            refine lv_iconst (v := 1) S.1 S.2.1 dX1_dropOldest_64 (by decide) ?_
            refine lv_isub S.1 S.2.1 dX1_dropOldest_65 ?_
            refine al_p_RX1_22 S hK hW hS dX1_dropOldest_66 (fun H locs hW hS => ?_)
            exact W.vret S.1 S.2.1 hr (fun t9 ht9 _ => ⟨rfl, by rw [ht9]; exact (al_He hW (al_drop_eq σ)), hS.F ht9⟩) hS.2.2 dX1_dropOldest_69
        · exact absurd (by decide) c4
theorem al_mv_X1_record : al_mv yX1_record cX1_record 3 none 1 := ⟨al_c_X1_record, al_ini_RX1, ⟨by decide +kernel, by decide +kernel, by decide +kernel⟩, by decide +kernel⟩
theorem al_mi_X1_record : al_mi yX1_record cX1_record 3 none 1 := ⟨al_mv_X1_record, al_in_X1_record, al_se_X1_record⟩
set_option maxHeartbeats 4000000 in
set_option maxRecDepth 100000 in
theorem al_X1_record (l : Launch) (D : va_G) (cy : al_CY) (ad : Nat → Nat) (σ : al_St) (u : Nat) (hu : u < 6) (h1 : ¬ σ.2.2.1 7 < 0) : al_MS l yX1_record cX1_record 3 none 3 64 D cy ad σ [.ref (ad (3)), .ref (ad (8 + u))] none (al_record σ u) := by
  refine al_met al_mv_X1_record (Nat.le_of_ble_eq_true rfl) ?_
  intro p e s m args below meth c ls S hr hlocks hK hW hS hl
  have hl : lv_has ls 3 [(0, .ref (ad (3))), (1, .ref (ad (8 + u)))] := hl
  refine lv_aload_n S.1 S.2.1 dX1_record_0 rfl (lv_at hl 0 rfl) ?_
  refine al_g_RX1_22 S hK hW dX1_record_1 ?_
  refine lv_aload_n S.1 S.2.1 dX1_record_4 rfl (lv_at hl 0 rfl) ?_
  refine al_g_RX1_11 S hK hW dX1_record_5 ?_
  refine al_qalen S hK hW dX1_record_8 ?_
  refine lv_icmp_lt (tgt := 16) S.1 S.2.1 dX1_record_9 (by decide) (fun c1 => ?_) (fun c1 => ?_)
  · refine lv_aload_n S.1 S.2.1 dX1_record_16 rfl (lv_at hl 0 rfl) ?_
    refine lv_aload_n S.1 S.2.1 dX1_record_17 rfl (lv_at hl 0 rfl) ?_
    refine al_g_RX1_22 S hK hW dX1_record_18 ?_
    refine al_cP (rest := []) S hK hW (al_X1_stateAt l D cy ad σ (σ.2.2.1 7) h1 (al_nle c1)) al_mi_X1_stateAt al_ml_RX1_33 rfl (al_rc_1 D cy ad _) rfl hl.1 rfl (Nat.le_of_ble_eq_true rfl) dX1_record_21 ⟨Nat.le_of_ble_eq_true rfl, Nat.le_of_ble_eq_true rfl⟩ ⟨Nat.zero_le _, Nat.zero_le _⟩ ?_
    refine W.eq (g2 := F0 m 24 ls [.ref (ad (8 + (σ.2.2.2 (σ.2.2.1 7).toNatClampNeg)))]) rfl ?_
    refine lv_astore_n (lv' := [(2, .ref (ad (8 + (σ.2.2.2 (σ.2.2.1 7).toNatClampNeg)))), (0, .ref (ad (3))), (1, .ref (ad (8 + u)))]) S.1 S.2.1 dX1_record_24 rfl hl (by decide) rfl (fun ls hl => ?_)
    refine lv_aload_n S.1 S.2.1 dX1_record_25 rfl (lv_at hl 0 rfl) ?_
    refine lv_ifnull S.1 S.2.1 dX1_record_26 ?_
    refine lv_aload_n S.1 S.2.1 dX1_record_29 rfl (lv_at hl 0 rfl) ?_
    refine lv_aload_n S.1 S.2.1 dX1_record_30 rfl (lv_at hl 2 rfl) ?_
    refine al_cS (rest := []) S hK hW hS (al_X6_copyFrom l D cy ad σ (σ.2.2.2 (σ.2.2.1 7).toNatClampNeg) (hW.2.2 _) u (by omega)) al_mi_X6_copyFrom al_ml_RX1_37 rfl (al_rc_T D cy ad _ (t := σ.2.2.2 (σ.2.2.1 7).toNatClampNeg) (hW.2.2 _)) rfl hl.1 rfl (Nat.le_of_ble_eq_true rfl) dX1_record_31 ⟨Nat.le_of_ble_eq_true rfl, Nat.le_of_ble_eq_true rfl⟩ ⟨Nat.zero_le _, Nat.zero_le _⟩ (fun H locs hW hS => ?_)
    refine W.eq (g2 := F0 m 34 ls []) rfl ?_
    refine lv_aload_n S.1 S.2.1 dX1_record_34 rfl (lv_at hl 1 rfl) ?_
    refine lv_dup S.1 S.2.1 dX1_record_35 rfl ?_
    refine al_g_RX1_22 S hK hW dX1_record_36 ?_
    refine lv_iconst (v := 1) S.1 S.2.1 dX1_record_39 (by decide) ?_
    refine lv_iadd S.1 S.2.1 dX1_record_40 ?_
    refine al_p_RX1_22 S hK hW hS dX1_record_41 (fun H locs hW hS => ?_)
    exact W.vret S.1 S.2.1 hr (fun t9 ht9 _ => ⟨rfl, by rw [ht9]; exact (al_He hW (by simp only [al_record, al_rec1, if_pos (c1)])), hS.F ht9⟩) hS.2.2 dX1_record_44
  · refine lv_aload_n S.1 S.2.1 dX1_record_12 rfl (lv_at hl 0 rfl) ?_
    refine al_cS (rest := []) S hK hW hS (al_X1_dropOldest l D cy ad σ ) al_mi_X1_dropOldest al_ml_RX1_30 rfl (al_rc_1 D cy ad _) rfl hl.1 rfl (Nat.le_of_ble_eq_true rfl) dX1_record_13 ⟨Nat.le_of_ble_eq_true rfl, Nat.le_of_ble_eq_true rfl⟩ ⟨Nat.zero_le _, Nat.zero_le _⟩ (fun H locs hW hS => ?_)
    refine W.eq (g2 := F0 m 16 ls []) rfl ?_
    refine lv_aload_n S.1 S.2.1 dX1_record_16 rfl (lv_at hl 0 rfl) ?_
    refine lv_aload_n S.1 S.2.1 dX1_record_17 rfl (lv_at hl 0 rfl) ?_
    refine al_g_RX1_22 S hK hW dX1_record_18 ?_
    refine al_cP (rest := []) S hK hW (al_X1_stateAt l D cy ad (al_drop σ) ((al_drop σ).2.2.1 7) (show ¬ (3 : Int32) < 0 by decide) (show ¬ (4 : Int32) ≤ 3 by decide)) al_mi_X1_stateAt al_ml_RX1_33 rfl (al_rc_1 D cy ad _) rfl hl.1 rfl (Nat.le_of_ble_eq_true rfl) dX1_record_21 ⟨Nat.le_of_ble_eq_true rfl, Nat.le_of_ble_eq_true rfl⟩ ⟨Nat.zero_le _, Nat.zero_le _⟩ ?_
    refine W.eq (g2 := F0 m 24 ls [.ref (ad (8 + ((al_drop σ).2.2.2 ((al_drop σ).2.2.1 7).toNatClampNeg)))]) rfl ?_
    refine lv_astore_n (lv' := [(2, .ref (ad (8 + ((al_drop σ).2.2.2 ((al_drop σ).2.2.1 7).toNatClampNeg)))), (0, .ref (ad (3))), (1, .ref (ad (8 + u)))]) S.1 S.2.1 dX1_record_24 rfl hl (by decide) rfl (fun ls hl => ?_)
    refine lv_aload_n S.1 S.2.1 dX1_record_25 rfl (lv_at hl 0 rfl) ?_
    refine lv_ifnull S.1 S.2.1 dX1_record_26 ?_
    refine lv_aload_n S.1 S.2.1 dX1_record_29 rfl (lv_at hl 0 rfl) ?_
    refine lv_aload_n S.1 S.2.1 dX1_record_30 rfl (lv_at hl 2 rfl) ?_
    refine al_cS (rest := []) S hK hW hS (al_X6_copyFrom l D cy ad (al_drop σ) ((al_drop σ).2.2.2 ((al_drop σ).2.2.1 7).toNatClampNeg) (hW.2.2 _) u (by omega)) al_mi_X6_copyFrom al_ml_RX1_37 rfl (al_rc_T D cy ad _ (t := (al_drop σ).2.2.2 ((al_drop σ).2.2.1 7).toNatClampNeg) (hW.2.2 _)) rfl hl.1 rfl (Nat.le_of_ble_eq_true rfl) dX1_record_31 ⟨Nat.le_of_ble_eq_true rfl, Nat.le_of_ble_eq_true rfl⟩ ⟨Nat.zero_le _, Nat.zero_le _⟩ (fun H locs hW hS => ?_)
    refine W.eq (g2 := F0 m 34 ls []) rfl ?_
    refine lv_aload_n S.1 S.2.1 dX1_record_34 rfl (lv_at hl 1 rfl) ?_
    refine lv_dup S.1 S.2.1 dX1_record_35 rfl ?_
    refine al_g_RX1_22 S hK hW dX1_record_36 ?_
    refine lv_iconst (v := 1) S.1 S.2.1 dX1_record_39 (by decide) ?_
    refine lv_iadd S.1 S.2.1 dX1_record_40 ?_
    refine al_p_RX1_22 S hK hW hS dX1_record_41 (fun H locs hW hS => ?_)
    exact W.vret S.1 S.2.1 hr (fun t9 ht9 _ => ⟨rfl, by rw [ht9]; exact (al_He hW (by simp only [al_record, al_rec1, if_neg (c1)])), hS.F ht9⟩) hS.2.2 dX1_record_44
theorem al_mv_X1_takeBack : al_mv yX1_takeBack cX1_takeBack 3 none 1 := ⟨al_c_X1_takeBack, al_ini_RX1, ⟨by decide +kernel, by decide +kernel, by decide +kernel⟩, by decide +kernel⟩
theorem al_mi_X1_takeBack : al_mi yX1_takeBack cX1_takeBack 3 none 1 := ⟨al_mv_X1_takeBack, al_in_X1_takeBack, al_se_X1_takeBack⟩
set_option maxHeartbeats 4000000 in
set_option maxRecDepth 100000 in
theorem al_X1_takeBack (l : Launch) (D : va_G) (cy : al_CY) (ad : Nat → Nat) (σ : al_St) (u : Nat) (hu : u < 6) (h1 : ¬ σ.2.2.1 7 - 1 < 0) (h2 : ¬ 4 ≤ σ.2.2.1 7 - 1) : al_MS l yX1_takeBack cX1_takeBack 3 none 3 64 D cy ad σ [.ref (ad (3)), .ref (ad (8 + u))] none (al_takeBack σ u) := by
  refine al_met al_mv_X1_takeBack (Nat.le_of_ble_eq_true rfl) ?_
  intro p e s m args below meth c ls S hr hlocks hK hW hS hl
  have hl : lv_has ls 3 [(0, .ref (ad (3))), (1, .ref (ad (8 + u)))] := hl
  refine lv_aload_n S.1 S.2.1 dX1_takeBack_0 rfl (lv_at hl 0 rfl) ?_
  refine lv_aload_n S.1 S.2.1 dX1_takeBack_1 rfl (lv_at hl 0 rfl) ?_
  refine al_g_RX1_22 S hK hW dX1_takeBack_2 ?_
  refine lv_iconst (v := 1) S.1 S.2.1 dX1_takeBack_5 (by decide) ?_
  refine lv_isub S.1 S.2.1 dX1_takeBack_6 ?_
  refine al_cP (rest := []) S hK hW (al_X1_stateAt l D cy ad σ ((σ.2.2.1 7) - 1) h1 h2) al_mi_X1_stateAt al_ml_RX1_33 rfl (al_rc_1 D cy ad _) rfl hl.1 rfl (Nat.le_of_ble_eq_true rfl) dX1_takeBack_7 ⟨Nat.le_of_ble_eq_true rfl, Nat.le_of_ble_eq_true rfl⟩ ⟨Nat.zero_le _, Nat.zero_le _⟩ ?_
  refine W.eq (g2 := F0 m 10 ls [.ref (ad (8 + (σ.2.2.2 ((σ.2.2.1 7) - 1).toNatClampNeg)))]) rfl ?_
  refine lv_astore_n (lv' := [(2, .ref (ad (8 + (σ.2.2.2 ((σ.2.2.1 7) - 1).toNatClampNeg)))), (0, .ref (ad (3))), (1, .ref (ad (8 + u)))]) S.1 S.2.1 dX1_takeBack_10 rfl hl (by decide) rfl (fun ls hl => ?_)
  refine lv_aload_n S.1 S.2.1 dX1_takeBack_11 rfl (lv_at hl 0 rfl) ?_
  refine lv_ifnull S.1 S.2.1 dX1_takeBack_12 ?_
  refine lv_aload_n S.1 S.2.1 dX1_takeBack_15 rfl (lv_at hl 2 rfl) ?_
  refine lv_aload_n S.1 S.2.1 dX1_takeBack_16 rfl (lv_at hl 0 rfl) ?_
  refine al_cS (rest := []) S hK hW hS (al_X6_copyFrom l D cy ad σ u (by omega) (σ.2.2.2 ((σ.2.2.1 7) - 1).toNatClampNeg) (hW.2.2 _)) al_mi_X6_copyFrom al_ml_RX1_37 rfl (al_rc_T D cy ad _ (t := u) (by omega)) rfl hl.1 rfl (Nat.le_of_ble_eq_true rfl) dX1_takeBack_17 ⟨Nat.le_of_ble_eq_true rfl, Nat.le_of_ble_eq_true rfl⟩ ⟨Nat.zero_le _, Nat.zero_le _⟩ (fun H locs hW hS => ?_)
  refine W.eq (g2 := F0 m 20 ls []) rfl ?_
  refine lv_aload_n S.1 S.2.1 dX1_takeBack_20 rfl (lv_at hl 1 rfl) ?_
  refine lv_dup S.1 S.2.1 dX1_takeBack_21 rfl ?_
  refine al_g_RX1_22 S hK hW dX1_takeBack_22 ?_
  refine lv_iconst (v := 1) S.1 S.2.1 dX1_takeBack_25 (by decide) ?_
  refine lv_isub S.1 S.2.1 dX1_takeBack_26 ?_
  refine al_p_RX1_22 S hK hW hS dX1_takeBack_27 (fun H locs hW hS => ?_)
  exact W.vret S.1 S.2.1 hr (fun t9 ht9 _ => ⟨rfl, by rw [ht9]; exact (al_He hW (by simp only [al_takeBack])), hS.F ht9⟩) hS.2.2 dX1_takeBack_30
theorem al_mv_X1_keepSnapshot : al_mv yX1_keepSnapshot cX1_keepSnapshot 2 none 1 := ⟨al_c_X1_keepSnapshot, al_ini_RX1, ⟨by decide +kernel, by decide +kernel, by decide +kernel⟩, by decide +kernel⟩
theorem al_mi_X1_keepSnapshot : al_mi yX1_keepSnapshot cX1_keepSnapshot 2 none 1 := ⟨al_mv_X1_keepSnapshot, al_in_X1_keepSnapshot, al_se_X1_keepSnapshot⟩
set_option maxHeartbeats 4000000 in
set_option maxRecDepth 100000 in
theorem al_X1_keepSnapshot (l : Launch) (D : va_G) (cy : al_CY) (ad : Nat → Nat) (σ : al_St) (u : Nat) (hu : u < 6) : al_MS l yX1_keepSnapshot cX1_keepSnapshot 2 none 3 64 D cy ad σ [.ref (ad (3)), .ref (ad (8 + u))] none (al_keepS σ u) := by
  refine al_met al_mv_X1_keepSnapshot (Nat.le_of_ble_eq_true rfl) ?_
  intro p e s m args below meth c ls S hr hlocks hK hW hS hl
  have hl : lv_has ls 2 [(0, .ref (ad (3))), (1, .ref (ad (8 + u)))] := hl
  refine lv_aload_n S.1 S.2.1 dX1_keepSnapshot_0 rfl (lv_at hl 0 rfl) ?_
  refine al_g_RX1_18 S hK hW dX1_keepSnapshot_1 ?_
  refine lv_aload_n S.1 S.2.1 dX1_keepSnapshot_4 rfl (lv_at hl 1 rfl) ?_
  refine al_cS (rest := []) S hK hW hS (al_X6_copyFrom l D cy ad σ 5 (by omega) u (by omega)) al_mi_X6_copyFrom al_ml_RX1_37 rfl (al_rc_T D cy ad _ (t := 5) (by omega)) rfl hl.1 rfl (Nat.le_of_ble_eq_true rfl) dX1_keepSnapshot_5 ⟨Nat.le_of_ble_eq_true rfl, Nat.le_of_ble_eq_true rfl⟩ ⟨Nat.zero_le _, Nat.zero_le _⟩ (fun H locs hW hS => ?_)
  refine W.eq (g2 := F0 m 8 ls []) rfl ?_
  refine lv_aload_n S.1 S.2.1 dX1_keepSnapshot_8 rfl (lv_at hl 0 rfl) ?_
  refine lv_iconst (v := 1) S.1 S.2.1 dX1_keepSnapshot_9 (by decide) ?_
  refine al_p_RX1_26 S hK hW hS rfl rfl dX1_keepSnapshot_10 (fun H locs hW hS => ?_)
  exact W.vret S.1 S.2.1 hr (fun t9 ht9 _ => ⟨rfl, by rw [ht9]; exact (al_He hW (by simp only [al_keepS])), hS.F ht9⟩) hS.2.2 dX1_keepSnapshot_13
theorem al_mv_X1_showSnapshot : al_mv yX1_showSnapshot cX1_showSnapshot 2 none 1 := ⟨al_c_X1_showSnapshot, al_ini_RX1, ⟨by decide +kernel, by decide +kernel, by decide +kernel⟩, by decide +kernel⟩
theorem al_mi_X1_showSnapshot : al_mi yX1_showSnapshot cX1_showSnapshot 2 none 1 := ⟨al_mv_X1_showSnapshot, al_in_X1_showSnapshot, al_se_X1_showSnapshot⟩
set_option maxHeartbeats 4000000 in
set_option maxRecDepth 100000 in
theorem al_X1_showSnapshot (l : Launch) (D : va_G) (cy : al_CY) (ad : Nat → Nat) (σ : al_St) (u : Nat) (hu : u < 6) : al_MS l yX1_showSnapshot cX1_showSnapshot 2 none 3 64 D cy ad σ [.ref (ad (3)), .ref (ad (8 + u))] none (al_copyT σ u 5) := by
  refine al_met al_mv_X1_showSnapshot (Nat.le_of_ble_eq_true rfl) ?_
  intro p e s m args below meth c ls S hr hlocks hK hW hS hl
  have hl : lv_has ls 2 [(0, .ref (ad (3))), (1, .ref (ad (8 + u)))] := hl
  refine lv_aload_n S.1 S.2.1 dX1_showSnapshot_0 rfl (lv_at hl 1 rfl) ?_
  refine lv_aload_n S.1 S.2.1 dX1_showSnapshot_1 rfl (lv_at hl 0 rfl) ?_
  refine al_g_RX1_18 S hK hW dX1_showSnapshot_2 ?_
  refine al_cS (rest := []) S hK hW hS (al_X6_copyFrom l D cy ad σ u (by omega) 5 (by omega)) al_mi_X6_copyFrom al_ml_RX1_37 rfl (al_rc_T D cy ad _ (t := u) (by omega)) rfl hl.1 rfl (Nat.le_of_ble_eq_true rfl) dX1_showSnapshot_5 ⟨Nat.le_of_ble_eq_true rfl, Nat.le_of_ble_eq_true rfl⟩ ⟨Nat.zero_le _, Nat.zero_le _⟩ (fun H locs hW hS => ?_)
  refine W.eq (g2 := F0 m 8 ls []) rfl ?_
  exact W.vret S.1 S.2.1 hr (fun t9 ht9 _ => ⟨rfl, by rw [ht9]; exact hW, hS.F ht9⟩) hS.2.2 dX1_showSnapshot_8
end
section
/-! the survey's own walks -/
theorem al_decm (n : Nat) : nI (n + 1) - 1 + Int32.ofInt (-1) = nI n - 1 := by
  rw [nI_pred, Int32.sub_eq_add_neg]
  rfl
def al_link1 (σ : al_St) (x : Int32) : al_St :=
  if al_isN σ 0 x = 0 then σ
  else al_set (al_set (al_set σ 13 x (al_rg (σ.1 12) (al_rg (σ.1 (2 * 0)) x))) 12 (al_rg (σ.1 (2 * 0)) x) x) 17 (al_rg (σ.1 (2 * 0)) x) (al_rg ((al_set (al_set σ 13 x (al_rg (σ.1 12) (al_rg (σ.1 (2 * 0)) x))) 12 (al_rg (σ.1 (2 * 0)) x) x).1 17) (al_rg (σ.1 (2 * 0)) x) + 1)
def al_linkL : Nat → al_St → al_St
  | 0, σ => σ
  | n + 1, σ => al_linkL n (al_link1 σ (nI (n + 1)))
def al_fillR (σ : al_St) (i : Nat) (v : Int32) : al_St := al_sR σ i (al_fill 90 v (σ.1 i))
def al_linkC (σ : al_St) : al_St := al_linkL 89 (al_fillR (al_fillR (al_fillR σ 12 (-1)) 13 (-1)) 17 0)
def al_dn1 (σ : al_St) (x c : Int32) : al_St := al_set (al_sV (al_set σ 14 (σ.2.2.1 9) c) 9 ((al_set σ 14 (σ.2.2.1 9) c).2.2.1 9 + 1)) 15 c (al_rg ((al_sV (al_set σ 14 (σ.2.2.1 9) c) 9 ((al_set σ 14 (σ.2.2.1 9) c).2.2.1 9 + 1)).1 15) x + 1)
def al_dnI (x : Int32) : Nat → Int32 → al_St → al_St
  | 0, _, σ => σ
  | n + 1, c, σ => if c = -1 then σ else al_dnI x n (al_rg ((al_dn1 σ x c).1 13) c) (al_dn1 σ x c)
def al_dnO : Nat → Nat → al_St → al_St
  | 0, _, σ => σ
  | n + 1, k, σ => if σ.2.2.1 9 ≤ nI k then σ else al_dnO n (k + 1) (al_dnI (al_rg (σ.1 14) (nI k)) 90 (al_rg (σ.1 12) (al_rg (σ.1 14) (nI k))) σ)
def al_goDown (σ : al_St) : al_St := al_dnO 90 0 (al_sV (al_set (al_set σ 14 0 0) 15 0 0) 9 1)
def al_meaL (σ : al_St) : Nat → Int32 → Int32 → Int32 → Int32 → Int32 × Int32 × Int32
  | 0, _, a, b, d => (a, b, d)
  | n + 1, c, a, b, d => if c = -1 then (a, b, d) else if al_rg (σ.1 16) c + 1 ≤ b then al_meaL σ n (al_rg (σ.1 13) c) (a + al_rg (σ.1 18) c) b d else al_meaL σ n (al_rg (σ.1 13) c) (a + al_rg (σ.1 18) c) (al_rg (σ.1 16) c + 1) c
def al_mea1 (σ : al_St) (x a b d : Int32) : al_St :=
  if d = -1 then al_set (al_set (al_set (al_set σ 18 x a) 16 x b) 19 x d) 21 x x
  else al_set (al_set (al_set (al_set σ 18 x a) 16 x b) 19 x d) 21 x (al_rg ((al_set (al_set (al_set σ 18 x a) 16 x b) 19 x d).1 21) d)
def al_measure (σ : al_St) (x : Int32) : al_St := al_mea1 σ x (al_meaL σ 90 (al_rg (σ.1 12) x) 1 0 (-1)).1 (al_meaL σ 90 (al_rg (σ.1 12) x) 1 0 (-1)).2.1 (al_meaL σ 90 (al_rg (σ.1 12) x) 1 0 (-1)).2.2
def al_upL : Nat → al_St → al_St
  | 0, σ => σ
  | n + 1, σ => al_upL n (al_measure σ (al_rg (σ.1 14) (nI (n + 1) - 1)))
def al_goUp (σ : al_St) : al_St := al_upL (σ.2.2.1 9).toNatClampNeg σ
def al_top1 (σ : al_St) (x : Int32) : al_St :=
  if x = 0 then al_set σ 20 x x
  else if al_rg (σ.1 19) (al_rg (σ.1 (2 * 0)) x) = x then al_set σ 20 x (al_rg (σ.1 20) (al_rg (σ.1 (2 * 0)) x)) else al_set σ 20 x x
def al_topL : Nat → Nat → al_St → al_St
  | 0, _, σ => σ
  | n + 1, k, σ => if σ.2.2.1 9 ≤ nI k then σ else al_topL n (k + 1) (al_top1 σ (al_rg (σ.1 14) (nI k)))
def al_findTops (σ : al_St) : al_St := al_topL 90 0 σ
def al_take (σ : al_St) : al_St := al_findTops (al_goUp (al_goDown (al_linkC σ)))
/-- the count of nodes that were seen is a small number -/
def al_pOK (N : Nat) (σ : al_St) : Prop := ∃ P : Nat, P ≤ N ∧ σ.2.2.1 9 = nI P
theorem al_dnI_P (x : Int32) : ∀ (n : Nat) (c : Int32) (σ : al_St) (N : Nat), al_pOK N σ → al_pOK (N + n) (al_dnI x n c σ)
  | 0, _, σ, N, h => h
  | n + 1, c, σ, N, h => by
    rw [al_dnI]
    split
    · obtain ⟨P, h1, h2⟩ := h
      exact ⟨P, by omega, h2⟩
    · have h3 : al_pOK (N + 1) (al_dn1 σ x c) := by
        obtain ⟨P, h1, h2⟩ := h
        refine ⟨P + 1, by omega, ?_⟩
        show σ.2.2.1 9 + 1 = nI (P + 1)
        rw [h2, nI_1]
      have h4 := al_dnI_P x n (al_rg ((al_dn1 σ x c).1 13) c) _ (N + 1) h3
      obtain ⟨P, h5, h6⟩ := h4
      exact ⟨P, by omega, h6⟩
theorem al_dnO_P : ∀ (n k : Nat) (σ : al_St) (N : Nat), al_pOK N σ → al_pOK (N + 90 * n) (al_dnO n k σ)
  | 0, _, σ, N, h => h
  | n + 1, k, σ, N, h => by
    rw [al_dnO]
    split
    · obtain ⟨P, h1, h2⟩ := h
      exact ⟨P, by omega, h2⟩
    · obtain ⟨P, h5, h6⟩ := al_dnO_P n (k + 1) _ (N + 90) (al_dnI_P (al_rg (σ.1 14) (nI k)) 90 (al_rg (σ.1 12) (al_rg (σ.1 14) (nI k))) σ N h)
      exact ⟨P, by omega, h6⟩
theorem al_goDown_P (σ : al_St) : al_pOK 9000 (al_goDown σ) := by
  obtain ⟨P, h5, h6⟩ := al_dnO_P 90 0 (al_sV (al_set (al_set σ 14 0 0) 15 0 0) 9 1) 1 ⟨1, by omega, rfl⟩
  exact ⟨P, by omega, h6⟩
theorem al_pOK_eq {N : Nat} {σ : al_St} (hN : N < 2 ^ 31) (h : al_pOK N σ) : σ.2.2.1 9 = nI (σ.2.2.1 9).toNatClampNeg ∧ (σ.2.2.1 9).toNatClampNeg ≤ N := by
  obtain ⟨P, h1, h2⟩ := h
  rw [h2, nI_clamp (by omega)]
  exact ⟨rfl, h1⟩
set_option maxHeartbeats 4000000 in
set_option maxRecDepth 100000 in
theorem al_lp_X4_link {p : Program} {e : Env} {s : State} {m : MethodId} {args : Array Value} {below : List Frame} {meth : Method} {c : Code} {Q : State → Prop} (l : Launch) (D : va_G) (cy : al_CY) (ad : Nat → Nat) (S : CallFix p m c cX4_linkChildren 3 s args al_G RX4) (hK : va_K D vwCl (al_tys cy) s) {H0 : Heap} : ∀ (n : Nat) (σ : al_St)  (H : Heap) (locs : List Loc) (ls : Array Slot), n < 90 → al_H D cy ad σ H → va_S (al_A ad) H0 H locs → lv_has ls 3 [(0, .ref (ad (5))), (1, .int (nI n))] → (∀ (σ' : al_St) (H : Heap) (locs : List Loc) (ls : Array Slot), al_linkL n σ = σ' → al_H D cy ad σ' H → va_S (al_A ad) H0 H locs → lv_has ls 3 [(0, .ref (ad (5)))] → W p l e (al_rm 2 42) s m args below meth c H locs 0 0 Q (F0 m 100 ls [])) → W p l e (al_rm 2 42) s m args below meth c H locs 0 0 Q (F0 m 27 ls []) := by
  intro n
  induction n with
  | zero =>
    intro σ  H locs ls hn hW hS hl K
    refine lv_iload_n S.1 S.2.1 dX4_linkChildren_27 rfl (lv_at hl 1 rfl) ?_
    refine lv_if_le (tgt := 100) S.1 S.2.1 dX4_linkChildren_28 (by decide) (fun c1 => ?_) (fun c1 => ?_)
    · exact K σ  _ _ _ (by simp only [al_linkL, al_link1, if_pos (c1)]) hW hS (lv_sub hl [0] rfl)
    · exact absurd (by decide) c1
  | succ n ih =>
    intro σ  H locs ls hn hW hS hl K
    refine lv_iload_n S.1 S.2.1 dX4_linkChildren_27 rfl (lv_at hl 1 rfl) ?_
    refine lv_if_le (tgt := 100) S.1 S.2.1 dX4_linkChildren_28 (by decide) (fun c1 => ?_) (fun c1 => ?_)
    · exact absurd c1 (nI_nle (Nat.succ_pos _) (by omega))
    · refine lv_aload_n S.1 S.2.1 dX4_linkChildren_31 rfl (lv_at hl 0 rfl) ?_
      refine al_g_RX4_9 S hK hW dX4_linkChildren_32 ?_
      refine lv_iload_n S.1 S.2.1 dX4_linkChildren_35 rfl (lv_at hl 1 rfl) ?_
      refine al_cP (rest := []) S hK hW (al_X6_isNode l D cy ad σ 0 (by omega) (nI (n + 1))) al_mi_X6_isNode al_ml_RX4_69 rfl (al_rc_T D cy ad _ (t := 0) (by omega)) rfl hl.1 rfl (Nat.le_of_ble_eq_true rfl) dX4_linkChildren_36 ⟨Nat.le_of_ble_eq_true rfl, Nat.le_of_ble_eq_true rfl⟩ ⟨Nat.zero_le _, Nat.zero_le _⟩ ?_
      refine W.eq (g2 := F0 m 39 ls [.int (al_isN σ 0 (nI (n + 1)))]) rfl ?_
      refine lv_if_eq (tgt := 94) S.1 S.2.1 dX4_linkChildren_39 (by decide) (fun c2 => ?_) (fun c2 => ?_)
      · refine lv_iinc (k := 1) (v := nI n) (lv' := [(1, .int (nI n)), (0, .ref (ad (5)))]) S.1 S.2.1 dX4_linkChildren_94 hl rfl (pk_m1 n) (by decide) rfl (fun ls hl => ?_)
        refine lv_goto (tgt := 27) S.1 S.2.1 dX4_linkChildren_97 (by decide) ?_
        exact ih σ  _ _ _ (by omega) hW hS (lv_sub hl [1, 0] rfl) (fun σ'  H locs ls e9 hW hS hl => K σ'  H locs ls (by simp only [al_linkL, al_link1, if_neg (c1), if_pos (c2)]; exact e9) hW hS hl)
      · refine lv_aload_n S.1 S.2.1 dX4_linkChildren_42 rfl (lv_at hl 0 rfl) ?_
        refine al_g_RX4_9 S hK hW dX4_linkChildren_43 ?_
        refine lv_iload_n S.1 S.2.1 dX4_linkChildren_46 rfl (lv_at hl 1 rfl) ?_
        refine al_cP (rest := []) S hK hW (al_X6_parentOf l D cy ad σ 0 (by omega) (nI (n + 1))) al_mi_X6_parentOf al_ml_RX4_75 rfl (al_rc_T D cy ad _ (t := 0) (by omega)) rfl hl.1 rfl (Nat.le_of_ble_eq_true rfl) dX4_linkChildren_47 ⟨Nat.le_of_ble_eq_true rfl, Nat.le_of_ble_eq_true rfl⟩ ⟨Nat.zero_le _, Nat.zero_le _⟩ ?_
        refine W.eq (g2 := F0 m 50 ls [.int (al_rg (σ.1 (2 * 0)) (nI (n + 1)))]) rfl ?_
        refine lv_istore_n (lv' := [(2, .int (al_rg (σ.1 (2 * 0)) (nI (n + 1)))), (0, .ref (ad (5))), (1, .int (nI (n + 1)))]) S.1 S.2.1 dX4_linkChildren_50 rfl hl (by decide) rfl (fun ls hl => ?_)
        refine lv_aload_n S.1 S.2.1 dX4_linkChildren_51 rfl (lv_at hl 1 rfl) ?_
        refine al_g_RX4_22 S hK hW dX4_linkChildren_52 ?_
        refine lv_iload_n S.1 S.2.1 dX4_linkChildren_55 rfl (lv_at hl 2 rfl) ?_
        refine lv_aload_n S.1 S.2.1 dX4_linkChildren_56 rfl (lv_at hl 1 rfl) ?_
        refine al_g_RX4_18 S hK hW dX4_linkChildren_57 ?_
        refine lv_iload_n S.1 S.2.1 dX4_linkChildren_60 rfl (lv_at hl 0 rfl) ?_
        refine al_cP (rest := [.int (nI (n + 1)), .ref (ad (14 + 2 * 13))]) S hK hW (al_X2_get l D cy ad σ 12 (by omega) (al_rg (σ.1 (2 * 0)) (nI (n + 1)))) al_mi_X2_get al_ml_RX4_79 rfl (al_rc_R D cy ad _ (i := 12) (by omega)) rfl hl.1 rfl (Nat.le_of_ble_eq_true rfl) dX4_linkChildren_61 ⟨Nat.le_of_ble_eq_true rfl, Nat.le_of_ble_eq_true rfl⟩ ⟨Nat.zero_le _, Nat.zero_le _⟩ ?_
        refine W.eq (g2 := F0 m 64 ls [.int (al_rg (σ.1 12) (al_rg (σ.1 (2 * 0)) (nI (n + 1)))), .int (nI (n + 1)), .ref (ad (14 + 2 * 13))]) rfl ?_
        refine al_cS (rest := []) S hK hW hS (al_X2_set l D cy ad σ 13 (by omega) (nI (n + 1)) (al_rg (σ.1 12) (al_rg (σ.1 (2 * 0)) (nI (n + 1))))) al_mi_X2_set al_ml_RX4_82 rfl (al_rc_R D cy ad _ (i := 13) (by omega)) rfl hl.1 rfl (Nat.le_of_ble_eq_true rfl) dX4_linkChildren_64 ⟨Nat.le_of_ble_eq_true rfl, Nat.le_of_ble_eq_true rfl⟩ ⟨Nat.zero_le _, Nat.zero_le _⟩ (fun H locs hW hS => ?_)
        refine W.eq (g2 := F0 m 67 ls []) rfl ?_
        refine lv_aload_n S.1 S.2.1 dX4_linkChildren_67 rfl (lv_at hl 1 rfl) ?_
        refine al_g_RX4_18 S hK hW dX4_linkChildren_68 ?_
        refine lv_iload_n S.1 S.2.1 dX4_linkChildren_71 rfl (lv_at hl 0 rfl) ?_
        refine lv_iload_n S.1 S.2.1 dX4_linkChildren_72 rfl (lv_at hl 2 rfl) ?_
        refine al_cS (rest := []) S hK hW hS (al_X2_set l D cy ad (al_set σ 13 (nI (n + 1)) (al_rg (σ.1 12) (al_rg (σ.1 (2 * 0)) (nI (n + 1))))) 12 (by omega) (al_rg (σ.1 (2 * 0)) (nI (n + 1))) (nI (n + 1))) al_mi_X2_set al_ml_RX4_82 rfl (al_rc_R D cy ad _ (i := 12) (by omega)) rfl hl.1 rfl (Nat.le_of_ble_eq_true rfl) dX4_linkChildren_73 ⟨Nat.le_of_ble_eq_true rfl, Nat.le_of_ble_eq_true rfl⟩ ⟨Nat.zero_le _, Nat.zero_le _⟩ (fun H locs hW hS => ?_)
        refine W.eq (g2 := F0 m 76 ls []) rfl ?_
        refine lv_aload_n S.1 S.2.1 dX4_linkChildren_76 rfl (lv_at hl 1 rfl) ?_
        refine al_g_RX4_34 S hK hW dX4_linkChildren_77 ?_
        refine lv_iload_n S.1 S.2.1 dX4_linkChildren_80 rfl (lv_at hl 0 rfl) ?_
        refine lv_aload_n S.1 S.2.1 dX4_linkChildren_81 rfl (lv_at hl 1 rfl) ?_
        refine al_g_RX4_34 S hK hW dX4_linkChildren_82 ?_
        refine lv_iload_n S.1 S.2.1 dX4_linkChildren_85 rfl (lv_at hl 0 rfl) ?_
        refine al_cP (rest := [.int (al_rg (σ.1 (2 * 0)) (nI (n + 1))), .ref (ad (14 + 2 * 17))]) S hK hW (al_X2_get l D cy ad (al_set (al_set σ 13 (nI (n + 1)) (al_rg (σ.1 12) (al_rg (σ.1 (2 * 0)) (nI (n + 1))))) 12 (al_rg (σ.1 (2 * 0)) (nI (n + 1))) (nI (n + 1))) 17 (by omega) (al_rg (σ.1 (2 * 0)) (nI (n + 1)))) al_mi_X2_get al_ml_RX4_79 rfl (al_rc_R D cy ad _ (i := 17) (by omega)) rfl hl.1 rfl (Nat.le_of_ble_eq_true rfl) dX4_linkChildren_86 ⟨Nat.le_of_ble_eq_true rfl, Nat.le_of_ble_eq_true rfl⟩ ⟨Nat.zero_le _, Nat.zero_le _⟩ ?_
        refine W.eq (g2 := F0 m 89 ls [.int (al_rg ((al_set (al_set σ 13 (nI (n + 1)) (al_rg (σ.1 12) (al_rg (σ.1 (2 * 0)) (nI (n + 1))))) 12 (al_rg (σ.1 (2 * 0)) (nI (n + 1))) (nI (n + 1))).1 17) (al_rg (σ.1 (2 * 0)) (nI (n + 1)))), .int (al_rg (σ.1 (2 * 0)) (nI (n + 1))), .ref (ad (14 + 2 * 17))]) rfl ?_
        refine lv_iconst (v := 1) S.1 S.2.1 dX4_linkChildren_89 (by decide) ?_
        refine lv_iadd S.1 S.2.1 dX4_linkChildren_90 ?_
        refine al_cS (rest := []) S hK hW hS (al_X2_set l D cy ad (al_set (al_set σ 13 (nI (n + 1)) (al_rg (σ.1 12) (al_rg (σ.1 (2 * 0)) (nI (n + 1))))) 12 (al_rg (σ.1 (2 * 0)) (nI (n + 1))) (nI (n + 1))) 17 (by omega) (al_rg (σ.1 (2 * 0)) (nI (n + 1))) ((al_rg ((al_set (al_set σ 13 (nI (n + 1)) (al_rg (σ.1 12) (al_rg (σ.1 (2 * 0)) (nI (n + 1))))) 12 (al_rg (σ.1 (2 * 0)) (nI (n + 1))) (nI (n + 1))).1 17) (al_rg (σ.1 (2 * 0)) (nI (n + 1)))) + 1)) al_mi_X2_set al_ml_RX4_82 rfl (al_rc_R D cy ad _ (i := 17) (by omega)) rfl hl.1 rfl (Nat.le_of_ble_eq_true rfl) dX4_linkChildren_91 ⟨Nat.le_of_ble_eq_true rfl, Nat.le_of_ble_eq_true rfl⟩ ⟨Nat.zero_le _, Nat.zero_le _⟩ (fun H locs hW hS => ?_)
        refine W.eq (g2 := F0 m 94 ls []) rfl ?_
        refine lv_iinc (k := 2) (v := nI n) (lv' := [(1, .int (nI n)), (2, .int (al_rg (σ.1 (2 * 0)) (nI (n + 1)))), (0, .ref (ad (5)))]) S.1 S.2.1 dX4_linkChildren_94 hl rfl (pk_m1 n) (by decide) rfl (fun ls hl => ?_)
        refine lv_goto (tgt := 27) S.1 S.2.1 dX4_linkChildren_97 (by decide) ?_
        exact ih (al_set (al_set (al_set σ 13 (nI (n + 1)) (al_rg (σ.1 12) (al_rg (σ.1 (2 * 0)) (nI (n + 1))))) 12 (al_rg (σ.1 (2 * 0)) (nI (n + 1))) (nI (n + 1))) 17 (al_rg (σ.1 (2 * 0)) (nI (n + 1))) ((al_rg ((al_set (al_set σ 13 (nI (n + 1)) (al_rg (σ.1 12) (al_rg (σ.1 (2 * 0)) (nI (n + 1))))) 12 (al_rg (σ.1 (2 * 0)) (nI (n + 1))) (nI (n + 1))).1 17) (al_rg (σ.1 (2 * 0)) (nI (n + 1)))) + 1))  _ _ _ (by omega) hW hS (lv_sub hl [2, 0] rfl) (fun σ'  H locs ls e9 hW hS hl => K σ'  H locs ls (by simp only [al_linkL, al_link1, if_neg (c1), if_neg (c2)]; exact e9) hW hS hl)
theorem al_mv_X4_linkChildren : al_mv yX4_linkChildren cX4_linkChildren 3 none 0 := ⟨al_c_X4_linkChildren, al_ini_RX4, ⟨by decide +kernel, by decide +kernel, by decide +kernel⟩, by decide +kernel⟩
theorem al_mi_X4_linkChildren : al_mi yX4_linkChildren cX4_linkChildren 3 none 0 := ⟨al_mv_X4_linkChildren, al_in_X4_linkChildren, al_se_X4_linkChildren⟩
set_option maxHeartbeats 4000000 in
set_option maxRecDepth 100000 in
theorem al_X4_linkChildren (l : Launch) (D : va_G) (cy : al_CY) (ad : Nat → Nat) (σ : al_St) : al_MS l yX4_linkChildren cX4_linkChildren 3 none 2 42 D cy ad σ [.ref (ad (5))] none (al_linkC σ) := by
  refine al_met al_mv_X4_linkChildren (Nat.le_of_ble_eq_true rfl) ?_
  intro p e s m args below meth c ls S hr hlocks hK hW hS hl
  have hl : lv_has ls 3 [(0, .ref (ad (5)))] := hl
  refine lv_aload_n S.1 S.2.1 dX4_linkChildren_0 rfl (lv_at hl 0 rfl) ?_
  refine al_g_RX4_18 S hK hW dX4_linkChildren_1 ?_
  refine lv_iconst (v := -1) S.1 S.2.1 dX4_linkChildren_4 (by decide) ?_
  refine al_cS (rest := []) S hK hW hS (al_X2_fill l D cy ad σ 12 (by omega) (-1)) al_mi_X2_fill al_ml_RX4_65 rfl (al_rc_R D cy ad _ (i := 12) (by omega)) rfl hl.1 rfl (Nat.le_of_ble_eq_true rfl) dX4_linkChildren_5 ⟨Nat.le_of_ble_eq_true rfl, Nat.le_of_ble_eq_true rfl⟩ ⟨Nat.zero_le _, Nat.zero_le _⟩ (fun H locs hW hS => ?_)
  refine W.eq (g2 := F0 m 8 ls []) rfl ?_
  refine lv_aload_n S.1 S.2.1 dX4_linkChildren_8 rfl (lv_at hl 0 rfl) ?_
  refine al_g_RX4_22 S hK hW dX4_linkChildren_9 ?_
  refine lv_iconst (v := -1) S.1 S.2.1 dX4_linkChildren_12 (by decide) ?_
  refine al_cS (rest := []) S hK hW hS (al_X2_fill l D cy ad (al_sR σ 12 (al_fill 90 (-1) (σ.1 12))) 13 (by omega) (-1)) al_mi_X2_fill al_ml_RX4_65 rfl (al_rc_R D cy ad _ (i := 13) (by omega)) rfl hl.1 rfl (Nat.le_of_ble_eq_true rfl) dX4_linkChildren_13 ⟨Nat.le_of_ble_eq_true rfl, Nat.le_of_ble_eq_true rfl⟩ ⟨Nat.zero_le _, Nat.zero_le _⟩ (fun H locs hW hS => ?_)
  refine W.eq (g2 := F0 m 16 ls []) rfl ?_
  refine lv_aload_n S.1 S.2.1 dX4_linkChildren_16 rfl (lv_at hl 0 rfl) ?_
  refine al_g_RX4_34 S hK hW dX4_linkChildren_17 ?_
  refine lv_iconst (v := 0) S.1 S.2.1 dX4_linkChildren_20 (by decide) ?_
  refine al_cS (rest := []) S hK hW hS (al_X2_fill l D cy ad (al_sR (al_sR σ 12 (al_fill 90 (-1) (σ.1 12))) 13 (al_fill 90 (-1) ((al_sR σ 12 (al_fill 90 (-1) (σ.1 12))).1 13))) 17 (by omega) 0) al_mi_X2_fill al_ml_RX4_65 rfl (al_rc_R D cy ad _ (i := 17) (by omega)) rfl hl.1 rfl (Nat.le_of_ble_eq_true rfl) dX4_linkChildren_21 ⟨Nat.le_of_ble_eq_true rfl, Nat.le_of_ble_eq_true rfl⟩ ⟨Nat.zero_le _, Nat.zero_le _⟩ (fun H locs hW hS => ?_)
  refine W.eq (g2 := F0 m 24 ls []) rfl ?_
  refine lv_bipush (v := 89) S.1 S.2.1 dX4_linkChildren_24 (by decide) ?_
  refine lv_istore_n (lv' := [(1, .int 89), (0, .ref (ad (5)))]) S.1 S.2.1 dX4_linkChildren_26 rfl hl (by decide) rfl (fun ls hl => ?_)
  refine al_lp_X4_link l D cy ad  S hK 89 (al_sR (al_sR (al_sR σ 12 (al_fill 90 (-1) (σ.1 12))) 13 (al_fill 90 (-1) ((al_sR σ 12 (al_fill 90 (-1) (σ.1 12))).1 13))) 17 (al_fill 90 0 ((al_sR (al_sR σ 12 (al_fill 90 (-1) (σ.1 12))) 13 (al_fill 90 (-1) ((al_sR σ 12 (al_fill 90 (-1) (σ.1 12))).1 13))).1 17)))  _ _ _ (by omega) hW hS (lv_sub hl [1, 0] rfl) (fun σ1 H locs ls e2 hW hS hl => ?_)
  exact W.vret S.1 S.2.1 hr (fun t9 ht9 _ => ⟨rfl, by rw [ht9]; exact (al_He hW (by simp only [al_linkC, al_fillR, e2])), hS.F ht9⟩) hS.2.2 dX4_linkChildren_100
set_option maxHeartbeats 4000000 in
set_option maxRecDepth 100000 in
theorem al_lp_X4_dnI {p : Program} {e : Env} {s : State} {m : MethodId} {args : Array Value} {below : List Frame} {meth : Method} {c : Code} {Q : State → Prop} (l : Launch) (D : va_G) (cy : al_CY) (ad : Nat → Nat) (k : Nat) (x : Int32) (S : CallFix p m c cX4_goDown 5 s args al_G RX4) (hK : va_K D vwCl (al_tys cy) s) {H0 : Heap} : ∀ (n : Nat) (σ : al_St) (j : Nat) (ch : Int32) (H : Heap) (locs : List Loc) (ls : Array Slot), j + n = 90 → al_H D cy ad σ H → va_S (al_A ad) H0 H locs → lv_has ls 5 [(0, .ref (ad (5))), (1, .int (nI k)), (2, .int x), (3, .int ch), (4, .int (nI j))] → (∀ (σ' : al_St) (H : Heap) (locs : List Loc) (ls : Array Slot), al_dnI x n ch σ = σ' → al_H D cy ad σ' H → va_S (al_A ad) H0 H locs → lv_has ls 5 [(0, .ref (ad (5))), (1, .int (nI k))] → W p l e (al_rm 1 22) s m args below meth c H locs 0 0 Q (F0 m 127 ls [])) → W p l e (al_rm 1 22) s m args below meth c H locs 0 0 Q (F0 m 60 ls []) := by
  intro n
  induction n with
  | zero =>
    intro σ j ch H locs ls hj hW hS hl K
    refine lv_iload S.1 S.2.1 dX4_goDown_60 (lv_at hl 4 rfl) ?_
    refine lv_bipush (v := 90) S.1 S.2.1 dX4_goDown_62 (by decide) ?_
    refine lv_icmp_ge (tgt := 127) S.1 S.2.1 dX4_goDown_64 (by decide) (fun c1 => ?_) (fun c1 => ?_)
    · exact K σ  _ _ _ (by simp only [al_dnI, al_dn1, if_pos (c1)]) hW hS (lv_sub hl [0, 1] rfl)
    · exact absurd (al_90' (by omega)) c1
  | succ n ih =>
    intro σ j ch H locs ls hj hW hS hl K
    refine lv_iload S.1 S.2.1 dX4_goDown_60 (lv_at hl 4 rfl) ?_
    refine lv_bipush (v := 90) S.1 S.2.1 dX4_goDown_62 (by decide) ?_
    refine lv_icmp_ge (tgt := 127) S.1 S.2.1 dX4_goDown_64 (by decide) (fun c1 => ?_) (fun c1 => ?_)
    · exact absurd c1 (al_90 (by omega))
    · refine lv_iload_n S.1 S.2.1 dX4_goDown_67 rfl (lv_at hl 3 rfl) ?_
      refine lv_iconst (v := -1) S.1 S.2.1 dX4_goDown_68 (by decide) ?_
      refine lv_icmp_eq (tgt := 127) S.1 S.2.1 dX4_goDown_69 (by decide) (fun c2 => ?_) (fun c2 => ?_)
      · exact K σ  _ _ _ (by simp only [al_dnI, al_dn1, if_neg (c1), if_pos (c2)]) hW hS (lv_sub hl [0, 1] rfl)
      · refine lv_aload_n S.1 S.2.1 dX4_goDown_72 rfl (lv_at hl 0 rfl) ?_
        refine al_g_RX4_25 S hK hW dX4_goDown_73 ?_
        refine lv_aload_n S.1 S.2.1 dX4_goDown_76 rfl (lv_at hl 0 rfl) ?_
        refine al_g_RX4_49 S hK hW dX4_goDown_77 ?_
        refine lv_iload_n S.1 S.2.1 dX4_goDown_80 rfl (lv_at hl 3 rfl) ?_
        refine al_cS (rest := []) S hK hW hS (al_X2_set l D cy ad σ 14 (by omega) (σ.2.2.1 9) ch) al_mi_X2_set al_ml_RX4_82 rfl (al_rc_R D cy ad _ (i := 14) (by omega)) rfl hl.1 rfl (Nat.le_of_ble_eq_true rfl) dX4_goDown_81 ⟨Nat.le_of_ble_eq_true rfl, Nat.le_of_ble_eq_true rfl⟩ ⟨Nat.zero_le _, Nat.zero_le _⟩ (fun H locs hW hS => ?_)
        refine W.eq (g2 := F0 m 84 ls []) rfl ?_
        refine lv_aload_n S.1 S.2.1 dX4_goDown_84 rfl (lv_at hl 0 rfl) ?_
        refine lv_dup S.1 S.2.1 dX4_goDown_85 rfl ?_
        refine al_g_RX4_49 S hK hW dX4_goDown_86 ?_
        refine lv_iconst (v := 1) S.1 S.2.1 dX4_goDown_89 (by decide) ?_
        refine lv_iadd S.1 S.2.1 dX4_goDown_90 ?_
        refine al_p_RX4_49 S hK hW hS dX4_goDown_91 (fun H locs hW hS => ?_)
        refine lv_aload_n S.1 S.2.1 dX4_goDown_94 rfl (lv_at hl 0 rfl) ?_
        refine al_g_RX4_28 S hK hW dX4_goDown_95 ?_
        refine lv_iload_n S.1 S.2.1 dX4_goDown_98 rfl (lv_at hl 3 rfl) ?_
        refine lv_aload_n S.1 S.2.1 dX4_goDown_99 rfl (lv_at hl 0 rfl) ?_
        refine al_g_RX4_28 S hK hW dX4_goDown_100 ?_
        refine lv_iload_n S.1 S.2.1 dX4_goDown_103 rfl (lv_at hl 2 rfl) ?_
        refine al_cP (rest := [.int ch, .ref (ad (14 + 2 * 15))]) S hK hW (al_X2_get l D cy ad (al_sV (al_set σ 14 (σ.2.2.1 9) ch) 9 (((al_set σ 14 (σ.2.2.1 9) ch).2.2.1 9) + 1)) 15 (by omega) x) al_mi_X2_get al_ml_RX4_79 rfl (al_rc_R D cy ad _ (i := 15) (by omega)) rfl hl.1 rfl (Nat.le_of_ble_eq_true rfl) dX4_goDown_104 ⟨Nat.le_of_ble_eq_true rfl, Nat.le_of_ble_eq_true rfl⟩ ⟨Nat.zero_le _, Nat.zero_le _⟩ ?_
        refine W.eq (g2 := F0 m 107 ls [.int (al_rg ((al_sV (al_set σ 14 (σ.2.2.1 9) ch) 9 (((al_set σ 14 (σ.2.2.1 9) ch).2.2.1 9) + 1)).1 15) x), .int ch, .ref (ad (14 + 2 * 15))]) rfl ?_
        refine lv_iconst (v := 1) S.1 S.2.1 dX4_goDown_107 (by decide) ?_
        refine lv_iadd S.1 S.2.1 dX4_goDown_108 ?_
        refine al_cS (rest := []) S hK hW hS (al_X2_set l D cy ad (al_sV (al_set σ 14 (σ.2.2.1 9) ch) 9 (((al_set σ 14 (σ.2.2.1 9) ch).2.2.1 9) + 1)) 15 (by omega) ch ((al_rg ((al_sV (al_set σ 14 (σ.2.2.1 9) ch) 9 (((al_set σ 14 (σ.2.2.1 9) ch).2.2.1 9) + 1)).1 15) x) + 1)) al_mi_X2_set al_ml_RX4_82 rfl (al_rc_R D cy ad _ (i := 15) (by omega)) rfl hl.1 rfl (Nat.le_of_ble_eq_true rfl) dX4_goDown_109 ⟨Nat.le_of_ble_eq_true rfl, Nat.le_of_ble_eq_true rfl⟩ ⟨Nat.zero_le _, Nat.zero_le _⟩ (fun H locs hW hS => ?_)
        refine W.eq (g2 := F0 m 112 ls []) rfl ?_
        refine lv_aload_n S.1 S.2.1 dX4_goDown_112 rfl (lv_at hl 0 rfl) ?_
        refine al_g_RX4_22 S hK hW dX4_goDown_113 ?_
        refine lv_iload_n S.1 S.2.1 dX4_goDown_116 rfl (lv_at hl 3 rfl) ?_
        refine al_cP (rest := []) S hK hW (al_X2_get l D cy ad (al_set (al_sV (al_set σ 14 (σ.2.2.1 9) ch) 9 (((al_set σ 14 (σ.2.2.1 9) ch).2.2.1 9) + 1)) 15 ch ((al_rg ((al_sV (al_set σ 14 (σ.2.2.1 9) ch) 9 (((al_set σ 14 (σ.2.2.1 9) ch).2.2.1 9) + 1)).1 15) x) + 1)) 13 (by omega) ch) al_mi_X2_get al_ml_RX4_79 rfl (al_rc_R D cy ad _ (i := 13) (by omega)) rfl hl.1 rfl (Nat.le_of_ble_eq_true rfl) dX4_goDown_117 ⟨Nat.le_of_ble_eq_true rfl, Nat.le_of_ble_eq_true rfl⟩ ⟨Nat.zero_le _, Nat.zero_le _⟩ ?_
        refine W.eq (g2 := F0 m 120 ls [.int (al_rg ((al_set (al_sV (al_set σ 14 (σ.2.2.1 9) ch) 9 (((al_set σ 14 (σ.2.2.1 9) ch).2.2.1 9) + 1)) 15 ch ((al_rg ((al_sV (al_set σ 14 (σ.2.2.1 9) ch) 9 (((al_set σ 14 (σ.2.2.1 9) ch).2.2.1 9) + 1)).1 15) x) + 1)).1 13) ch)]) rfl ?_
        refine lv_istore_n (lv' := [(3, .int (al_rg ((al_set (al_sV (al_set σ 14 (σ.2.2.1 9) ch) 9 (((al_set σ 14 (σ.2.2.1 9) ch).2.2.1 9) + 1)) 15 ch ((al_rg ((al_sV (al_set σ 14 (σ.2.2.1 9) ch) 9 (((al_set σ 14 (σ.2.2.1 9) ch).2.2.1 9) + 1)).1 15) x) + 1)).1 13) ch)), (0, .ref (ad (5))), (1, .int (nI k)), (2, .int x), (4, .int (nI j))]) S.1 S.2.1 dX4_goDown_120 rfl hl (by decide) rfl (fun ls hl => ?_)
        refine lv_iinc (k := 4) (v := nI (j + 1)) (lv' := [(4, .int (nI (j + 1))), (3, .int (al_rg ((al_set (al_sV (al_set σ 14 (σ.2.2.1 9) ch) 9 (((al_set σ 14 (σ.2.2.1 9) ch).2.2.1 9) + 1)) 15 ch ((al_rg ((al_sV (al_set σ 14 (σ.2.2.1 9) ch) 9 (((al_set σ 14 (σ.2.2.1 9) ch).2.2.1 9) + 1)).1 15) x) + 1)).1 13) ch)), (0, .ref (ad (5))), (1, .int (nI k)), (2, .int x)]) S.1 S.2.1 dX4_goDown_121 hl rfl (al_inc j) (by decide) rfl (fun ls hl => ?_)
        refine lv_goto (tgt := 60) S.1 S.2.1 dX4_goDown_124 (by decide) ?_
        exact ih (al_set (al_sV (al_set σ 14 (σ.2.2.1 9) ch) 9 (((al_set σ 14 (σ.2.2.1 9) ch).2.2.1 9) + 1)) 15 ch ((al_rg ((al_sV (al_set σ 14 (σ.2.2.1 9) ch) 9 (((al_set σ 14 (σ.2.2.1 9) ch).2.2.1 9) + 1)).1 15) x) + 1)) (j + 1) (al_rg ((al_set (al_sV (al_set σ 14 (σ.2.2.1 9) ch) 9 (((al_set σ 14 (σ.2.2.1 9) ch).2.2.1 9) + 1)) 15 ch ((al_rg ((al_sV (al_set σ 14 (σ.2.2.1 9) ch) 9 (((al_set σ 14 (σ.2.2.1 9) ch).2.2.1 9) + 1)).1 15) x) + 1)).1 13) ch) _ _ _ (by omega) hW hS (lv_sub hl [2, 3, 4, 1, 0] rfl) (fun σ'  H locs ls e9 hW hS hl => K σ'  H locs ls (by simp only [al_dnI, al_dn1, if_neg (c1), if_neg (c2)]; exact e9) hW hS hl)
set_option maxHeartbeats 4000000 in
set_option maxRecDepth 100000 in
theorem al_lp_X4_dnO {p : Program} {e : Env} {s : State} {m : MethodId} {args : Array Value} {below : List Frame} {meth : Method} {c : Code} {Q : State → Prop} (l : Launch) (D : va_G) (cy : al_CY) (ad : Nat → Nat) (S : CallFix p m c cX4_goDown 5 s args al_G RX4) (hK : va_K D vwCl (al_tys cy) s) {H0 : Heap} : ∀ (n : Nat) (σ : al_St) (k : Nat) (H : Heap) (locs : List Loc) (ls : Array Slot), k + n = 90 → al_H D cy ad σ H → va_S (al_A ad) H0 H locs → lv_has ls 5 [(0, .ref (ad (5))), (1, .int (nI k))] → (∀ (σ' : al_St) (H : Heap) (locs : List Loc) (ls : Array Slot), al_dnO n k σ = σ' → al_H D cy ad σ' H → va_S (al_A ad) H0 H locs → lv_has ls 5 [(0, .ref (ad (5)))] → W p l e (al_rm 1 22) s m args below meth c H locs 0 0 Q (F0 m 133 ls [])) → W p l e (al_rm 1 22) s m args below meth c H locs 0 0 Q (F0 m 25 ls []) := by
  intro n
  induction n with
  | zero =>
    intro σ k H locs ls hk hW hS hl K
    refine lv_iload_n S.1 S.2.1 dX4_goDown_25 rfl (lv_at hl 1 rfl) ?_
    refine lv_aload_n S.1 S.2.1 dX4_goDown_26 rfl (lv_at hl 0 rfl) ?_
    refine al_g_RX4_49 S hK hW dX4_goDown_27 ?_
    refine lv_icmp_ge (tgt := 133) S.1 S.2.1 dX4_goDown_30 (by decide) (fun c1 => ?_) (fun c1 => ?_)
    · exact K σ  _ _ _ (by simp only [al_dnO, if_pos (c1)]) hW hS (lv_sub hl [0] rfl)
    · refine lv_iload_n S.1 S.2.1 dX4_goDown_33 rfl (lv_at hl 1 rfl) ?_
      refine lv_bipush (v := 90) S.1 S.2.1 dX4_goDown_34 (by decide) ?_
      refine lv_icmp_ge (tgt := 133) S.1 S.2.1 dX4_goDown_36 (by decide) (fun c2 => ?_) (fun c2 => ?_)
      · exact K σ  _ _ _ (by simp only [al_dnO, if_neg (c1), if_pos (c2)]) hW hS (lv_sub hl [0] rfl)
      · exact absurd (al_90' (by omega)) c2
  | succ n ih =>
    intro σ k H locs ls hk hW hS hl K
    refine lv_iload_n S.1 S.2.1 dX4_goDown_25 rfl (lv_at hl 1 rfl) ?_
    refine lv_aload_n S.1 S.2.1 dX4_goDown_26 rfl (lv_at hl 0 rfl) ?_
    refine al_g_RX4_49 S hK hW dX4_goDown_27 ?_
    refine lv_icmp_ge (tgt := 133) S.1 S.2.1 dX4_goDown_30 (by decide) (fun c1 => ?_) (fun c1 => ?_)
    · exact K σ  _ _ _ (by simp only [al_dnO, if_pos (c1)]) hW hS (lv_sub hl [0] rfl)
    · refine lv_iload_n S.1 S.2.1 dX4_goDown_33 rfl (lv_at hl 1 rfl) ?_
      refine lv_bipush (v := 90) S.1 S.2.1 dX4_goDown_34 (by decide) ?_
      refine lv_icmp_ge (tgt := 133) S.1 S.2.1 dX4_goDown_36 (by decide) (fun c2 => ?_) (fun c2 => ?_)
      · exact absurd c2 (al_90 (by omega))
      · refine lv_aload_n S.1 S.2.1 dX4_goDown_39 rfl (lv_at hl 0 rfl) ?_
        refine al_g_RX4_25 S hK hW dX4_goDown_40 ?_
        refine lv_iload_n S.1 S.2.1 dX4_goDown_43 rfl (lv_at hl 1 rfl) ?_
        refine al_cP (rest := []) S hK hW (al_X2_get l D cy ad σ 14 (by omega) (nI k)) al_mi_X2_get al_ml_RX4_79 rfl (al_rc_R D cy ad _ (i := 14) (by omega)) rfl hl.1 rfl (Nat.le_of_ble_eq_true rfl) dX4_goDown_44 ⟨Nat.le_of_ble_eq_true rfl, Nat.le_of_ble_eq_true rfl⟩ ⟨Nat.zero_le _, Nat.zero_le _⟩ ?_
        refine W.eq (g2 := F0 m 47 ls [.int (al_rg (σ.1 14) (nI k))]) rfl ?_
        refine lv_istore_n (lv' := [(2, .int (al_rg (σ.1 14) (nI k))), (0, .ref (ad (5))), (1, .int (nI k))]) S.1 S.2.1 dX4_goDown_47 rfl hl (by decide) rfl (fun ls hl => ?_)
        refine lv_aload_n S.1 S.2.1 dX4_goDown_48 rfl (lv_at hl 1 rfl) ?_
        refine al_g_RX4_18 S hK hW dX4_goDown_49 ?_
        refine lv_iload_n S.1 S.2.1 dX4_goDown_52 rfl (lv_at hl 0 rfl) ?_
        refine al_cP (rest := []) S hK hW (al_X2_get l D cy ad σ 12 (by omega) (al_rg (σ.1 14) (nI k))) al_mi_X2_get al_ml_RX4_79 rfl (al_rc_R D cy ad _ (i := 12) (by omega)) rfl hl.1 rfl (Nat.le_of_ble_eq_true rfl) dX4_goDown_53 ⟨Nat.le_of_ble_eq_true rfl, Nat.le_of_ble_eq_true rfl⟩ ⟨Nat.zero_le _, Nat.zero_le _⟩ ?_
        refine W.eq (g2 := F0 m 56 ls [.int (al_rg (σ.1 12) (al_rg (σ.1 14) (nI k)))]) rfl ?_
        refine lv_istore_n (lv' := [(3, .int (al_rg (σ.1 12) (al_rg (σ.1 14) (nI k)))), (2, .int (al_rg (σ.1 14) (nI k))), (0, .ref (ad (5))), (1, .int (nI k))]) S.1 S.2.1 dX4_goDown_56 rfl hl (by decide) rfl (fun ls hl => ?_)
        refine lv_iconst (v := 0) S.1 S.2.1 dX4_goDown_57 (by decide) ?_
        refine lv_istore (lv' := [(4, .int 0), (3, .int (al_rg (σ.1 12) (al_rg (σ.1 14) (nI k)))), (2, .int (al_rg (σ.1 14) (nI k))), (0, .ref (ad (5))), (1, .int (nI k))]) S.1 S.2.1 dX4_goDown_58 hl (by decide) rfl (fun ls hl => ?_)
        refine al_lp_X4_dnI l D cy ad k (al_rg (σ.1 14) (nI k)) S hK 90 σ 0 (al_rg (σ.1 12) (al_rg (σ.1 14) (nI k))) _ _ _ (by omega) hW hS (lv_sub hl [3, 4, 2, 1, 0] rfl) (fun σ3 H locs ls e4 hW hS hl => ?_)
        refine lv_iinc (k := 1) (v := nI (k + 1)) (lv' := [(1, .int (nI (k + 1))), (0, .ref (ad (5)))]) S.1 S.2.1 dX4_goDown_127 hl rfl (al_inc k) (by decide) rfl (fun ls hl => ?_)
        refine lv_goto (tgt := 25) S.1 S.2.1 dX4_goDown_130 (by decide) ?_
        exact ih σ3 (k + 1) _ _ _ (by omega) hW hS (lv_sub hl [1, 0] rfl) (fun σ'  H locs ls e9 hW hS hl => K σ'  H locs ls (by simp only [al_dnO, if_neg (c1), if_neg (c2), e4]; exact e9) hW hS hl)
theorem al_mv_X4_goDown : al_mv yX4_goDown cX4_goDown 5 none 0 := ⟨al_c_X4_goDown, al_ini_RX4, ⟨by decide +kernel, by decide +kernel, by decide +kernel⟩, by decide +kernel⟩
theorem al_mi_X4_goDown : al_mi yX4_goDown cX4_goDown 5 none 0 := ⟨al_mv_X4_goDown, al_in_X4_goDown, al_se_X4_goDown⟩
set_option maxHeartbeats 4000000 in
set_option maxRecDepth 100000 in
theorem al_X4_goDown (l : Launch) (D : va_G) (cy : al_CY) (ad : Nat → Nat) (σ : al_St) : al_MS l yX4_goDown cX4_goDown 5 none 1 22 D cy ad σ [.ref (ad (5))] none (al_goDown σ) := by
  refine al_met al_mv_X4_goDown (Nat.le_of_ble_eq_true rfl) ?_
  intro p e s m args below meth c ls S hr hlocks hK hW hS hl
  have hl : lv_has ls 5 [(0, .ref (ad (5)))] := hl
  refine lv_aload_n S.1 S.2.1 dX4_goDown_0 rfl (lv_at hl 0 rfl) ?_
  refine al_g_RX4_25 S hK hW dX4_goDown_1 ?_
  refine lv_iconst (v := 0) S.1 S.2.1 dX4_goDown_4 (by decide) ?_
  refine lv_iconst (v := 0) S.1 S.2.1 dX4_goDown_5 (by decide) ?_
  refine al_cS (rest := []) S hK hW hS (al_X2_set l D cy ad σ 14 (by omega) 0 0) al_mi_X2_set al_ml_RX4_82 rfl (al_rc_R D cy ad _ (i := 14) (by omega)) rfl hl.1 rfl (Nat.le_of_ble_eq_true rfl) dX4_goDown_6 ⟨Nat.le_of_ble_eq_true rfl, Nat.le_of_ble_eq_true rfl⟩ ⟨Nat.zero_le _, Nat.zero_le _⟩ (fun H locs hW hS => ?_)
  refine W.eq (g2 := F0 m 9 ls []) rfl ?_
  refine lv_aload_n S.1 S.2.1 dX4_goDown_9 rfl (lv_at hl 0 rfl) ?_
  refine al_g_RX4_28 S hK hW dX4_goDown_10 ?_
  refine lv_iconst (v := 0) S.1 S.2.1 dX4_goDown_13 (by decide) ?_
  refine lv_iconst (v := 0) S.1 S.2.1 dX4_goDown_14 (by decide) ?_
  refine al_cS (rest := []) S hK hW hS (al_X2_set l D cy ad (al_set σ 14 0 0) 15 (by omega) 0 0) al_mi_X2_set al_ml_RX4_82 rfl (al_rc_R D cy ad _ (i := 15) (by omega)) rfl hl.1 rfl (Nat.le_of_ble_eq_true rfl) dX4_goDown_15 ⟨Nat.le_of_ble_eq_true rfl, Nat.le_of_ble_eq_true rfl⟩ ⟨Nat.zero_le _, Nat.zero_le _⟩ (fun H locs hW hS => ?_)
  refine W.eq (g2 := F0 m 18 ls []) rfl ?_
  refine lv_aload_n S.1 S.2.1 dX4_goDown_18 rfl (lv_at hl 0 rfl) ?_
  refine lv_iconst (v := 1) S.1 S.2.1 dX4_goDown_19 (by decide) ?_
  refine al_p_RX4_49 S hK hW hS dX4_goDown_20 (fun H locs hW hS => ?_)
  refine lv_iconst (v := 0) S.1 S.2.1 dX4_goDown_23 (by decide) ?_
  refine lv_istore_n (lv' := [(1, .int 0), (0, .ref (ad (5)))]) S.1 S.2.1 dX4_goDown_24 rfl hl (by decide) rfl (fun ls hl => ?_)
  refine al_lp_X4_dnO l D cy ad  S hK 90 (al_sV (al_set (al_set σ 14 0 0) 15 0 0) 9 1) 0 _ _ _ (by omega) hW hS (lv_sub hl [1, 0] rfl) (fun σ1 H locs ls e2 hW hS hl => ?_)
  exact W.vret S.1 S.2.1 hr (fun t9 ht9 _ => ⟨rfl, by rw [ht9]; exact (al_He hW (by simp only [al_goDown, e2])), hS.F ht9⟩) hS.2.2 dX4_goDown_133
set_option maxHeartbeats 4000000 in
set_option maxRecDepth 100000 in
theorem al_lp_X4_mea {p : Program} {e : Env} {s : State} {m : MethodId} {args : Array Value} {below : List Frame} {meth : Method} {c : Code} {Q : State → Prop} (l : Launch) (D : va_G) (cy : al_CY) (ad : Nat → Nat) (x : Int32) (S : CallFix p m c cX4_measure 7 s args al_G RX4) (hK : va_K D vwCl (al_tys cy) s) {H : Heap} {locs : List Loc} {σ : al_St} (hW : al_H D cy ad σ H) : ∀ (n : Nat) (j : Nat) (ch : Int32) (a : Int32) (b : Int32) (d : Int32) (ls : Array Slot), j + n = 90 → lv_has ls 7 [(0, .ref (ad (5))), (1, .int x), (2, .int a), (3, .int b), (4, .int d), (5, .int ch), (6, .int (nI j))] → (∀ (a' : Int32) (b' : Int32) (d' : Int32) (ls : Array Slot), al_meaL σ n ch a b d = (a', b', d') → lv_has ls 7 [(0, .ref (ad (5))), (1, .int x), (2, .int a'), (3, .int b'), (4, .int d')] → W p l e (al_rm 1 22) s m args below meth c H locs 0 0 Q (F0 m 93 ls [])) → W p l e (al_rm 1 22) s m args below meth c H locs 0 0 Q (F0 m 20 ls []) := by
  intro n
  induction n with
  | zero =>
    intro j ch a b d ls hj hl K
    refine lv_iload S.1 S.2.1 dX4_measure_20 (lv_at hl 6 rfl) ?_
    refine lv_bipush (v := 90) S.1 S.2.1 dX4_measure_22 (by decide) ?_
    refine lv_icmp_ge (tgt := 93) S.1 S.2.1 dX4_measure_24 (by decide) (fun c1 => ?_) (fun c1 => ?_)
    · exact K a b d _ (by simp only [al_meaL, if_pos (c1)]) (lv_sub hl [0, 1, 2, 3, 4] rfl)
    · exact absurd (al_90' (by omega)) c1
  | succ n ih =>
    intro j ch a b d ls hj hl K
    refine lv_iload S.1 S.2.1 dX4_measure_20 (lv_at hl 6 rfl) ?_
    refine lv_bipush (v := 90) S.1 S.2.1 dX4_measure_22 (by decide) ?_
    refine lv_icmp_ge (tgt := 93) S.1 S.2.1 dX4_measure_24 (by decide) (fun c1 => ?_) (fun c1 => ?_)
    · exact absurd c1 (al_90 (by omega))
    · refine lv_iload S.1 S.2.1 dX4_measure_27 (lv_at hl 5 rfl) ?_
      refine lv_iconst (v := -1) S.1 S.2.1 dX4_measure_29 (by decide) ?_
      refine lv_icmp_eq (tgt := 93) S.1 S.2.1 dX4_measure_30 (by decide) (fun c2 => ?_) (fun c2 => ?_)
      · exact K a b d _ (by simp only [al_meaL, if_neg (c1), if_pos (c2)]) (lv_sub hl [0, 1, 2, 3, 4] rfl)
      · refine lv_iload_n S.1 S.2.1 dX4_measure_33 rfl (lv_at hl 2 rfl) ?_
        refine lv_aload_n S.1 S.2.1 dX4_measure_34 rfl (lv_at hl 0 rfl) ?_
        refine al_g_RX4_37 S hK hW dX4_measure_35 ?_
        refine lv_iload S.1 S.2.1 dX4_measure_38 (lv_at hl 5 rfl) ?_
        refine al_cP (rest := [.int a]) S hK hW (al_X2_get l D cy ad σ 18 (by omega) ch) al_mi_X2_get al_ml_RX4_79 rfl (al_rc_R D cy ad _ (i := 18) (by omega)) rfl hl.1 rfl (Nat.le_of_ble_eq_true rfl) dX4_measure_40 ⟨Nat.le_of_ble_eq_true rfl, Nat.le_of_ble_eq_true rfl⟩ ⟨Nat.zero_le _, Nat.zero_le _⟩ ?_
        refine W.eq (g2 := F0 m 43 ls [.int (al_rg (σ.1 18) ch), .int a]) rfl ?_
        refine lv_iadd S.1 S.2.1 dX4_measure_43 ?_
        refine lv_istore_n (lv' := [(2, .int (a + (al_rg (σ.1 18) ch))), (0, .ref (ad (5))), (1, .int x), (3, .int b), (4, .int d), (5, .int ch), (6, .int (nI j))]) S.1 S.2.1 dX4_measure_44 rfl hl (by decide) rfl (fun ls hl => ?_)
        refine lv_aload_n S.1 S.2.1 dX4_measure_45 rfl (lv_at hl 1 rfl) ?_
        refine al_g_RX4_31 S hK hW dX4_measure_46 ?_
        refine lv_iload S.1 S.2.1 dX4_measure_49 (lv_at hl 5 rfl) ?_
        refine al_cP (rest := []) S hK hW (al_X2_get l D cy ad σ 16 (by omega) ch) al_mi_X2_get al_ml_RX4_79 rfl (al_rc_R D cy ad _ (i := 16) (by omega)) rfl hl.1 rfl (Nat.le_of_ble_eq_true rfl) dX4_measure_51 ⟨Nat.le_of_ble_eq_true rfl, Nat.le_of_ble_eq_true rfl⟩ ⟨Nat.zero_le _, Nat.zero_le _⟩ ?_
        refine W.eq (g2 := F0 m 54 ls [.int (al_rg (σ.1 16) ch)]) rfl ?_
        refine lv_iconst (v := 1) S.1 S.2.1 dX4_measure_54 (by decide) ?_
        refine lv_iadd S.1 S.2.1 dX4_measure_55 ?_
        refine lv_iload_n S.1 S.2.1 dX4_measure_56 rfl (lv_at hl 3 rfl) ?_
        refine lv_icmp_le (tgt := 76) S.1 S.2.1 dX4_measure_57 (by decide) (fun c3 => ?_) (fun c3 => ?_)
        · refine lv_aload_n S.1 S.2.1 dX4_measure_76 rfl (lv_at hl 1 rfl) ?_
          refine al_g_RX4_22 S hK hW dX4_measure_77 ?_
          refine lv_iload S.1 S.2.1 dX4_measure_80 (lv_at hl 5 rfl) ?_
          refine al_cP (rest := []) S hK hW (al_X2_get l D cy ad σ 13 (by omega) ch) al_mi_X2_get al_ml_RX4_79 rfl (al_rc_R D cy ad _ (i := 13) (by omega)) rfl hl.1 rfl (Nat.le_of_ble_eq_true rfl) dX4_measure_82 ⟨Nat.le_of_ble_eq_true rfl, Nat.le_of_ble_eq_true rfl⟩ ⟨Nat.zero_le _, Nat.zero_le _⟩ ?_
          refine W.eq (g2 := F0 m 85 ls [.int (al_rg (σ.1 13) ch)]) rfl ?_
          refine lv_istore (lv' := [(5, .int (al_rg (σ.1 13) ch)), (2, .int (a + (al_rg (σ.1 18) ch))), (0, .ref (ad (5))), (1, .int x), (3, .int b), (4, .int d), (6, .int (nI j))]) S.1 S.2.1 dX4_measure_85 hl (by decide) rfl (fun ls hl => ?_)
          refine lv_iinc (k := 6) (v := nI (j + 1)) (lv' := [(6, .int (nI (j + 1))), (5, .int (al_rg (σ.1 13) ch)), (2, .int (a + (al_rg (σ.1 18) ch))), (0, .ref (ad (5))), (1, .int x), (3, .int b), (4, .int d)]) S.1 S.2.1 dX4_measure_87 hl rfl (al_inc j) (by decide) rfl (fun ls hl => ?_)
          refine lv_goto (tgt := 20) S.1 S.2.1 dX4_measure_90 (by decide) ?_
          exact ih (j + 1) (al_rg (σ.1 13) ch) (a + (al_rg (σ.1 18) ch)) b d _ (by omega) (lv_sub hl [3, 4, 2, 5, 6, 1, 0] rfl) (fun a' b' d' ls e9 hl => K a' b' d' ls (by simp only [al_meaL, if_neg (c1), if_neg (c2), if_pos (c3)]; exact e9) hl)
        · refine lv_aload_n S.1 S.2.1 dX4_measure_60 rfl (lv_at hl 1 rfl) ?_
          refine al_g_RX4_31 S hK hW dX4_measure_61 ?_
          refine lv_iload S.1 S.2.1 dX4_measure_64 (lv_at hl 5 rfl) ?_
          refine al_cP (rest := []) S hK hW (al_X2_get l D cy ad σ 16 (by omega) ch) al_mi_X2_get al_ml_RX4_79 rfl (al_rc_R D cy ad _ (i := 16) (by omega)) rfl hl.1 rfl (Nat.le_of_ble_eq_true rfl) dX4_measure_66 ⟨Nat.le_of_ble_eq_true rfl, Nat.le_of_ble_eq_true rfl⟩ ⟨Nat.zero_le _, Nat.zero_le _⟩ ?_
          refine W.eq (g2 := F0 m 69 ls [.int (al_rg (σ.1 16) ch)]) rfl ?_
          refine lv_iconst (v := 1) S.1 S.2.1 dX4_measure_69 (by decide) ?_
          refine lv_iadd S.1 S.2.1 dX4_measure_70 ?_
          refine lv_istore_n (lv' := [(3, .int ((al_rg (σ.1 16) ch) + 1)), (2, .int (a + (al_rg (σ.1 18) ch))), (0, .ref (ad (5))), (1, .int x), (4, .int d), (5, .int ch), (6, .int (nI j))]) S.1 S.2.1 dX4_measure_71 rfl hl (by decide) rfl (fun ls hl => ?_)
          refine lv_iload S.1 S.2.1 dX4_measure_72 (lv_at hl 5 rfl) ?_
          refine lv_istore (lv' := [(4, .int ch), (3, .int ((al_rg (σ.1 16) ch) + 1)), (2, .int (a + (al_rg (σ.1 18) ch))), (0, .ref (ad (5))), (1, .int x), (5, .int ch), (6, .int (nI j))]) S.1 S.2.1 dX4_measure_74 hl (by decide) rfl (fun ls hl => ?_)
          refine lv_aload_n S.1 S.2.1 dX4_measure_76 rfl (lv_at hl 3 rfl) ?_
          refine al_g_RX4_22 S hK hW dX4_measure_77 ?_
          refine lv_iload S.1 S.2.1 dX4_measure_80 (lv_at hl 5 rfl) ?_
          refine al_cP (rest := []) S hK hW (al_X2_get l D cy ad σ 13 (by omega) ch) al_mi_X2_get al_ml_RX4_79 rfl (al_rc_R D cy ad _ (i := 13) (by omega)) rfl hl.1 rfl (Nat.le_of_ble_eq_true rfl) dX4_measure_82 ⟨Nat.le_of_ble_eq_true rfl, Nat.le_of_ble_eq_true rfl⟩ ⟨Nat.zero_le _, Nat.zero_le _⟩ ?_
          refine W.eq (g2 := F0 m 85 ls [.int (al_rg (σ.1 13) ch)]) rfl ?_
          refine lv_istore (lv' := [(5, .int (al_rg (σ.1 13) ch)), (4, .int ch), (3, .int ((al_rg (σ.1 16) ch) + 1)), (2, .int (a + (al_rg (σ.1 18) ch))), (0, .ref (ad (5))), (1, .int x), (6, .int (nI j))]) S.1 S.2.1 dX4_measure_85 hl (by decide) rfl (fun ls hl => ?_)
          refine lv_iinc (k := 6) (v := nI (j + 1)) (lv' := [(6, .int (nI (j + 1))), (5, .int (al_rg (σ.1 13) ch)), (4, .int ch), (3, .int ((al_rg (σ.1 16) ch) + 1)), (2, .int (a + (al_rg (σ.1 18) ch))), (0, .ref (ad (5))), (1, .int x)]) S.1 S.2.1 dX4_measure_87 hl rfl (al_inc j) (by decide) rfl (fun ls hl => ?_)
          refine lv_goto (tgt := 20) S.1 S.2.1 dX4_measure_90 (by decide) ?_
          exact ih (j + 1) (al_rg (σ.1 13) ch) (a + (al_rg (σ.1 18) ch)) ((al_rg (σ.1 16) ch) + 1) ch _ (by omega) (lv_sub hl [5, 6, 4, 3, 2, 1, 0] rfl) (fun a' b' d' ls e9 hl => K a' b' d' ls (by simp only [al_meaL, if_neg (c1), if_neg (c2), if_neg (c3)]; exact e9) hl)
theorem al_mv_X4_measure : al_mv yX4_measure cX4_measure 7 none 1 := ⟨al_c_X4_measure, al_ini_RX4, ⟨by decide +kernel, by decide +kernel, by decide +kernel⟩, by decide +kernel⟩
theorem al_mi_X4_measure : al_mi yX4_measure cX4_measure 7 none 1 := ⟨al_mv_X4_measure, al_in_X4_measure, al_se_X4_measure⟩
set_option maxHeartbeats 4000000 in
set_option maxRecDepth 100000 in
theorem al_X4_measure (l : Launch) (D : va_G) (cy : al_CY) (ad : Nat → Nat) (σ : al_St) (x : Int32) : al_MS l yX4_measure cX4_measure 7 none 1 22 D cy ad σ [.ref (ad (5)), .int x] none (al_measure σ x) := by
  refine al_met al_mv_X4_measure (Nat.le_of_ble_eq_true rfl) ?_
  intro p e s m args below meth c ls S hr hlocks hK hW hS hl
  have hl : lv_has ls 7 [(0, .ref (ad (5))), (1, .int x)] := hl
  refine lv_iconst (v := 1) S.1 S.2.1 dX4_measure_0 (by decide) ?_
  refine lv_istore_n (lv' := [(2, .int 1), (0, .ref (ad (5))), (1, .int x)]) S.1 S.2.1 dX4_measure_1 rfl hl (by decide) rfl (fun ls hl => ?_)
  refine lv_iconst (v := 0) S.1 S.2.1 dX4_measure_2 (by decide) ?_
  refine lv_istore_n (lv' := [(3, .int 0), (2, .int 1), (0, .ref (ad (5))), (1, .int x)]) S.1 S.2.1 dX4_measure_3 rfl hl (by decide) rfl (fun ls hl => ?_)
  refine lv_iconst (v := -1) S.1 S.2.1 dX4_measure_4 (by decide) ?_
  refine lv_istore (lv' := [(4, .int (-1)), (3, .int 0), (2, .int 1), (0, .ref (ad (5))), (1, .int x)]) S.1 S.2.1 dX4_measure_5 hl (by decide) rfl (fun ls hl => ?_)
  refine lv_aload_n S.1 S.2.1 dX4_measure_7 rfl (lv_at hl 3 rfl) ?_
  refine al_g_RX4_18 S hK hW dX4_measure_8 ?_
  refine lv_iload_n S.1 S.2.1 dX4_measure_11 rfl (lv_at hl 4 rfl) ?_
  refine al_cP (rest := []) S hK hW (al_X2_get l D cy ad σ 12 (by omega) x) al_mi_X2_get al_ml_RX4_79 rfl (al_rc_R D cy ad _ (i := 12) (by omega)) rfl hl.1 rfl (Nat.le_of_ble_eq_true rfl) dX4_measure_12 ⟨Nat.le_of_ble_eq_true rfl, Nat.le_of_ble_eq_true rfl⟩ ⟨Nat.zero_le _, Nat.zero_le _⟩ ?_
  refine W.eq (g2 := F0 m 15 ls [.int (al_rg (σ.1 12) x)]) rfl ?_
  refine lv_istore (lv' := [(5, .int (al_rg (σ.1 12) x)), (4, .int (-1)), (3, .int 0), (2, .int 1), (0, .ref (ad (5))), (1, .int x)]) S.1 S.2.1 dX4_measure_15 hl (by decide) rfl (fun ls hl => ?_)
  refine lv_iconst (v := 0) S.1 S.2.1 dX4_measure_17 (by decide) ?_
  refine lv_istore (lv' := [(6, .int 0), (5, .int (al_rg (σ.1 12) x)), (4, .int (-1)), (3, .int 0), (2, .int 1), (0, .ref (ad (5))), (1, .int x)]) S.1 S.2.1 dX4_measure_18 hl (by decide) rfl (fun ls hl => ?_)
  refine al_lp_X4_mea l D cy ad x S hK hW 90 0 (al_rg (σ.1 12) x) 1 0 (-1) _ (by omega) (lv_sub hl [5, 6, 4, 3, 2, 1, 0] rfl) (fun a1 b2 d3 ls e4 hl => ?_)
  refine lv_aload_n S.1 S.2.1 dX4_measure_93 rfl (lv_at hl 0 rfl) ?_
  refine al_g_RX4_37 S hK hW dX4_measure_94 ?_
  refine lv_iload_n S.1 S.2.1 dX4_measure_97 rfl (lv_at hl 1 rfl) ?_
  refine lv_iload_n S.1 S.2.1 dX4_measure_98 rfl (lv_at hl 2 rfl) ?_
  refine al_cS (rest := []) S hK hW hS (al_X2_set l D cy ad σ 18 (by omega) x a1) al_mi_X2_set al_ml_RX4_82 rfl (al_rc_R D cy ad _ (i := 18) (by omega)) rfl hl.1 rfl (Nat.le_of_ble_eq_true rfl) dX4_measure_99 ⟨Nat.le_of_ble_eq_true rfl, Nat.le_of_ble_eq_true rfl⟩ ⟨Nat.zero_le _, Nat.zero_le _⟩ (fun H locs hW hS => ?_)
  refine W.eq (g2 := F0 m 102 ls []) rfl ?_
  refine lv_aload_n S.1 S.2.1 dX4_measure_102 rfl (lv_at hl 0 rfl) ?_
  refine al_g_RX4_31 S hK hW dX4_measure_103 ?_
  refine lv_iload_n S.1 S.2.1 dX4_measure_106 rfl (lv_at hl 1 rfl) ?_
  refine lv_iload_n S.1 S.2.1 dX4_measure_107 rfl (lv_at hl 3 rfl) ?_
  refine al_cS (rest := []) S hK hW hS (al_X2_set l D cy ad (al_set σ 18 x a1) 16 (by omega) x b2) al_mi_X2_set al_ml_RX4_82 rfl (al_rc_R D cy ad _ (i := 16) (by omega)) rfl hl.1 rfl (Nat.le_of_ble_eq_true rfl) dX4_measure_108 ⟨Nat.le_of_ble_eq_true rfl, Nat.le_of_ble_eq_true rfl⟩ ⟨Nat.zero_le _, Nat.zero_le _⟩ (fun H locs hW hS => ?_)
  refine W.eq (g2 := F0 m 111 ls []) rfl ?_
  refine lv_aload_n S.1 S.2.1 dX4_measure_111 rfl (lv_at hl 0 rfl) ?_
  refine al_g_RX4_40 S hK hW dX4_measure_112 ?_
  refine lv_iload_n S.1 S.2.1 dX4_measure_115 rfl (lv_at hl 1 rfl) ?_
  refine lv_iload S.1 S.2.1 dX4_measure_116 (lv_at hl 4 rfl) ?_
  refine al_cS (rest := []) S hK hW hS (al_X2_set l D cy ad (al_set (al_set σ 18 x a1) 16 x b2) 19 (by omega) x d3) al_mi_X2_set al_ml_RX4_82 rfl (al_rc_R D cy ad _ (i := 19) (by omega)) rfl hl.1 rfl (Nat.le_of_ble_eq_true rfl) dX4_measure_118 ⟨Nat.le_of_ble_eq_true rfl, Nat.le_of_ble_eq_true rfl⟩ ⟨Nat.zero_le _, Nat.zero_le _⟩ (fun H locs hW hS => ?_)
  refine W.eq (g2 := F0 m 121 ls []) rfl ?_
  refine lv_aload_n S.1 S.2.1 dX4_measure_121 rfl (lv_at hl 0 rfl) ?_
  refine al_g_RX4_46 S hK hW dX4_measure_122 ?_
  refine lv_iload_n S.1 S.2.1 dX4_measure_125 rfl (lv_at hl 1 rfl) ?_
  refine lv_iload S.1 S.2.1 dX4_measure_126 (lv_at hl 4 rfl) ?_
  refine lv_iconst (v := -1) S.1 S.2.1 dX4_measure_128 (by decide) ?_
  refine lv_icmp_ne (tgt := 136) S.1 S.2.1 dX4_measure_129 (by decide) (fun c5 => ?_) (fun c5 => ?_)
  · refine lv_aload_n S.1 S.2.1 dX4_measure_136 rfl (lv_at hl 0 rfl) ?_
    refine al_g_RX4_46 S hK hW dX4_measure_137 ?_
    refine lv_iload S.1 S.2.1 dX4_measure_140 (lv_at hl 4 rfl) ?_
    refine al_cP (rest := [.int x, .ref (ad (14 + 2 * 21))]) S hK hW (al_X2_get l D cy ad (al_set (al_set (al_set σ 18 x a1) 16 x b2) 19 x d3) 21 (by omega) d3) al_mi_X2_get al_ml_RX4_79 rfl (al_rc_R D cy ad _ (i := 21) (by omega)) rfl hl.1 rfl (Nat.le_of_ble_eq_true rfl) dX4_measure_142 ⟨Nat.le_of_ble_eq_true rfl, Nat.le_of_ble_eq_true rfl⟩ ⟨Nat.zero_le _, Nat.zero_le _⟩ ?_
    refine W.eq (g2 := F0 m 145 ls [.int (al_rg ((al_set (al_set (al_set σ 18 x a1) 16 x b2) 19 x d3).1 21) d3), .int x, .ref (ad (14 + 2 * 21))]) rfl ?_
    refine al_cS (rest := []) S hK hW hS (al_X2_set l D cy ad (al_set (al_set (al_set σ 18 x a1) 16 x b2) 19 x d3) 21 (by omega) x (al_rg ((al_set (al_set (al_set σ 18 x a1) 16 x b2) 19 x d3).1 21) d3)) al_mi_X2_set al_ml_RX4_82 rfl (al_rc_R D cy ad _ (i := 21) (by omega)) rfl hl.1 rfl (Nat.le_of_ble_eq_true rfl) dX4_measure_145 ⟨Nat.le_of_ble_eq_true rfl, Nat.le_of_ble_eq_true rfl⟩ ⟨Nat.zero_le _, Nat.zero_le _⟩ (fun H locs hW hS => ?_)
    refine W.eq (g2 := F0 m 148 ls []) rfl ?_
    exact W.vret S.1 S.2.1 hr (fun t9 ht9 _ => ⟨rfl, by rw [ht9]; exact (al_He hW (by simp only [al_measure, al_mea1, if_neg (c5), e4])), hS.F ht9⟩) hS.2.2 dX4_measure_148
  · refine lv_iload_n S.1 S.2.1 dX4_measure_132 rfl (lv_at hl 1 rfl) ?_
    refine lv_goto (tgt := 145) S.1 S.2.1 dX4_measure_133 (by decide) ?_
    refine al_cS (rest := []) S hK hW hS (al_X2_set l D cy ad (al_set (al_set (al_set σ 18 x a1) 16 x b2) 19 x d3) 21 (by omega) x x) al_mi_X2_set al_ml_RX4_82 rfl (al_rc_R D cy ad _ (i := 21) (by omega)) rfl hl.1 rfl (Nat.le_of_ble_eq_true rfl) dX4_measure_145 ⟨Nat.le_of_ble_eq_true rfl, Nat.le_of_ble_eq_true rfl⟩ ⟨Nat.zero_le _, Nat.zero_le _⟩ (fun H locs hW hS => ?_)
    refine W.eq (g2 := F0 m 148 ls []) rfl ?_
    exact W.vret S.1 S.2.1 hr (fun t9 ht9 _ => ⟨rfl, by rw [ht9]; exact (al_He hW (by simp only [al_measure, al_mea1, if_pos (c5), e4])), hS.F ht9⟩) hS.2.2 dX4_measure_148
set_option maxHeartbeats 4000000 in
set_option maxRecDepth 100000 in
theorem al_lp_X4_up {p : Program} {e : Env} {s : State} {m : MethodId} {args : Array Value} {below : List Frame} {meth : Method} {c : Code} {Q : State → Prop} (l : Launch) (D : va_G) (cy : al_CY) (ad : Nat → Nat) (S : CallFix p m c cX4_goUp 2 s args al_G RX4) (hK : va_K D vwCl (al_tys cy) s) {H0 : Heap} : ∀ (n : Nat) (σ : al_St)  (H : Heap) (locs : List Loc) (ls : Array Slot), n ≤ 9000 → al_H D cy ad σ H → va_S (al_A ad) H0 H locs → lv_has ls 2 [(0, .ref (ad (5))), (1, .int (nI n - 1))] → (∀ (σ' : al_St) (H : Heap) (locs : List Loc) (ls : Array Slot), al_upL n σ = σ' → al_H D cy ad σ' H → va_S (al_A ad) H0 H locs → lv_has ls 2 [(0, .ref (ad (5)))] → W p l e (al_rm 2 48) s m args below meth c H locs 0 0 Q (F0 m 29 ls [])) → W p l e (al_rm 2 48) s m args below meth c H locs 0 0 Q (F0 m 7 ls []) := by
  intro n
  induction n with
  | zero =>
    intro σ  H locs ls hn hW hS hl K
    refine lv_iload_n S.1 S.2.1 dX4_goUp_7 rfl (lv_at hl 1 rfl) ?_
    refine lv_if_lt (tgt := 29) S.1 S.2.1 dX4_goUp_8 (by decide) (fun c1 => ?_) (fun c1 => ?_)
    · exact K σ  _ _ _ (by simp only [al_upL, if_pos (c1)]) hW hS (lv_sub hl [0] rfl)
    · exact absurd (by decide) c1
  | succ n ih =>
    intro σ  H locs ls hn hW hS hl K
    refine lv_iload_n S.1 S.2.1 dX4_goUp_7 rfl (lv_at hl 1 rfl) ?_
    refine lv_if_lt (tgt := 29) S.1 S.2.1 dX4_goUp_8 (by decide) (fun c1 => ?_) (fun c1 => ?_)
    · exact absurd c1 (by rw [nI_pred]; exact nI_pos (by omega))
    · refine lv_aload_n S.1 S.2.1 dX4_goUp_11 rfl (lv_at hl 0 rfl) ?_
      refine lv_aload_n S.1 S.2.1 dX4_goUp_12 rfl (lv_at hl 0 rfl) ?_
      refine al_g_RX4_25 S hK hW dX4_goUp_13 ?_
      refine lv_iload_n S.1 S.2.1 dX4_goUp_16 rfl (lv_at hl 1 rfl) ?_
      refine al_cP (rest := [.ref (ad (5))]) S hK hW (al_X2_get l D cy ad σ 14 (by omega) (nI (n + 1) - 1)) al_mi_X2_get al_ml_RX4_79 rfl (al_rc_R D cy ad _ (i := 14) (by omega)) rfl hl.1 rfl (Nat.le_of_ble_eq_true rfl) dX4_goUp_17 ⟨Nat.le_of_ble_eq_true rfl, Nat.le_of_ble_eq_true rfl⟩ ⟨Nat.zero_le _, Nat.zero_le _⟩ ?_
      refine W.eq (g2 := F0 m 20 ls [.int (al_rg (σ.1 14) (nI (n + 1) - 1)), .ref (ad (5))]) rfl ?_
      refine al_cS (rest := []) S hK hW hS (al_X4_measure l D cy ad σ (al_rg (σ.1 14) (nI (n + 1) - 1))) al_mi_X4_measure al_ml_RX4_86 rfl (al_rc_4 D cy ad _) rfl hl.1 rfl (Nat.le_of_ble_eq_true rfl) dX4_goUp_20 ⟨Nat.le_of_ble_eq_true rfl, Nat.le_of_ble_eq_true rfl⟩ ⟨Nat.zero_le _, Nat.zero_le _⟩ (fun H locs hW hS => ?_)
      refine W.eq (g2 := F0 m 23 ls []) rfl ?_
      refine lv_iinc (k := 1) (v := nI n - 1) (lv' := [(1, .int (nI n - 1)), (0, .ref (ad (5)))]) S.1 S.2.1 dX4_goUp_23 hl rfl (al_decm n) (by decide) rfl (fun ls hl => ?_)
      refine lv_goto (tgt := 7) S.1 S.2.1 dX4_goUp_26 (by decide) ?_
      exact ih (al_measure σ (al_rg (σ.1 14) (nI (n + 1) - 1)))  _ _ _ (by omega) hW hS (lv_sub hl [1, 0] rfl) (fun σ'  H locs ls e9 hW hS hl => K σ'  H locs ls (by simp only [al_upL, if_neg (c1)]; exact e9) hW hS hl)
theorem al_mv_X4_goUp : al_mv yX4_goUp cX4_goUp 2 none 0 := ⟨al_c_X4_goUp, al_ini_RX4, ⟨by decide +kernel, by decide +kernel, by decide +kernel⟩, by decide +kernel⟩
theorem al_mi_X4_goUp : al_mi yX4_goUp cX4_goUp 2 none 0 := ⟨al_mv_X4_goUp, al_in_X4_goUp, al_se_X4_goUp⟩
set_option maxHeartbeats 4000000 in
set_option maxRecDepth 100000 in
theorem al_X4_goUp (l : Launch) (D : va_G) (cy : al_CY) (ad : Nat → Nat) (σ : al_St) (hP : σ.2.2.1 9 = nI (σ.2.2.1 9).toNatClampNeg) (h9 : (σ.2.2.1 9).toNatClampNeg ≤ 9000) : al_MS l yX4_goUp cX4_goUp 2 none 2 48 D cy ad σ [.ref (ad (5))] none (al_goUp σ) := by
  refine al_met al_mv_X4_goUp (Nat.le_of_ble_eq_true rfl) ?_
  intro p e s m args below meth c ls S hr hlocks hK hW hS hl
  have hl : lv_has ls 2 [(0, .ref (ad (5)))] := hl
  refine lv_aload_n S.1 S.2.1 dX4_goUp_0 rfl (lv_at hl 0 rfl) ?_
  refine al_g_RX4_49 S hK hW dX4_goUp_1 ?_
  refine lv_iconst (v := 1) S.1 S.2.1 dX4_goUp_4 (by decide) ?_
  refine lv_isub S.1 S.2.1 dX4_goUp_5 ?_
  refine lv_istore_n (lv' := [(1, .int ((σ.2.2.1 9) - 1)), (0, .ref (ad (5)))]) S.1 S.2.1 dX4_goUp_6 rfl hl (by decide) rfl (fun ls hl => ?_)
  rw [hP] at hl
  refine al_lp_X4_up l D cy ad  S hK ((σ.2.2.1 9).toNatClampNeg) σ  _ _ _ h9 hW hS (lv_sub hl [1, 0] rfl) (fun σ1 H locs ls e2 hW hS hl => ?_)
  exact W.vret S.1 S.2.1 hr (fun t9 ht9 _ => ⟨rfl, by rw [ht9]; exact (al_He hW (by simp only [al_goUp, e2])), hS.F ht9⟩) hS.2.2 dX4_goUp_29
set_option maxHeartbeats 4000000 in
set_option maxRecDepth 100000 in
theorem al_lp_X4_top {p : Program} {e : Env} {s : State} {m : MethodId} {args : Array Value} {below : List Frame} {meth : Method} {c : Code} {Q : State → Prop} (l : Launch) (D : va_G) (cy : al_CY) (ad : Nat → Nat) (S : CallFix p m c cX4_findTops 5 s args al_G RX4) (hK : va_K D vwCl (al_tys cy) s) {H0 : Heap} : ∀ (n : Nat) (σ : al_St) (k : Nat) (H : Heap) (locs : List Loc) (ls : Array Slot), k + n = 90 → al_H D cy ad σ H → va_S (al_A ad) H0 H locs → lv_has ls 5 [(0, .ref (ad (5))), (1, .int (nI k))] → (∀ (σ' : al_St) (H : Heap) (locs : List Loc) (ls : Array Slot), al_topL n k σ = σ' → al_H D cy ad σ' H → va_S (al_A ad) H0 H locs → lv_has ls 5 [(0, .ref (ad (5)))] → W p l e (al_rm 2 42) s m args below meth c H locs 0 0 Q (F0 m 88 ls [])) → W p l e (al_rm 2 42) s m args below meth c H locs 0 0 Q (F0 m 2 ls []) := by
  intro n
  induction n with
  | zero =>
    intro σ k H locs ls hk hW hS hl K
    refine lv_iload_n S.1 S.2.1 dX4_findTops_2 rfl (lv_at hl 1 rfl) ?_
    refine lv_aload_n S.1 S.2.1 dX4_findTops_3 rfl (lv_at hl 0 rfl) ?_
    refine al_g_RX4_49 S hK hW dX4_findTops_4 ?_
    refine lv_icmp_ge (tgt := 88) S.1 S.2.1 dX4_findTops_7 (by decide) (fun c1 => ?_) (fun c1 => ?_)
    · exact K σ  _ _ _ (by simp only [al_topL, al_top1, if_pos (c1)]) hW hS (lv_sub hl [0] rfl)
    · refine lv_iload_n S.1 S.2.1 dX4_findTops_10 rfl (lv_at hl 1 rfl) ?_
      refine lv_bipush (v := 90) S.1 S.2.1 dX4_findTops_11 (by decide) ?_
      refine lv_icmp_ge (tgt := 88) S.1 S.2.1 dX4_findTops_13 (by decide) (fun c2 => ?_) (fun c2 => ?_)
      · exact K σ  _ _ _ (by simp only [al_topL, al_top1, if_neg (c1), if_pos (c2)]) hW hS (lv_sub hl [0] rfl)
      · exact absurd (al_90' (by omega)) c2
  | succ n ih =>
    intro σ k H locs ls hk hW hS hl K
    refine lv_iload_n S.1 S.2.1 dX4_findTops_2 rfl (lv_at hl 1 rfl) ?_
    refine lv_aload_n S.1 S.2.1 dX4_findTops_3 rfl (lv_at hl 0 rfl) ?_
    refine al_g_RX4_49 S hK hW dX4_findTops_4 ?_
    refine lv_icmp_ge (tgt := 88) S.1 S.2.1 dX4_findTops_7 (by decide) (fun c1 => ?_) (fun c1 => ?_)
    · exact K σ  _ _ _ (by simp only [al_topL, al_top1, if_pos (c1)]) hW hS (lv_sub hl [0] rfl)
    · refine lv_iload_n S.1 S.2.1 dX4_findTops_10 rfl (lv_at hl 1 rfl) ?_
      refine lv_bipush (v := 90) S.1 S.2.1 dX4_findTops_11 (by decide) ?_
      refine lv_icmp_ge (tgt := 88) S.1 S.2.1 dX4_findTops_13 (by decide) (fun c2 => ?_) (fun c2 => ?_)
      · exact absurd c2 (al_90 (by omega))
      · refine lv_aload_n S.1 S.2.1 dX4_findTops_16 rfl (lv_at hl 0 rfl) ?_
        refine al_g_RX4_25 S hK hW dX4_findTops_17 ?_
        refine lv_iload_n S.1 S.2.1 dX4_findTops_20 rfl (lv_at hl 1 rfl) ?_
        refine al_cP (rest := []) S hK hW (al_X2_get l D cy ad σ 14 (by omega) (nI k)) al_mi_X2_get al_ml_RX4_79 rfl (al_rc_R D cy ad _ (i := 14) (by omega)) rfl hl.1 rfl (Nat.le_of_ble_eq_true rfl) dX4_findTops_21 ⟨Nat.le_of_ble_eq_true rfl, Nat.le_of_ble_eq_true rfl⟩ ⟨Nat.zero_le _, Nat.zero_le _⟩ ?_
        refine W.eq (g2 := F0 m 24 ls [.int (al_rg (σ.1 14) (nI k))]) rfl ?_
        refine lv_istore_n (lv' := [(2, .int (al_rg (σ.1 14) (nI k))), (0, .ref (ad (5))), (1, .int (nI k))]) S.1 S.2.1 dX4_findTops_24 rfl hl (by decide) rfl (fun ls hl => ?_)
        refine lv_aload_n S.1 S.2.1 dX4_findTops_25 rfl (lv_at hl 1 rfl) ?_
        refine al_g_RX4_9 S hK hW dX4_findTops_26 ?_
        refine lv_iload_n S.1 S.2.1 dX4_findTops_29 rfl (lv_at hl 0 rfl) ?_
        refine al_cP (rest := []) S hK hW (al_X6_parentOf l D cy ad σ 0 (by omega) (al_rg (σ.1 14) (nI k))) al_mi_X6_parentOf al_ml_RX4_75 rfl (al_rc_T D cy ad _ (t := 0) (by omega)) rfl hl.1 rfl (Nat.le_of_ble_eq_true rfl) dX4_findTops_30 ⟨Nat.le_of_ble_eq_true rfl, Nat.le_of_ble_eq_true rfl⟩ ⟨Nat.zero_le _, Nat.zero_le _⟩ ?_
        refine W.eq (g2 := F0 m 33 ls [.int (al_rg (σ.1 (2 * 0)) (al_rg (σ.1 14) (nI k)))]) rfl ?_
        refine lv_istore_n (lv' := [(3, .int (al_rg (σ.1 (2 * 0)) (al_rg (σ.1 14) (nI k)))), (2, .int (al_rg (σ.1 14) (nI k))), (0, .ref (ad (5))), (1, .int (nI k))]) S.1 S.2.1 dX4_findTops_33 rfl hl (by decide) rfl (fun ls hl => ?_)
        refine lv_iload_n S.1 S.2.1 dX4_findTops_34 rfl (lv_at hl 1 rfl) ?_
        refine lv_if_eq (tgt := 54) S.1 S.2.1 dX4_findTops_35 (by decide) (fun c3 => ?_) (fun c3 => ?_)
        · refine lv_iconst (v := 0) S.1 S.2.1 dX4_findTops_54 (by decide) ?_
          refine lv_istore (lv' := [(4, .int 0), (3, .int (al_rg (σ.1 (2 * 0)) (al_rg (σ.1 14) (nI k)))), (2, .int (al_rg (σ.1 14) (nI k))), (0, .ref (ad (5))), (1, .int (nI k))]) S.1 S.2.1 dX4_findTops_55 hl (by decide) rfl (fun ls hl => ?_)
          refine lv_aload_n S.1 S.2.1 dX4_findTops_57 rfl (lv_at hl 3 rfl) ?_
          refine al_g_RX4_43 S hK hW dX4_findTops_58 ?_
          refine lv_iload_n S.1 S.2.1 dX4_findTops_61 rfl (lv_at hl 2 rfl) ?_
          refine lv_iload S.1 S.2.1 dX4_findTops_62 (lv_at hl 0 rfl) ?_
          refine lv_if_eq (tgt := 78) S.1 S.2.1 dX4_findTops_64 (by decide) (fun c4 => ?_) (fun c4 => ?_)
          · refine lv_iload_n S.1 S.2.1 dX4_findTops_78 rfl (lv_at hl 2 rfl) ?_
            refine al_cS (rest := []) S hK hW hS (al_X2_set l D cy ad σ 20 (by omega) (al_rg (σ.1 14) (nI k)) (al_rg (σ.1 14) (nI k))) al_mi_X2_set al_ml_RX4_82 rfl (al_rc_R D cy ad _ (i := 20) (by omega)) rfl hl.1 rfl (Nat.le_of_ble_eq_true rfl) dX4_findTops_79 ⟨Nat.le_of_ble_eq_true rfl, Nat.le_of_ble_eq_true rfl⟩ ⟨Nat.zero_le _, Nat.zero_le _⟩ (fun H locs hW hS => ?_)
            refine W.eq (g2 := F0 m 82 ls []) rfl ?_
            refine lv_iinc (k := 4) (v := nI (k + 1)) (lv' := [(1, .int (nI (k + 1))), (4, .int 0), (3, .int (al_rg (σ.1 (2 * 0)) (al_rg (σ.1 14) (nI k)))), (2, .int (al_rg (σ.1 14) (nI k))), (0, .ref (ad (5)))]) S.1 S.2.1 dX4_findTops_82 hl rfl (al_inc k) (by decide) rfl (fun ls hl => ?_)
            refine lv_goto (tgt := 2) S.1 S.2.1 dX4_findTops_85 (by decide) ?_
            exact ih (al_set σ 20 (al_rg (σ.1 14) (nI k)) (al_rg (σ.1 14) (nI k))) (k + 1) _ _ _ (by omega) hW hS (lv_sub hl [4, 0] rfl) (fun σ'  H locs ls e9 hW hS hl => K σ'  H locs ls (by simp only [al_topL, al_top1, if_neg (c1), if_neg (c2), if_pos (c3), if_pos (c4)]; exact e9) hW hS hl)
          · exact absurd (by decide) c4
        · refine lv_aload_n S.1 S.2.1 dX4_findTops_38 rfl (lv_at hl 2 rfl) ?_
          refine al_g_RX4_40 S hK hW dX4_findTops_39 ?_
          refine lv_iload_n S.1 S.2.1 dX4_findTops_42 rfl (lv_at hl 0 rfl) ?_
          refine al_cP (rest := []) S hK hW (al_X2_get l D cy ad σ 19 (by omega) (al_rg (σ.1 (2 * 0)) (al_rg (σ.1 14) (nI k)))) al_mi_X2_get al_ml_RX4_79 rfl (al_rc_R D cy ad _ (i := 19) (by omega)) rfl hl.1 rfl (Nat.le_of_ble_eq_true rfl) dX4_findTops_43 ⟨Nat.le_of_ble_eq_true rfl, Nat.le_of_ble_eq_true rfl⟩ ⟨Nat.zero_le _, Nat.zero_le _⟩ ?_
          refine W.eq (g2 := F0 m 46 ls [.int (al_rg (σ.1 19) (al_rg (σ.1 (2 * 0)) (al_rg (σ.1 14) (nI k))))]) rfl ?_
          refine lv_iload_n S.1 S.2.1 dX4_findTops_46 rfl (lv_at hl 1 rfl) ?_
          refine lv_icmp_ne (tgt := 54) S.1 S.2.1 dX4_findTops_47 (by decide) (fun c5 => ?_) (fun c5 => ?_)
          · refine lv_iconst (v := 0) S.1 S.2.1 dX4_findTops_54 (by decide) ?_
            refine lv_istore (lv' := [(4, .int 0), (3, .int (al_rg (σ.1 (2 * 0)) (al_rg (σ.1 14) (nI k)))), (2, .int (al_rg (σ.1 14) (nI k))), (0, .ref (ad (5))), (1, .int (nI k))]) S.1 S.2.1 dX4_findTops_55 hl (by decide) rfl (fun ls hl => ?_)
            refine lv_aload_n S.1 S.2.1 dX4_findTops_57 rfl (lv_at hl 3 rfl) ?_
            refine al_g_RX4_43 S hK hW dX4_findTops_58 ?_
            refine lv_iload_n S.1 S.2.1 dX4_findTops_61 rfl (lv_at hl 2 rfl) ?_
            refine lv_iload S.1 S.2.1 dX4_findTops_62 (lv_at hl 0 rfl) ?_
            refine lv_if_eq (tgt := 78) S.1 S.2.1 dX4_findTops_64 (by decide) (fun c6 => ?_) (fun c6 => ?_)
            · refine lv_iload_n S.1 S.2.1 dX4_findTops_78 rfl (lv_at hl 2 rfl) ?_
              refine al_cS (rest := []) S hK hW hS (al_X2_set l D cy ad σ 20 (by omega) (al_rg (σ.1 14) (nI k)) (al_rg (σ.1 14) (nI k))) al_mi_X2_set al_ml_RX4_82 rfl (al_rc_R D cy ad _ (i := 20) (by omega)) rfl hl.1 rfl (Nat.le_of_ble_eq_true rfl) dX4_findTops_79 ⟨Nat.le_of_ble_eq_true rfl, Nat.le_of_ble_eq_true rfl⟩ ⟨Nat.zero_le _, Nat.zero_le _⟩ (fun H locs hW hS => ?_)
              refine W.eq (g2 := F0 m 82 ls []) rfl ?_
              refine lv_iinc (k := 4) (v := nI (k + 1)) (lv' := [(1, .int (nI (k + 1))), (4, .int 0), (3, .int (al_rg (σ.1 (2 * 0)) (al_rg (σ.1 14) (nI k)))), (2, .int (al_rg (σ.1 14) (nI k))), (0, .ref (ad (5)))]) S.1 S.2.1 dX4_findTops_82 hl rfl (al_inc k) (by decide) rfl (fun ls hl => ?_)
              refine lv_goto (tgt := 2) S.1 S.2.1 dX4_findTops_85 (by decide) ?_
              exact ih (al_set σ 20 (al_rg (σ.1 14) (nI k)) (al_rg (σ.1 14) (nI k))) (k + 1) _ _ _ (by omega) hW hS (lv_sub hl [4, 0] rfl) (fun σ'  H locs ls e9 hW hS hl => K σ'  H locs ls (by simp only [al_topL, al_top1, if_neg (c1), if_neg (c2), if_neg (c3), if_neg (c5), if_pos (c6)]; exact e9) hW hS hl)
            · exact absurd (by decide) c6
          · refine lv_iconst (v := 1) S.1 S.2.1 dX4_findTops_50 (by decide) ?_
            refine lv_goto (tgt := 55) S.1 S.2.1 dX4_findTops_51 (by decide) ?_
            refine lv_istore (lv' := [(4, .int 1), (3, .int (al_rg (σ.1 (2 * 0)) (al_rg (σ.1 14) (nI k)))), (2, .int (al_rg (σ.1 14) (nI k))), (0, .ref (ad (5))), (1, .int (nI k))]) S.1 S.2.1 dX4_findTops_55 hl (by decide) rfl (fun ls hl => ?_)
            refine lv_aload_n S.1 S.2.1 dX4_findTops_57 rfl (lv_at hl 3 rfl) ?_
            refine al_g_RX4_43 S hK hW dX4_findTops_58 ?_
            refine lv_iload_n S.1 S.2.1 dX4_findTops_61 rfl (lv_at hl 2 rfl) ?_
            refine lv_iload S.1 S.2.1 dX4_findTops_62 (lv_at hl 0 rfl) ?_
            refine lv_if_eq (tgt := 78) S.1 S.2.1 dX4_findTops_64 (by decide) (fun c7 => ?_) (fun c7 => ?_)
            · exact absurd c7 (by decide)
            · refine lv_aload_n S.1 S.2.1 dX4_findTops_67 rfl (lv_at hl 3 rfl) ?_
              refine al_g_RX4_43 S hK hW dX4_findTops_68 ?_
              refine lv_iload_n S.1 S.2.1 dX4_findTops_71 rfl (lv_at hl 1 rfl) ?_
              refine al_cP (rest := [.int (al_rg (σ.1 14) (nI k)), .ref (ad (14 + 2 * 20))]) S hK hW (al_X2_get l D cy ad σ 20 (by omega) (al_rg (σ.1 (2 * 0)) (al_rg (σ.1 14) (nI k)))) al_mi_X2_get al_ml_RX4_79 rfl (al_rc_R D cy ad _ (i := 20) (by omega)) rfl hl.1 rfl (Nat.le_of_ble_eq_true rfl) dX4_findTops_72 ⟨Nat.le_of_ble_eq_true rfl, Nat.le_of_ble_eq_true rfl⟩ ⟨Nat.zero_le _, Nat.zero_le _⟩ ?_
              refine W.eq (g2 := F0 m 75 ls [.int (al_rg (σ.1 20) (al_rg (σ.1 (2 * 0)) (al_rg (σ.1 14) (nI k)))), .int (al_rg (σ.1 14) (nI k)), .ref (ad (14 + 2 * 20))]) rfl ?_
              refine lv_goto (tgt := 79) S.1 S.2.1 dX4_findTops_75 (by decide) ?_
              refine al_cS (rest := []) S hK hW hS (al_X2_set l D cy ad σ 20 (by omega) (al_rg (σ.1 14) (nI k)) (al_rg (σ.1 20) (al_rg (σ.1 (2 * 0)) (al_rg (σ.1 14) (nI k))))) al_mi_X2_set al_ml_RX4_82 rfl (al_rc_R D cy ad _ (i := 20) (by omega)) rfl hl.1 rfl (Nat.le_of_ble_eq_true rfl) dX4_findTops_79 ⟨Nat.le_of_ble_eq_true rfl, Nat.le_of_ble_eq_true rfl⟩ ⟨Nat.zero_le _, Nat.zero_le _⟩ (fun H locs hW hS => ?_)
              refine W.eq (g2 := F0 m 82 ls []) rfl ?_
              refine lv_iinc (k := 4) (v := nI (k + 1)) (lv' := [(1, .int (nI (k + 1))), (4, .int 1), (3, .int (al_rg (σ.1 (2 * 0)) (al_rg (σ.1 14) (nI k)))), (2, .int (al_rg (σ.1 14) (nI k))), (0, .ref (ad (5)))]) S.1 S.2.1 dX4_findTops_82 hl rfl (al_inc k) (by decide) rfl (fun ls hl => ?_)
              refine lv_goto (tgt := 2) S.1 S.2.1 dX4_findTops_85 (by decide) ?_
              exact ih (al_set σ 20 (al_rg (σ.1 14) (nI k)) (al_rg (σ.1 20) (al_rg (σ.1 (2 * 0)) (al_rg (σ.1 14) (nI k))))) (k + 1) _ _ _ (by omega) hW hS (lv_sub hl [4, 0] rfl) (fun σ'  H locs ls e9 hW hS hl => K σ'  H locs ls (by simp only [al_topL, al_top1, if_neg (c1), if_neg (c2), if_neg (c3), if_pos (c5), if_neg (c7)]; exact e9) hW hS hl)
theorem al_mv_X4_findTops : al_mv yX4_findTops cX4_findTops 5 none 0 := ⟨al_c_X4_findTops, al_ini_RX4, ⟨by decide +kernel, by decide +kernel, by decide +kernel⟩, by decide +kernel⟩
theorem al_mi_X4_findTops : al_mi yX4_findTops cX4_findTops 5 none 0 := ⟨al_mv_X4_findTops, al_in_X4_findTops, al_se_X4_findTops⟩
set_option maxHeartbeats 4000000 in
set_option maxRecDepth 100000 in
theorem al_X4_findTops (l : Launch) (D : va_G) (cy : al_CY) (ad : Nat → Nat) (σ : al_St) : al_MS l yX4_findTops cX4_findTops 5 none 2 42 D cy ad σ [.ref (ad (5))] none (al_findTops σ) := by
  refine al_met al_mv_X4_findTops (Nat.le_of_ble_eq_true rfl) ?_
  intro p e s m args below meth c ls S hr hlocks hK hW hS hl
  have hl : lv_has ls 5 [(0, .ref (ad (5)))] := hl
  refine lv_iconst (v := 0) S.1 S.2.1 dX4_findTops_0 (by decide) ?_
  refine lv_istore_n (lv' := [(1, .int 0), (0, .ref (ad (5)))]) S.1 S.2.1 dX4_findTops_1 rfl hl (by decide) rfl (fun ls hl => ?_)
  refine al_lp_X4_top l D cy ad  S hK 90 σ 0 _ _ _ (by omega) hW hS (lv_sub hl [1, 0] rfl) (fun σ1 H locs ls e2 hW hS hl => ?_)
  exact W.vret S.1 S.2.1 hr (fun t9 ht9 _ => ⟨rfl, by rw [ht9]; exact (al_He hW (by simp only [al_findTops, e2])), hS.F ht9⟩) hS.2.2 dX4_findTops_88
theorem al_mv_X4_take : al_mv yX4_take cX4_take 1 none 0 := ⟨al_c_X4_take, al_ini_RX4, ⟨by decide +kernel, by decide +kernel, by decide +kernel⟩, by decide +kernel⟩
theorem al_mi_X4_take : al_mi yX4_take cX4_take 1 none 0 := ⟨al_mv_X4_take, al_in_X4_take, al_se_X4_take⟩
set_option maxHeartbeats 4000000 in
set_option maxRecDepth 100000 in
theorem al_X4_take (l : Launch) (D : va_G) (cy : al_CY) (ad : Nat → Nat) (σ : al_St) : al_MS l yX4_take cX4_take 1 none 3 69 D cy ad σ [.ref (ad (5))] none (al_take σ) := by
  refine al_met al_mv_X4_take (Nat.le_of_ble_eq_true rfl) ?_
  intro p e s m args below meth c ls S hr hlocks hK hW hS hl
  have hl : lv_has ls 1 [(0, .ref (ad (5)))] := hl
  refine lv_aload_n S.1 S.2.1 dX4_take_0 rfl (lv_at hl 0 rfl) ?_
  refine al_cS (rest := []) S hK hW hS (al_X4_linkChildren l D cy ad σ ) al_mi_X4_linkChildren al_ml_RX4_53 rfl (al_rc_4 D cy ad _) rfl hl.1 rfl (Nat.le_of_ble_eq_true rfl) dX4_take_1 ⟨Nat.le_of_ble_eq_true rfl, Nat.le_of_ble_eq_true rfl⟩ ⟨Nat.zero_le _, Nat.zero_le _⟩ (fun H locs hW hS => ?_)
  refine W.eq (g2 := F0 m 4 ls []) rfl ?_
  refine lv_aload_n S.1 S.2.1 dX4_take_4 rfl (lv_at hl 0 rfl) ?_
  refine al_cS (rest := []) S hK hW hS (al_X4_goDown l D cy ad (al_linkC σ) ) al_mi_X4_goDown al_ml_RX4_56 rfl (al_rc_4 D cy ad _) rfl hl.1 rfl (Nat.le_of_ble_eq_true rfl) dX4_take_5 ⟨Nat.le_of_ble_eq_true rfl, Nat.le_of_ble_eq_true rfl⟩ ⟨Nat.zero_le _, Nat.zero_le _⟩ (fun H locs hW hS => ?_)
  refine W.eq (g2 := F0 m 8 ls []) rfl ?_
  refine lv_aload_n S.1 S.2.1 dX4_take_8 rfl (lv_at hl 0 rfl) ?_
  refine al_cS (rest := []) S hK hW hS (al_X4_goUp l D cy ad (al_goDown (al_linkC σ)) (al_pOK_eq (by omega) (al_goDown_P _)).1 (al_pOK_eq (by omega) (al_goDown_P _)).2) al_mi_X4_goUp al_ml_RX4_59 rfl (al_rc_4 D cy ad _) rfl hl.1 rfl (Nat.le_of_ble_eq_true rfl) dX4_take_9 ⟨Nat.le_of_ble_eq_true rfl, Nat.le_of_ble_eq_true rfl⟩ ⟨Nat.zero_le _, Nat.zero_le _⟩ (fun H locs hW hS => ?_)
  refine W.eq (g2 := F0 m 12 ls []) rfl ?_
  refine lv_aload_n S.1 S.2.1 dX4_take_12 rfl (lv_at hl 0 rfl) ?_
  refine al_cS (rest := []) S hK hW hS (al_X4_findTops l D cy ad (al_goUp (al_goDown (al_linkC σ))) ) al_mi_X4_findTops al_ml_RX4_62 rfl (al_rc_4 D cy ad _) rfl hl.1 rfl (Nat.le_of_ble_eq_true rfl) dX4_take_13 ⟨Nat.le_of_ble_eq_true rfl, Nat.le_of_ble_eq_true rfl⟩ ⟨Nat.zero_le _, Nat.zero_le _⟩ (fun H locs hW hS => ?_)
  refine W.eq (g2 := F0 m 16 ls []) rfl ?_
  exact W.vret S.1 S.2.1 hr (fun t9 ht9 _ => ⟨rfl, by rw [ht9]; exact (al_He hW (by simp only [al_take])), hS.F ht9⟩) hS.2.2 dX4_take_16

def al_isLf (σ : al_St) (x : Int32) : Int32 := if al_rg (σ.1 17) x = 0 then 1 else 0
def al_way (σ : al_St) (x : Int32) : Int32 := al_rg (σ.1 16) (al_rg (σ.1 20) x) + 1
def al_lad (σ : al_St) (x : Int32) : Int32 := al_way σ x + al_min (al_way σ x) (al_rg (σ.1 15) (al_rg (σ.1 20) x))
def al_climb (σ : al_St) : Nat → Int32 → Int32
  | 0, a => a
  | n + 1, a => if a = -1 then a else al_climb σ n (al_rg (σ.1 (2 * 0)) a)
def al_cl (σ : al_St) (a x : Int32) : Int32 := al_climb σ x.toNatClampNeg a
theorem al_tn_lt (x : Int32) : x.toNatClampNeg < 2 ^ 31 := by
  have h1 := Int32.toInt_lt x
  have h2 : x.toNatClampNeg = x.toInt.toNat := rfl
  omega
theorem al_le_nI {x : Int32} {k : Nat} (hk : k < 2 ^ 31) : x ≤ nI k ↔ x.toNatClampNeg ≤ k := by
  rw [Int32.le_iff_toInt_le, nI_toInt hk]
  have h2 : x.toNatClampNeg = x.toInt.toNat := rfl
  omega
def al_inB (σ : al_St) (x y : Int32) : Int32 := if al_rg (σ.1 15) x - al_rg (σ.1 15) y < 0 then 0 else if al_cl σ x (al_rg (σ.1 15) x - al_rg (σ.1 15) y) = y then 1 else 0
def al_meetL (σ : al_St) : Nat → Int32 → Int32 → Int32
  | 0, a, _ => a
  | n + 1, a, b => if a = b then a else al_meetL σ n (al_rg (σ.1 (2 * 0)) a) (al_rg (σ.1 (2 * 0)) b)
def al_meet (σ : al_St) (x y : Int32) : Int32 := al_meetL σ 90 (al_cl σ x (al_rg (σ.1 15) x - al_rg (σ.1 15) y)) (al_cl σ y (al_rg (σ.1 15) y - al_rg (σ.1 15) x))
def al_bc (x : Int32) : Int32 :=
  let a := x - ((x.toUInt32 >>> ((1 : Int32).toUInt32 &&& Int32.toUInt32 31)).toInt32 &&& 1431655765)
  let b := (a &&& 858993459) + ((a.toUInt32 >>> ((2 : Int32).toUInt32 &&& Int32.toUInt32 31)).toInt32 &&& 858993459)
  let c := (b + (b.toUInt32 >>> ((4 : Int32).toUInt32 &&& Int32.toUInt32 31)).toInt32) &&& 252645135
  let d := c + (c.toUInt32 >>> ((8 : Int32).toUInt32 &&& Int32.toUInt32 31)).toInt32
  let f := d + (d.toUInt32 >>> ((16 : Int32).toUInt32 &&& Int32.toUInt32 31)).toInt32
  f &&& 63
def al_looks (σ : al_St) (x y : Int32) : Int32 := if y = 0 then 0 else if al_lad σ x ≤ al_rg (σ.1 16) x + y then (if al_bc (al_rg (σ.1 16) x + y) = 1 then 2 else 3) else 1
def al_cLv (σ : al_St) : Nat → Nat → Int32 → Int32
  | 0, _, a => a
  | n + 1, k, a => if σ.2.2.1 9 ≤ nI k then a else if al_isLf σ (al_rg (σ.1 14) (nI k)) = 0 then al_cLv σ n (k + 1) a else al_cLv σ n (k + 1) (a + 1)
def al_cLd (σ : al_St) : Nat → Nat → Int32 → Int32
  | 0, _, a => a
  | n + 1, k, a => if σ.2.2.1 9 ≤ nI k then a else if al_isLf σ (al_rg (σ.1 14) (nI k)) = 0 then al_cLd σ n (k + 1) a else al_cLd σ n (k + 1) (a + al_lad σ (al_rg (σ.1 14) (nI k)))
def al_jmpL (x : Int32) : Nat → Nat → Int32 → Int32
  | 0, _, a => a
  | n + 1, k, a => if x < (1 : Int32) <<< (nI k &&& 31) then a else al_jmpL x n (k + 1) (a + 1)
def al_cJm (σ : al_St) : Nat → Nat → Int32 → Int32
  | 0, _, a => a
  | n + 1, k, a => if σ.2.2.1 9 ≤ nI k then a else if al_isLf σ (al_rg (σ.1 14) (nI k)) = 0 then al_cJm σ n (k + 1) a else al_cJm σ n (k + 1) (a + al_jmpL (al_rg (σ.1 15) (al_rg (σ.1 14) (nI k))) 7 0 0)
theorem al_6 {n : Nat} (h : n < 7) : ¬ (6 : Int32) < nI n := nI_nlt (a := 6) (b := n) (by omega) (by omega)
theorem al_6' {n : Nat} (h : n = 7) : (6 : Int32) < nI n := by rw [h]; decide
section ALM
variable {p : Program} {l : Launch} {e : Env} {R : Room} {s : State} {m : MethodId} {args : Array Value} {below : List Frame} {meth : Method} {c : Code} {H : Heap} {locs : List Loc} {cells slots : Nat} {Q : State → Prop}
theorem al_mmin {cc : ByteArray} {nL index pc : Nat} {own : String} {ls : Array Slot} {a b : Int32} {rest : List Value} (S : CallFix p m c cc nL s args al_G own) (hsz : ls.size = nL) (hl : Cond.methodLink own index yJ9_min_7cf53 ∈ al_G) (hR : 1 ≤ R.frames) (h2 : (rest.map fun v => v.category).sum + 13 ≤ R.locals) (hc : cells ≤ R.cells) (hs : slots ≤ R.slots) (hdg : decode cc pc = .ok (.invokestatic index, 3)) (kk : W p l e R s m args below meth c H locs cells slots Q (F0 m (pc + 3) ls (.int (al_min a b) :: rest))) : W p l e R s m args below meth c H locs cells slots Q (F0 m pc ls (.int b :: .int a :: rest)) := by
  refine va_mmin S.1 S.2.1 (S.2.2.1.trans hsz.symm) S.2.2.2.1 (S.2.2.2.2 _ hl) (S.2.2.2.2 _ al_st_J9_min_7cf53) (S.2.2.2.2 _ al_ini_RJ9) (S.2.2.2.2 _ al_c_J9_min_7cf53) hR h2 hc hs hdg ?_
  exact kk
end ALM
theorem al_mv_X4_downwardAt : al_mv yX4_downwardAt cX4_downwardAt 2 (some .int) 1 := ⟨al_c_X4_downwardAt, al_ini_RX4, ⟨by decide +kernel, by decide +kernel, by decide +kernel⟩, by decide +kernel⟩
theorem al_mi_X4_downwardAt : al_mi yX4_downwardAt cX4_downwardAt 2 (some .int) 1 := ⟨al_mv_X4_downwardAt, al_in_X4_downwardAt, al_se_X4_downwardAt⟩
set_option maxHeartbeats 4000000 in
set_option maxRecDepth 100000 in
theorem al_X4_downwardAt (l : Launch) (D : va_G) (cy : al_CY) (ad : Nat → Nat) (σ : al_St) (x : Int32) : al_MP l yX4_downwardAt cX4_downwardAt 2 (some .int) 1 21 D cy ad σ [.ref (ad (5)), .int x] (some (.int (al_rg (σ.1 14) x))) := by
  refine al_met al_mv_X4_downwardAt (Nat.le_of_ble_eq_true rfl) ?_
  intro p e s m args below meth c ls S hr hlocks hK hW hS hl
  have hl : lv_has ls 2 [(0, .ref (ad (5))), (1, .int x)] := hl
  refine lv_aload_n S.1 S.2.1 dX4_downwardAt_0 rfl (lv_at hl 0 rfl) ?_
  refine al_g_RX4_25 S hK hW dX4_downwardAt_1 ?_
  refine lv_iload_n S.1 S.2.1 dX4_downwardAt_4 rfl (lv_at hl 1 rfl) ?_
  refine al_cP (rest := []) S hK hW (al_X2_get l D cy ad σ 14 (by omega) x) al_mi_X2_get al_ml_RX4_79 rfl (al_rc_R D cy ad _ (i := 14) (by omega)) rfl hl.1 rfl (Nat.le_of_ble_eq_true rfl) dX4_downwardAt_5 ⟨Nat.le_of_ble_eq_true rfl, Nat.le_of_ble_eq_true rfl⟩ ⟨Nat.zero_le _, Nat.zero_le _⟩ ?_
  refine W.eq (g2 := F0 m 8 ls [.int (al_rg (σ.1 14) x)]) rfl ?_
  exact W.iret S.1 S.2.1 hr (fun t9 ht9 _ => ⟨(congrArg (fun z => Outcome.returned (some (Value.int z))) rfl), ht9⟩) (fun q hq => absurd hq List.not_mem_nil) dX4_downwardAt_8
theorem al_mv_X4_firstChildOf : al_mv yX4_firstChildOf cX4_firstChildOf 2 (some .int) 1 := ⟨al_c_X4_firstChildOf, al_ini_RX4, ⟨by decide +kernel, by decide +kernel, by decide +kernel⟩, by decide +kernel⟩
theorem al_mi_X4_firstChildOf : al_mi yX4_firstChildOf cX4_firstChildOf 2 (some .int) 1 := ⟨al_mv_X4_firstChildOf, al_in_X4_firstChildOf, al_se_X4_firstChildOf⟩
set_option maxHeartbeats 4000000 in
set_option maxRecDepth 100000 in
theorem al_X4_firstChildOf (l : Launch) (D : va_G) (cy : al_CY) (ad : Nat → Nat) (σ : al_St) (x : Int32) : al_MP l yX4_firstChildOf cX4_firstChildOf 2 (some .int) 1 21 D cy ad σ [.ref (ad (5)), .int x] (some (.int (al_rg (σ.1 12) x))) := by
  refine al_met al_mv_X4_firstChildOf (Nat.le_of_ble_eq_true rfl) ?_
  intro p e s m args below meth c ls S hr hlocks hK hW hS hl
  have hl : lv_has ls 2 [(0, .ref (ad (5))), (1, .int x)] := hl
  refine lv_aload_n S.1 S.2.1 dX4_firstChildOf_0 rfl (lv_at hl 0 rfl) ?_
  refine al_g_RX4_18 S hK hW dX4_firstChildOf_1 ?_
  refine lv_iload_n S.1 S.2.1 dX4_firstChildOf_4 rfl (lv_at hl 1 rfl) ?_
  refine al_cP (rest := []) S hK hW (al_X2_get l D cy ad σ 12 (by omega) x) al_mi_X2_get al_ml_RX4_79 rfl (al_rc_R D cy ad _ (i := 12) (by omega)) rfl hl.1 rfl (Nat.le_of_ble_eq_true rfl) dX4_firstChildOf_5 ⟨Nat.le_of_ble_eq_true rfl, Nat.le_of_ble_eq_true rfl⟩ ⟨Nat.zero_le _, Nat.zero_le _⟩ ?_
  refine W.eq (g2 := F0 m 8 ls [.int (al_rg (σ.1 12) x)]) rfl ?_
  exact W.iret S.1 S.2.1 hr (fun t9 ht9 _ => ⟨(congrArg (fun z => Outcome.returned (some (Value.int z))) rfl), ht9⟩) (fun q hq => absurd hq List.not_mem_nil) dX4_firstChildOf_8
theorem al_mv_X4_nextChildOf : al_mv yX4_nextChildOf cX4_nextChildOf 2 (some .int) 1 := ⟨al_c_X4_nextChildOf, al_ini_RX4, ⟨by decide +kernel, by decide +kernel, by decide +kernel⟩, by decide +kernel⟩
theorem al_mi_X4_nextChildOf : al_mi yX4_nextChildOf cX4_nextChildOf 2 (some .int) 1 := ⟨al_mv_X4_nextChildOf, al_in_X4_nextChildOf, al_se_X4_nextChildOf⟩
set_option maxHeartbeats 4000000 in
set_option maxRecDepth 100000 in
theorem al_X4_nextChildOf (l : Launch) (D : va_G) (cy : al_CY) (ad : Nat → Nat) (σ : al_St) (x : Int32) : al_MP l yX4_nextChildOf cX4_nextChildOf 2 (some .int) 1 21 D cy ad σ [.ref (ad (5)), .int x] (some (.int (al_rg (σ.1 13) x))) := by
  refine al_met al_mv_X4_nextChildOf (Nat.le_of_ble_eq_true rfl) ?_
  intro p e s m args below meth c ls S hr hlocks hK hW hS hl
  have hl : lv_has ls 2 [(0, .ref (ad (5))), (1, .int x)] := hl
  refine lv_aload_n S.1 S.2.1 dX4_nextChildOf_0 rfl (lv_at hl 0 rfl) ?_
  refine al_g_RX4_22 S hK hW dX4_nextChildOf_1 ?_
  refine lv_iload_n S.1 S.2.1 dX4_nextChildOf_4 rfl (lv_at hl 1 rfl) ?_
  refine al_cP (rest := []) S hK hW (al_X2_get l D cy ad σ 13 (by omega) x) al_mi_X2_get al_ml_RX4_79 rfl (al_rc_R D cy ad _ (i := 13) (by omega)) rfl hl.1 rfl (Nat.le_of_ble_eq_true rfl) dX4_nextChildOf_5 ⟨Nat.le_of_ble_eq_true rfl, Nat.le_of_ble_eq_true rfl⟩ ⟨Nat.zero_le _, Nat.zero_le _⟩ ?_
  refine W.eq (g2 := F0 m 8 ls [.int (al_rg (σ.1 13) x)]) rfl ?_
  exact W.iret S.1 S.2.1 hr (fun t9 ht9 _ => ⟨(congrArg (fun z => Outcome.returned (some (Value.int z))) rfl), ht9⟩) (fun q hq => absurd hq List.not_mem_nil) dX4_nextChildOf_8
theorem al_mv_X4_depthOf : al_mv yX4_depthOf cX4_depthOf 2 (some .int) 1 := ⟨al_c_X4_depthOf, al_ini_RX4, ⟨by decide +kernel, by decide +kernel, by decide +kernel⟩, by decide +kernel⟩
theorem al_mi_X4_depthOf : al_mi yX4_depthOf cX4_depthOf 2 (some .int) 1 := ⟨al_mv_X4_depthOf, al_in_X4_depthOf, al_se_X4_depthOf⟩
set_option maxHeartbeats 4000000 in
set_option maxRecDepth 100000 in
theorem al_X4_depthOf (l : Launch) (D : va_G) (cy : al_CY) (ad : Nat → Nat) (σ : al_St) (x : Int32) : al_MP l yX4_depthOf cX4_depthOf 2 (some .int) 1 21 D cy ad σ [.ref (ad (5)), .int x] (some (.int (al_rg (σ.1 15) x))) := by
  refine al_met al_mv_X4_depthOf (Nat.le_of_ble_eq_true rfl) ?_
  intro p e s m args below meth c ls S hr hlocks hK hW hS hl
  have hl : lv_has ls 2 [(0, .ref (ad (5))), (1, .int x)] := hl
  refine lv_aload_n S.1 S.2.1 dX4_depthOf_0 rfl (lv_at hl 0 rfl) ?_
  refine al_g_RX4_28 S hK hW dX4_depthOf_1 ?_
  refine lv_iload_n S.1 S.2.1 dX4_depthOf_4 rfl (lv_at hl 1 rfl) ?_
  refine al_cP (rest := []) S hK hW (al_X2_get l D cy ad σ 15 (by omega) x) al_mi_X2_get al_ml_RX4_79 rfl (al_rc_R D cy ad _ (i := 15) (by omega)) rfl hl.1 rfl (Nat.le_of_ble_eq_true rfl) dX4_depthOf_5 ⟨Nat.le_of_ble_eq_true rfl, Nat.le_of_ble_eq_true rfl⟩ ⟨Nat.zero_le _, Nat.zero_le _⟩ ?_
  refine W.eq (g2 := F0 m 8 ls [.int (al_rg (σ.1 15) x)]) rfl ?_
  exact W.iret S.1 S.2.1 hr (fun t9 ht9 _ => ⟨(congrArg (fun z => Outcome.returned (some (Value.int z))) rfl), ht9⟩) (fun q hq => absurd hq List.not_mem_nil) dX4_depthOf_8
theorem al_mv_X4_heightOf : al_mv yX4_heightOf cX4_heightOf 2 (some .int) 1 := ⟨al_c_X4_heightOf, al_ini_RX4, ⟨by decide +kernel, by decide +kernel, by decide +kernel⟩, by decide +kernel⟩
theorem al_mi_X4_heightOf : al_mi yX4_heightOf cX4_heightOf 2 (some .int) 1 := ⟨al_mv_X4_heightOf, al_in_X4_heightOf, al_se_X4_heightOf⟩
set_option maxHeartbeats 4000000 in
set_option maxRecDepth 100000 in
theorem al_X4_heightOf (l : Launch) (D : va_G) (cy : al_CY) (ad : Nat → Nat) (σ : al_St) (x : Int32) : al_MP l yX4_heightOf cX4_heightOf 2 (some .int) 1 21 D cy ad σ [.ref (ad (5)), .int x] (some (.int (al_rg (σ.1 16) x))) := by
  refine al_met al_mv_X4_heightOf (Nat.le_of_ble_eq_true rfl) ?_
  intro p e s m args below meth c ls S hr hlocks hK hW hS hl
  have hl : lv_has ls 2 [(0, .ref (ad (5))), (1, .int x)] := hl
  refine lv_aload_n S.1 S.2.1 dX4_heightOf_0 rfl (lv_at hl 0 rfl) ?_
  refine al_g_RX4_31 S hK hW dX4_heightOf_1 ?_
  refine lv_iload_n S.1 S.2.1 dX4_heightOf_4 rfl (lv_at hl 1 rfl) ?_
  refine al_cP (rest := []) S hK hW (al_X2_get l D cy ad σ 16 (by omega) x) al_mi_X2_get al_ml_RX4_79 rfl (al_rc_R D cy ad _ (i := 16) (by omega)) rfl hl.1 rfl (Nat.le_of_ble_eq_true rfl) dX4_heightOf_5 ⟨Nat.le_of_ble_eq_true rfl, Nat.le_of_ble_eq_true rfl⟩ ⟨Nat.zero_le _, Nat.zero_le _⟩ ?_
  refine W.eq (g2 := F0 m 8 ls [.int (al_rg (σ.1 16) x)]) rfl ?_
  exact W.iret S.1 S.2.1 hr (fun t9 ht9 _ => ⟨(congrArg (fun z => Outcome.returned (some (Value.int z))) rfl), ht9⟩) (fun q hq => absurd hq List.not_mem_nil) dX4_heightOf_8
theorem al_mv_X4_childrenOf : al_mv yX4_childrenOf cX4_childrenOf 2 (some .int) 1 := ⟨al_c_X4_childrenOf, al_ini_RX4, ⟨by decide +kernel, by decide +kernel, by decide +kernel⟩, by decide +kernel⟩
theorem al_mi_X4_childrenOf : al_mi yX4_childrenOf cX4_childrenOf 2 (some .int) 1 := ⟨al_mv_X4_childrenOf, al_in_X4_childrenOf, al_se_X4_childrenOf⟩
set_option maxHeartbeats 4000000 in
set_option maxRecDepth 100000 in
theorem al_X4_childrenOf (l : Launch) (D : va_G) (cy : al_CY) (ad : Nat → Nat) (σ : al_St) (x : Int32) : al_MP l yX4_childrenOf cX4_childrenOf 2 (some .int) 1 21 D cy ad σ [.ref (ad (5)), .int x] (some (.int (al_rg (σ.1 17) x))) := by
  refine al_met al_mv_X4_childrenOf (Nat.le_of_ble_eq_true rfl) ?_
  intro p e s m args below meth c ls S hr hlocks hK hW hS hl
  have hl : lv_has ls 2 [(0, .ref (ad (5))), (1, .int x)] := hl
  refine lv_aload_n S.1 S.2.1 dX4_childrenOf_0 rfl (lv_at hl 0 rfl) ?_
  refine al_g_RX4_34 S hK hW dX4_childrenOf_1 ?_
  refine lv_iload_n S.1 S.2.1 dX4_childrenOf_4 rfl (lv_at hl 1 rfl) ?_
  refine al_cP (rest := []) S hK hW (al_X2_get l D cy ad σ 17 (by omega) x) al_mi_X2_get al_ml_RX4_79 rfl (al_rc_R D cy ad _ (i := 17) (by omega)) rfl hl.1 rfl (Nat.le_of_ble_eq_true rfl) dX4_childrenOf_5 ⟨Nat.le_of_ble_eq_true rfl, Nat.le_of_ble_eq_true rfl⟩ ⟨Nat.zero_le _, Nat.zero_le _⟩ ?_
  refine W.eq (g2 := F0 m 8 ls [.int (al_rg (σ.1 17) x)]) rfl ?_
  exact W.iret S.1 S.2.1 hr (fun t9 ht9 _ => ⟨(congrArg (fun z => Outcome.returned (some (Value.int z))) rfl), ht9⟩) (fun q hq => absurd hq List.not_mem_nil) dX4_childrenOf_8
theorem al_mv_X4_sizeOf : al_mv yX4_sizeOf cX4_sizeOf 2 (some .int) 1 := ⟨al_c_X4_sizeOf, al_ini_RX4, ⟨by decide +kernel, by decide +kernel, by decide +kernel⟩, by decide +kernel⟩
theorem al_mi_X4_sizeOf : al_mi yX4_sizeOf cX4_sizeOf 2 (some .int) 1 := ⟨al_mv_X4_sizeOf, al_in_X4_sizeOf, al_se_X4_sizeOf⟩
set_option maxHeartbeats 4000000 in
set_option maxRecDepth 100000 in
theorem al_X4_sizeOf (l : Launch) (D : va_G) (cy : al_CY) (ad : Nat → Nat) (σ : al_St) (x : Int32) : al_MP l yX4_sizeOf cX4_sizeOf 2 (some .int) 1 21 D cy ad σ [.ref (ad (5)), .int x] (some (.int (al_rg (σ.1 18) x))) := by
  refine al_met al_mv_X4_sizeOf (Nat.le_of_ble_eq_true rfl) ?_
  intro p e s m args below meth c ls S hr hlocks hK hW hS hl
  have hl : lv_has ls 2 [(0, .ref (ad (5))), (1, .int x)] := hl
  refine lv_aload_n S.1 S.2.1 dX4_sizeOf_0 rfl (lv_at hl 0 rfl) ?_
  refine al_g_RX4_37 S hK hW dX4_sizeOf_1 ?_
  refine lv_iload_n S.1 S.2.1 dX4_sizeOf_4 rfl (lv_at hl 1 rfl) ?_
  refine al_cP (rest := []) S hK hW (al_X2_get l D cy ad σ 18 (by omega) x) al_mi_X2_get al_ml_RX4_79 rfl (al_rc_R D cy ad _ (i := 18) (by omega)) rfl hl.1 rfl (Nat.le_of_ble_eq_true rfl) dX4_sizeOf_5 ⟨Nat.le_of_ble_eq_true rfl, Nat.le_of_ble_eq_true rfl⟩ ⟨Nat.zero_le _, Nat.zero_le _⟩ ?_
  refine W.eq (g2 := F0 m 8 ls [.int (al_rg (σ.1 18) x)]) rfl ?_
  exact W.iret S.1 S.2.1 hr (fun t9 ht9 _ => ⟨(congrArg (fun z => Outcome.returned (some (Value.int z))) rfl), ht9⟩) (fun q hq => absurd hq List.not_mem_nil) dX4_sizeOf_8
theorem al_mv_X4_longChildOf : al_mv yX4_longChildOf cX4_longChildOf 2 (some .int) 1 := ⟨al_c_X4_longChildOf, al_ini_RX4, ⟨by decide +kernel, by decide +kernel, by decide +kernel⟩, by decide +kernel⟩
theorem al_mi_X4_longChildOf : al_mi yX4_longChildOf cX4_longChildOf 2 (some .int) 1 := ⟨al_mv_X4_longChildOf, al_in_X4_longChildOf, al_se_X4_longChildOf⟩
set_option maxHeartbeats 4000000 in
set_option maxRecDepth 100000 in
theorem al_X4_longChildOf (l : Launch) (D : va_G) (cy : al_CY) (ad : Nat → Nat) (σ : al_St) (x : Int32) : al_MP l yX4_longChildOf cX4_longChildOf 2 (some .int) 1 21 D cy ad σ [.ref (ad (5)), .int x] (some (.int (al_rg (σ.1 19) x))) := by
  refine al_met al_mv_X4_longChildOf (Nat.le_of_ble_eq_true rfl) ?_
  intro p e s m args below meth c ls S hr hlocks hK hW hS hl
  have hl : lv_has ls 2 [(0, .ref (ad (5))), (1, .int x)] := hl
  refine lv_aload_n S.1 S.2.1 dX4_longChildOf_0 rfl (lv_at hl 0 rfl) ?_
  refine al_g_RX4_40 S hK hW dX4_longChildOf_1 ?_
  refine lv_iload_n S.1 S.2.1 dX4_longChildOf_4 rfl (lv_at hl 1 rfl) ?_
  refine al_cP (rest := []) S hK hW (al_X2_get l D cy ad σ 19 (by omega) x) al_mi_X2_get al_ml_RX4_79 rfl (al_rc_R D cy ad _ (i := 19) (by omega)) rfl hl.1 rfl (Nat.le_of_ble_eq_true rfl) dX4_longChildOf_5 ⟨Nat.le_of_ble_eq_true rfl, Nat.le_of_ble_eq_true rfl⟩ ⟨Nat.zero_le _, Nat.zero_le _⟩ ?_
  refine W.eq (g2 := F0 m 8 ls [.int (al_rg (σ.1 19) x)]) rfl ?_
  exact W.iret S.1 S.2.1 hr (fun t9 ht9 _ => ⟨(congrArg (fun z => Outcome.returned (some (Value.int z))) rfl), ht9⟩) (fun q hq => absurd hq List.not_mem_nil) dX4_longChildOf_8
theorem al_mv_X4_topOf : al_mv yX4_topOf cX4_topOf 2 (some .int) 1 := ⟨al_c_X4_topOf, al_ini_RX4, ⟨by decide +kernel, by decide +kernel, by decide +kernel⟩, by decide +kernel⟩
theorem al_mi_X4_topOf : al_mi yX4_topOf cX4_topOf 2 (some .int) 1 := ⟨al_mv_X4_topOf, al_in_X4_topOf, al_se_X4_topOf⟩
set_option maxHeartbeats 4000000 in
set_option maxRecDepth 100000 in
theorem al_X4_topOf (l : Launch) (D : va_G) (cy : al_CY) (ad : Nat → Nat) (σ : al_St) (x : Int32) : al_MP l yX4_topOf cX4_topOf 2 (some .int) 1 21 D cy ad σ [.ref (ad (5)), .int x] (some (.int (al_rg (σ.1 20) x))) := by
  refine al_met al_mv_X4_topOf (Nat.le_of_ble_eq_true rfl) ?_
  intro p e s m args below meth c ls S hr hlocks hK hW hS hl
  have hl : lv_has ls 2 [(0, .ref (ad (5))), (1, .int x)] := hl
  refine lv_aload_n S.1 S.2.1 dX4_topOf_0 rfl (lv_at hl 0 rfl) ?_
  refine al_g_RX4_43 S hK hW dX4_topOf_1 ?_
  refine lv_iload_n S.1 S.2.1 dX4_topOf_4 rfl (lv_at hl 1 rfl) ?_
  refine al_cP (rest := []) S hK hW (al_X2_get l D cy ad σ 20 (by omega) x) al_mi_X2_get al_ml_RX4_79 rfl (al_rc_R D cy ad _ (i := 20) (by omega)) rfl hl.1 rfl (Nat.le_of_ble_eq_true rfl) dX4_topOf_5 ⟨Nat.le_of_ble_eq_true rfl, Nat.le_of_ble_eq_true rfl⟩ ⟨Nat.zero_le _, Nat.zero_le _⟩ ?_
  refine W.eq (g2 := F0 m 8 ls [.int (al_rg (σ.1 20) x)]) rfl ?_
  exact W.iret S.1 S.2.1 hr (fun t9 ht9 _ => ⟨(congrArg (fun z => Outcome.returned (some (Value.int z))) rfl), ht9⟩) (fun q hq => absurd hq List.not_mem_nil) dX4_topOf_8
theorem al_mv_X4_footOf : al_mv yX4_footOf cX4_footOf 2 (some .int) 1 := ⟨al_c_X4_footOf, al_ini_RX4, ⟨by decide +kernel, by decide +kernel, by decide +kernel⟩, by decide +kernel⟩
theorem al_mi_X4_footOf : al_mi yX4_footOf cX4_footOf 2 (some .int) 1 := ⟨al_mv_X4_footOf, al_in_X4_footOf, al_se_X4_footOf⟩
set_option maxHeartbeats 4000000 in
set_option maxRecDepth 100000 in
theorem al_X4_footOf (l : Launch) (D : va_G) (cy : al_CY) (ad : Nat → Nat) (σ : al_St) (x : Int32) : al_MP l yX4_footOf cX4_footOf 2 (some .int) 1 21 D cy ad σ [.ref (ad (5)), .int x] (some (.int (al_rg (σ.1 21) x))) := by
  refine al_met al_mv_X4_footOf (Nat.le_of_ble_eq_true rfl) ?_
  intro p e s m args below meth c ls S hr hlocks hK hW hS hl
  have hl : lv_has ls 2 [(0, .ref (ad (5))), (1, .int x)] := hl
  refine lv_aload_n S.1 S.2.1 dX4_footOf_0 rfl (lv_at hl 0 rfl) ?_
  refine al_g_RX4_46 S hK hW dX4_footOf_1 ?_
  refine lv_iload_n S.1 S.2.1 dX4_footOf_4 rfl (lv_at hl 1 rfl) ?_
  refine al_cP (rest := []) S hK hW (al_X2_get l D cy ad σ 21 (by omega) x) al_mi_X2_get al_ml_RX4_79 rfl (al_rc_R D cy ad _ (i := 21) (by omega)) rfl hl.1 rfl (Nat.le_of_ble_eq_true rfl) dX4_footOf_5 ⟨Nat.le_of_ble_eq_true rfl, Nat.le_of_ble_eq_true rfl⟩ ⟨Nat.zero_le _, Nat.zero_le _⟩ ?_
  refine W.eq (g2 := F0 m 8 ls [.int (al_rg (σ.1 21) x)]) rfl ?_
  exact W.iret S.1 S.2.1 hr (fun t9 ht9 _ => ⟨(congrArg (fun z => Outcome.returned (some (Value.int z))) rfl), ht9⟩) (fun q hq => absurd hq List.not_mem_nil) dX4_footOf_8
theorem al_mv_X4_present : al_mv yX4_present cX4_present 1 (some .int) 0 := ⟨al_c_X4_present, al_ini_RX4, ⟨by decide +kernel, by decide +kernel, by decide +kernel⟩, by decide +kernel⟩
theorem al_mi_X4_present : al_mi yX4_present cX4_present 1 (some .int) 0 := ⟨al_mv_X4_present, al_in_X4_present, al_se_X4_present⟩
set_option maxHeartbeats 4000000 in
set_option maxRecDepth 100000 in
theorem al_X4_present (l : Launch) (D : va_G) (cy : al_CY) (ad : Nat → Nat) (σ : al_St) : al_MP l yX4_present cX4_present 1 (some .int) 0 0 D cy ad σ [.ref (ad (5))] (some (.int (σ.2.2.1 9))) := by
  refine al_met al_mv_X4_present (Nat.le_of_ble_eq_true rfl) ?_
  intro p e s m args below meth c ls S hr hlocks hK hW hS hl
  have hl : lv_has ls 1 [(0, .ref (ad (5)))] := hl
  refine lv_aload_n S.1 S.2.1 dX4_present_0 rfl (lv_at hl 0 rfl) ?_
  refine al_g_RX4_49 S hK hW dX4_present_1 ?_
  exact W.iret S.1 S.2.1 hr (fun t9 ht9 _ => ⟨(congrArg (fun z => Outcome.returned (some (Value.int z))) rfl), ht9⟩) (fun q hq => absurd hq List.not_mem_nil) dX4_present_4
theorem al_mv_X4_isLeaf : al_mv yX4_isLeaf cX4_isLeaf 2 (some .boolean) 1 := ⟨al_c_X4_isLeaf, al_ini_RX4, ⟨by decide +kernel, by decide +kernel, by decide +kernel⟩, by decide +kernel⟩
theorem al_mi_X4_isLeaf : al_mi yX4_isLeaf cX4_isLeaf 2 (some .boolean) 1 := ⟨al_mv_X4_isLeaf, al_in_X4_isLeaf, al_se_X4_isLeaf⟩
set_option maxHeartbeats 4000000 in
set_option maxRecDepth 100000 in
theorem al_X4_isLeaf (l : Launch) (D : va_G) (cy : al_CY) (ad : Nat → Nat) (σ : al_St) (x : Int32) : al_MP l yX4_isLeaf cX4_isLeaf 2 (some .boolean) 1 21 D cy ad σ [.ref (ad (5)), .int x] (some (.int (al_isLf σ x))) := by
  refine al_met al_mv_X4_isLeaf (Nat.le_of_ble_eq_true rfl) ?_
  intro p e s m args below meth c ls S hr hlocks hK hW hS hl
  have hl : lv_has ls 2 [(0, .ref (ad (5))), (1, .int x)] := hl
  refine lv_aload_n S.1 S.2.1 dX4_isLeaf_0 rfl (lv_at hl 0 rfl) ?_
  refine al_g_RX4_34 S hK hW dX4_isLeaf_1 ?_
  refine lv_iload_n S.1 S.2.1 dX4_isLeaf_4 rfl (lv_at hl 1 rfl) ?_
  refine al_cP (rest := []) S hK hW (al_X2_get l D cy ad σ 17 (by omega) x) al_mi_X2_get al_ml_RX4_79 rfl (al_rc_R D cy ad _ (i := 17) (by omega)) rfl hl.1 rfl (Nat.le_of_ble_eq_true rfl) dX4_isLeaf_5 ⟨Nat.le_of_ble_eq_true rfl, Nat.le_of_ble_eq_true rfl⟩ ⟨Nat.zero_le _, Nat.zero_le _⟩ ?_
  refine W.eq (g2 := F0 m 8 ls [.int (al_rg (σ.1 17) x)]) rfl ?_
  refine lv_if_ne (tgt := 15) S.1 S.2.1 dX4_isLeaf_8 (by decide) (fun c1 => ?_) (fun c1 => ?_)
  · refine lv_iconst (v := 0) S.1 S.2.1 dX4_isLeaf_15 (by decide) ?_
    exact W.zret S.1 S.2.1 hr rfl (fun t9 ht9 _ => ⟨(congrArg (fun z => Outcome.returned (some (Value.int z))) (by simp only [al_isLf, if_neg (c1)])), ht9⟩) (fun q hq => absurd hq List.not_mem_nil) dX4_isLeaf_16
  · refine lv_iconst (v := 1) S.1 S.2.1 dX4_isLeaf_11 (by decide) ?_
    refine lv_goto (tgt := 16) S.1 S.2.1 dX4_isLeaf_12 (by decide) ?_
    exact W.zret S.1 S.2.1 hr rfl (fun t9 ht9 _ => ⟨(congrArg (fun z => Outcome.returned (some (Value.int z))) (by simp only [al_isLf, if_pos (c1)])), ht9⟩) (fun q hq => absurd hq List.not_mem_nil) dX4_isLeaf_16
theorem al_mv_X4_longWayOf : al_mv yX4_longWayOf cX4_longWayOf 2 (some .int) 1 := ⟨al_c_X4_longWayOf, al_ini_RX4, ⟨by decide +kernel, by decide +kernel, by decide +kernel⟩, by decide +kernel⟩
theorem al_mi_X4_longWayOf : al_mi yX4_longWayOf cX4_longWayOf 2 (some .int) 1 := ⟨al_mv_X4_longWayOf, al_in_X4_longWayOf, al_se_X4_longWayOf⟩
set_option maxHeartbeats 4000000 in
set_option maxRecDepth 100000 in
theorem al_X4_longWayOf (l : Launch) (D : va_G) (cy : al_CY) (ad : Nat → Nat) (σ : al_St) (x : Int32) : al_MP l yX4_longWayOf cX4_longWayOf 2 (some .int) 1 21 D cy ad σ [.ref (ad (5)), .int x] (some (.int (al_way σ x))) := by
  refine al_met al_mv_X4_longWayOf (Nat.le_of_ble_eq_true rfl) ?_
  intro p e s m args below meth c ls S hr hlocks hK hW hS hl
  have hl : lv_has ls 2 [(0, .ref (ad (5))), (1, .int x)] := hl
  refine lv_aload_n S.1 S.2.1 dX4_longWayOf_0 rfl (lv_at hl 0 rfl) ?_
  refine al_g_RX4_31 S hK hW dX4_longWayOf_1 ?_
  refine lv_aload_n S.1 S.2.1 dX4_longWayOf_4 rfl (lv_at hl 0 rfl) ?_
  refine al_g_RX4_43 S hK hW dX4_longWayOf_5 ?_
  refine lv_iload_n S.1 S.2.1 dX4_longWayOf_8 rfl (lv_at hl 1 rfl) ?_
  refine al_cP (rest := [.ref (ad (14 + 2 * 16))]) S hK hW (al_X2_get l D cy ad σ 20 (by omega) x) al_mi_X2_get al_ml_RX4_79 rfl (al_rc_R D cy ad _ (i := 20) (by omega)) rfl hl.1 rfl (Nat.le_of_ble_eq_true rfl) dX4_longWayOf_9 ⟨Nat.le_of_ble_eq_true rfl, Nat.le_of_ble_eq_true rfl⟩ ⟨Nat.zero_le _, Nat.zero_le _⟩ ?_
  refine W.eq (g2 := F0 m 12 ls [.int (al_rg (σ.1 20) x), .ref (ad (14 + 2 * 16))]) rfl ?_
  refine al_cP (rest := []) S hK hW (al_X2_get l D cy ad σ 16 (by omega) (al_rg (σ.1 20) x)) al_mi_X2_get al_ml_RX4_79 rfl (al_rc_R D cy ad _ (i := 16) (by omega)) rfl hl.1 rfl (Nat.le_of_ble_eq_true rfl) dX4_longWayOf_12 ⟨Nat.le_of_ble_eq_true rfl, Nat.le_of_ble_eq_true rfl⟩ ⟨Nat.zero_le _, Nat.zero_le _⟩ ?_
  refine W.eq (g2 := F0 m 15 ls [.int (al_rg (σ.1 16) (al_rg (σ.1 20) x))]) rfl ?_
  refine lv_iconst (v := 1) S.1 S.2.1 dX4_longWayOf_15 (by decide) ?_
  refine lv_iadd S.1 S.2.1 dX4_longWayOf_16 ?_
  exact W.iret S.1 S.2.1 hr (fun t9 ht9 _ => ⟨(congrArg (fun z => Outcome.returned (some (Value.int z))) (by simp only [al_way])), ht9⟩) (fun q hq => absurd hq List.not_mem_nil) dX4_longWayOf_17
theorem al_mv_X4_ladderOf : al_mv yX4_ladderOf cX4_ladderOf 2 (some .int) 1 := ⟨al_c_X4_ladderOf, al_ini_RX4, ⟨by decide +kernel, by decide +kernel, by decide +kernel⟩, by decide +kernel⟩
theorem al_mi_X4_ladderOf : al_mi yX4_ladderOf cX4_ladderOf 2 (some .int) 1 := ⟨al_mv_X4_ladderOf, al_in_X4_ladderOf, al_se_X4_ladderOf⟩
set_option maxHeartbeats 4000000 in
set_option maxRecDepth 100000 in
theorem al_X4_ladderOf (l : Launch) (D : va_G) (cy : al_CY) (ad : Nat → Nat) (σ : al_St) (x : Int32) : al_MP l yX4_ladderOf cX4_ladderOf 2 (some .int) 2 42 D cy ad σ [.ref (ad (5)), .int x] (some (.int (al_lad σ x))) := by
  refine al_met al_mv_X4_ladderOf (Nat.le_of_ble_eq_true rfl) ?_
  intro p e s m args below meth c ls S hr hlocks hK hW hS hl
  have hl : lv_has ls 2 [(0, .ref (ad (5))), (1, .int x)] := hl
  refine lv_aload_n S.1 S.2.1 dX4_ladderOf_0 rfl (lv_at hl 0 rfl) ?_
  refine lv_iload_n S.1 S.2.1 dX4_ladderOf_1 rfl (lv_at hl 1 rfl) ?_
  refine al_cP (rest := []) S hK hW (al_X4_longWayOf l D cy ad σ x) al_mi_X4_longWayOf al_ml_RX4_89 rfl (al_rc_4 D cy ad _) rfl hl.1 rfl (Nat.le_of_ble_eq_true rfl) dX4_ladderOf_2 ⟨Nat.le_of_ble_eq_true rfl, Nat.le_of_ble_eq_true rfl⟩ ⟨Nat.zero_le _, Nat.zero_le _⟩ ?_
  refine W.eq (g2 := F0 m 5 ls [.int (al_way σ x)]) rfl ?_
  refine lv_aload_n S.1 S.2.1 dX4_ladderOf_5 rfl (lv_at hl 0 rfl) ?_
  refine lv_iload_n S.1 S.2.1 dX4_ladderOf_6 rfl (lv_at hl 1 rfl) ?_
  refine al_cP (rest := [.int (al_way σ x)]) S hK hW (al_X4_longWayOf l D cy ad σ x) al_mi_X4_longWayOf al_ml_RX4_89 rfl (al_rc_4 D cy ad _) rfl hl.1 rfl (Nat.le_of_ble_eq_true rfl) dX4_ladderOf_7 ⟨Nat.le_of_ble_eq_true rfl, Nat.le_of_ble_eq_true rfl⟩ ⟨Nat.zero_le _, Nat.zero_le _⟩ ?_
  refine W.eq (g2 := F0 m 10 ls [.int (al_way σ x), .int (al_way σ x)]) rfl ?_
  refine lv_aload_n S.1 S.2.1 dX4_ladderOf_10 rfl (lv_at hl 0 rfl) ?_
  refine al_g_RX4_28 S hK hW dX4_ladderOf_11 ?_
  refine lv_aload_n S.1 S.2.1 dX4_ladderOf_14 rfl (lv_at hl 0 rfl) ?_
  refine al_g_RX4_43 S hK hW dX4_ladderOf_15 ?_
  refine lv_iload_n S.1 S.2.1 dX4_ladderOf_18 rfl (lv_at hl 1 rfl) ?_
  refine al_cP (rest := [.ref (ad (14 + 2 * 15)), .int (al_way σ x), .int (al_way σ x)]) S hK hW (al_X2_get l D cy ad σ 20 (by omega) x) al_mi_X2_get al_ml_RX4_79 rfl (al_rc_R D cy ad _ (i := 20) (by omega)) rfl hl.1 rfl (Nat.le_of_ble_eq_true rfl) dX4_ladderOf_19 ⟨Nat.le_of_ble_eq_true rfl, Nat.le_of_ble_eq_true rfl⟩ ⟨Nat.zero_le _, Nat.zero_le _⟩ ?_
  refine W.eq (g2 := F0 m 22 ls [.int (al_rg (σ.1 20) x), .ref (ad (14 + 2 * 15)), .int (al_way σ x), .int (al_way σ x)]) rfl ?_
  refine al_cP (rest := [.int (al_way σ x), .int (al_way σ x)]) S hK hW (al_X2_get l D cy ad σ 15 (by omega) (al_rg (σ.1 20) x)) al_mi_X2_get al_ml_RX4_79 rfl (al_rc_R D cy ad _ (i := 15) (by omega)) rfl hl.1 rfl (Nat.le_of_ble_eq_true rfl) dX4_ladderOf_22 ⟨Nat.le_of_ble_eq_true rfl, Nat.le_of_ble_eq_true rfl⟩ ⟨Nat.zero_le _, Nat.zero_le _⟩ ?_
  refine W.eq (g2 := F0 m 25 ls [.int (al_rg (σ.1 15) (al_rg (σ.1 20) x)), .int (al_way σ x), .int (al_way σ x)]) rfl ?_
  refine al_mmin S hl.1 al_ml_RX4_92 (rest := [.int (al_way σ x)]) (Nat.le_of_ble_eq_true rfl) (Nat.le_of_ble_eq_true rfl) (Nat.zero_le _) (Nat.zero_le _) dX4_ladderOf_25 ?_
  refine lv_iadd S.1 S.2.1 dX4_ladderOf_28 ?_
  exact W.iret S.1 S.2.1 hr (fun t9 ht9 _ => ⟨(congrArg (fun z => Outcome.returned (some (Value.int z))) (by simp only [al_lad])), ht9⟩) (fun q hq => absurd hq List.not_mem_nil) dX4_ladderOf_29
set_option maxHeartbeats 4000000 in
set_option maxRecDepth 100000 in
theorem al_lp_X4_climb {p : Program} {e : Env} {s : State} {m : MethodId} {args : Array Value} {below : List Frame} {meth : Method} {c : Code} {Q : State → Prop} (l : Launch) (D : va_G) (cy : al_CY) (ad : Nat → Nat) (y : Int32) (S : CallFix p m c cX4_climb 5 s args al_G RX4) (hK : va_K D vwCl (al_tys cy) s) {H : Heap} {locs : List Loc} {σ : al_St} (hW : al_H D cy ad σ H) : ∀ (n : Nat) (k : Nat) (a : Int32) (ls : Array Slot), n + k = y.toNatClampNeg → lv_has ls 5 [(0, .ref (ad (5))), (2, .int y), (3, .int a), (4, .int (nI k))] → (∀ (a' : Int32) (ls : Array Slot), al_climb σ n a = a' → lv_has ls 5 [(0, .ref (ad (5))), (3, .int a')] → W p l e (al_rm 2 42) s m args below meth c H locs 0 0 Q (F0 m 31 ls [])) → W p l e (al_rm 2 42) s m args below meth c H locs 0 0 Q (F0 m 5 ls []) := by
  intro n
  induction n with
  | zero =>
    intro k a ls hk hl K
    refine lv_iload S.1 S.2.1 dX4_climb_5 (lv_at hl 3 rfl) ?_
    refine lv_iload_n S.1 S.2.1 dX4_climb_7 rfl (lv_at hl 1 rfl) ?_
    refine lv_icmp_ge (tgt := 31) S.1 S.2.1 dX4_climb_8 (by decide) (fun c1 => ?_) (fun c1 => ?_)
    · exact K a _ (by simp only [al_climb, if_pos (c1)]) (lv_sub hl [0, 2] rfl)
    · exact absurd ((al_le_nI (Nat.lt_of_le_of_lt (show k ≤ y.toNatClampNeg by omega) (al_tn_lt y))).mpr (by omega)) c1
  | succ n ih =>
    intro k a ls hk hl K
    refine lv_iload S.1 S.2.1 dX4_climb_5 (lv_at hl 3 rfl) ?_
    refine lv_iload_n S.1 S.2.1 dX4_climb_7 rfl (lv_at hl 1 rfl) ?_
    refine lv_icmp_ge (tgt := 31) S.1 S.2.1 dX4_climb_8 (by decide) (fun c1 => ?_) (fun c1 => ?_)
    · exact absurd c1 (fun hc => absurd ((al_le_nI (Nat.lt_of_le_of_lt (show k ≤ y.toNatClampNeg by omega) (al_tn_lt y))).mp hc) (by omega))
    · refine lv_iload_n S.1 S.2.1 dX4_climb_11 rfl (lv_at hl 2 rfl) ?_
      refine lv_iconst (v := -1) S.1 S.2.1 dX4_climb_12 (by decide) ?_
      refine lv_icmp_eq (tgt := 31) S.1 S.2.1 dX4_climb_13 (by decide) (fun c2 => ?_) (fun c2 => ?_)
      · exact K a _ (by simp only [al_climb, if_neg (c1), if_pos (c2)]) (lv_sub hl [0, 2] rfl)
      · refine lv_aload_n S.1 S.2.1 dX4_climb_16 rfl (lv_at hl 0 rfl) ?_
        refine al_g_RX4_9 S hK hW dX4_climb_17 ?_
        refine lv_iload_n S.1 S.2.1 dX4_climb_20 rfl (lv_at hl 2 rfl) ?_
        refine al_cP (rest := []) S hK hW (al_X6_parentOf l D cy ad σ 0 (by omega) a) al_mi_X6_parentOf al_ml_RX4_75 rfl (al_rc_T D cy ad _ (t := 0) (by omega)) rfl hl.1 rfl (Nat.le_of_ble_eq_true rfl) dX4_climb_21 ⟨Nat.le_of_ble_eq_true rfl, Nat.le_of_ble_eq_true rfl⟩ ⟨Nat.zero_le _, Nat.zero_le _⟩ ?_
        refine W.eq (g2 := F0 m 24 ls [.int (al_rg (σ.1 (2 * 0)) a)]) rfl ?_
        refine lv_istore_n (lv' := [(3, .int (al_rg (σ.1 (2 * 0)) a)), (0, .ref (ad (5))), (2, .int y), (4, .int (nI k))]) S.1 S.2.1 dX4_climb_24 rfl hl (by decide) rfl (fun ls hl => ?_)
        refine lv_iinc (k := 3) (v := nI (k + 1)) (lv' := [(4, .int (nI (k + 1))), (3, .int (al_rg (σ.1 (2 * 0)) a)), (0, .ref (ad (5))), (2, .int y)]) S.1 S.2.1 dX4_climb_25 hl rfl (al_inc k) (by decide) rfl (fun ls hl => ?_)
        refine lv_goto (tgt := 5) S.1 S.2.1 dX4_climb_28 (by decide) ?_
        exact ih (k + 1) (al_rg (σ.1 (2 * 0)) a) _ (by omega) (lv_sub hl [2, 3, 1, 0] rfl) (fun a' ls e9 hl => K a' ls (by simp only [al_climb, if_neg (c1), if_neg (c2)]; exact e9) hl)
theorem al_mv_X4_climb : al_mv yX4_climb cX4_climb 5 (some .int) 2 := ⟨al_c_X4_climb, al_ini_RX4, ⟨by decide +kernel, by decide +kernel, by decide +kernel⟩, by decide +kernel⟩
theorem al_mi_X4_climb : al_mi yX4_climb cX4_climb 5 (some .int) 2 := ⟨al_mv_X4_climb, al_in_X4_climb, al_se_X4_climb⟩
set_option maxHeartbeats 4000000 in
set_option maxRecDepth 100000 in
theorem al_X4_climb (l : Launch) (D : va_G) (cy : al_CY) (ad : Nat → Nat) (σ : al_St) (x : Int32) (y : Int32) : al_MP l yX4_climb cX4_climb 5 (some .int) 2 42 D cy ad σ [.ref (ad (5)), .int x, .int y] (some (.int (al_cl σ x y))) := by
  refine al_met al_mv_X4_climb (Nat.le_of_ble_eq_true rfl) ?_
  intro p e s m args below meth c ls S hr hlocks hK hW hS hl
  have hl : lv_has ls 5 [(0, .ref (ad (5))), (1, .int x), (2, .int y)] := hl
  refine lv_iload_n S.1 S.2.1 dX4_climb_0 rfl (lv_at hl 1 rfl) ?_
  refine lv_istore_n (lv' := [(3, .int x), (0, .ref (ad (5))), (1, .int x), (2, .int y)]) S.1 S.2.1 dX4_climb_1 rfl hl (by decide) rfl (fun ls hl => ?_)
  refine lv_iconst (v := 0) S.1 S.2.1 dX4_climb_2 (by decide) ?_
  refine lv_istore (lv' := [(4, .int 0), (3, .int x), (0, .ref (ad (5))), (1, .int x), (2, .int y)]) S.1 S.2.1 dX4_climb_3 hl (by decide) rfl (fun ls hl => ?_)
  refine al_lp_X4_climb l D cy ad y S hK hW y.toNatClampNeg 0 x _ (Nat.add_zero _) (lv_sub hl [2, 4, 1, 0] rfl) (fun a1 ls e2 hl => ?_)
  refine lv_iload_n S.1 S.2.1 dX4_climb_31 rfl (lv_at hl 1 rfl) ?_
  exact W.iret S.1 S.2.1 hr (fun t9 ht9 _ => ⟨(congrArg (fun z => Outcome.returned (some (Value.int z))) (by simp only [al_cl, e2])), ht9⟩) (fun q hq => absurd hq List.not_mem_nil) dX4_climb_32
theorem al_mv_X4_isInBranch : al_mv yX4_isInBranch cX4_isInBranch 4 (some .boolean) 2 := ⟨al_c_X4_isInBranch, al_ini_RX4, ⟨by decide +kernel, by decide +kernel, by decide +kernel⟩, by decide +kernel⟩
theorem al_mi_X4_isInBranch : al_mi yX4_isInBranch cX4_isInBranch 4 (some .boolean) 2 := ⟨al_mv_X4_isInBranch, al_in_X4_isInBranch, al_se_X4_isInBranch⟩
set_option maxHeartbeats 4000000 in
set_option maxRecDepth 100000 in
theorem al_X4_isInBranch (l : Launch) (D : va_G) (cy : al_CY) (ad : Nat → Nat) (σ : al_St) (x : Int32) (y : Int32) : al_MP l yX4_isInBranch cX4_isInBranch 4 (some .boolean) 3 66 D cy ad σ [.ref (ad (5)), .int x, .int y] (some (.int (al_inB σ x y))) := by
  refine al_met al_mv_X4_isInBranch (Nat.le_of_ble_eq_true rfl) ?_
  intro p e s m args below meth c ls S hr hlocks hK hW hS hl
  have hl : lv_has ls 4 [(0, .ref (ad (5))), (1, .int x), (2, .int y)] := hl
  refine lv_aload_n S.1 S.2.1 dX4_isInBranch_0 rfl (lv_at hl 0 rfl) ?_
  refine al_g_RX4_28 S hK hW dX4_isInBranch_1 ?_
  refine lv_iload_n S.1 S.2.1 dX4_isInBranch_4 rfl (lv_at hl 1 rfl) ?_
  refine al_cP (rest := []) S hK hW (al_X2_get l D cy ad σ 15 (by omega) x) al_mi_X2_get al_ml_RX4_79 rfl (al_rc_R D cy ad _ (i := 15) (by omega)) rfl hl.1 rfl (Nat.le_of_ble_eq_true rfl) dX4_isInBranch_5 ⟨Nat.le_of_ble_eq_true rfl, Nat.le_of_ble_eq_true rfl⟩ ⟨Nat.zero_le _, Nat.zero_le _⟩ ?_
  refine W.eq (g2 := F0 m 8 ls [.int (al_rg (σ.1 15) x)]) rfl ?_
  refine lv_aload_n S.1 S.2.1 dX4_isInBranch_8 rfl (lv_at hl 0 rfl) ?_
  refine al_g_RX4_28 S hK hW dX4_isInBranch_9 ?_
  refine lv_iload_n S.1 S.2.1 dX4_isInBranch_12 rfl (lv_at hl 2 rfl) ?_
  refine al_cP (rest := [.int (al_rg (σ.1 15) x)]) S hK hW (al_X2_get l D cy ad σ 15 (by omega) y) al_mi_X2_get al_ml_RX4_79 rfl (al_rc_R D cy ad _ (i := 15) (by omega)) rfl hl.1 rfl (Nat.le_of_ble_eq_true rfl) dX4_isInBranch_13 ⟨Nat.le_of_ble_eq_true rfl, Nat.le_of_ble_eq_true rfl⟩ ⟨Nat.zero_le _, Nat.zero_le _⟩ ?_
  refine W.eq (g2 := F0 m 16 ls [.int (al_rg (σ.1 15) y), .int (al_rg (σ.1 15) x)]) rfl ?_
  refine lv_isub S.1 S.2.1 dX4_isInBranch_16 ?_
  refine lv_istore_n (lv' := [(3, .int ((al_rg (σ.1 15) x) - (al_rg (σ.1 15) y))), (0, .ref (ad (5))), (1, .int x), (2, .int y)]) S.1 S.2.1 dX4_isInBranch_17 rfl hl (by decide) rfl (fun ls hl => ?_)
  refine lv_iload_n S.1 S.2.1 dX4_isInBranch_18 rfl (lv_at hl 0 rfl) ?_
  refine lv_if_lt (tgt := 36) S.1 S.2.1 dX4_isInBranch_19 (by decide) (fun c1 => ?_) (fun c1 => ?_)
  · refine lv_iconst (v := 0) S.1 S.2.1 dX4_isInBranch_36 (by decide) ?_
    exact W.zret S.1 S.2.1 hr rfl (fun t9 ht9 _ => ⟨(congrArg (fun z => Outcome.returned (some (Value.int z))) (by simp only [al_inB, if_pos (c1)])), ht9⟩) (fun q hq => absurd hq List.not_mem_nil) dX4_isInBranch_37
  · refine lv_aload_n S.1 S.2.1 dX4_isInBranch_22 rfl (lv_at hl 1 rfl) ?_
    refine lv_iload_n S.1 S.2.1 dX4_isInBranch_23 rfl (lv_at hl 2 rfl) ?_
    refine lv_iload_n S.1 S.2.1 dX4_isInBranch_24 rfl (lv_at hl 0 rfl) ?_
    refine al_cP (rest := []) S hK hW (al_X4_climb l D cy ad σ x ((al_rg (σ.1 15) x) - (al_rg (σ.1 15) y))) al_mi_X4_climb al_ml_RX4_98 rfl (al_rc_4 D cy ad _) rfl hl.1 rfl (Nat.le_of_ble_eq_true rfl) dX4_isInBranch_25 ⟨Nat.le_of_ble_eq_true rfl, Nat.le_of_ble_eq_true rfl⟩ ⟨Nat.zero_le _, Nat.zero_le _⟩ ?_
    refine W.eq (g2 := F0 m 28 ls [.int (al_cl σ x ((al_rg (σ.1 15) x) - (al_rg (σ.1 15) y)))]) rfl ?_
    refine lv_iload_n S.1 S.2.1 dX4_isInBranch_28 rfl (lv_at hl 3 rfl) ?_
    refine lv_icmp_ne (tgt := 36) S.1 S.2.1 dX4_isInBranch_29 (by decide) (fun c2 => ?_) (fun c2 => ?_)
    · refine lv_iconst (v := 0) S.1 S.2.1 dX4_isInBranch_36 (by decide) ?_
      exact W.zret S.1 S.2.1 hr rfl (fun t9 ht9 _ => ⟨(congrArg (fun z => Outcome.returned (some (Value.int z))) (by simp only [al_inB, if_neg (c1), if_neg (c2)])), ht9⟩) (fun q hq => absurd hq List.not_mem_nil) dX4_isInBranch_37
    · refine lv_iconst (v := 1) S.1 S.2.1 dX4_isInBranch_32 (by decide) ?_
      refine lv_goto (tgt := 37) S.1 S.2.1 dX4_isInBranch_33 (by decide) ?_
      exact W.zret S.1 S.2.1 hr rfl (fun t9 ht9 _ => ⟨(congrArg (fun z => Outcome.returned (some (Value.int z))) (by simp only [al_inB, if_neg (c1), if_pos (c2)])), ht9⟩) (fun q hq => absurd hq List.not_mem_nil) dX4_isInBranch_37
set_option maxHeartbeats 4000000 in
set_option maxRecDepth 100000 in
theorem al_lp_X4_meet {p : Program} {e : Env} {s : State} {m : MethodId} {args : Array Value} {below : List Frame} {meth : Method} {c : Code} {Q : State → Prop} (l : Launch) (D : va_G) (cy : al_CY) (ad : Nat → Nat) (S : CallFix p m c cX4_meetingOf 6 s args al_G RX4) (hK : va_K D vwCl (al_tys cy) s) {H : Heap} {locs : List Loc} {σ : al_St} (hW : al_H D cy ad σ H) : ∀ (n : Nat) (k : Nat) (a : Int32) (b : Int32) (ls : Array Slot), k + n = 90 → lv_has ls 6 [(0, .ref (ad (5))), (3, .int a), (4, .int b), (5, .int (nI k))] → (∀ (a' : Int32) (ls : Array Slot), al_meetL σ n a b = a' → lv_has ls 6 [(0, .ref (ad (5))), (3, .int a')] → W p l e (al_rm 3 66) s m args below meth c H locs 0 0 Q (F0 m 89 ls [])) → W p l e (al_rm 3 66) s m args below meth c H locs 0 0 Q (F0 m 50 ls []) := by
  intro n
  induction n with
  | zero =>
    intro k a b ls hk hl K
    refine lv_iload S.1 S.2.1 dX4_meetingOf_50 (lv_at hl 3 rfl) ?_
    refine lv_bipush (v := 90) S.1 S.2.1 dX4_meetingOf_52 (by decide) ?_
    refine lv_icmp_ge (tgt := 89) S.1 S.2.1 dX4_meetingOf_54 (by decide) (fun c1 => ?_) (fun c1 => ?_)
    · exact K a _ (by simp only [al_meetL, if_pos (c1)]) (lv_sub hl [0, 1] rfl)
    · exact absurd (al_90' (by omega)) c1
  | succ n ih =>
    intro k a b ls hk hl K
    refine lv_iload S.1 S.2.1 dX4_meetingOf_50 (lv_at hl 3 rfl) ?_
    refine lv_bipush (v := 90) S.1 S.2.1 dX4_meetingOf_52 (by decide) ?_
    refine lv_icmp_ge (tgt := 89) S.1 S.2.1 dX4_meetingOf_54 (by decide) (fun c1 => ?_) (fun c1 => ?_)
    · exact absurd c1 (al_90 (by omega))
    · refine lv_iload_n S.1 S.2.1 dX4_meetingOf_57 rfl (lv_at hl 1 rfl) ?_
      refine lv_iload S.1 S.2.1 dX4_meetingOf_58 (lv_at hl 2 rfl) ?_
      refine lv_icmp_eq (tgt := 89) S.1 S.2.1 dX4_meetingOf_60 (by decide) (fun c2 => ?_) (fun c2 => ?_)
      · exact K a _ (by simp only [al_meetL, if_neg (c1), if_pos (c2)]) (lv_sub hl [0, 1] rfl)
      · refine lv_aload_n S.1 S.2.1 dX4_meetingOf_63 rfl (lv_at hl 0 rfl) ?_
        refine al_g_RX4_9 S hK hW dX4_meetingOf_64 ?_
        refine lv_iload_n S.1 S.2.1 dX4_meetingOf_67 rfl (lv_at hl 1 rfl) ?_
        refine al_cP (rest := []) S hK hW (al_X6_parentOf l D cy ad σ 0 (by omega) a) al_mi_X6_parentOf al_ml_RX4_75 rfl (al_rc_T D cy ad _ (t := 0) (by omega)) rfl hl.1 rfl (Nat.le_of_ble_eq_true rfl) dX4_meetingOf_68 ⟨Nat.le_of_ble_eq_true rfl, Nat.le_of_ble_eq_true rfl⟩ ⟨Nat.zero_le _, Nat.zero_le _⟩ ?_
        refine W.eq (g2 := F0 m 71 ls [.int (al_rg (σ.1 (2 * 0)) a)]) rfl ?_
        refine lv_istore_n (lv' := [(3, .int (al_rg (σ.1 (2 * 0)) a)), (0, .ref (ad (5))), (4, .int b), (5, .int (nI k))]) S.1 S.2.1 dX4_meetingOf_71 rfl hl (by decide) rfl (fun ls hl => ?_)
        refine lv_aload_n S.1 S.2.1 dX4_meetingOf_72 rfl (lv_at hl 1 rfl) ?_
        refine al_g_RX4_9 S hK hW dX4_meetingOf_73 ?_
        refine lv_iload S.1 S.2.1 dX4_meetingOf_76 (lv_at hl 2 rfl) ?_
        refine al_cP (rest := []) S hK hW (al_X6_parentOf l D cy ad σ 0 (by omega) b) al_mi_X6_parentOf al_ml_RX4_75 rfl (al_rc_T D cy ad _ (t := 0) (by omega)) rfl hl.1 rfl (Nat.le_of_ble_eq_true rfl) dX4_meetingOf_78 ⟨Nat.le_of_ble_eq_true rfl, Nat.le_of_ble_eq_true rfl⟩ ⟨Nat.zero_le _, Nat.zero_le _⟩ ?_
        refine W.eq (g2 := F0 m 81 ls [.int (al_rg (σ.1 (2 * 0)) b)]) rfl ?_
        refine lv_istore (lv' := [(4, .int (al_rg (σ.1 (2 * 0)) b)), (3, .int (al_rg (σ.1 (2 * 0)) a)), (0, .ref (ad (5))), (5, .int (nI k))]) S.1 S.2.1 dX4_meetingOf_81 hl (by decide) rfl (fun ls hl => ?_)
        refine lv_iinc (k := 3) (v := nI (k + 1)) (lv' := [(5, .int (nI (k + 1))), (4, .int (al_rg (σ.1 (2 * 0)) b)), (3, .int (al_rg (σ.1 (2 * 0)) a)), (0, .ref (ad (5)))]) S.1 S.2.1 dX4_meetingOf_83 hl rfl (al_inc k) (by decide) rfl (fun ls hl => ?_)
        refine lv_goto (tgt := 50) S.1 S.2.1 dX4_meetingOf_86 (by decide) ?_
        exact ih (k + 1) (al_rg (σ.1 (2 * 0)) a) (al_rg (σ.1 (2 * 0)) b) _ (by omega) (lv_sub hl [3, 2, 1, 0] rfl) (fun a' ls e9 hl => K a' ls (by simp only [al_meetL, if_neg (c1), if_neg (c2)]; exact e9) hl)
theorem al_mv_X4_meetingOf : al_mv yX4_meetingOf cX4_meetingOf 6 (some .int) 2 := ⟨al_c_X4_meetingOf, al_ini_RX4, ⟨by decide +kernel, by decide +kernel, by decide +kernel⟩, by decide +kernel⟩
theorem al_mi_X4_meetingOf : al_mi yX4_meetingOf cX4_meetingOf 6 (some .int) 2 := ⟨al_mv_X4_meetingOf, al_in_X4_meetingOf, al_se_X4_meetingOf⟩
set_option maxHeartbeats 4000000 in
set_option maxRecDepth 100000 in
theorem al_X4_meetingOf (l : Launch) (D : va_G) (cy : al_CY) (ad : Nat → Nat) (σ : al_St) (x : Int32) (y : Int32) : al_MP l yX4_meetingOf cX4_meetingOf 6 (some .int) 3 66 D cy ad σ [.ref (ad (5)), .int x, .int y] (some (.int (al_meet σ x y))) := by
  refine al_met al_mv_X4_meetingOf (Nat.le_of_ble_eq_true rfl) ?_
  intro p e s m args below meth c ls S hr hlocks hK hW hS hl
  have hl : lv_has ls 6 [(0, .ref (ad (5))), (1, .int x), (2, .int y)] := hl
  refine lv_aload_n S.1 S.2.1 dX4_meetingOf_0 rfl (lv_at hl 0 rfl) ?_
  refine lv_iload_n S.1 S.2.1 dX4_meetingOf_1 rfl (lv_at hl 1 rfl) ?_
  refine lv_aload_n S.1 S.2.1 dX4_meetingOf_2 rfl (lv_at hl 0 rfl) ?_
  refine al_g_RX4_28 S hK hW dX4_meetingOf_3 ?_
  refine lv_iload_n S.1 S.2.1 dX4_meetingOf_6 rfl (lv_at hl 1 rfl) ?_
  refine al_cP (rest := [.int x, .ref (ad (5))]) S hK hW (al_X2_get l D cy ad σ 15 (by omega) x) al_mi_X2_get al_ml_RX4_79 rfl (al_rc_R D cy ad _ (i := 15) (by omega)) rfl hl.1 rfl (Nat.le_of_ble_eq_true rfl) dX4_meetingOf_7 ⟨Nat.le_of_ble_eq_true rfl, Nat.le_of_ble_eq_true rfl⟩ ⟨Nat.zero_le _, Nat.zero_le _⟩ ?_
  refine W.eq (g2 := F0 m 10 ls [.int (al_rg (σ.1 15) x), .int x, .ref (ad (5))]) rfl ?_
  refine lv_aload_n S.1 S.2.1 dX4_meetingOf_10 rfl (lv_at hl 0 rfl) ?_
  refine al_g_RX4_28 S hK hW dX4_meetingOf_11 ?_
  refine lv_iload_n S.1 S.2.1 dX4_meetingOf_14 rfl (lv_at hl 2 rfl) ?_
  refine al_cP (rest := [.int (al_rg (σ.1 15) x), .int x, .ref (ad (5))]) S hK hW (al_X2_get l D cy ad σ 15 (by omega) y) al_mi_X2_get al_ml_RX4_79 rfl (al_rc_R D cy ad _ (i := 15) (by omega)) rfl hl.1 rfl (Nat.le_of_ble_eq_true rfl) dX4_meetingOf_15 ⟨Nat.le_of_ble_eq_true rfl, Nat.le_of_ble_eq_true rfl⟩ ⟨Nat.zero_le _, Nat.zero_le _⟩ ?_
  refine W.eq (g2 := F0 m 18 ls [.int (al_rg (σ.1 15) y), .int (al_rg (σ.1 15) x), .int x, .ref (ad (5))]) rfl ?_
  refine lv_isub S.1 S.2.1 dX4_meetingOf_18 ?_
  refine al_cP (rest := []) S hK hW (al_X4_climb l D cy ad σ x ((al_rg (σ.1 15) x) - (al_rg (σ.1 15) y))) al_mi_X4_climb al_ml_RX4_98 rfl (al_rc_4 D cy ad _) rfl hl.1 rfl (Nat.le_of_ble_eq_true rfl) dX4_meetingOf_19 ⟨Nat.le_of_ble_eq_true rfl, Nat.le_of_ble_eq_true rfl⟩ ⟨Nat.zero_le _, Nat.zero_le _⟩ ?_
  refine W.eq (g2 := F0 m 22 ls [.int (al_cl σ x ((al_rg (σ.1 15) x) - (al_rg (σ.1 15) y)))]) rfl ?_
  refine lv_istore_n (lv' := [(3, .int (al_cl σ x ((al_rg (σ.1 15) x) - (al_rg (σ.1 15) y)))), (0, .ref (ad (5))), (1, .int x), (2, .int y)]) S.1 S.2.1 dX4_meetingOf_22 rfl hl (by decide) rfl (fun ls hl => ?_)
  refine lv_aload_n S.1 S.2.1 dX4_meetingOf_23 rfl (lv_at hl 1 rfl) ?_
  refine lv_iload_n S.1 S.2.1 dX4_meetingOf_24 rfl (lv_at hl 3 rfl) ?_
  refine lv_aload_n S.1 S.2.1 dX4_meetingOf_25 rfl (lv_at hl 1 rfl) ?_
  refine al_g_RX4_28 S hK hW dX4_meetingOf_26 ?_
  refine lv_iload_n S.1 S.2.1 dX4_meetingOf_29 rfl (lv_at hl 3 rfl) ?_
  refine al_cP (rest := [.int y, .ref (ad (5))]) S hK hW (al_X2_get l D cy ad σ 15 (by omega) y) al_mi_X2_get al_ml_RX4_79 rfl (al_rc_R D cy ad _ (i := 15) (by omega)) rfl hl.1 rfl (Nat.le_of_ble_eq_true rfl) dX4_meetingOf_30 ⟨Nat.le_of_ble_eq_true rfl, Nat.le_of_ble_eq_true rfl⟩ ⟨Nat.zero_le _, Nat.zero_le _⟩ ?_
  refine W.eq (g2 := F0 m 33 ls [.int (al_rg (σ.1 15) y), .int y, .ref (ad (5))]) rfl ?_
  refine lv_aload_n S.1 S.2.1 dX4_meetingOf_33 rfl (lv_at hl 1 rfl) ?_
  refine al_g_RX4_28 S hK hW dX4_meetingOf_34 ?_
  refine lv_iload_n S.1 S.2.1 dX4_meetingOf_37 rfl (lv_at hl 2 rfl) ?_
  refine al_cP (rest := [.int (al_rg (σ.1 15) y), .int y, .ref (ad (5))]) S hK hW (al_X2_get l D cy ad σ 15 (by omega) x) al_mi_X2_get al_ml_RX4_79 rfl (al_rc_R D cy ad _ (i := 15) (by omega)) rfl hl.1 rfl (Nat.le_of_ble_eq_true rfl) dX4_meetingOf_38 ⟨Nat.le_of_ble_eq_true rfl, Nat.le_of_ble_eq_true rfl⟩ ⟨Nat.zero_le _, Nat.zero_le _⟩ ?_
  refine W.eq (g2 := F0 m 41 ls [.int (al_rg (σ.1 15) x), .int (al_rg (σ.1 15) y), .int y, .ref (ad (5))]) rfl ?_
  refine lv_isub S.1 S.2.1 dX4_meetingOf_41 ?_
  refine al_cP (rest := []) S hK hW (al_X4_climb l D cy ad σ y ((al_rg (σ.1 15) y) - (al_rg (σ.1 15) x))) al_mi_X4_climb al_ml_RX4_98 rfl (al_rc_4 D cy ad _) rfl hl.1 rfl (Nat.le_of_ble_eq_true rfl) dX4_meetingOf_42 ⟨Nat.le_of_ble_eq_true rfl, Nat.le_of_ble_eq_true rfl⟩ ⟨Nat.zero_le _, Nat.zero_le _⟩ ?_
  refine W.eq (g2 := F0 m 45 ls [.int (al_cl σ y ((al_rg (σ.1 15) y) - (al_rg (σ.1 15) x)))]) rfl ?_
  refine lv_istore (lv' := [(4, .int (al_cl σ y ((al_rg (σ.1 15) y) - (al_rg (σ.1 15) x)))), (3, .int (al_cl σ x ((al_rg (σ.1 15) x) - (al_rg (σ.1 15) y)))), (0, .ref (ad (5))), (1, .int x), (2, .int y)]) S.1 S.2.1 dX4_meetingOf_45 hl (by decide) rfl (fun ls hl => ?_)
  refine lv_iconst (v := 0) S.1 S.2.1 dX4_meetingOf_47 (by decide) ?_
  refine lv_istore (lv' := [(5, .int 0), (4, .int (al_cl σ y ((al_rg (σ.1 15) y) - (al_rg (σ.1 15) x)))), (3, .int (al_cl σ x ((al_rg (σ.1 15) x) - (al_rg (σ.1 15) y)))), (0, .ref (ad (5))), (1, .int x), (2, .int y)]) S.1 S.2.1 dX4_meetingOf_48 hl (by decide) rfl (fun ls hl => ?_)
  refine al_lp_X4_meet l D cy ad  S hK hW 90 0 (al_cl σ x ((al_rg (σ.1 15) x) - (al_rg (σ.1 15) y))) (al_cl σ y ((al_rg (σ.1 15) y) - (al_rg (σ.1 15) x))) _ (by omega) (lv_sub hl [3, 2, 1, 0] rfl) (fun a1 ls e2 hl => ?_)
  refine lv_iload_n S.1 S.2.1 dX4_meetingOf_89 rfl (lv_at hl 1 rfl) ?_
  exact W.iret S.1 S.2.1 hr (fun t9 ht9 _ => ⟨(congrArg (fun z => Outcome.returned (some (Value.int z))) (by simp only [al_meet, e2])), ht9⟩) (fun q hq => absurd hq List.not_mem_nil) dX4_meetingOf_90
theorem al_mv_J6_bitCount_0f7a4 : al_mv yJ6_bitCount_0f7a4 cJ6_bitCount_0f7a4 1 (some .int) 1 := ⟨al_c_J6_bitCount_0f7a4, al_ini_RJ6, ⟨by decide +kernel, by decide +kernel, by decide +kernel⟩, by decide +kernel⟩
theorem al_ms_J6_bitCount_0f7a4 : al_mst yJ6_bitCount_0f7a4 cJ6_bitCount_0f7a4 1 (some .int) 1 := ⟨al_mv_J6_bitCount_0f7a4, al_st_J6_bitCount_0f7a4⟩
set_option maxHeartbeats 4000000 in
set_option maxRecDepth 100000 in
theorem al_J6_bitCount_0f7a4 (l : Launch) (D : va_G) (cy : al_CY) (ad : Nat → Nat) (σ : al_St) (x : Int32) : al_MP l yJ6_bitCount_0f7a4 cJ6_bitCount_0f7a4 1 (some .int) 0 0 D cy ad σ [.int x] (some (.int (al_bc x))) := by
  refine al_met al_mv_J6_bitCount_0f7a4 (Nat.le_of_ble_eq_true rfl) ?_
  intro p e s m args below meth c ls S hr hlocks hK hW hS hl
  have hl : lv_has ls 1 [(0, .int x)] := hl
  refine lv_iload_n S.1 S.2.1 dJ6_bitCount_0f7a4_0 rfl (lv_at hl 0 rfl) ?_
  refine lv_iload_n S.1 S.2.1 dJ6_bitCount_0f7a4_1 rfl (lv_at hl 0 rfl) ?_
  refine lv_iconst (v := 1) S.1 S.2.1 dJ6_bitCount_0f7a4_2 (by decide) ?_
  refine lv_iushr S.1 S.2.1 dJ6_bitCount_0f7a4_3 rfl ?_
  refine lv_ldcw S.1 S.2.1 S.2.2.2.1 (S.2.2.2.2 _ al_k_RJ6_265) dJ6_bitCount_0f7a4_4 ?_
  refine lv_iand S.1 S.2.1 dJ6_bitCount_0f7a4_7 ?_
  refine lv_isub S.1 S.2.1 dJ6_bitCount_0f7a4_8 ?_
  refine lv_istore_n (lv' := [(0, .int (x - (((x.toUInt32 >>> ((1 : Int32).toUInt32 &&& Int32.toUInt32 31)).toInt32) &&& 1431655765)))]) S.1 S.2.1 dJ6_bitCount_0f7a4_9 rfl hl (by decide) rfl (fun ls hl => ?_)
  refine lv_iload_n S.1 S.2.1 dJ6_bitCount_0f7a4_10 rfl (lv_at hl 0 rfl) ?_
  refine lv_ldcw S.1 S.2.1 S.2.2.2.1 (S.2.2.2.2 _ al_k_RJ6_266) dJ6_bitCount_0f7a4_11 ?_
  refine lv_iand S.1 S.2.1 dJ6_bitCount_0f7a4_14 ?_
  refine lv_iload_n S.1 S.2.1 dJ6_bitCount_0f7a4_15 rfl (lv_at hl 0 rfl) ?_
  refine lv_iconst (v := 2) S.1 S.2.1 dJ6_bitCount_0f7a4_16 (by decide) ?_
  refine lv_iushr S.1 S.2.1 dJ6_bitCount_0f7a4_17 rfl ?_
  refine lv_ldcw S.1 S.2.1 S.2.2.2.1 (S.2.2.2.2 _ al_k_RJ6_266) dJ6_bitCount_0f7a4_18 ?_
  refine lv_iand S.1 S.2.1 dJ6_bitCount_0f7a4_21 ?_
  refine lv_iadd S.1 S.2.1 dJ6_bitCount_0f7a4_22 ?_
  refine lv_istore_n (lv' := [(0, .int (((x - (((x.toUInt32 >>> ((1 : Int32).toUInt32 &&& Int32.toUInt32 31)).toInt32) &&& 1431655765)) &&& 858993459) + ((((x - (((x.toUInt32 >>> ((1 : Int32).toUInt32 &&& Int32.toUInt32 31)).toInt32) &&& 1431655765)).toUInt32 >>> ((2 : Int32).toUInt32 &&& Int32.toUInt32 31)).toInt32) &&& 858993459)))]) S.1 S.2.1 dJ6_bitCount_0f7a4_23 rfl hl (by decide) rfl (fun ls hl => ?_)
  refine lv_iload_n S.1 S.2.1 dJ6_bitCount_0f7a4_24 rfl (lv_at hl 0 rfl) ?_
  refine lv_iload_n S.1 S.2.1 dJ6_bitCount_0f7a4_25 rfl (lv_at hl 0 rfl) ?_
  refine lv_iconst (v := 4) S.1 S.2.1 dJ6_bitCount_0f7a4_26 (by decide) ?_
  refine lv_iushr S.1 S.2.1 dJ6_bitCount_0f7a4_27 rfl ?_
  refine lv_iadd S.1 S.2.1 dJ6_bitCount_0f7a4_28 ?_
  refine lv_ldcw S.1 S.2.1 S.2.2.2.1 (S.2.2.2.2 _ al_k_RJ6_267) dJ6_bitCount_0f7a4_29 ?_
  refine lv_iand S.1 S.2.1 dJ6_bitCount_0f7a4_32 ?_
  refine lv_istore_n (lv' := [(0, .int (((((x - (((x.toUInt32 >>> ((1 : Int32).toUInt32 &&& Int32.toUInt32 31)).toInt32) &&& 1431655765)) &&& 858993459) + ((((x - (((x.toUInt32 >>> ((1 : Int32).toUInt32 &&& Int32.toUInt32 31)).toInt32) &&& 1431655765)).toUInt32 >>> ((2 : Int32).toUInt32 &&& Int32.toUInt32 31)).toInt32) &&& 858993459)) + (((((x - (((x.toUInt32 >>> ((1 : Int32).toUInt32 &&& Int32.toUInt32 31)).toInt32) &&& 1431655765)) &&& 858993459) + ((((x - (((x.toUInt32 >>> ((1 : Int32).toUInt32 &&& Int32.toUInt32 31)).toInt32) &&& 1431655765)).toUInt32 >>> ((2 : Int32).toUInt32 &&& Int32.toUInt32 31)).toInt32) &&& 858993459)).toUInt32 >>> ((4 : Int32).toUInt32 &&& Int32.toUInt32 31)).toInt32)) &&& 252645135))]) S.1 S.2.1 dJ6_bitCount_0f7a4_33 rfl hl (by decide) rfl (fun ls hl => ?_)
  refine lv_iload_n S.1 S.2.1 dJ6_bitCount_0f7a4_34 rfl (lv_at hl 0 rfl) ?_
  refine lv_iload_n S.1 S.2.1 dJ6_bitCount_0f7a4_35 rfl (lv_at hl 0 rfl) ?_
  refine lv_bipush (v := 8) S.1 S.2.1 dJ6_bitCount_0f7a4_36 (by decide) ?_
  refine lv_iushr S.1 S.2.1 dJ6_bitCount_0f7a4_38 rfl ?_
  refine lv_iadd S.1 S.2.1 dJ6_bitCount_0f7a4_39 ?_
  refine lv_istore_n (lv' := [(0, .int ((((((x - (((x.toUInt32 >>> ((1 : Int32).toUInt32 &&& Int32.toUInt32 31)).toInt32) &&& 1431655765)) &&& 858993459) + ((((x - (((x.toUInt32 >>> ((1 : Int32).toUInt32 &&& Int32.toUInt32 31)).toInt32) &&& 1431655765)).toUInt32 >>> ((2 : Int32).toUInt32 &&& Int32.toUInt32 31)).toInt32) &&& 858993459)) + (((((x - (((x.toUInt32 >>> ((1 : Int32).toUInt32 &&& Int32.toUInt32 31)).toInt32) &&& 1431655765)) &&& 858993459) + ((((x - (((x.toUInt32 >>> ((1 : Int32).toUInt32 &&& Int32.toUInt32 31)).toInt32) &&& 1431655765)).toUInt32 >>> ((2 : Int32).toUInt32 &&& Int32.toUInt32 31)).toInt32) &&& 858993459)).toUInt32 >>> ((4 : Int32).toUInt32 &&& Int32.toUInt32 31)).toInt32)) &&& 252645135) + (((((((x - (((x.toUInt32 >>> ((1 : Int32).toUInt32 &&& Int32.toUInt32 31)).toInt32) &&& 1431655765)) &&& 858993459) + ((((x - (((x.toUInt32 >>> ((1 : Int32).toUInt32 &&& Int32.toUInt32 31)).toInt32) &&& 1431655765)).toUInt32 >>> ((2 : Int32).toUInt32 &&& Int32.toUInt32 31)).toInt32) &&& 858993459)) + (((((x - (((x.toUInt32 >>> ((1 : Int32).toUInt32 &&& Int32.toUInt32 31)).toInt32) &&& 1431655765)) &&& 858993459) + ((((x - (((x.toUInt32 >>> ((1 : Int32).toUInt32 &&& Int32.toUInt32 31)).toInt32) &&& 1431655765)).toUInt32 >>> ((2 : Int32).toUInt32 &&& Int32.toUInt32 31)).toInt32) &&& 858993459)).toUInt32 >>> ((4 : Int32).toUInt32 &&& Int32.toUInt32 31)).toInt32)) &&& 252645135).toUInt32 >>> ((8 : Int32).toUInt32 &&& Int32.toUInt32 31)).toInt32)))]) S.1 S.2.1 dJ6_bitCount_0f7a4_40 rfl hl (by decide) rfl (fun ls hl => ?_)
  refine lv_iload_n S.1 S.2.1 dJ6_bitCount_0f7a4_41 rfl (lv_at hl 0 rfl) ?_
  refine lv_iload_n S.1 S.2.1 dJ6_bitCount_0f7a4_42 rfl (lv_at hl 0 rfl) ?_
  refine lv_bipush (v := 16) S.1 S.2.1 dJ6_bitCount_0f7a4_43 (by decide) ?_
  refine lv_iushr S.1 S.2.1 dJ6_bitCount_0f7a4_45 rfl ?_
  refine lv_iadd S.1 S.2.1 dJ6_bitCount_0f7a4_46 ?_
  refine lv_istore_n (lv' := [(0, .int (((((((x - (((x.toUInt32 >>> ((1 : Int32).toUInt32 &&& Int32.toUInt32 31)).toInt32) &&& 1431655765)) &&& 858993459) + ((((x - (((x.toUInt32 >>> ((1 : Int32).toUInt32 &&& Int32.toUInt32 31)).toInt32) &&& 1431655765)).toUInt32 >>> ((2 : Int32).toUInt32 &&& Int32.toUInt32 31)).toInt32) &&& 858993459)) + (((((x - (((x.toUInt32 >>> ((1 : Int32).toUInt32 &&& Int32.toUInt32 31)).toInt32) &&& 1431655765)) &&& 858993459) + ((((x - (((x.toUInt32 >>> ((1 : Int32).toUInt32 &&& Int32.toUInt32 31)).toInt32) &&& 1431655765)).toUInt32 >>> ((2 : Int32).toUInt32 &&& Int32.toUInt32 31)).toInt32) &&& 858993459)).toUInt32 >>> ((4 : Int32).toUInt32 &&& Int32.toUInt32 31)).toInt32)) &&& 252645135) + (((((((x - (((x.toUInt32 >>> ((1 : Int32).toUInt32 &&& Int32.toUInt32 31)).toInt32) &&& 1431655765)) &&& 858993459) + ((((x - (((x.toUInt32 >>> ((1 : Int32).toUInt32 &&& Int32.toUInt32 31)).toInt32) &&& 1431655765)).toUInt32 >>> ((2 : Int32).toUInt32 &&& Int32.toUInt32 31)).toInt32) &&& 858993459)) + (((((x - (((x.toUInt32 >>> ((1 : Int32).toUInt32 &&& Int32.toUInt32 31)).toInt32) &&& 1431655765)) &&& 858993459) + ((((x - (((x.toUInt32 >>> ((1 : Int32).toUInt32 &&& Int32.toUInt32 31)).toInt32) &&& 1431655765)).toUInt32 >>> ((2 : Int32).toUInt32 &&& Int32.toUInt32 31)).toInt32) &&& 858993459)).toUInt32 >>> ((4 : Int32).toUInt32 &&& Int32.toUInt32 31)).toInt32)) &&& 252645135).toUInt32 >>> ((8 : Int32).toUInt32 &&& Int32.toUInt32 31)).toInt32)) + ((((((((x - (((x.toUInt32 >>> ((1 : Int32).toUInt32 &&& Int32.toUInt32 31)).toInt32) &&& 1431655765)) &&& 858993459) + ((((x - (((x.toUInt32 >>> ((1 : Int32).toUInt32 &&& Int32.toUInt32 31)).toInt32) &&& 1431655765)).toUInt32 >>> ((2 : Int32).toUInt32 &&& Int32.toUInt32 31)).toInt32) &&& 858993459)) + (((((x - (((x.toUInt32 >>> ((1 : Int32).toUInt32 &&& Int32.toUInt32 31)).toInt32) &&& 1431655765)) &&& 858993459) + ((((x - (((x.toUInt32 >>> ((1 : Int32).toUInt32 &&& Int32.toUInt32 31)).toInt32) &&& 1431655765)).toUInt32 >>> ((2 : Int32).toUInt32 &&& Int32.toUInt32 31)).toInt32) &&& 858993459)).toUInt32 >>> ((4 : Int32).toUInt32 &&& Int32.toUInt32 31)).toInt32)) &&& 252645135) + (((((((x - (((x.toUInt32 >>> ((1 : Int32).toUInt32 &&& Int32.toUInt32 31)).toInt32) &&& 1431655765)) &&& 858993459) + ((((x - (((x.toUInt32 >>> ((1 : Int32).toUInt32 &&& Int32.toUInt32 31)).toInt32) &&& 1431655765)).toUInt32 >>> ((2 : Int32).toUInt32 &&& Int32.toUInt32 31)).toInt32) &&& 858993459)) + (((((x - (((x.toUInt32 >>> ((1 : Int32).toUInt32 &&& Int32.toUInt32 31)).toInt32) &&& 1431655765)) &&& 858993459) + ((((x - (((x.toUInt32 >>> ((1 : Int32).toUInt32 &&& Int32.toUInt32 31)).toInt32) &&& 1431655765)).toUInt32 >>> ((2 : Int32).toUInt32 &&& Int32.toUInt32 31)).toInt32) &&& 858993459)).toUInt32 >>> ((4 : Int32).toUInt32 &&& Int32.toUInt32 31)).toInt32)) &&& 252645135).toUInt32 >>> ((8 : Int32).toUInt32 &&& Int32.toUInt32 31)).toInt32)).toUInt32 >>> ((16 : Int32).toUInt32 &&& Int32.toUInt32 31)).toInt32)))]) S.1 S.2.1 dJ6_bitCount_0f7a4_47 rfl hl (by decide) rfl (fun ls hl => ?_)
  refine lv_iload_n S.1 S.2.1 dJ6_bitCount_0f7a4_48 rfl (lv_at hl 0 rfl) ?_
  refine lv_bipush (v := 63) S.1 S.2.1 dJ6_bitCount_0f7a4_49 (by decide) ?_
  refine lv_iand S.1 S.2.1 dJ6_bitCount_0f7a4_51 ?_
  exact W.iret S.1 S.2.1 hr (fun t9 ht9 _ => ⟨(congrArg (fun z => Outcome.returned (some (Value.int z))) rfl), ht9⟩) (fun q hq => absurd hq List.not_mem_nil) dJ6_bitCount_0f7a4_52
theorem al_mv_X4_looksFor : al_mv yX4_looksFor cX4_looksFor 4 (some .int) 2 := ⟨al_c_X4_looksFor, al_ini_RX4, ⟨by decide +kernel, by decide +kernel, by decide +kernel⟩, by decide +kernel⟩
theorem al_mi_X4_looksFor : al_mi yX4_looksFor cX4_looksFor 4 (some .int) 2 := ⟨al_mv_X4_looksFor, al_in_X4_looksFor, al_se_X4_looksFor⟩
set_option maxHeartbeats 4000000 in
set_option maxRecDepth 100000 in
theorem al_X4_looksFor (l : Launch) (D : va_G) (cy : al_CY) (ad : Nat → Nat) (σ : al_St) (x : Int32) (y : Int32) : al_MP l yX4_looksFor cX4_looksFor 4 (some .int) 3 63 D cy ad σ [.ref (ad (5)), .int x, .int y] (some (.int (al_looks σ x y))) := by
  refine al_met al_mv_X4_looksFor (Nat.le_of_ble_eq_true rfl) ?_
  intro p e s m args below meth c ls S hr hlocks hK hW hS hl
  have hl : lv_has ls 4 [(0, .ref (ad (5))), (1, .int x), (2, .int y)] := hl
  refine lv_iload_n S.1 S.2.1 dX4_looksFor_0 rfl (lv_at hl 2 rfl) ?_
  refine lv_if_ne (tgt := 6) S.1 S.2.1 dX4_looksFor_1 (by decide) (fun c1 => ?_) (fun c1 => ?_)
  · refine lv_aload_n S.1 S.2.1 dX4_looksFor_6 rfl (lv_at hl 0 rfl) ?_
    refine al_g_RX4_31 S hK hW dX4_looksFor_7 ?_
    refine lv_iload_n S.1 S.2.1 dX4_looksFor_10 rfl (lv_at hl 1 rfl) ?_
    refine al_cP (rest := []) S hK hW (al_X2_get l D cy ad σ 16 (by omega) x) al_mi_X2_get al_ml_RX4_79 rfl (al_rc_R D cy ad _ (i := 16) (by omega)) rfl hl.1 rfl (Nat.le_of_ble_eq_true rfl) dX4_looksFor_11 ⟨Nat.le_of_ble_eq_true rfl, Nat.le_of_ble_eq_true rfl⟩ ⟨Nat.zero_le _, Nat.zero_le _⟩ ?_
    refine W.eq (g2 := F0 m 14 ls [.int (al_rg (σ.1 16) x)]) rfl ?_
    refine lv_iload_n S.1 S.2.1 dX4_looksFor_14 rfl (lv_at hl 2 rfl) ?_
    refine lv_iadd S.1 S.2.1 dX4_looksFor_15 ?_
    refine lv_istore_n (lv' := [(3, .int ((al_rg (σ.1 16) x) + y)), (0, .ref (ad (5))), (1, .int x), (2, .int y)]) S.1 S.2.1 dX4_looksFor_16 rfl hl (by decide) rfl (fun ls hl => ?_)
    refine lv_iload_n S.1 S.2.1 dX4_looksFor_17 rfl (lv_at hl 0 rfl) ?_
    refine lv_aload_n S.1 S.2.1 dX4_looksFor_18 rfl (lv_at hl 1 rfl) ?_
    refine lv_iload_n S.1 S.2.1 dX4_looksFor_19 rfl (lv_at hl 2 rfl) ?_
    refine al_cP (rest := [.int ((al_rg (σ.1 16) x) + y)]) S hK hW (al_X4_ladderOf l D cy ad σ x) al_mi_X4_ladderOf al_ml_RX4_101 rfl (al_rc_4 D cy ad _) rfl hl.1 rfl (Nat.le_of_ble_eq_true rfl) dX4_looksFor_20 ⟨Nat.le_of_ble_eq_true rfl, Nat.le_of_ble_eq_true rfl⟩ ⟨Nat.zero_le _, Nat.zero_le _⟩ ?_
    refine W.eq (g2 := F0 m 23 ls [.int (al_lad σ x), .int ((al_rg (σ.1 16) x) + y)]) rfl ?_
    refine lv_icmp_ge (tgt := 28) S.1 S.2.1 dX4_looksFor_23 (by decide) (fun c2 => ?_) (fun c2 => ?_)
    · refine lv_iload_n S.1 S.2.1 dX4_looksFor_28 rfl (lv_at hl 0 rfl) ?_
      refine al_cPs (rest := []) S hK hW (al_J6_bitCount_0f7a4 l D cy ad σ ((al_rg (σ.1 16) x) + y)) al_ms_J6_bitCount_0f7a4 al_ml_RX4_104 rfl hl.1 rfl (Nat.le_of_ble_eq_true rfl) dX4_looksFor_29 ⟨Nat.le_of_ble_eq_true rfl, Nat.le_of_ble_eq_true rfl⟩ ⟨Nat.zero_le _, Nat.zero_le _⟩ ?_
      refine W.eq (g2 := F0 m 32 ls [.int (al_bc ((al_rg (σ.1 16) x) + y))]) rfl ?_
      refine lv_iconst (v := 1) S.1 S.2.1 dX4_looksFor_32 (by decide) ?_
      refine lv_icmp_ne (tgt := 40) S.1 S.2.1 dX4_looksFor_33 (by decide) (fun c3 => ?_) (fun c3 => ?_)
      · refine lv_iconst (v := 3) S.1 S.2.1 dX4_looksFor_40 (by decide) ?_
        exact W.iret S.1 S.2.1 hr (fun t9 ht9 _ => ⟨(congrArg (fun z => Outcome.returned (some (Value.int z))) (by simp only [al_looks, if_neg (c1), if_pos (c2), if_neg (c3)])), ht9⟩) (fun q hq => absurd hq List.not_mem_nil) dX4_looksFor_41
      · refine lv_iconst (v := 2) S.1 S.2.1 dX4_looksFor_36 (by decide) ?_
        refine lv_goto (tgt := 41) S.1 S.2.1 dX4_looksFor_37 (by decide) ?_
        exact W.iret S.1 S.2.1 hr (fun t9 ht9 _ => ⟨(congrArg (fun z => Outcome.returned (some (Value.int z))) (by simp only [al_looks, if_neg (c1), if_pos (c2), if_pos (c3)])), ht9⟩) (fun q hq => absurd hq List.not_mem_nil) dX4_looksFor_41
    · refine lv_iconst (v := 1) S.1 S.2.1 dX4_looksFor_26 (by decide) ?_
      exact W.iret S.1 S.2.1 hr (fun t9 ht9 _ => ⟨(congrArg (fun z => Outcome.returned (some (Value.int z))) (by simp only [al_looks, if_neg (c1), if_neg (c2)])), ht9⟩) (fun q hq => absurd hq List.not_mem_nil) dX4_looksFor_27
  · refine lv_iconst (v := 0) S.1 S.2.1 dX4_looksFor_4 (by decide) ?_
    exact W.iret S.1 S.2.1 hr (fun t9 ht9 _ => ⟨(congrArg (fun z => Outcome.returned (some (Value.int z))) (by simp only [al_looks, if_pos (c1)])), ht9⟩) (fun q hq => absurd hq List.not_mem_nil) dX4_looksFor_5
set_option maxHeartbeats 4000000 in
set_option maxRecDepth 100000 in
theorem al_lp_X4_countLeaves {p : Program} {e : Env} {s : State} {m : MethodId} {args : Array Value} {below : List Frame} {meth : Method} {c : Code} {Q : State → Prop} (l : Launch) (D : va_G) (cy : al_CY) (ad : Nat → Nat) (S : CallFix p m c cX4_countLeaves 3 s args al_G RX4) (hK : va_K D vwCl (al_tys cy) s) {H : Heap} {locs : List Loc} {σ : al_St} (hW : al_H D cy ad σ H) : ∀ (n : Nat) (k : Nat) (a : Int32) (ls : Array Slot), k + n = 90 → lv_has ls 3 [(0, .ref (ad (5))), (1, .int a), (2, .int (nI k))] → (∀ (a' : Int32) (ls : Array Slot), al_cLv σ n k a = a' → lv_has ls 3 [(0, .ref (ad (5))), (1, .int a')] → W p l e (al_rm 2 42) s m args below meth c H locs 0 0 Q (F0 m 42 ls [])) → W p l e (al_rm 2 42) s m args below meth c H locs 0 0 Q (F0 m 4 ls []) := by
  intro n
  induction n with
  | zero =>
    intro k a ls hk hl K
    refine lv_iload_n S.1 S.2.1 dX4_countLeaves_4 rfl (lv_at hl 2 rfl) ?_
    refine lv_aload_n S.1 S.2.1 dX4_countLeaves_5 rfl (lv_at hl 0 rfl) ?_
    refine al_g_RX4_49 S hK hW dX4_countLeaves_6 ?_
    refine lv_icmp_ge (tgt := 42) S.1 S.2.1 dX4_countLeaves_9 (by decide) (fun c1 => ?_) (fun c1 => ?_)
    · exact K a _ (by simp only [al_cLv, if_pos (c1)]) (lv_sub hl [0, 1] rfl)
    · refine lv_iload_n S.1 S.2.1 dX4_countLeaves_12 rfl (lv_at hl 2 rfl) ?_
      refine lv_bipush (v := 90) S.1 S.2.1 dX4_countLeaves_13 (by decide) ?_
      refine lv_icmp_ge (tgt := 42) S.1 S.2.1 dX4_countLeaves_15 (by decide) (fun c2 => ?_) (fun c2 => ?_)
      · exact K a _ (by simp only [al_cLv, if_neg (c1), if_pos (c2)]) (lv_sub hl [0, 1] rfl)
      · exact absurd (al_90' (by omega)) c2
  | succ n ih =>
    intro k a ls hk hl K
    refine lv_iload_n S.1 S.2.1 dX4_countLeaves_4 rfl (lv_at hl 2 rfl) ?_
    refine lv_aload_n S.1 S.2.1 dX4_countLeaves_5 rfl (lv_at hl 0 rfl) ?_
    refine al_g_RX4_49 S hK hW dX4_countLeaves_6 ?_
    refine lv_icmp_ge (tgt := 42) S.1 S.2.1 dX4_countLeaves_9 (by decide) (fun c1 => ?_) (fun c1 => ?_)
    · exact K a _ (by simp only [al_cLv, if_pos (c1)]) (lv_sub hl [0, 1] rfl)
    · refine lv_iload_n S.1 S.2.1 dX4_countLeaves_12 rfl (lv_at hl 2 rfl) ?_
      refine lv_bipush (v := 90) S.1 S.2.1 dX4_countLeaves_13 (by decide) ?_
      refine lv_icmp_ge (tgt := 42) S.1 S.2.1 dX4_countLeaves_15 (by decide) (fun c2 => ?_) (fun c2 => ?_)
      · exact absurd c2 (al_90 (by omega))
      · refine lv_aload_n S.1 S.2.1 dX4_countLeaves_18 rfl (lv_at hl 0 rfl) ?_
        refine lv_aload_n S.1 S.2.1 dX4_countLeaves_19 rfl (lv_at hl 0 rfl) ?_
        refine al_g_RX4_25 S hK hW dX4_countLeaves_20 ?_
        refine lv_iload_n S.1 S.2.1 dX4_countLeaves_23 rfl (lv_at hl 2 rfl) ?_
        refine al_cP (rest := [.ref (ad (5))]) S hK hW (al_X2_get l D cy ad σ 14 (by omega) (nI k)) al_mi_X2_get al_ml_RX4_79 rfl (al_rc_R D cy ad _ (i := 14) (by omega)) rfl hl.1 rfl (Nat.le_of_ble_eq_true rfl) dX4_countLeaves_24 ⟨Nat.le_of_ble_eq_true rfl, Nat.le_of_ble_eq_true rfl⟩ ⟨Nat.zero_le _, Nat.zero_le _⟩ ?_
        refine W.eq (g2 := F0 m 27 ls [.int (al_rg (σ.1 14) (nI k)), .ref (ad (5))]) rfl ?_
        refine al_cP (rest := []) S hK hW (al_X4_isLeaf l D cy ad σ (al_rg (σ.1 14) (nI k))) al_mi_X4_isLeaf al_ml_RX4_109 rfl (al_rc_4 D cy ad _) rfl hl.1 rfl (Nat.le_of_ble_eq_true rfl) dX4_countLeaves_27 ⟨Nat.le_of_ble_eq_true rfl, Nat.le_of_ble_eq_true rfl⟩ ⟨Nat.zero_le _, Nat.zero_le _⟩ ?_
        refine W.eq (g2 := F0 m 30 ls [.int (al_isLf σ (al_rg (σ.1 14) (nI k)))]) rfl ?_
        refine lv_if_eq (tgt := 36) S.1 S.2.1 dX4_countLeaves_30 (by decide) (fun c3 => ?_) (fun c3 => ?_)
        · refine lv_iinc (k := 2) (v := nI (k + 1)) (lv' := [(2, .int (nI (k + 1))), (0, .ref (ad (5))), (1, .int a)]) S.1 S.2.1 dX4_countLeaves_36 hl rfl (al_inc k) (by decide) rfl (fun ls hl => ?_)
          refine lv_goto (tgt := 4) S.1 S.2.1 dX4_countLeaves_39 (by decide) ?_
          exact ih (k + 1) a _ (by omega) (lv_sub hl [1, 2, 0] rfl) (fun a' ls e9 hl => K a' ls (by simp only [al_cLv, if_neg (c1), if_neg (c2), if_pos (c3)]; exact e9) hl)
        · refine lv_iinc (k := 1) (v := a + 1) (lv' := [(1, .int (a + 1)), (0, .ref (ad (5))), (2, .int (nI k))]) S.1 S.2.1 dX4_countLeaves_33 hl rfl rfl (by decide) rfl (fun ls hl => ?_)
          refine lv_iinc (k := 2) (v := nI (k + 1)) (lv' := [(2, .int (nI (k + 1))), (1, .int (a + 1)), (0, .ref (ad (5)))]) S.1 S.2.1 dX4_countLeaves_36 hl rfl (al_inc k) (by decide) rfl (fun ls hl => ?_)
          refine lv_goto (tgt := 4) S.1 S.2.1 dX4_countLeaves_39 (by decide) ?_
          exact ih (k + 1) (a + 1) _ (by omega) (lv_sub hl [2, 1, 0] rfl) (fun a' ls e9 hl => K a' ls (by simp only [al_cLv, if_neg (c1), if_neg (c2), if_neg (c3)]; exact e9) hl)
theorem al_mv_X4_countLeaves : al_mv yX4_countLeaves cX4_countLeaves 3 (some .int) 0 := ⟨al_c_X4_countLeaves, al_ini_RX4, ⟨by decide +kernel, by decide +kernel, by decide +kernel⟩, by decide +kernel⟩
theorem al_mi_X4_countLeaves : al_mi yX4_countLeaves cX4_countLeaves 3 (some .int) 0 := ⟨al_mv_X4_countLeaves, al_in_X4_countLeaves, al_se_X4_countLeaves⟩
set_option maxHeartbeats 4000000 in
set_option maxRecDepth 100000 in
theorem al_X4_countLeaves (l : Launch) (D : va_G) (cy : al_CY) (ad : Nat → Nat) (σ : al_St) : al_MP l yX4_countLeaves cX4_countLeaves 3 (some .int) 2 42 D cy ad σ [.ref (ad (5))] (some (.int (al_cLv σ 90 0 0))) := by
  refine al_met al_mv_X4_countLeaves (Nat.le_of_ble_eq_true rfl) ?_
  intro p e s m args below meth c ls S hr hlocks hK hW hS hl
  have hl : lv_has ls 3 [(0, .ref (ad (5)))] := hl
  refine lv_iconst (v := 0) S.1 S.2.1 dX4_countLeaves_0 (by decide) ?_
  refine lv_istore_n (lv' := [(1, .int 0), (0, .ref (ad (5)))]) S.1 S.2.1 dX4_countLeaves_1 rfl hl (by decide) rfl (fun ls hl => ?_)
  refine lv_iconst (v := 0) S.1 S.2.1 dX4_countLeaves_2 (by decide) ?_
  refine lv_istore_n (lv' := [(2, .int 0), (1, .int 0), (0, .ref (ad (5)))]) S.1 S.2.1 dX4_countLeaves_3 rfl hl (by decide) rfl (fun ls hl => ?_)
  refine al_lp_X4_countLeaves l D cy ad  S hK hW 90 0 0 _ (by omega) (lv_sub hl [2, 1, 0] rfl) (fun a1 ls e2 hl => ?_)
  refine lv_iload_n S.1 S.2.1 dX4_countLeaves_42 rfl (lv_at hl 1 rfl) ?_
  exact W.iret S.1 S.2.1 hr (fun t9 ht9 _ => ⟨(congrArg (fun z => Outcome.returned (some (Value.int z))) (by simp only [e2])), ht9⟩) (fun q hq => absurd hq List.not_mem_nil) dX4_countLeaves_43
set_option maxHeartbeats 4000000 in
set_option maxRecDepth 100000 in
theorem al_lp_X4_countLadders {p : Program} {e : Env} {s : State} {m : MethodId} {args : Array Value} {below : List Frame} {meth : Method} {c : Code} {Q : State → Prop} (l : Launch) (D : va_G) (cy : al_CY) (ad : Nat → Nat) (S : CallFix p m c cX4_countLadders 4 s args al_G RX4) (hK : va_K D vwCl (al_tys cy) s) {H : Heap} {locs : List Loc} {σ : al_St} (hW : al_H D cy ad σ H) : ∀ (n : Nat) (k : Nat) (a : Int32) (ls : Array Slot), k + n = 90 → lv_has ls 4 [(0, .ref (ad (5))), (1, .int a), (2, .int (nI k))] → (∀ (a' : Int32) (ls : Array Slot), al_cLd σ n k a = a' → lv_has ls 4 [(0, .ref (ad (5))), (1, .int a')] → W p l e (al_rm 3 63) s m args below meth c H locs 0 0 Q (F0 m 49 ls [])) → W p l e (al_rm 3 63) s m args below meth c H locs 0 0 Q (F0 m 4 ls []) := by
  intro n
  induction n with
  | zero =>
    intro k a ls hk hl K
    refine lv_iload_n S.1 S.2.1 dX4_countLadders_4 rfl (lv_at hl 2 rfl) ?_
    refine lv_aload_n S.1 S.2.1 dX4_countLadders_5 rfl (lv_at hl 0 rfl) ?_
    refine al_g_RX4_49 S hK hW dX4_countLadders_6 ?_
    refine lv_icmp_ge (tgt := 49) S.1 S.2.1 dX4_countLadders_9 (by decide) (fun c1 => ?_) (fun c1 => ?_)
    · exact K a _ (by simp only [al_cLd, if_pos (c1)]) (lv_sub hl [0, 1] rfl)
    · refine lv_iload_n S.1 S.2.1 dX4_countLadders_12 rfl (lv_at hl 2 rfl) ?_
      refine lv_bipush (v := 90) S.1 S.2.1 dX4_countLadders_13 (by decide) ?_
      refine lv_icmp_ge (tgt := 49) S.1 S.2.1 dX4_countLadders_15 (by decide) (fun c2 => ?_) (fun c2 => ?_)
      · exact K a _ (by simp only [al_cLd, if_neg (c1), if_pos (c2)]) (lv_sub hl [0, 1] rfl)
      · exact absurd (al_90' (by omega)) c2
  | succ n ih =>
    intro k a ls hk hl K
    refine lv_iload_n S.1 S.2.1 dX4_countLadders_4 rfl (lv_at hl 2 rfl) ?_
    refine lv_aload_n S.1 S.2.1 dX4_countLadders_5 rfl (lv_at hl 0 rfl) ?_
    refine al_g_RX4_49 S hK hW dX4_countLadders_6 ?_
    refine lv_icmp_ge (tgt := 49) S.1 S.2.1 dX4_countLadders_9 (by decide) (fun c1 => ?_) (fun c1 => ?_)
    · exact K a _ (by simp only [al_cLd, if_pos (c1)]) (lv_sub hl [0, 1] rfl)
    · refine lv_iload_n S.1 S.2.1 dX4_countLadders_12 rfl (lv_at hl 2 rfl) ?_
      refine lv_bipush (v := 90) S.1 S.2.1 dX4_countLadders_13 (by decide) ?_
      refine lv_icmp_ge (tgt := 49) S.1 S.2.1 dX4_countLadders_15 (by decide) (fun c2 => ?_) (fun c2 => ?_)
      · exact absurd c2 (al_90 (by omega))
      · refine lv_aload_n S.1 S.2.1 dX4_countLadders_18 rfl (lv_at hl 0 rfl) ?_
        refine al_g_RX4_25 S hK hW dX4_countLadders_19 ?_
        refine lv_iload_n S.1 S.2.1 dX4_countLadders_22 rfl (lv_at hl 2 rfl) ?_
        refine al_cP (rest := []) S hK hW (al_X2_get l D cy ad σ 14 (by omega) (nI k)) al_mi_X2_get al_ml_RX4_79 rfl (al_rc_R D cy ad _ (i := 14) (by omega)) rfl hl.1 rfl (Nat.le_of_ble_eq_true rfl) dX4_countLadders_23 ⟨Nat.le_of_ble_eq_true rfl, Nat.le_of_ble_eq_true rfl⟩ ⟨Nat.zero_le _, Nat.zero_le _⟩ ?_
        refine W.eq (g2 := F0 m 26 ls [.int (al_rg (σ.1 14) (nI k))]) rfl ?_
        refine lv_istore_n (lv' := [(3, .int (al_rg (σ.1 14) (nI k))), (0, .ref (ad (5))), (1, .int a), (2, .int (nI k))]) S.1 S.2.1 dX4_countLadders_26 rfl hl (by decide) rfl (fun ls hl => ?_)
        refine lv_aload_n S.1 S.2.1 dX4_countLadders_27 rfl (lv_at hl 1 rfl) ?_
        refine lv_iload_n S.1 S.2.1 dX4_countLadders_28 rfl (lv_at hl 0 rfl) ?_
        refine al_cP (rest := []) S hK hW (al_X4_isLeaf l D cy ad σ (al_rg (σ.1 14) (nI k))) al_mi_X4_isLeaf al_ml_RX4_109 rfl (al_rc_4 D cy ad _) rfl hl.1 rfl (Nat.le_of_ble_eq_true rfl) dX4_countLadders_29 ⟨Nat.le_of_ble_eq_true rfl, Nat.le_of_ble_eq_true rfl⟩ ⟨Nat.zero_le _, Nat.zero_le _⟩ ?_
        refine W.eq (g2 := F0 m 32 ls [.int (al_isLf σ (al_rg (σ.1 14) (nI k)))]) rfl ?_
        refine lv_if_eq (tgt := 43) S.1 S.2.1 dX4_countLadders_32 (by decide) (fun c3 => ?_) (fun c3 => ?_)
        · refine lv_iinc (k := 3) (v := nI (k + 1)) (lv' := [(2, .int (nI (k + 1))), (3, .int (al_rg (σ.1 14) (nI k))), (0, .ref (ad (5))), (1, .int a)]) S.1 S.2.1 dX4_countLadders_43 hl rfl (al_inc k) (by decide) rfl (fun ls hl => ?_)
          refine lv_goto (tgt := 4) S.1 S.2.1 dX4_countLadders_46 (by decide) ?_
          exact ih (k + 1) a _ (by omega) (lv_sub hl [2, 3, 0] rfl) (fun a' ls e9 hl => K a' ls (by simp only [al_cLd, if_neg (c1), if_neg (c2), if_pos (c3)]; exact e9) hl)
        · refine lv_iload_n S.1 S.2.1 dX4_countLadders_35 rfl (lv_at hl 2 rfl) ?_
          refine lv_aload_n S.1 S.2.1 dX4_countLadders_36 rfl (lv_at hl 1 rfl) ?_
          refine lv_iload_n S.1 S.2.1 dX4_countLadders_37 rfl (lv_at hl 0 rfl) ?_
          refine al_cP (rest := [.int a]) S hK hW (al_X4_ladderOf l D cy ad σ (al_rg (σ.1 14) (nI k))) al_mi_X4_ladderOf al_ml_RX4_101 rfl (al_rc_4 D cy ad _) rfl hl.1 rfl (Nat.le_of_ble_eq_true rfl) dX4_countLadders_38 ⟨Nat.le_of_ble_eq_true rfl, Nat.le_of_ble_eq_true rfl⟩ ⟨Nat.zero_le _, Nat.zero_le _⟩ ?_
          refine W.eq (g2 := F0 m 41 ls [.int (al_lad σ (al_rg (σ.1 14) (nI k))), .int a]) rfl ?_
          refine lv_iadd S.1 S.2.1 dX4_countLadders_41 ?_
          refine lv_istore_n (lv' := [(1, .int (a + (al_lad σ (al_rg (σ.1 14) (nI k))))), (3, .int (al_rg (σ.1 14) (nI k))), (0, .ref (ad (5))), (2, .int (nI k))]) S.1 S.2.1 dX4_countLadders_42 rfl hl (by decide) rfl (fun ls hl => ?_)
          refine lv_iinc (k := 3) (v := nI (k + 1)) (lv' := [(2, .int (nI (k + 1))), (1, .int (a + (al_lad σ (al_rg (σ.1 14) (nI k))))), (3, .int (al_rg (σ.1 14) (nI k))), (0, .ref (ad (5)))]) S.1 S.2.1 dX4_countLadders_43 hl rfl (al_inc k) (by decide) rfl (fun ls hl => ?_)
          refine lv_goto (tgt := 4) S.1 S.2.1 dX4_countLadders_46 (by decide) ?_
          exact ih (k + 1) (a + (al_lad σ (al_rg (σ.1 14) (nI k)))) _ (by omega) (lv_sub hl [3, 1, 0] rfl) (fun a' ls e9 hl => K a' ls (by simp only [al_cLd, if_neg (c1), if_neg (c2), if_neg (c3)]; exact e9) hl)
theorem al_mv_X4_countLadders : al_mv yX4_countLadders cX4_countLadders 4 (some .int) 0 := ⟨al_c_X4_countLadders, al_ini_RX4, ⟨by decide +kernel, by decide +kernel, by decide +kernel⟩, by decide +kernel⟩
theorem al_mi_X4_countLadders : al_mi yX4_countLadders cX4_countLadders 4 (some .int) 0 := ⟨al_mv_X4_countLadders, al_in_X4_countLadders, al_se_X4_countLadders⟩
set_option maxHeartbeats 4000000 in
set_option maxRecDepth 100000 in
theorem al_X4_countLadders (l : Launch) (D : va_G) (cy : al_CY) (ad : Nat → Nat) (σ : al_St) : al_MP l yX4_countLadders cX4_countLadders 4 (some .int) 3 63 D cy ad σ [.ref (ad (5))] (some (.int (al_cLd σ 90 0 0))) := by
  refine al_met al_mv_X4_countLadders (Nat.le_of_ble_eq_true rfl) ?_
  intro p e s m args below meth c ls S hr hlocks hK hW hS hl
  have hl : lv_has ls 4 [(0, .ref (ad (5)))] := hl
  refine lv_iconst (v := 0) S.1 S.2.1 dX4_countLadders_0 (by decide) ?_
  refine lv_istore_n (lv' := [(1, .int 0), (0, .ref (ad (5)))]) S.1 S.2.1 dX4_countLadders_1 rfl hl (by decide) rfl (fun ls hl => ?_)
  refine lv_iconst (v := 0) S.1 S.2.1 dX4_countLadders_2 (by decide) ?_
  refine lv_istore_n (lv' := [(2, .int 0), (1, .int 0), (0, .ref (ad (5)))]) S.1 S.2.1 dX4_countLadders_3 rfl hl (by decide) rfl (fun ls hl => ?_)
  refine al_lp_X4_countLadders l D cy ad  S hK hW 90 0 0 _ (by omega) (lv_sub hl [2, 1, 0] rfl) (fun a1 ls e2 hl => ?_)
  refine lv_iload_n S.1 S.2.1 dX4_countLadders_49 rfl (lv_at hl 1 rfl) ?_
  exact W.iret S.1 S.2.1 hr (fun t9 ht9 _ => ⟨(congrArg (fun z => Outcome.returned (some (Value.int z))) (by simp only [e2])), ht9⟩) (fun q hq => absurd hq List.not_mem_nil) dX4_countLadders_50
set_option maxHeartbeats 4000000 in
set_option maxRecDepth 100000 in
theorem al_lp_X4_jumps {p : Program} {e : Env} {s : State} {m : MethodId} {args : Array Value} {below : List Frame} {meth : Method} {c : Code} {Q : State → Prop} (l : Launch) (D : va_G) (cy : al_CY) (ad : Nat → Nat) (x : Int32) (S : CallFix p m c cX4_jumpsFrom 3 s args al_G RX4) (hK : va_K D vwCl (al_tys cy) s) {H : Heap} {locs : List Loc} {σ : al_St} (hW : al_H D cy ad σ H) : ∀ (n : Nat) (k : Nat) (a : Int32) (ls : Array Slot), k + n = 7 → lv_has ls 3 [(0, .int x), (1, .int a), (2, .int (nI k))] → (∀ (a' : Int32) (ls : Array Slot), al_jmpL x n k a = a' → lv_has ls 3 [(1, .int a')] → W p l e (al_rm 0 0) s m args below meth c H locs 0 0 Q (F0 m 26 ls [])) → W p l e (al_rm 0 0) s m args below meth c H locs 0 0 Q (F0 m 4 ls []) := by
  intro n
  induction n with
  | zero =>
    intro k a ls hk hl K
    refine lv_iload_n S.1 S.2.1 dX4_jumpsFrom_4 rfl (lv_at hl 2 rfl) ?_
    refine lv_bipush (v := 6) S.1 S.2.1 dX4_jumpsFrom_5 (by decide) ?_
    refine lv_icmp_gt (tgt := 26) S.1 S.2.1 dX4_jumpsFrom_7 (by decide) (fun c1 => ?_) (fun c1 => ?_)
    · exact K a _ (by simp only [al_jmpL, if_pos (c1)]) (lv_sub hl [1] rfl)
    · exact absurd (al_6' (by omega)) c1
  | succ n ih =>
    intro k a ls hk hl K
    refine lv_iload_n S.1 S.2.1 dX4_jumpsFrom_4 rfl (lv_at hl 2 rfl) ?_
    refine lv_bipush (v := 6) S.1 S.2.1 dX4_jumpsFrom_5 (by decide) ?_
    refine lv_icmp_gt (tgt := 26) S.1 S.2.1 dX4_jumpsFrom_7 (by decide) (fun c1 => ?_) (fun c1 => ?_)
    · exact absurd c1 (al_6 (by omega))
    · refine lv_iconst (v := 1) S.1 S.2.1 dX4_jumpsFrom_10 (by decide) ?_
      refine lv_iload_n S.1 S.2.1 dX4_jumpsFrom_11 rfl (lv_at hl 2 rfl) ?_
      refine lv_ishl S.1 S.2.1 dX4_jumpsFrom_12 ?_
      refine lv_iload_n S.1 S.2.1 dX4_jumpsFrom_13 rfl (lv_at hl 0 rfl) ?_
      refine lv_icmp_gt (tgt := 26) S.1 S.2.1 dX4_jumpsFrom_14 (by decide) (fun c2 => ?_) (fun c2 => ?_)
      · exact K a _ (by simp only [al_jmpL, if_neg (c1), if_pos (c2)]) (lv_sub hl [1] rfl)
      · refine lv_iinc (k := 1) (v := a + 1) (lv' := [(1, .int (a + 1)), (0, .int x), (2, .int (nI k))]) S.1 S.2.1 dX4_jumpsFrom_17 hl rfl rfl (by decide) rfl (fun ls hl => ?_)
        refine lv_iinc (k := 2) (v := nI (k + 1)) (lv' := [(2, .int (nI (k + 1))), (1, .int (a + 1)), (0, .int x)]) S.1 S.2.1 dX4_jumpsFrom_20 hl rfl (al_inc k) (by decide) rfl (fun ls hl => ?_)
        refine lv_goto (tgt := 4) S.1 S.2.1 dX4_jumpsFrom_23 (by decide) ?_
        exact ih (k + 1) (a + 1) _ (by omega) (lv_sub hl [2, 1, 0] rfl) (fun a' ls e9 hl => K a' ls (by simp only [al_jmpL, if_neg (c1), if_neg (c2)]; exact e9) hl)
theorem al_mv_X4_jumpsFrom : al_mv yX4_jumpsFrom cX4_jumpsFrom 3 (some .int) 1 := ⟨al_c_X4_jumpsFrom, al_ini_RX4, ⟨by decide +kernel, by decide +kernel, by decide +kernel⟩, by decide +kernel⟩
theorem al_ms_X4_jumpsFrom : al_mst yX4_jumpsFrom cX4_jumpsFrom 3 (some .int) 1 := ⟨al_mv_X4_jumpsFrom, al_st_X4_jumpsFrom⟩
set_option maxHeartbeats 4000000 in
set_option maxRecDepth 100000 in
theorem al_X4_jumpsFrom (l : Launch) (D : va_G) (cy : al_CY) (ad : Nat → Nat) (σ : al_St) (x : Int32) : al_MP l yX4_jumpsFrom cX4_jumpsFrom 3 (some .int) 0 0 D cy ad σ [.int x] (some (.int (al_jmpL x 7 0 0))) := by
  refine al_met al_mv_X4_jumpsFrom (Nat.le_of_ble_eq_true rfl) ?_
  intro p e s m args below meth c ls S hr hlocks hK hW hS hl
  have hl : lv_has ls 3 [(0, .int x)] := hl
  refine lv_iconst (v := 0) S.1 S.2.1 dX4_jumpsFrom_0 (by decide) ?_
  refine lv_istore_n (lv' := [(1, .int 0), (0, .int x)]) S.1 S.2.1 dX4_jumpsFrom_1 rfl hl (by decide) rfl (fun ls hl => ?_)
  refine lv_iconst (v := 0) S.1 S.2.1 dX4_jumpsFrom_2 (by decide) ?_
  refine lv_istore_n (lv' := [(2, .int 0), (1, .int 0), (0, .int x)]) S.1 S.2.1 dX4_jumpsFrom_3 rfl hl (by decide) rfl (fun ls hl => ?_)
  refine al_lp_X4_jumps l D cy ad x S hK hW 7 0 0 _ (by omega) (lv_sub hl [2, 1, 0] rfl) (fun a1 ls e2 hl => ?_)
  refine lv_iload_n S.1 S.2.1 dX4_jumpsFrom_26 rfl (lv_at hl 0 rfl) ?_
  exact W.iret S.1 S.2.1 hr (fun t9 ht9 _ => ⟨(congrArg (fun z => Outcome.returned (some (Value.int z))) (by simp only [e2])), ht9⟩) (fun q hq => absurd hq List.not_mem_nil) dX4_jumpsFrom_27
set_option maxHeartbeats 4000000 in
set_option maxRecDepth 100000 in
theorem al_lp_X4_countJumps {p : Program} {e : Env} {s : State} {m : MethodId} {args : Array Value} {below : List Frame} {meth : Method} {c : Code} {Q : State → Prop} (l : Launch) (D : va_G) (cy : al_CY) (ad : Nat → Nat) (S : CallFix p m c cX4_countJumps 4 s args al_G RX4) (hK : va_K D vwCl (al_tys cy) s) {H : Heap} {locs : List Loc} {σ : al_St} (hW : al_H D cy ad σ H) : ∀ (n : Nat) (k : Nat) (a : Int32) (ls : Array Slot), k + n = 90 → lv_has ls 4 [(0, .ref (ad (5))), (1, .int a), (2, .int (nI k))] → (∀ (a' : Int32) (ls : Array Slot), al_cJm σ n k a = a' → lv_has ls 4 [(0, .ref (ad (5))), (1, .int a')] → W p l e (al_rm 2 42) s m args below meth c H locs 0 0 Q (F0 m 55 ls [])) → W p l e (al_rm 2 42) s m args below meth c H locs 0 0 Q (F0 m 4 ls []) := by
  intro n
  induction n with
  | zero =>
    intro k a ls hk hl K
    refine lv_iload_n S.1 S.2.1 dX4_countJumps_4 rfl (lv_at hl 2 rfl) ?_
    refine lv_aload_n S.1 S.2.1 dX4_countJumps_5 rfl (lv_at hl 0 rfl) ?_
    refine al_g_RX4_49 S hK hW dX4_countJumps_6 ?_
    refine lv_icmp_ge (tgt := 55) S.1 S.2.1 dX4_countJumps_9 (by decide) (fun c1 => ?_) (fun c1 => ?_)
    · exact K a _ (by simp only [al_cJm, if_pos (c1)]) (lv_sub hl [0, 1] rfl)
    · refine lv_iload_n S.1 S.2.1 dX4_countJumps_12 rfl (lv_at hl 2 rfl) ?_
      refine lv_bipush (v := 90) S.1 S.2.1 dX4_countJumps_13 (by decide) ?_
      refine lv_icmp_ge (tgt := 55) S.1 S.2.1 dX4_countJumps_15 (by decide) (fun c2 => ?_) (fun c2 => ?_)
      · exact K a _ (by simp only [al_cJm, if_neg (c1), if_pos (c2)]) (lv_sub hl [0, 1] rfl)
      · exact absurd (al_90' (by omega)) c2
  | succ n ih =>
    intro k a ls hk hl K
    refine lv_iload_n S.1 S.2.1 dX4_countJumps_4 rfl (lv_at hl 2 rfl) ?_
    refine lv_aload_n S.1 S.2.1 dX4_countJumps_5 rfl (lv_at hl 0 rfl) ?_
    refine al_g_RX4_49 S hK hW dX4_countJumps_6 ?_
    refine lv_icmp_ge (tgt := 55) S.1 S.2.1 dX4_countJumps_9 (by decide) (fun c1 => ?_) (fun c1 => ?_)
    · exact K a _ (by simp only [al_cJm, if_pos (c1)]) (lv_sub hl [0, 1] rfl)
    · refine lv_iload_n S.1 S.2.1 dX4_countJumps_12 rfl (lv_at hl 2 rfl) ?_
      refine lv_bipush (v := 90) S.1 S.2.1 dX4_countJumps_13 (by decide) ?_
      refine lv_icmp_ge (tgt := 55) S.1 S.2.1 dX4_countJumps_15 (by decide) (fun c2 => ?_) (fun c2 => ?_)
      · exact absurd c2 (al_90 (by omega))
      · refine lv_aload_n S.1 S.2.1 dX4_countJumps_18 rfl (lv_at hl 0 rfl) ?_
        refine al_g_RX4_25 S hK hW dX4_countJumps_19 ?_
        refine lv_iload_n S.1 S.2.1 dX4_countJumps_22 rfl (lv_at hl 2 rfl) ?_
        refine al_cP (rest := []) S hK hW (al_X2_get l D cy ad σ 14 (by omega) (nI k)) al_mi_X2_get al_ml_RX4_79 rfl (al_rc_R D cy ad _ (i := 14) (by omega)) rfl hl.1 rfl (Nat.le_of_ble_eq_true rfl) dX4_countJumps_23 ⟨Nat.le_of_ble_eq_true rfl, Nat.le_of_ble_eq_true rfl⟩ ⟨Nat.zero_le _, Nat.zero_le _⟩ ?_
        refine W.eq (g2 := F0 m 26 ls [.int (al_rg (σ.1 14) (nI k))]) rfl ?_
        refine lv_istore_n (lv' := [(3, .int (al_rg (σ.1 14) (nI k))), (0, .ref (ad (5))), (1, .int a), (2, .int (nI k))]) S.1 S.2.1 dX4_countJumps_26 rfl hl (by decide) rfl (fun ls hl => ?_)
        refine lv_aload_n S.1 S.2.1 dX4_countJumps_27 rfl (lv_at hl 1 rfl) ?_
        refine lv_iload_n S.1 S.2.1 dX4_countJumps_28 rfl (lv_at hl 0 rfl) ?_
        refine al_cP (rest := []) S hK hW (al_X4_isLeaf l D cy ad σ (al_rg (σ.1 14) (nI k))) al_mi_X4_isLeaf al_ml_RX4_109 rfl (al_rc_4 D cy ad _) rfl hl.1 rfl (Nat.le_of_ble_eq_true rfl) dX4_countJumps_29 ⟨Nat.le_of_ble_eq_true rfl, Nat.le_of_ble_eq_true rfl⟩ ⟨Nat.zero_le _, Nat.zero_le _⟩ ?_
        refine W.eq (g2 := F0 m 32 ls [.int (al_isLf σ (al_rg (σ.1 14) (nI k)))]) rfl ?_
        refine lv_if_eq (tgt := 49) S.1 S.2.1 dX4_countJumps_32 (by decide) (fun c3 => ?_) (fun c3 => ?_)
        · refine lv_iinc (k := 3) (v := nI (k + 1)) (lv' := [(2, .int (nI (k + 1))), (3, .int (al_rg (σ.1 14) (nI k))), (0, .ref (ad (5))), (1, .int a)]) S.1 S.2.1 dX4_countJumps_49 hl rfl (al_inc k) (by decide) rfl (fun ls hl => ?_)
          refine lv_goto (tgt := 4) S.1 S.2.1 dX4_countJumps_52 (by decide) ?_
          exact ih (k + 1) a _ (by omega) (lv_sub hl [2, 3, 0] rfl) (fun a' ls e9 hl => K a' ls (by simp only [al_cJm, if_neg (c1), if_neg (c2), if_pos (c3)]; exact e9) hl)
        · refine lv_iload_n S.1 S.2.1 dX4_countJumps_35 rfl (lv_at hl 2 rfl) ?_
          refine lv_aload_n S.1 S.2.1 dX4_countJumps_36 rfl (lv_at hl 1 rfl) ?_
          refine al_g_RX4_28 S hK hW dX4_countJumps_37 ?_
          refine lv_iload_n S.1 S.2.1 dX4_countJumps_40 rfl (lv_at hl 0 rfl) ?_
          refine al_cP (rest := [.int a]) S hK hW (al_X2_get l D cy ad σ 15 (by omega) (al_rg (σ.1 14) (nI k))) al_mi_X2_get al_ml_RX4_79 rfl (al_rc_R D cy ad _ (i := 15) (by omega)) rfl hl.1 rfl (Nat.le_of_ble_eq_true rfl) dX4_countJumps_41 ⟨Nat.le_of_ble_eq_true rfl, Nat.le_of_ble_eq_true rfl⟩ ⟨Nat.zero_le _, Nat.zero_le _⟩ ?_
          refine W.eq (g2 := F0 m 44 ls [.int (al_rg (σ.1 15) (al_rg (σ.1 14) (nI k))), .int a]) rfl ?_
          refine al_cPs (rest := [.int a]) S hK hW (al_X4_jumpsFrom l D cy ad σ (al_rg (σ.1 15) (al_rg (σ.1 14) (nI k)))) al_ms_X4_jumpsFrom al_ml_RX4_112 rfl hl.1 rfl (Nat.le_of_ble_eq_true rfl) dX4_countJumps_44 ⟨Nat.le_of_ble_eq_true rfl, Nat.le_of_ble_eq_true rfl⟩ ⟨Nat.zero_le _, Nat.zero_le _⟩ ?_
          refine W.eq (g2 := F0 m 47 ls [.int (al_jmpL (al_rg (σ.1 15) (al_rg (σ.1 14) (nI k))) 7 0 0), .int a]) rfl ?_
          refine lv_iadd S.1 S.2.1 dX4_countJumps_47 ?_
          refine lv_istore_n (lv' := [(1, .int (a + (al_jmpL (al_rg (σ.1 15) (al_rg (σ.1 14) (nI k))) 7 0 0))), (3, .int (al_rg (σ.1 14) (nI k))), (0, .ref (ad (5))), (2, .int (nI k))]) S.1 S.2.1 dX4_countJumps_48 rfl hl (by decide) rfl (fun ls hl => ?_)
          refine lv_iinc (k := 3) (v := nI (k + 1)) (lv' := [(2, .int (nI (k + 1))), (1, .int (a + (al_jmpL (al_rg (σ.1 15) (al_rg (σ.1 14) (nI k))) 7 0 0))), (3, .int (al_rg (σ.1 14) (nI k))), (0, .ref (ad (5)))]) S.1 S.2.1 dX4_countJumps_49 hl rfl (al_inc k) (by decide) rfl (fun ls hl => ?_)
          refine lv_goto (tgt := 4) S.1 S.2.1 dX4_countJumps_52 (by decide) ?_
          exact ih (k + 1) (a + (al_jmpL (al_rg (σ.1 15) (al_rg (σ.1 14) (nI k))) 7 0 0)) _ (by omega) (lv_sub hl [3, 1, 0] rfl) (fun a' ls e9 hl => K a' ls (by simp only [al_cJm, if_neg (c1), if_neg (c2), if_neg (c3)]; exact e9) hl)
theorem al_mv_X4_countJumps : al_mv yX4_countJumps cX4_countJumps 4 (some .int) 0 := ⟨al_c_X4_countJumps, al_ini_RX4, ⟨by decide +kernel, by decide +kernel, by decide +kernel⟩, by decide +kernel⟩
theorem al_mi_X4_countJumps : al_mi yX4_countJumps cX4_countJumps 4 (some .int) 0 := ⟨al_mv_X4_countJumps, al_in_X4_countJumps, al_se_X4_countJumps⟩
set_option maxHeartbeats 4000000 in
set_option maxRecDepth 100000 in
theorem al_X4_countJumps (l : Launch) (D : va_G) (cy : al_CY) (ad : Nat → Nat) (σ : al_St) : al_MP l yX4_countJumps cX4_countJumps 4 (some .int) 2 42 D cy ad σ [.ref (ad (5))] (some (.int (al_cJm σ 90 0 0))) := by
  refine al_met al_mv_X4_countJumps (Nat.le_of_ble_eq_true rfl) ?_
  intro p e s m args below meth c ls S hr hlocks hK hW hS hl
  have hl : lv_has ls 4 [(0, .ref (ad (5)))] := hl
  refine lv_iconst (v := 0) S.1 S.2.1 dX4_countJumps_0 (by decide) ?_
  refine lv_istore_n (lv' := [(1, .int 0), (0, .ref (ad (5)))]) S.1 S.2.1 dX4_countJumps_1 rfl hl (by decide) rfl (fun ls hl => ?_)
  refine lv_iconst (v := 0) S.1 S.2.1 dX4_countJumps_2 (by decide) ?_
  refine lv_istore_n (lv' := [(2, .int 0), (1, .int 0), (0, .ref (ad (5)))]) S.1 S.2.1 dX4_countJumps_3 rfl hl (by decide) rfl (fun ls hl => ?_)
  refine al_lp_X4_countJumps l D cy ad  S hK hW 90 0 0 _ (by omega) (lv_sub hl [2, 1, 0] rfl) (fun a1 ls e2 hl => ?_)
  refine lv_iload_n S.1 S.2.1 dX4_countJumps_55 rfl (lv_at hl 1 rfl) ?_
  exact W.iret S.1 S.2.1 hr (fun t9 ht9 _ => ⟨(congrArg (fun z => Outcome.returned (some (Value.int z))) (by simp only [e2])), ht9⟩) (fun q hq => absurd hq List.not_mem_nil) dX4_countJumps_56
end
section
/-! ways and distances: no sum of theirs is a NaN while all paths are below 2 ^ 113 -/
def al_B (r : UInt32) : Prop := r.toNat < 2013265920
def al_sum (a b m : UInt32) : UInt32 := FP.fadd (FP.fsub a m) (FP.fsub b m)
theorem al_n32 {r : UInt32} (h : r.toNat % 2 ^ 31 < 255 * 2 ^ 23) : vf_n32 r := by
  show r &&& 0x7fffffff ≤ 0x7f800000
  rw [UInt32.le_iff_toNat_le, FP.Core.mask_toNat32]
  show r.toNat % 2 ^ 31 ≤ 2139095040
  omega
theorem al_B_mag {r : UInt32} (h : al_B r) : r.toNat % 2 ^ 31 < 240 * 2 ^ 23 := by
  have h1 : r.toNat < 2013265920 := h
  omega
theorem al_B0 : al_B FP.fconst0 := by
  show FP.fconst0.toNat < 2013265920
  decide
theorem al_sub_mag {a b : UInt32} (ha : al_B a) (hb : al_B b) : (FP.fsub a b).toNat % 2 ^ 31 < 242 * 2 ^ 23 := FP.Core.fsub_mag (al_B_mag ha) (al_B_mag hb) (by omega)
theorem al_sub_n32 {a b : UInt32} (ha : al_B a) (hb : al_B b) : vf_n32 (FP.fsub a b) := al_n32 (by have := al_sub_mag ha hb; omega)
theorem al_sum_n32 {a b m : UInt32} (ha : al_B a) (hb : al_B b) (hm : al_B m) : vf_n32 (al_sum a b m) := al_n32 (by have := FP.Core.fadd_mag (al_sub_mag ha hm) (al_sub_mag hb hm) (by omega); exact Nat.lt_of_lt_of_le this (by omega))
def al_FB (σ : al_St) : Prop := ∀ j : Int32, al_B (al_fg (σ.2.1 6) j) ∧ al_B (al_fg (σ.2.1 7) j)
theorem al_fg_fs (f : Nat → UInt32) (x : Int32) (v : UInt32) (j : Int32) : al_fg (al_fs f x v) j = v ∨ al_fg (al_fs f x v) j = al_fg f j := by
  simp only [al_fs, al_fg]
  split
  · exact Or.inr rfl
  · split
    · exact Or.inr rfl
    · split
      · exact Or.inr rfl
      · split
        · exact Or.inr rfl
        · simp only [vf_upd]
          split
          · exact Or.inl rfl
          · exact Or.inr rfl
theorem al_FB_fset {σ : al_St} {x : Int32} {v : UInt32} (h : al_FB σ) (hv : al_B v) : al_FB (al_fset σ 7 x v) := by
  intro j
  refine ⟨(h j).1, ?_⟩
  show al_B (al_fg (al_fs (σ.2.1 7) x v) j)
  rcases al_fg_fs (σ.2.1 7) x v j with e | e <;> rw [e]
  · exact hv
  · exact (h j).2
def al_wt1 (σ : al_St) (x : Int32) : al_St := al_fset σ 6 x (FP.fadd (al_fg (σ.2.1 6) (al_rg (σ.1 (2 * 0)) x)) (al_fg (σ.2.1 0) x))
def al_wtL : Nat → Nat → al_St → al_St
  | 0, _, σ => σ
  | n + 1, k, σ => if σ.2.2.1 9 ≤ nI k then σ else al_wtL n (k + 1) (al_wt1 σ (al_rg (σ.1 14) (nI k)))
def al_wtOK : Nat → Nat → al_St → Prop
  | 0, _, _ => True
  | n + 1, k, σ => ¬ σ.2.2.1 9 ≤ nI k → vf_n32 (FP.fadd (al_fg (σ.2.1 6) (al_rg (σ.1 (2 * 0)) (al_rg (σ.1 14) (nI k)))) (al_fg (σ.2.1 0) (al_rg (σ.1 14) (nI k)))) ∧ al_wtOK n (k + 1) (al_wt1 σ (al_rg (σ.1 14) (nI k)))
def al_wtake (σ : al_St) : al_St := al_wtL 89 1 (al_fset σ 6 0 FP.fconst0)
def al_wOK (σ : al_St) : Prop := al_wtOK 89 1 (al_fset σ 6 0 FP.fconst0)
def al_mkL : Nat → Int32 → al_St → al_St
  | 0, _, σ => σ
  | n + 1, a, σ => if a = -1 then σ else al_mkL n (al_rg ((al_set σ 22 a 1).1 (2 * 0)) a) (al_set σ 22 a 1)
def al_mp1 (σ : al_St) (x : Int32) : al_St := if al_rg (σ.1 22) x = 1 then al_fset σ 7 x (al_fg (σ.2.1 6) x) else al_fset σ 7 x (al_fg (σ.2.1 7) (al_rg (σ.1 (2 * 0)) x))
def al_mpL : Nat → Nat → al_St → al_St
  | 0, _, σ => σ
  | n + 1, k, σ => if σ.2.2.1 9 ≤ nI k then σ else al_mpL n (k + 1) (al_mp1 σ (al_rg (σ.1 14) (nI k)))
def al_meets (σ : al_St) (x : Int32) : al_St := al_mpL 90 0 (al_mkL 90 x (al_fillR σ 22 0))
theorem al_mkL_2 : ∀ (n : Nat) (a : Int32) (σ : al_St), (al_mkL n a σ).2 = σ.2
  | 0, _, _ => rfl
  | n + 1, a, σ => by
    rw [al_mkL]
    split
    · rfl
    · rw [al_mkL_2 n]
      rfl
theorem al_FB_mp1 {σ : al_St} {x : Int32} (h : al_FB σ) : al_FB (al_mp1 σ x) := by
  rw [al_mp1]
  split
  · exact al_FB_fset h (h _).1
  · exact al_FB_fset h (h _).2
theorem al_FB_mpL : ∀ (n k : Nat) (σ : al_St), al_FB σ → al_FB (al_mpL n k σ)
  | 0, _, _, h => h
  | n + 1, k, σ, h => by
    rw [al_mpL]
    split
    · exact h
    · exact al_FB_mpL n (k + 1) _ (al_FB_mp1 h)
theorem al_FB_meets {σ : al_St} {x : Int32} (h : al_FB σ) : al_FB (al_meets σ x) := by
  refine al_FB_mpL 90 0 _ (fun j => ?_)
  rw [al_mkL_2]
  exact h j
def al_meas (σ : al_St) (x y : Int32) : UInt32 := al_sum (al_fg (σ.2.1 6) x) (al_fg (σ.2.1 6) y) (al_fg (σ.2.1 7) y)
def al_farL (σ : al_St) (x : Int32) : Nat → Nat → UInt32 → Int32 → Int32
  | 0, _, _, r => r
  | n + 1, k, g, r => if al_isN σ 0 (nI k) = 0 then al_farL σ x n (k + 1) g r else if Op.cmpValue (FP.fcmp (al_meas σ x (nI k)) g) .l ≤ 0 then al_farL σ x n (k + 1) g r else al_farL σ x n (k + 1) (al_meas σ x (nI k)) (nI k)
def al_farOn (σ : al_St) (x : Int32) (K : Nat) : Int32 := al_farL σ x (90 - K) K 3212836864 x
def al_fpL : Nat → Nat → UInt32 → al_St → al_St
  | 0, _, _, σ => σ
  | n + 1, k, g, σ => if al_isN σ 0 (nI k) = 0 then al_fpL n (k + 1) g σ else if Op.cmpValue (FP.fcmp (al_meas (al_meets σ (nI k)) (nI k) (al_farOn (al_meets σ (nI k)) (nI k) k)) g) .l ≤ 0 then al_fpL n (k + 1) g (al_meets σ (nI k)) else al_fpL n (k + 1) (al_meas (al_meets σ (nI k)) (nI k) (al_farOn (al_meets σ (nI k)) (nI k) k)) (al_sV (al_sV (al_meets σ (nI k)) 10 (nI k)) 11 (al_farOn (al_meets σ (nI k)) (nI k) k))
def al_findPair (σ : al_St) : al_St := al_fpL 90 0 3212836864 σ
def al_onWay (σ : al_St) (x y z : Int32) : Int32 :=
  if z ≤ al_rg (σ.1 15) x - al_rg (σ.1 15) (al_meet σ x y) + (al_rg (σ.1 15) y - al_rg (σ.1 15) (al_meet σ x y)) then
    (if al_rg (σ.1 15) x - al_rg (σ.1 15) (al_meet σ x y) < z then al_cl σ y (al_rg (σ.1 15) x - al_rg (σ.1 15) (al_meet σ x y) + (al_rg (σ.1 15) y - al_rg (σ.1 15) (al_meet σ x y)) - z)
    else al_cl σ x z)
  else -1
def al_hwL (σ : al_St) (w g : UInt32) : Nat → Int32 → Int32
  | 0, a => a
  | n + 1, a => if al_rg (σ.1 (2 * 0)) a = -1 then a else if Op.cmpValue (FP.fcmp (FP.fsub g (al_fg (σ.2.1 6) (al_rg (σ.1 (2 * 0)) a))) w) .l ≤ 0 then al_hwL σ w g n (al_rg (σ.1 (2 * 0)) a) else a
set_option maxHeartbeats 4000000 in
set_option maxRecDepth 100000 in
theorem al_lp_X7_take {p : Program} {e : Env} {s : State} {m : MethodId} {args : Array Value} {below : List Frame} {meth : Method} {c : Code} {Q : State → Prop} (l : Launch) (D : va_G) (cy : al_CY) (ad : Nat → Nat) (S : CallFix p m c cX7_take 3 s args al_G RX7) (hK : va_K D vwCl (al_tys cy) s) {H0 : Heap} : ∀ (n : Nat) (σ : al_St) (k : Nat) (H : Heap) (locs : List Loc) (ls : Array Slot), (k + n = 90) → (al_wtOK n k σ) → al_H D cy ad σ H → va_S (al_A ad) H0 H locs → lv_has ls 3 [(0, .ref (ad (6))), (1, .int (nI k))] → (∀ (σ' : al_St) (H : Heap) (locs : List Loc) (ls : Array Slot), al_wtL n k σ = σ' → al_H D cy ad σ' H → va_S (al_A ad) H0 H locs → lv_has ls 3 [(0, .ref (ad (6)))] → W p l e (al_rm 2 42) s m args below meth c H locs 0 0 Q (F0 m 75 ls [])) → W p l e (al_rm 2 42) s m args below meth c H locs 0 0 Q (F0 m 11 ls []) := by
  intro n
  induction n with
  | zero =>
    intro σ k H locs ls hk hO hW hS hl K
    refine lv_iload_n S.1 S.2.1 dX7_take_11 rfl (lv_at hl 1 rfl) ?_
    refine lv_aload_n S.1 S.2.1 dX7_take_12 rfl (lv_at hl 0 rfl) ?_
    refine al_g_RX7_15 S hK hW dX7_take_13 ?_
    refine al_cP (rest := [.int (nI k)]) S hK hW (al_X4_present l D cy ad σ ) al_mi_X4_present al_ml_RX7_47 rfl (al_rc_4 D cy ad _) rfl hl.1 rfl (Nat.le_of_ble_eq_true rfl) dX7_take_16 ⟨Nat.le_of_ble_eq_true rfl, Nat.le_of_ble_eq_true rfl⟩ ⟨Nat.zero_le _, Nat.zero_le _⟩ ?_
    refine W.eq (g2 := F0 m 19 ls [.int (σ.2.2.1 9), .int (nI k)]) rfl ?_
    refine lv_icmp_ge (tgt := 75) S.1 S.2.1 dX7_take_19 (by decide) (fun c1 => ?_) (fun c1 => ?_)
    · exact K σ  _ _ _ (by simp only [al_wtL, al_wt1, if_pos (c1)]) hW hS (lv_sub hl [0] rfl)
    · refine lv_iload_n S.1 S.2.1 dX7_take_22 rfl (lv_at hl 1 rfl) ?_
      refine lv_bipush (v := 90) S.1 S.2.1 dX7_take_23 (by decide) ?_
      refine lv_icmp_ge (tgt := 75) S.1 S.2.1 dX7_take_25 (by decide) (fun c2 => ?_) (fun c2 => ?_)
      · exact K σ  _ _ _ (by simp only [al_wtL, al_wt1, if_neg (c1), if_pos (c2)]) hW hS (lv_sub hl [0] rfl)
      · exact absurd (al_90' (by omega)) c2
  | succ n ih =>
    intro σ k H locs ls hk hO hW hS hl K
    refine lv_iload_n S.1 S.2.1 dX7_take_11 rfl (lv_at hl 1 rfl) ?_
    refine lv_aload_n S.1 S.2.1 dX7_take_12 rfl (lv_at hl 0 rfl) ?_
    refine al_g_RX7_15 S hK hW dX7_take_13 ?_
    refine al_cP (rest := [.int (nI k)]) S hK hW (al_X4_present l D cy ad σ ) al_mi_X4_present al_ml_RX7_47 rfl (al_rc_4 D cy ad _) rfl hl.1 rfl (Nat.le_of_ble_eq_true rfl) dX7_take_16 ⟨Nat.le_of_ble_eq_true rfl, Nat.le_of_ble_eq_true rfl⟩ ⟨Nat.zero_le _, Nat.zero_le _⟩ ?_
    refine W.eq (g2 := F0 m 19 ls [.int (σ.2.2.1 9), .int (nI k)]) rfl ?_
    refine lv_icmp_ge (tgt := 75) S.1 S.2.1 dX7_take_19 (by decide) (fun c1 => ?_) (fun c1 => ?_)
    · exact K σ  _ _ _ (by simp only [al_wtL, al_wt1, if_pos (c1)]) hW hS (lv_sub hl [0] rfl)
    · refine lv_iload_n S.1 S.2.1 dX7_take_22 rfl (lv_at hl 1 rfl) ?_
      refine lv_bipush (v := 90) S.1 S.2.1 dX7_take_23 (by decide) ?_
      refine lv_icmp_ge (tgt := 75) S.1 S.2.1 dX7_take_25 (by decide) (fun c2 => ?_) (fun c2 => ?_)
      · exact absurd c2 (al_90 (by omega))
      · refine lv_aload_n S.1 S.2.1 dX7_take_28 rfl (lv_at hl 0 rfl) ?_
        refine al_g_RX7_15 S hK hW dX7_take_29 ?_
        refine lv_iload_n S.1 S.2.1 dX7_take_32 rfl (lv_at hl 1 rfl) ?_
        refine al_cP (rest := []) S hK hW (al_X4_downwardAt l D cy ad σ (nI k)) al_mi_X4_downwardAt al_ml_RX7_53 rfl (al_rc_4 D cy ad _) rfl hl.1 rfl (Nat.le_of_ble_eq_true rfl) dX7_take_33 ⟨Nat.le_of_ble_eq_true rfl, Nat.le_of_ble_eq_true rfl⟩ ⟨Nat.zero_le _, Nat.zero_le _⟩ ?_
        refine W.eq (g2 := F0 m 36 ls [.int (al_rg (σ.1 14) (nI k))]) rfl ?_
        refine lv_istore_n (lv' := [(2, .int (al_rg (σ.1 14) (nI k))), (0, .ref (ad (6))), (1, .int (nI k))]) S.1 S.2.1 dX7_take_36 rfl hl (by decide) rfl (fun ls hl => ?_)
        refine lv_aload_n S.1 S.2.1 dX7_take_37 rfl (lv_at hl 1 rfl) ?_
        refine al_g_RX7_22 S hK hW dX7_take_38 ?_
        refine lv_iload_n S.1 S.2.1 dX7_take_41 rfl (lv_at hl 0 rfl) ?_
        refine lv_aload_n S.1 S.2.1 dX7_take_42 rfl (lv_at hl 1 rfl) ?_
        refine al_g_RX7_22 S hK hW dX7_take_43 ?_
        refine lv_aload_n S.1 S.2.1 dX7_take_46 rfl (lv_at hl 1 rfl) ?_
        refine al_g_RX7_9 S hK hW dX7_take_47 ?_
        refine lv_iload_n S.1 S.2.1 dX7_take_50 rfl (lv_at hl 0 rfl) ?_
        refine al_cP (rest := [.ref (ad (64 + 2 * 6)), .int (al_rg (σ.1 14) (nI k)), .ref (ad (64 + 2 * 6))]) S hK hW (al_X6_parentOf l D cy ad σ 0 (by omega) (al_rg (σ.1 14) (nI k))) al_mi_X6_parentOf al_ml_RX7_57 rfl (al_rc_T D cy ad _ (t := 0) (by omega)) rfl hl.1 rfl (Nat.le_of_ble_eq_true rfl) dX7_take_51 ⟨Nat.le_of_ble_eq_true rfl, Nat.le_of_ble_eq_true rfl⟩ ⟨Nat.zero_le _, Nat.zero_le _⟩ ?_
        refine W.eq (g2 := F0 m 54 ls [.int (al_rg (σ.1 (2 * 0)) (al_rg (σ.1 14) (nI k))), .ref (ad (64 + 2 * 6)), .int (al_rg (σ.1 14) (nI k)), .ref (ad (64 + 2 * 6))]) rfl ?_
        refine al_cP (rest := [.int (al_rg (σ.1 14) (nI k)), .ref (ad (64 + 2 * 6))]) S hK hW (al_X0_get l D cy ad σ 6 (by omega) (al_rg (σ.1 (2 * 0)) (al_rg (σ.1 14) (nI k)))) al_mi_X0_get al_ml_RX7_62 rfl (al_rc_F D cy ad _ (i := 6) (by omega)) rfl hl.1 rfl (Nat.le_of_ble_eq_true rfl) dX7_take_54 ⟨Nat.le_of_ble_eq_true rfl, Nat.le_of_ble_eq_true rfl⟩ ⟨Nat.zero_le _, Nat.zero_le _⟩ ?_
        refine W.eq (g2 := F0 m 57 ls [.float (al_fg (σ.2.1 6) (al_rg (σ.1 (2 * 0)) (al_rg (σ.1 14) (nI k)))), .int (al_rg (σ.1 14) (nI k)), .ref (ad (64 + 2 * 6))]) rfl ?_
        refine lv_aload_n S.1 S.2.1 dX7_take_57 rfl (lv_at hl 1 rfl) ?_
        refine al_g_RX7_9 S hK hW dX7_take_58 ?_
        refine lv_iload_n S.1 S.2.1 dX7_take_61 rfl (lv_at hl 0 rfl) ?_
        refine al_cP (rest := [.float (al_fg (σ.2.1 6) (al_rg (σ.1 (2 * 0)) (al_rg (σ.1 14) (nI k)))), .int (al_rg (σ.1 14) (nI k)), .ref (ad (64 + 2 * 6))]) S hK hW (al_X6_lengthOf l D cy ad σ 0 (by omega) (al_rg (σ.1 14) (nI k))) al_mi_X6_lengthOf al_ml_RX7_66 rfl (al_rc_T D cy ad _ (t := 0) (by omega)) rfl hl.1 rfl (Nat.le_of_ble_eq_true rfl) dX7_take_62 ⟨Nat.le_of_ble_eq_true rfl, Nat.le_of_ble_eq_true rfl⟩ ⟨Nat.zero_le _, Nat.zero_le _⟩ ?_
        refine W.eq (g2 := F0 m 65 ls [.float (al_fg (σ.2.1 0) (al_rg (σ.1 14) (nI k))), .float (al_fg (σ.2.1 6) (al_rg (σ.1 (2 * 0)) (al_rg (σ.1 14) (nI k)))), .int (al_rg (σ.1 14) (nI k)), .ref (ad (64 + 2 * 6))]) rfl ?_
        refine lv_fadd S.1 S.2.1 dX7_take_65 (hO c1).1 ?_
        refine al_cS (rest := []) S hK hW hS (al_X0_set l D cy ad σ 6 (by omega) (al_rg (σ.1 14) (nI k)) (FP.fadd (al_fg (σ.2.1 6) (al_rg (σ.1 (2 * 0)) (al_rg (σ.1 14) (nI k)))) (al_fg (σ.2.1 0) (al_rg (σ.1 14) (nI k))))) al_mi_X0_set al_ml_RX7_43 rfl (al_rc_F D cy ad _ (i := 6) (by omega)) rfl hl.1 rfl (Nat.le_of_ble_eq_true rfl) dX7_take_66 ⟨Nat.le_of_ble_eq_true rfl, Nat.le_of_ble_eq_true rfl⟩ ⟨Nat.zero_le _, Nat.zero_le _⟩ (fun H locs hW hS => ?_)
        refine W.eq (g2 := F0 m 69 ls []) rfl ?_
        refine lv_iinc (k := 2) (v := nI (k + 1)) (lv' := [(1, .int (nI (k + 1))), (2, .int (al_rg (σ.1 14) (nI k))), (0, .ref (ad (6)))]) S.1 S.2.1 dX7_take_69 hl rfl (al_inc k) (by decide) rfl (fun ls hl => ?_)
        refine lv_goto (tgt := 11) S.1 S.2.1 dX7_take_72 (by decide) ?_
        exact ih (al_fset σ 6 (al_rg (σ.1 14) (nI k)) (FP.fadd (al_fg (σ.2.1 6) (al_rg (σ.1 (2 * 0)) (al_rg (σ.1 14) (nI k)))) (al_fg (σ.2.1 0) (al_rg (σ.1 14) (nI k))))) (k + 1) _ _ _ (by omega) (hO c1).2 hW hS (lv_sub hl [2, 0] rfl) (fun σ'  H locs ls e9 hW hS hl => K σ'  H locs ls (by simp only [al_wtL, al_wt1, if_neg (c1), if_neg (c2)]; exact e9) hW hS hl)
theorem al_mv_X7_take : al_mv yX7_take cX7_take 3 none 0 := ⟨al_c_X7_take, al_ini_RX7, ⟨by decide +kernel, by decide +kernel, by decide +kernel⟩, by decide +kernel⟩
theorem al_mi_X7_take : al_mi yX7_take cX7_take 3 none 0 := ⟨al_mv_X7_take, al_in_X7_take, al_se_X7_take⟩
set_option maxHeartbeats 4000000 in
set_option maxRecDepth 100000 in
theorem al_X7_take (l : Launch) (D : va_G) (cy : al_CY) (ad : Nat → Nat) (σ : al_St) (hO : al_wOK σ) : al_MS l yX7_take cX7_take 3 none 2 42 D cy ad σ [.ref (ad (6))] none (al_wtake σ) := by
  refine al_met al_mv_X7_take (Nat.le_of_ble_eq_true rfl) ?_
  intro p e s m args below meth c ls S hr hlocks hK hW hS hl
  have hl : lv_has ls 3 [(0, .ref (ad (6)))] := hl
  refine lv_aload_n S.1 S.2.1 dX7_take_0 rfl (lv_at hl 0 rfl) ?_
  refine al_g_RX7_22 S hK hW dX7_take_1 ?_
  refine lv_iconst (v := 0) S.1 S.2.1 dX7_take_4 (by decide) ?_
  refine lv_fconst0 S.1 S.2.1 dX7_take_5 ?_
  refine al_cS (rest := []) S hK hW hS (al_X0_set l D cy ad σ 6 (by omega) 0 FP.fconst0) al_mi_X0_set al_ml_RX7_43 rfl (al_rc_F D cy ad _ (i := 6) (by omega)) rfl hl.1 rfl (Nat.le_of_ble_eq_true rfl) dX7_take_6 ⟨Nat.le_of_ble_eq_true rfl, Nat.le_of_ble_eq_true rfl⟩ ⟨Nat.zero_le _, Nat.zero_le _⟩ (fun H locs hW hS => ?_)
  refine W.eq (g2 := F0 m 9 ls []) rfl ?_
  refine lv_iconst (v := 1) S.1 S.2.1 dX7_take_9 (by decide) ?_
  refine lv_istore_n (lv' := [(1, .int 1), (0, .ref (ad (6)))]) S.1 S.2.1 dX7_take_10 rfl hl (by decide) rfl (fun ls hl => ?_)
  refine al_lp_X7_take l D cy ad  S hK 89 (al_fset σ 6 0 FP.fconst0) 1 _ _ _ (by omega) hO hW hS (lv_sub hl [1, 0] rfl) (fun σ1 H locs ls e2 hW hS hl => ?_)
  exact W.vret S.1 S.2.1 hr (fun t9 ht9 _ => ⟨rfl, by rw [ht9]; exact (al_He hW (by simp only [al_wtake, e2])), hS.F ht9⟩) hS.2.2 dX7_take_75
theorem al_mv_X7_pathOf : al_mv yX7_pathOf cX7_pathOf 2 (some .float) 1 := ⟨al_c_X7_pathOf, al_ini_RX7, ⟨by decide +kernel, by decide +kernel, by decide +kernel⟩, by decide +kernel⟩
theorem al_mi_X7_pathOf : al_mi yX7_pathOf cX7_pathOf 2 (some .float) 1 := ⟨al_mv_X7_pathOf, al_in_X7_pathOf, al_se_X7_pathOf⟩
set_option maxHeartbeats 4000000 in
set_option maxRecDepth 100000 in
theorem al_X7_pathOf (l : Launch) (D : va_G) (cy : al_CY) (ad : Nat → Nat) (σ : al_St) (x : Int32) : al_MP l yX7_pathOf cX7_pathOf 2 (some .float) 1 21 D cy ad σ [.ref (ad (6)), .int x] (some (.float (al_fg (σ.2.1 6) x))) := by
  refine al_met al_mv_X7_pathOf (Nat.le_of_ble_eq_true rfl) ?_
  intro p e s m args below meth c ls S hr hlocks hK hW hS hl
  have hl : lv_has ls 2 [(0, .ref (ad (6))), (1, .int x)] := hl
  refine lv_aload_n S.1 S.2.1 dX7_pathOf_0 rfl (lv_at hl 0 rfl) ?_
  refine al_g_RX7_22 S hK hW dX7_pathOf_1 ?_
  refine lv_iload_n S.1 S.2.1 dX7_pathOf_4 rfl (lv_at hl 1 rfl) ?_
  refine al_cP (rest := []) S hK hW (al_X0_get l D cy ad σ 6 (by omega) x) al_mi_X0_get al_ml_RX7_62 rfl (al_rc_F D cy ad _ (i := 6) (by omega)) rfl hl.1 rfl (Nat.le_of_ble_eq_true rfl) dX7_pathOf_5 ⟨Nat.le_of_ble_eq_true rfl, Nat.le_of_ble_eq_true rfl⟩ ⟨Nat.zero_le _, Nat.zero_le _⟩ ?_
  refine W.eq (g2 := F0 m 8 ls [.float (al_fg (σ.2.1 6) x)]) rfl ?_
  exact W.fret S.1 S.2.1 hr (fun t9 ht9 _ => ⟨(congrArg (fun z => Outcome.returned (some (Value.float z))) rfl), ht9⟩) (fun q hq => absurd hq List.not_mem_nil) dX7_pathOf_8
theorem al_mv_X7_sum : al_mv yX7_sum cX7_sum 3 (some .float) 3 := ⟨al_c_X7_sum, al_ini_RX7, ⟨by decide +kernel, by decide +kernel, by decide +kernel⟩, by decide +kernel⟩
theorem al_ms_X7_sum : al_mst yX7_sum cX7_sum 3 (some .float) 3 := ⟨al_mv_X7_sum, al_st_X7_sum⟩
set_option maxHeartbeats 4000000 in
set_option maxRecDepth 100000 in
theorem al_X7_sum (l : Launch) (D : va_G) (cy : al_CY) (ad : Nat → Nat) (σ : al_St) (a : UInt32) (b : UInt32) (mm : UInt32) (ha : al_B a) (hb : al_B b) (hm : al_B mm) : al_MP l yX7_sum cX7_sum 3 (some .float) 0 0 D cy ad σ [.float a, .float b, .float mm] (some (.float (al_sum a b mm))) := by
  refine al_met al_mv_X7_sum (Nat.le_of_ble_eq_true rfl) ?_
  intro p e s m args below meth c ls S hr hlocks hK hW hS hl
  have hl : lv_has ls 3 [(0, .float a), (1, .float b), (2, .float mm)] := hl
  refine lv_fload_n S.1 S.2.1 dX7_sum_0 rfl (lv_at hl 0 rfl) ?_
  refine lv_fload_n S.1 S.2.1 dX7_sum_1 rfl (lv_at hl 2 rfl) ?_
  refine lv_fsub S.1 S.2.1 dX7_sum_2 (al_sub_n32 ha hm) ?_
  refine lv_fload_n S.1 S.2.1 dX7_sum_3 rfl (lv_at hl 1 rfl) ?_
  refine lv_fload_n S.1 S.2.1 dX7_sum_4 rfl (lv_at hl 2 rfl) ?_
  refine lv_fsub S.1 S.2.1 dX7_sum_5 (al_sub_n32 hb hm) ?_
  refine lv_fadd S.1 S.2.1 dX7_sum_6 (al_sum_n32 ha hb hm) ?_
  exact W.fret S.1 S.2.1 hr (fun t9 ht9 _ => ⟨(congrArg (fun z => Outcome.returned (some (Value.float z))) (by simp only [al_sum])), ht9⟩) (fun q hq => absurd hq List.not_mem_nil) dX7_sum_7
theorem al_mv_X7_between : al_mv yX7_between cX7_between 3 (some .float) 2 := ⟨al_c_X7_between, al_ini_RX7, ⟨by decide +kernel, by decide +kernel, by decide +kernel⟩, by decide +kernel⟩
theorem al_mi_X7_between : al_mi yX7_between cX7_between 3 (some .float) 2 := ⟨al_mv_X7_between, al_in_X7_between, al_se_X7_between⟩
set_option maxHeartbeats 4000000 in
set_option maxRecDepth 100000 in
theorem al_X7_between (l : Launch) (D : va_G) (cy : al_CY) (ad : Nat → Nat) (σ : al_St) (x : Int32) (y : Int32) (hB : al_FB σ) : al_MP l yX7_between cX7_between 3 (some .float) 4 91 D cy ad σ [.ref (ad (6)), .int x, .int y] (some (.float (al_sum (al_fg (σ.2.1 6) x) (al_fg (σ.2.1 6) y) (al_fg (σ.2.1 6) (al_meet σ x y))))) := by
  refine al_met al_mv_X7_between (Nat.le_of_ble_eq_true rfl) ?_
  intro p e s m args below meth c ls S hr hlocks hK hW hS hl
  have hl : lv_has ls 3 [(0, .ref (ad (6))), (1, .int x), (2, .int y)] := hl
  refine lv_aload_n S.1 S.2.1 dX7_between_0 rfl (lv_at hl 0 rfl) ?_
  refine al_g_RX7_22 S hK hW dX7_between_1 ?_
  refine lv_iload_n S.1 S.2.1 dX7_between_4 rfl (lv_at hl 1 rfl) ?_
  refine al_cP (rest := []) S hK hW (al_X0_get l D cy ad σ 6 (by omega) x) al_mi_X0_get al_ml_RX7_62 rfl (al_rc_F D cy ad _ (i := 6) (by omega)) rfl hl.1 rfl (Nat.le_of_ble_eq_true rfl) dX7_between_5 ⟨Nat.le_of_ble_eq_true rfl, Nat.le_of_ble_eq_true rfl⟩ ⟨Nat.zero_le _, Nat.zero_le _⟩ ?_
  refine W.eq (g2 := F0 m 8 ls [.float (al_fg (σ.2.1 6) x)]) rfl ?_
  refine lv_aload_n S.1 S.2.1 dX7_between_8 rfl (lv_at hl 0 rfl) ?_
  refine al_g_RX7_22 S hK hW dX7_between_9 ?_
  refine lv_iload_n S.1 S.2.1 dX7_between_12 rfl (lv_at hl 2 rfl) ?_
  refine al_cP (rest := [.float (al_fg (σ.2.1 6) x)]) S hK hW (al_X0_get l D cy ad σ 6 (by omega) y) al_mi_X0_get al_ml_RX7_62 rfl (al_rc_F D cy ad _ (i := 6) (by omega)) rfl hl.1 rfl (Nat.le_of_ble_eq_true rfl) dX7_between_13 ⟨Nat.le_of_ble_eq_true rfl, Nat.le_of_ble_eq_true rfl⟩ ⟨Nat.zero_le _, Nat.zero_le _⟩ ?_
  refine W.eq (g2 := F0 m 16 ls [.float (al_fg (σ.2.1 6) y), .float (al_fg (σ.2.1 6) x)]) rfl ?_
  refine lv_aload_n S.1 S.2.1 dX7_between_16 rfl (lv_at hl 0 rfl) ?_
  refine al_g_RX7_22 S hK hW dX7_between_17 ?_
  refine lv_aload_n S.1 S.2.1 dX7_between_20 rfl (lv_at hl 0 rfl) ?_
  refine al_g_RX7_15 S hK hW dX7_between_21 ?_
  refine lv_iload_n S.1 S.2.1 dX7_between_24 rfl (lv_at hl 1 rfl) ?_
  refine lv_iload_n S.1 S.2.1 dX7_between_25 rfl (lv_at hl 2 rfl) ?_
  refine al_cP (rest := [.ref (ad (64 + 2 * 6)), .float (al_fg (σ.2.1 6) y), .float (al_fg (σ.2.1 6) x)]) S hK hW (al_X4_meetingOf l D cy ad σ x y) al_mi_X4_meetingOf al_ml_RX7_69 rfl (al_rc_4 D cy ad _) rfl hl.1 rfl (Nat.le_of_ble_eq_true rfl) dX7_between_26 ⟨Nat.le_of_ble_eq_true rfl, Nat.le_of_ble_eq_true rfl⟩ ⟨Nat.zero_le _, Nat.zero_le _⟩ ?_
  refine W.eq (g2 := F0 m 29 ls [.int (al_meet σ x y), .ref (ad (64 + 2 * 6)), .float (al_fg (σ.2.1 6) y), .float (al_fg (σ.2.1 6) x)]) rfl ?_
  refine al_cP (rest := [.float (al_fg (σ.2.1 6) y), .float (al_fg (σ.2.1 6) x)]) S hK hW (al_X0_get l D cy ad σ 6 (by omega) (al_meet σ x y)) al_mi_X0_get al_ml_RX7_62 rfl (al_rc_F D cy ad _ (i := 6) (by omega)) rfl hl.1 rfl (Nat.le_of_ble_eq_true rfl) dX7_between_29 ⟨Nat.le_of_ble_eq_true rfl, Nat.le_of_ble_eq_true rfl⟩ ⟨Nat.zero_le _, Nat.zero_le _⟩ ?_
  refine W.eq (g2 := F0 m 32 ls [.float (al_fg (σ.2.1 6) (al_meet σ x y)), .float (al_fg (σ.2.1 6) y), .float (al_fg (σ.2.1 6) x)]) rfl ?_
  refine al_cPs (rest := []) S hK hW (al_X7_sum l D cy ad σ (al_fg (σ.2.1 6) x) (al_fg (σ.2.1 6) y) (al_fg (σ.2.1 6) (al_meet σ x y)) (hB _).1 (hB _).1 (hB _).1) al_ms_X7_sum al_ml_RX7_73 rfl hl.1 rfl (Nat.le_of_ble_eq_true rfl) dX7_between_32 ⟨Nat.le_of_ble_eq_true rfl, Nat.le_of_ble_eq_true rfl⟩ ⟨Nat.zero_le _, Nat.zero_le _⟩ ?_
  refine W.eq (g2 := F0 m 35 ls [.float (al_sum (al_fg (σ.2.1 6) x) (al_fg (σ.2.1 6) y) (al_fg (σ.2.1 6) (al_meet σ x y)))]) rfl ?_
  exact W.fret S.1 S.2.1 hr (fun t9 ht9 _ => ⟨(congrArg (fun z => Outcome.returned (some (Value.float z))) rfl), ht9⟩) (fun q hq => absurd hq List.not_mem_nil) dX7_between_35
theorem al_mv_X7_measured : al_mv yX7_measured cX7_measured 3 (some .float) 2 := ⟨al_c_X7_measured, al_ini_RX7, ⟨by decide +kernel, by decide +kernel, by decide +kernel⟩, by decide +kernel⟩
theorem al_mi_X7_measured : al_mi yX7_measured cX7_measured 3 (some .float) 2 := ⟨al_mv_X7_measured, al_in_X7_measured, al_se_X7_measured⟩
set_option maxHeartbeats 4000000 in
set_option maxRecDepth 100000 in
theorem al_X7_measured (l : Launch) (D : va_G) (cy : al_CY) (ad : Nat → Nat) (σ : al_St) (x : Int32) (y : Int32) (hB : al_FB σ) : al_MP l yX7_measured cX7_measured 3 (some .float) 1 22 D cy ad σ [.ref (ad (6)), .int x, .int y] (some (.float (al_meas σ x y))) := by
  refine al_met al_mv_X7_measured (Nat.le_of_ble_eq_true rfl) ?_
  intro p e s m args below meth c ls S hr hlocks hK hW hS hl
  have hl : lv_has ls 3 [(0, .ref (ad (6))), (1, .int x), (2, .int y)] := hl
  refine lv_aload_n S.1 S.2.1 dX7_measured_0 rfl (lv_at hl 0 rfl) ?_
  refine al_g_RX7_22 S hK hW dX7_measured_1 ?_
  refine lv_iload_n S.1 S.2.1 dX7_measured_4 rfl (lv_at hl 1 rfl) ?_
  refine al_cP (rest := []) S hK hW (al_X0_get l D cy ad σ 6 (by omega) x) al_mi_X0_get al_ml_RX7_62 rfl (al_rc_F D cy ad _ (i := 6) (by omega)) rfl hl.1 rfl (Nat.le_of_ble_eq_true rfl) dX7_measured_5 ⟨Nat.le_of_ble_eq_true rfl, Nat.le_of_ble_eq_true rfl⟩ ⟨Nat.zero_le _, Nat.zero_le _⟩ ?_
  refine W.eq (g2 := F0 m 8 ls [.float (al_fg (σ.2.1 6) x)]) rfl ?_
  refine lv_aload_n S.1 S.2.1 dX7_measured_8 rfl (lv_at hl 0 rfl) ?_
  refine al_g_RX7_22 S hK hW dX7_measured_9 ?_
  refine lv_iload_n S.1 S.2.1 dX7_measured_12 rfl (lv_at hl 2 rfl) ?_
  refine al_cP (rest := [.float (al_fg (σ.2.1 6) x)]) S hK hW (al_X0_get l D cy ad σ 6 (by omega) y) al_mi_X0_get al_ml_RX7_62 rfl (al_rc_F D cy ad _ (i := 6) (by omega)) rfl hl.1 rfl (Nat.le_of_ble_eq_true rfl) dX7_measured_13 ⟨Nat.le_of_ble_eq_true rfl, Nat.le_of_ble_eq_true rfl⟩ ⟨Nat.zero_le _, Nat.zero_le _⟩ ?_
  refine W.eq (g2 := F0 m 16 ls [.float (al_fg (σ.2.1 6) y), .float (al_fg (σ.2.1 6) x)]) rfl ?_
  refine lv_aload_n S.1 S.2.1 dX7_measured_16 rfl (lv_at hl 0 rfl) ?_
  refine al_g_RX7_26 S hK hW dX7_measured_17 ?_
  refine lv_iload_n S.1 S.2.1 dX7_measured_20 rfl (lv_at hl 2 rfl) ?_
  refine al_cP (rest := [.float (al_fg (σ.2.1 6) y), .float (al_fg (σ.2.1 6) x)]) S hK hW (al_X0_get l D cy ad σ 7 (by omega) y) al_mi_X0_get al_ml_RX7_62 rfl (al_rc_F D cy ad _ (i := 7) (by omega)) rfl hl.1 rfl (Nat.le_of_ble_eq_true rfl) dX7_measured_21 ⟨Nat.le_of_ble_eq_true rfl, Nat.le_of_ble_eq_true rfl⟩ ⟨Nat.zero_le _, Nat.zero_le _⟩ ?_
  refine W.eq (g2 := F0 m 24 ls [.float (al_fg (σ.2.1 7) y), .float (al_fg (σ.2.1 6) y), .float (al_fg (σ.2.1 6) x)]) rfl ?_
  refine al_cPs (rest := []) S hK hW (al_X7_sum l D cy ad σ (al_fg (σ.2.1 6) x) (al_fg (σ.2.1 6) y) (al_fg (σ.2.1 7) y) (hB _).1 (hB _).1 (hB _).2) al_ms_X7_sum al_ml_RX7_73 rfl hl.1 rfl (Nat.le_of_ble_eq_true rfl) dX7_measured_24 ⟨Nat.le_of_ble_eq_true rfl, Nat.le_of_ble_eq_true rfl⟩ ⟨Nat.zero_le _, Nat.zero_le _⟩ ?_
  refine W.eq (g2 := F0 m 27 ls [.float (al_sum (al_fg (σ.2.1 6) x) (al_fg (σ.2.1 6) y) (al_fg (σ.2.1 7) y))]) rfl ?_
  exact W.fret S.1 S.2.1 hr (fun t9 ht9 _ => ⟨(congrArg (fun z => Outcome.returned (some (Value.float z))) (by simp only [al_meas])), ht9⟩) (fun q hq => absurd hq List.not_mem_nil) dX7_measured_27
theorem al_mv_X7_onWay : al_mv yX7_onWay cX7_onWay 7 (some .int) 3 := ⟨al_c_X7_onWay, al_ini_RX7, ⟨by decide +kernel, by decide +kernel, by decide +kernel⟩, by decide +kernel⟩
theorem al_mi_X7_onWay : al_mi yX7_onWay cX7_onWay 7 (some .int) 3 := ⟨al_mv_X7_onWay, al_in_X7_onWay, al_se_X7_onWay⟩
set_option maxHeartbeats 4000000 in
set_option maxRecDepth 100000 in
theorem al_X7_onWay (l : Launch) (D : va_G) (cy : al_CY) (ad : Nat → Nat) (σ : al_St) (x : Int32) (y : Int32) (z : Int32) : al_MP l yX7_onWay cX7_onWay 7 (some .int) 4 91 D cy ad σ [.ref (ad (6)), .int x, .int y, .int z] (some (.int (al_onWay σ x y z))) := by
  refine al_met al_mv_X7_onWay (Nat.le_of_ble_eq_true rfl) ?_
  intro p e s m args below meth c ls S hr hlocks hK hW hS hl
  have hl : lv_has ls 7 [(0, .ref (ad (6))), (1, .int x), (2, .int y), (3, .int z)] := hl
  refine lv_aload_n S.1 S.2.1 dX7_onWay_0 rfl (lv_at hl 0 rfl) ?_
  refine al_g_RX7_15 S hK hW dX7_onWay_1 ?_
  refine lv_aload_n S.1 S.2.1 dX7_onWay_4 rfl (lv_at hl 0 rfl) ?_
  refine al_g_RX7_15 S hK hW dX7_onWay_5 ?_
  refine lv_iload_n S.1 S.2.1 dX7_onWay_8 rfl (lv_at hl 1 rfl) ?_
  refine lv_iload_n S.1 S.2.1 dX7_onWay_9 rfl (lv_at hl 2 rfl) ?_
  refine al_cP (rest := [.ref (ad (5))]) S hK hW (al_X4_meetingOf l D cy ad σ x y) al_mi_X4_meetingOf al_ml_RX7_69 rfl (al_rc_4 D cy ad _) rfl hl.1 rfl (Nat.le_of_ble_eq_true rfl) dX7_onWay_10 ⟨Nat.le_of_ble_eq_true rfl, Nat.le_of_ble_eq_true rfl⟩ ⟨Nat.zero_le _, Nat.zero_le _⟩ ?_
  refine W.eq (g2 := F0 m 13 ls [.int (al_meet σ x y), .ref (ad (5))]) rfl ?_
  refine al_cP (rest := []) S hK hW (al_X4_depthOf l D cy ad σ (al_meet σ x y)) al_mi_X4_depthOf al_ml_RX7_77 rfl (al_rc_4 D cy ad _) rfl hl.1 rfl (Nat.le_of_ble_eq_true rfl) dX7_onWay_13 ⟨Nat.le_of_ble_eq_true rfl, Nat.le_of_ble_eq_true rfl⟩ ⟨Nat.zero_le _, Nat.zero_le _⟩ ?_
  refine W.eq (g2 := F0 m 16 ls [.int (al_rg (σ.1 15) (al_meet σ x y))]) rfl ?_
  refine lv_istore (lv' := [(4, .int (al_rg (σ.1 15) (al_meet σ x y))), (0, .ref (ad (6))), (1, .int x), (2, .int y), (3, .int z)]) S.1 S.2.1 dX7_onWay_16 hl (by decide) rfl (fun ls hl => ?_)
  refine lv_aload_n S.1 S.2.1 dX7_onWay_18 rfl (lv_at hl 1 rfl) ?_
  refine al_g_RX7_15 S hK hW dX7_onWay_19 ?_
  refine lv_iload_n S.1 S.2.1 dX7_onWay_22 rfl (lv_at hl 2 rfl) ?_
  refine al_cP (rest := []) S hK hW (al_X4_depthOf l D cy ad σ x) al_mi_X4_depthOf al_ml_RX7_77 rfl (al_rc_4 D cy ad _) rfl hl.1 rfl (Nat.le_of_ble_eq_true rfl) dX7_onWay_23 ⟨Nat.le_of_ble_eq_true rfl, Nat.le_of_ble_eq_true rfl⟩ ⟨Nat.zero_le _, Nat.zero_le _⟩ ?_
  refine W.eq (g2 := F0 m 26 ls [.int (al_rg (σ.1 15) x)]) rfl ?_
  refine lv_iload S.1 S.2.1 dX7_onWay_26 (lv_at hl 0 rfl) ?_
  refine lv_isub S.1 S.2.1 dX7_onWay_28 ?_
  refine lv_istore (lv' := [(5, .int ((al_rg (σ.1 15) x) - (al_rg (σ.1 15) (al_meet σ x y)))), (4, .int (al_rg (σ.1 15) (al_meet σ x y))), (0, .ref (ad (6))), (1, .int x), (2, .int y), (3, .int z)]) S.1 S.2.1 dX7_onWay_29 hl (by decide) rfl (fun ls hl => ?_)
  refine lv_aload_n S.1 S.2.1 dX7_onWay_31 rfl (lv_at hl 2 rfl) ?_
  refine al_g_RX7_15 S hK hW dX7_onWay_32 ?_
  refine lv_iload_n S.1 S.2.1 dX7_onWay_35 rfl (lv_at hl 4 rfl) ?_
  refine al_cP (rest := []) S hK hW (al_X4_depthOf l D cy ad σ y) al_mi_X4_depthOf al_ml_RX7_77 rfl (al_rc_4 D cy ad _) rfl hl.1 rfl (Nat.le_of_ble_eq_true rfl) dX7_onWay_36 ⟨Nat.le_of_ble_eq_true rfl, Nat.le_of_ble_eq_true rfl⟩ ⟨Nat.zero_le _, Nat.zero_le _⟩ ?_
  refine W.eq (g2 := F0 m 39 ls [.int (al_rg (σ.1 15) y)]) rfl ?_
  refine lv_iload S.1 S.2.1 dX7_onWay_39 (lv_at hl 1 rfl) ?_
  refine lv_isub S.1 S.2.1 dX7_onWay_41 ?_
  refine lv_istore (lv' := [(6, .int ((al_rg (σ.1 15) y) - (al_rg (σ.1 15) (al_meet σ x y)))), (5, .int ((al_rg (σ.1 15) x) - (al_rg (σ.1 15) (al_meet σ x y)))), (4, .int (al_rg (σ.1 15) (al_meet σ x y))), (0, .ref (ad (6))), (1, .int x), (2, .int y), (3, .int z)]) S.1 S.2.1 dX7_onWay_42 hl (by decide) rfl (fun ls hl => ?_)
  refine lv_iload_n S.1 S.2.1 dX7_onWay_44 rfl (lv_at hl 6 rfl) ?_
  refine lv_iload S.1 S.2.1 dX7_onWay_45 (lv_at hl 1 rfl) ?_
  refine lv_iload S.1 S.2.1 dX7_onWay_47 (lv_at hl 0 rfl) ?_
  refine lv_iadd S.1 S.2.1 dX7_onWay_49 ?_
  refine lv_icmp_le (tgt := 55) S.1 S.2.1 dX7_onWay_50 (by decide) (fun c1 => ?_) (fun c1 => ?_)
  · refine lv_iload_n S.1 S.2.1 dX7_onWay_55 rfl (lv_at hl 6 rfl) ?_
    refine lv_iload S.1 S.2.1 dX7_onWay_56 (lv_at hl 1 rfl) ?_
    refine lv_icmp_gt (tgt := 73) S.1 S.2.1 dX7_onWay_58 (by decide) (fun c2 => ?_) (fun c2 => ?_)
    · refine lv_aload_n S.1 S.2.1 dX7_onWay_73 rfl (lv_at hl 3 rfl) ?_
      refine al_g_RX7_15 S hK hW dX7_onWay_74 ?_
      refine lv_iload_n S.1 S.2.1 dX7_onWay_77 rfl (lv_at hl 5 rfl) ?_
      refine lv_iload S.1 S.2.1 dX7_onWay_78 (lv_at hl 1 rfl) ?_
      refine lv_iload S.1 S.2.1 dX7_onWay_80 (lv_at hl 0 rfl) ?_
      refine lv_iadd S.1 S.2.1 dX7_onWay_82 ?_
      refine lv_iload_n S.1 S.2.1 dX7_onWay_83 rfl (lv_at hl 6 rfl) ?_
      refine lv_isub S.1 S.2.1 dX7_onWay_84 ?_
      refine al_cP (rest := []) S hK hW (al_X4_climb l D cy ad σ y ((((al_rg (σ.1 15) x) - (al_rg (σ.1 15) (al_meet σ x y))) + ((al_rg (σ.1 15) y) - (al_rg (σ.1 15) (al_meet σ x y)))) - z)) al_mi_X4_climb al_ml_RX7_80 rfl (al_rc_4 D cy ad _) rfl hl.1 rfl (Nat.le_of_ble_eq_true rfl) dX7_onWay_85 ⟨Nat.le_of_ble_eq_true rfl, Nat.le_of_ble_eq_true rfl⟩ ⟨Nat.zero_le _, Nat.zero_le _⟩ ?_
      refine W.eq (g2 := F0 m 88 ls [.int (al_cl σ y ((((al_rg (σ.1 15) x) - (al_rg (σ.1 15) (al_meet σ x y))) + ((al_rg (σ.1 15) y) - (al_rg (σ.1 15) (al_meet σ x y)))) - z))]) rfl ?_
      exact W.iret S.1 S.2.1 hr (fun t9 ht9 _ => ⟨(congrArg (fun z => Outcome.returned (some (Value.int z))) (by simp only [al_onWay, if_pos (c1), if_pos (c2)])), ht9⟩) (fun q hq => absurd hq List.not_mem_nil) dX7_onWay_88
    · refine lv_aload_n S.1 S.2.1 dX7_onWay_61 rfl (lv_at hl 3 rfl) ?_
      refine al_g_RX7_15 S hK hW dX7_onWay_62 ?_
      refine lv_iload_n S.1 S.2.1 dX7_onWay_65 rfl (lv_at hl 4 rfl) ?_
      refine lv_iload_n S.1 S.2.1 dX7_onWay_66 rfl (lv_at hl 6 rfl) ?_
      refine al_cP (rest := []) S hK hW (al_X4_climb l D cy ad σ x z) al_mi_X4_climb al_ml_RX7_80 rfl (al_rc_4 D cy ad _) rfl hl.1 rfl (Nat.le_of_ble_eq_true rfl) dX7_onWay_67 ⟨Nat.le_of_ble_eq_true rfl, Nat.le_of_ble_eq_true rfl⟩ ⟨Nat.zero_le _, Nat.zero_le _⟩ ?_
      refine W.eq (g2 := F0 m 70 ls [.int (al_cl σ x z)]) rfl ?_
      refine lv_goto (tgt := 88) S.1 S.2.1 dX7_onWay_70 (by decide) ?_
      exact W.iret S.1 S.2.1 hr (fun t9 ht9 _ => ⟨(congrArg (fun z => Outcome.returned (some (Value.int z))) (by simp only [al_onWay, if_pos (c1), if_neg (c2)])), ht9⟩) (fun q hq => absurd hq List.not_mem_nil) dX7_onWay_88
  · refine lv_iconst (v := -1) S.1 S.2.1 dX7_onWay_53 (by decide) ?_
    exact W.iret S.1 S.2.1 hr (fun t9 ht9 _ => ⟨(congrArg (fun z => Outcome.returned (some (Value.int z))) (by simp only [al_onWay, if_neg (c1)])), ht9⟩) (fun q hq => absurd hq List.not_mem_nil) dX7_onWay_54
set_option maxHeartbeats 4000000 in
set_option maxRecDepth 100000 in
theorem al_tl_X7_hw {p : Program} {e : Env} {s : State} {m : MethodId} {args : Array Value} {below : List Frame} {meth : Method} {c : Code} (l : Launch) (D : va_G) (cy : al_CY) (ad : Nat → Nat) (w : UInt32) (g : UInt32) (S : CallFix p m c cX7_highestWithin 7 s args al_G RX7) (hr : meth.sig.returnType = (some .int)) (hlocks : meth.locks = false) (hK : va_K D vwCl (al_tys cy) s) {H : Heap} {σ : al_St} (hh : H = s.heap) (hW : al_H D cy ad σ H) : ∀ (n : Nat) (k : Nat) (a : Int32) (ls : Array Slot), (k + n = 90) → (al_FB σ) → (al_B g) → lv_has ls 7 [(0, .ref (ad (6))), (2, .float w), (3, .float g), (4, .int a), (5, .int (nI k))] → W p l e (al_rm 2 42) s m args below meth c H [] 0 0 (MQ below (al_Qp (some (.int (al_hwL σ w g n a)))) args s 0 0 (fun _ => False)) (F0 m 15 ls []) := by
  intro n
  induction n with
  | zero =>
    intro k a ls hk hB hg hl
    subst hh
    refine lv_iload S.1 S.2.1 dX7_highestWithin_15 (lv_at hl 4 rfl) ?_
    refine lv_bipush (v := 90) S.1 S.2.1 dX7_highestWithin_17 (by decide) ?_
    refine lv_icmp_ge (tgt := 68) S.1 S.2.1 dX7_highestWithin_19 (by decide) (fun c1 => ?_) (fun c1 => ?_)
    · refine lv_iload S.1 S.2.1 dX7_highestWithin_68 (lv_at hl 3 rfl) ?_
      exact W.iret S.1 S.2.1 hr (fun t9 ht9 _ => ⟨(congrArg (fun z => Outcome.returned (some (Value.int z))) (by simp only [al_hwL, if_pos (c1)])), ht9⟩) (fun q hq => absurd hq List.not_mem_nil) dX7_highestWithin_70
    · exact absurd (al_90' (by omega)) c1
  | succ n ih =>
    intro k a ls hk hB hg hl
    subst hh
    refine lv_iload S.1 S.2.1 dX7_highestWithin_15 (lv_at hl 4 rfl) ?_
    refine lv_bipush (v := 90) S.1 S.2.1 dX7_highestWithin_17 (by decide) ?_
    refine lv_icmp_ge (tgt := 68) S.1 S.2.1 dX7_highestWithin_19 (by decide) (fun c1 => ?_) (fun c1 => ?_)
    · exact absurd c1 (al_90 (by omega))
    · refine lv_aload_n S.1 S.2.1 dX7_highestWithin_22 rfl (lv_at hl 0 rfl) ?_
      refine al_g_RX7_9 S hK hW dX7_highestWithin_23 ?_
      refine lv_iload S.1 S.2.1 dX7_highestWithin_26 (lv_at hl 3 rfl) ?_
      refine al_cP (rest := []) S hK hW (al_X6_parentOf l D cy ad σ 0 (by omega) a) al_mi_X6_parentOf al_ml_RX7_57 rfl (al_rc_T D cy ad _ (t := 0) (by omega)) rfl hl.1 rfl (Nat.le_of_ble_eq_true rfl) dX7_highestWithin_28 ⟨Nat.le_of_ble_eq_true rfl, Nat.le_of_ble_eq_true rfl⟩ ⟨Nat.zero_le _, Nat.zero_le _⟩ ?_
      refine W.eq (g2 := F0 m 31 ls [.int (al_rg (σ.1 (2 * 0)) a)]) rfl ?_
      refine lv_istore (lv' := [(6, .int (al_rg (σ.1 (2 * 0)) a)), (0, .ref (ad (6))), (2, .float w), (3, .float g), (4, .int a), (5, .int (nI k))]) S.1 S.2.1 dX7_highestWithin_31 hl (by decide) rfl (fun ls hl => ?_)
      refine lv_iload S.1 S.2.1 dX7_highestWithin_33 (lv_at hl 0 rfl) ?_
      refine lv_iconst (v := -1) S.1 S.2.1 dX7_highestWithin_35 (by decide) ?_
      refine lv_icmp_eq (tgt := 55) S.1 S.2.1 dX7_highestWithin_36 (by decide) (fun c2 => ?_) (fun c2 => ?_)
      · refine lv_iload S.1 S.2.1 dX7_highestWithin_55 (lv_at hl 4 rfl) ?_
        exact W.iret S.1 S.2.1 hr (fun t9 ht9 _ => ⟨(congrArg (fun z => Outcome.returned (some (Value.int z))) (by simp only [al_hwL, if_neg (c1), if_pos (c2)])), ht9⟩) (fun q hq => absurd hq List.not_mem_nil) dX7_highestWithin_57
      · refine lv_fload_n S.1 S.2.1 dX7_highestWithin_39 rfl (lv_at hl 3 rfl) ?_
        refine lv_aload_n S.1 S.2.1 dX7_highestWithin_40 rfl (lv_at hl 1 rfl) ?_
        refine al_g_RX7_22 S hK hW dX7_highestWithin_41 ?_
        refine lv_iload S.1 S.2.1 dX7_highestWithin_44 (lv_at hl 0 rfl) ?_
        refine al_cP (rest := [.float g]) S hK hW (al_X0_get l D cy ad σ 6 (by omega) (al_rg (σ.1 (2 * 0)) a)) al_mi_X0_get al_ml_RX7_62 rfl (al_rc_F D cy ad _ (i := 6) (by omega)) rfl hl.1 rfl (Nat.le_of_ble_eq_true rfl) dX7_highestWithin_46 ⟨Nat.le_of_ble_eq_true rfl, Nat.le_of_ble_eq_true rfl⟩ ⟨Nat.zero_le _, Nat.zero_le _⟩ ?_
        refine W.eq (g2 := F0 m 49 ls [.float (al_fg (σ.2.1 6) (al_rg (σ.1 (2 * 0)) a)), .float g]) rfl ?_
        refine lv_fsub S.1 S.2.1 dX7_highestWithin_49 (al_sub_n32 hg (hB _).1) ?_
        refine lv_fload_n S.1 S.2.1 dX7_highestWithin_50 rfl (lv_at hl 2 rfl) ?_
        refine lv_fcmp S.1 S.2.1 dX7_highestWithin_51 ?_
        refine lv_if_le (tgt := 58) S.1 S.2.1 dX7_highestWithin_52 (by decide) (fun c3 => ?_) (fun c3 => ?_)
        · refine lv_iload S.1 S.2.1 dX7_highestWithin_58 (lv_at hl 0 rfl) ?_
          refine lv_istore (lv' := [(4, .int (al_rg (σ.1 (2 * 0)) a)), (6, .int (al_rg (σ.1 (2 * 0)) a)), (0, .ref (ad (6))), (2, .float w), (3, .float g), (5, .int (nI k))]) S.1 S.2.1 dX7_highestWithin_60 hl (by decide) rfl (fun ls hl => ?_)
          refine lv_iinc (k := 5) (v := nI (k + 1)) (lv' := [(5, .int (nI (k + 1))), (4, .int (al_rg (σ.1 (2 * 0)) a)), (6, .int (al_rg (σ.1 (2 * 0)) a)), (0, .ref (ad (6))), (2, .float w), (3, .float g)]) S.1 S.2.1 dX7_highestWithin_62 hl rfl (al_inc k) (by decide) rfl (fun ls hl => ?_)
          refine lv_goto (tgt := 15) S.1 S.2.1 dX7_highestWithin_65 (by decide) ?_
          rw [show al_hwL σ w g (n + 1) a = al_hwL σ w g n (al_rg (σ.1 (2 * 0)) a) from by simp only [al_hwL, if_neg (c1), if_neg (c2), if_pos (c3)]]
          exact ih (k + 1) (al_rg (σ.1 (2 * 0)) a) _ (by omega) hB hg (lv_sub hl [3, 4, 5, 1, 0] rfl)
        · refine lv_iload S.1 S.2.1 dX7_highestWithin_55 (lv_at hl 4 rfl) ?_
          exact W.iret S.1 S.2.1 hr (fun t9 ht9 _ => ⟨(congrArg (fun z => Outcome.returned (some (Value.int z))) (by simp only [al_hwL, if_neg (c1), if_neg (c2), if_neg (c3)])), ht9⟩) (fun q hq => absurd hq List.not_mem_nil) dX7_highestWithin_57
theorem al_mv_X7_highestWithin : al_mv yX7_highestWithin cX7_highestWithin 7 (some .int) 2 := ⟨al_c_X7_highestWithin, al_ini_RX7, ⟨by decide +kernel, by decide +kernel, by decide +kernel⟩, by decide +kernel⟩
theorem al_mi_X7_highestWithin : al_mi yX7_highestWithin cX7_highestWithin 7 (some .int) 2 := ⟨al_mv_X7_highestWithin, al_in_X7_highestWithin, al_se_X7_highestWithin⟩
set_option maxHeartbeats 4000000 in
set_option maxRecDepth 100000 in
theorem al_X7_highestWithin (l : Launch) (D : va_G) (cy : al_CY) (ad : Nat → Nat) (σ : al_St) (x : Int32) (w : UInt32) (hB : al_FB σ) : al_MP l yX7_highestWithin cX7_highestWithin 7 (some .int) 2 42 D cy ad σ [.ref (ad (6)), .int x, .float w] (some (.int (al_hwL σ w (al_fg (σ.2.1 6) x) 90 x))) := by
  refine al_met al_mv_X7_highestWithin (Nat.le_of_ble_eq_true rfl) ?_
  intro p e s m args below meth c ls S hr hlocks hK hW hS hl
  have hl : lv_has ls 7 [(0, .ref (ad (6))), (1, .int x), (2, .float w)] := hl
  refine lv_aload_n S.1 S.2.1 dX7_highestWithin_0 rfl (lv_at hl 0 rfl) ?_
  refine al_g_RX7_22 S hK hW dX7_highestWithin_1 ?_
  refine lv_iload_n S.1 S.2.1 dX7_highestWithin_4 rfl (lv_at hl 1 rfl) ?_
  refine al_cP (rest := []) S hK hW (al_X0_get l D cy ad σ 6 (by omega) x) al_mi_X0_get al_ml_RX7_62 rfl (al_rc_F D cy ad _ (i := 6) (by omega)) rfl hl.1 rfl (Nat.le_of_ble_eq_true rfl) dX7_highestWithin_5 ⟨Nat.le_of_ble_eq_true rfl, Nat.le_of_ble_eq_true rfl⟩ ⟨Nat.zero_le _, Nat.zero_le _⟩ ?_
  refine W.eq (g2 := F0 m 8 ls [.float (al_fg (σ.2.1 6) x)]) rfl ?_
  refine lv_fstore_n (lv' := [(3, .float (al_fg (σ.2.1 6) x)), (0, .ref (ad (6))), (1, .int x), (2, .float w)]) S.1 S.2.1 dX7_highestWithin_8 rfl hl (by decide) rfl (fun ls hl => ?_)
  refine lv_iload_n S.1 S.2.1 dX7_highestWithin_9 rfl (lv_at hl 2 rfl) ?_
  refine lv_istore (lv' := [(4, .int x), (3, .float (al_fg (σ.2.1 6) x)), (0, .ref (ad (6))), (1, .int x), (2, .float w)]) S.1 S.2.1 dX7_highestWithin_10 hl (by decide) rfl (fun ls hl => ?_)
  refine lv_iconst (v := 0) S.1 S.2.1 dX7_highestWithin_12 (by decide) ?_
  refine lv_istore (lv' := [(5, .int 0), (4, .int x), (3, .float (al_fg (σ.2.1 6) x)), (0, .ref (ad (6))), (1, .int x), (2, .float w)]) S.1 S.2.1 dX7_highestWithin_13 hl (by decide) rfl (fun ls hl => ?_)
  exact al_tl_X7_hw l D cy ad w (al_fg (σ.2.1 6) x) S hr hlocks hK rfl hW 90 0 x _ (by omega) hB (hB _).1 (lv_sub hl [3, 5, 2, 1, 0] rfl)
set_option maxHeartbeats 4000000 in
set_option maxRecDepth 100000 in
theorem al_lp_X7_mk {p : Program} {e : Env} {s : State} {m : MethodId} {args : Array Value} {below : List Frame} {meth : Method} {c : Code} {Q : State → Prop} (l : Launch) (D : va_G) (cy : al_CY) (ad : Nat → Nat) (S : CallFix p m c cX7_findMeetings 6 s args al_G RX7) (hK : va_K D vwCl (al_tys cy) s) {H0 : Heap} : ∀ (n : Nat) (σ : al_St) (k : Nat) (a : Int32) (H : Heap) (locs : List Loc) (ls : Array Slot), (k + n = 90) → al_H D cy ad σ H → va_S (al_A ad) H0 H locs → lv_has ls 6 [(0, .ref (ad (6))), (2, .int a), (3, .int (nI k))] → (∀ (σ' : al_St) (H : Heap) (locs : List Loc) (ls : Array Slot), al_mkL n a σ = σ' → al_H D cy ad σ' H → va_S (al_A ad) H0 H locs → lv_has ls 6 [(0, .ref (ad (6)))] → W p l e (al_rm 2 42) s m args below meth c H locs 0 0 Q (F0 m 47 ls [])) → W p l e (al_rm 2 42) s m args below meth c H locs 0 0 Q (F0 m 12 ls []) := by
  intro n
  induction n with
  | zero =>
    intro σ k a H locs ls hk hW hS hl K
    refine lv_iload_n S.1 S.2.1 dX7_findMeetings_12 rfl (lv_at hl 2 rfl) ?_
    refine lv_bipush (v := 90) S.1 S.2.1 dX7_findMeetings_13 (by decide) ?_
    refine lv_icmp_ge (tgt := 47) S.1 S.2.1 dX7_findMeetings_15 (by decide) (fun c1 => ?_) (fun c1 => ?_)
    · exact K σ  _ _ _ (by simp only [al_mkL, if_pos (c1)]) hW hS (lv_sub hl [0] rfl)
    · exact absurd (al_90' (by omega)) c1
  | succ n ih =>
    intro σ k a H locs ls hk hW hS hl K
    refine lv_iload_n S.1 S.2.1 dX7_findMeetings_12 rfl (lv_at hl 2 rfl) ?_
    refine lv_bipush (v := 90) S.1 S.2.1 dX7_findMeetings_13 (by decide) ?_
    refine lv_icmp_ge (tgt := 47) S.1 S.2.1 dX7_findMeetings_15 (by decide) (fun c1 => ?_) (fun c1 => ?_)
    · exact absurd c1 (al_90 (by omega))
    · refine lv_iload_n S.1 S.2.1 dX7_findMeetings_18 rfl (lv_at hl 1 rfl) ?_
      refine lv_iconst (v := -1) S.1 S.2.1 dX7_findMeetings_19 (by decide) ?_
      refine lv_icmp_eq (tgt := 47) S.1 S.2.1 dX7_findMeetings_20 (by decide) (fun c2 => ?_) (fun c2 => ?_)
      · exact K σ  _ _ _ (by simp only [al_mkL, if_neg (c1), if_pos (c2)]) hW hS (lv_sub hl [0] rfl)
      · refine lv_aload_n S.1 S.2.1 dX7_findMeetings_23 rfl (lv_at hl 0 rfl) ?_
        refine al_g_RX7_32 S hK hW dX7_findMeetings_24 ?_
        refine lv_iload_n S.1 S.2.1 dX7_findMeetings_27 rfl (lv_at hl 1 rfl) ?_
        refine lv_iconst (v := 1) S.1 S.2.1 dX7_findMeetings_28 (by decide) ?_
        refine al_cS (rest := []) S hK hW hS (al_X2_set l D cy ad σ 22 (by omega) a 1) al_mi_X2_set al_ml_RX7_102 rfl (al_rc_R D cy ad _ (i := 22) (by omega)) rfl hl.1 rfl (Nat.le_of_ble_eq_true rfl) dX7_findMeetings_29 ⟨Nat.le_of_ble_eq_true rfl, Nat.le_of_ble_eq_true rfl⟩ ⟨Nat.zero_le _, Nat.zero_le _⟩ (fun H locs hW hS => ?_)
        refine W.eq (g2 := F0 m 32 ls []) rfl ?_
        refine lv_aload_n S.1 S.2.1 dX7_findMeetings_32 rfl (lv_at hl 0 rfl) ?_
        refine al_g_RX7_9 S hK hW dX7_findMeetings_33 ?_
        refine lv_iload_n S.1 S.2.1 dX7_findMeetings_36 rfl (lv_at hl 1 rfl) ?_
        refine al_cP (rest := []) S hK hW (al_X6_parentOf l D cy ad (al_set σ 22 a 1) 0 (by omega) a) al_mi_X6_parentOf al_ml_RX7_57 rfl (al_rc_T D cy ad _ (t := 0) (by omega)) rfl hl.1 rfl (Nat.le_of_ble_eq_true rfl) dX7_findMeetings_37 ⟨Nat.le_of_ble_eq_true rfl, Nat.le_of_ble_eq_true rfl⟩ ⟨Nat.zero_le _, Nat.zero_le _⟩ ?_
        refine W.eq (g2 := F0 m 40 ls [.int (al_rg ((al_set σ 22 a 1).1 (2 * 0)) a)]) rfl ?_
        refine lv_istore_n (lv' := [(2, .int (al_rg ((al_set σ 22 a 1).1 (2 * 0)) a)), (0, .ref (ad (6))), (3, .int (nI k))]) S.1 S.2.1 dX7_findMeetings_40 rfl hl (by decide) rfl (fun ls hl => ?_)
        refine lv_iinc (k := 2) (v := nI (k + 1)) (lv' := [(3, .int (nI (k + 1))), (2, .int (al_rg ((al_set σ 22 a 1).1 (2 * 0)) a)), (0, .ref (ad (6)))]) S.1 S.2.1 dX7_findMeetings_41 hl rfl (al_inc k) (by decide) rfl (fun ls hl => ?_)
        refine lv_goto (tgt := 12) S.1 S.2.1 dX7_findMeetings_44 (by decide) ?_
        exact ih (al_set σ 22 a 1) (k + 1) (al_rg ((al_set σ 22 a 1).1 (2 * 0)) a) _ _ _ (by omega) hW hS (lv_sub hl [2, 1, 0] rfl) (fun σ'  H locs ls e9 hW hS hl => K σ'  H locs ls (by simp only [al_mkL, if_neg (c1), if_neg (c2)]; exact e9) hW hS hl)
set_option maxHeartbeats 4000000 in
set_option maxRecDepth 100000 in
theorem al_lp_X7_mp {p : Program} {e : Env} {s : State} {m : MethodId} {args : Array Value} {below : List Frame} {meth : Method} {c : Code} {Q : State → Prop} (l : Launch) (D : va_G) (cy : al_CY) (ad : Nat → Nat) (S : CallFix p m c cX7_findMeetings 6 s args al_G RX7) (hK : va_K D vwCl (al_tys cy) s) {H0 : Heap} : ∀ (n : Nat) (σ : al_St) (k : Nat) (H : Heap) (locs : List Loc) (ls : Array Slot), (k + n = 90) → al_H D cy ad σ H → va_S (al_A ad) H0 H locs → lv_has ls 6 [(0, .ref (ad (6))), (3, .int (nI k))] → (∀ (σ' : al_St) (H : Heap) (locs : List Loc) (ls : Array Slot), al_mpL n k σ = σ' → al_H D cy ad σ' H → va_S (al_A ad) H0 H locs → lv_has ls 6 [(0, .ref (ad (6)))] → W p l e (al_rm 2 42) s m args below meth c H locs 0 0 Q (F0 m 144 ls [])) → W p l e (al_rm 2 42) s m args below meth c H locs 0 0 Q (F0 m 49 ls []) := by
  intro n
  induction n with
  | zero =>
    intro σ k H locs ls hk hW hS hl K
    refine lv_iload_n S.1 S.2.1 dX7_findMeetings_49 rfl (lv_at hl 1 rfl) ?_
    refine lv_aload_n S.1 S.2.1 dX7_findMeetings_50 rfl (lv_at hl 0 rfl) ?_
    refine al_g_RX7_15 S hK hW dX7_findMeetings_51 ?_
    refine al_cP (rest := [.int (nI k)]) S hK hW (al_X4_present l D cy ad σ ) al_mi_X4_present al_ml_RX7_47 rfl (al_rc_4 D cy ad _) rfl hl.1 rfl (Nat.le_of_ble_eq_true rfl) dX7_findMeetings_54 ⟨Nat.le_of_ble_eq_true rfl, Nat.le_of_ble_eq_true rfl⟩ ⟨Nat.zero_le _, Nat.zero_le _⟩ ?_
    refine W.eq (g2 := F0 m 57 ls [.int (σ.2.2.1 9), .int (nI k)]) rfl ?_
    refine lv_icmp_ge (tgt := 144) S.1 S.2.1 dX7_findMeetings_57 (by decide) (fun c1 => ?_) (fun c1 => ?_)
    · exact K σ  _ _ _ (by simp only [al_mpL, al_mp1, if_pos (c1)]) hW hS (lv_sub hl [0] rfl)
    · refine lv_iload_n S.1 S.2.1 dX7_findMeetings_60 rfl (lv_at hl 1 rfl) ?_
      refine lv_bipush (v := 90) S.1 S.2.1 dX7_findMeetings_61 (by decide) ?_
      refine lv_icmp_ge (tgt := 144) S.1 S.2.1 dX7_findMeetings_63 (by decide) (fun c2 => ?_) (fun c2 => ?_)
      · exact K σ  _ _ _ (by simp only [al_mpL, al_mp1, if_neg (c1), if_pos (c2)]) hW hS (lv_sub hl [0] rfl)
      · exact absurd (al_90' (by omega)) c2
  | succ n ih =>
    intro σ k H locs ls hk hW hS hl K
    refine lv_iload_n S.1 S.2.1 dX7_findMeetings_49 rfl (lv_at hl 1 rfl) ?_
    refine lv_aload_n S.1 S.2.1 dX7_findMeetings_50 rfl (lv_at hl 0 rfl) ?_
    refine al_g_RX7_15 S hK hW dX7_findMeetings_51 ?_
    refine al_cP (rest := [.int (nI k)]) S hK hW (al_X4_present l D cy ad σ ) al_mi_X4_present al_ml_RX7_47 rfl (al_rc_4 D cy ad _) rfl hl.1 rfl (Nat.le_of_ble_eq_true rfl) dX7_findMeetings_54 ⟨Nat.le_of_ble_eq_true rfl, Nat.le_of_ble_eq_true rfl⟩ ⟨Nat.zero_le _, Nat.zero_le _⟩ ?_
    refine W.eq (g2 := F0 m 57 ls [.int (σ.2.2.1 9), .int (nI k)]) rfl ?_
    refine lv_icmp_ge (tgt := 144) S.1 S.2.1 dX7_findMeetings_57 (by decide) (fun c1 => ?_) (fun c1 => ?_)
    · exact K σ  _ _ _ (by simp only [al_mpL, al_mp1, if_pos (c1)]) hW hS (lv_sub hl [0] rfl)
    · refine lv_iload_n S.1 S.2.1 dX7_findMeetings_60 rfl (lv_at hl 1 rfl) ?_
      refine lv_bipush (v := 90) S.1 S.2.1 dX7_findMeetings_61 (by decide) ?_
      refine lv_icmp_ge (tgt := 144) S.1 S.2.1 dX7_findMeetings_63 (by decide) (fun c2 => ?_) (fun c2 => ?_)
      · exact absurd c2 (al_90 (by omega))
      · refine lv_aload_n S.1 S.2.1 dX7_findMeetings_66 rfl (lv_at hl 0 rfl) ?_
        refine al_g_RX7_15 S hK hW dX7_findMeetings_67 ?_
        refine lv_iload_n S.1 S.2.1 dX7_findMeetings_70 rfl (lv_at hl 1 rfl) ?_
        refine al_cP (rest := []) S hK hW (al_X4_downwardAt l D cy ad σ (nI k)) al_mi_X4_downwardAt al_ml_RX7_53 rfl (al_rc_4 D cy ad _) rfl hl.1 rfl (Nat.le_of_ble_eq_true rfl) dX7_findMeetings_71 ⟨Nat.le_of_ble_eq_true rfl, Nat.le_of_ble_eq_true rfl⟩ ⟨Nat.zero_le _, Nat.zero_le _⟩ ?_
        refine W.eq (g2 := F0 m 74 ls [.int (al_rg (σ.1 14) (nI k))]) rfl ?_
        refine lv_istore (lv' := [(4, .int (al_rg (σ.1 14) (nI k))), (0, .ref (ad (6))), (3, .int (nI k))]) S.1 S.2.1 dX7_findMeetings_74 hl (by decide) rfl (fun ls hl => ?_)
        refine lv_aload_n S.1 S.2.1 dX7_findMeetings_76 rfl (lv_at hl 1 rfl) ?_
        refine al_g_RX7_32 S hK hW dX7_findMeetings_77 ?_
        refine lv_iload S.1 S.2.1 dX7_findMeetings_80 (lv_at hl 0 rfl) ?_
        refine al_cP (rest := []) S hK hW (al_X2_get l D cy ad σ 22 (by omega) (al_rg (σ.1 14) (nI k))) al_mi_X2_get al_ml_RX7_105 rfl (al_rc_R D cy ad _ (i := 22) (by omega)) rfl hl.1 rfl (Nat.le_of_ble_eq_true rfl) dX7_findMeetings_82 ⟨Nat.le_of_ble_eq_true rfl, Nat.le_of_ble_eq_true rfl⟩ ⟨Nat.zero_le _, Nat.zero_le _⟩ ?_
        refine W.eq (g2 := F0 m 85 ls [.int (al_rg (σ.1 22) (al_rg (σ.1 14) (nI k)))]) rfl ?_
        refine lv_iconst (v := 1) S.1 S.2.1 dX7_findMeetings_85 (by decide) ?_
        refine lv_icmp_ne (tgt := 93) S.1 S.2.1 dX7_findMeetings_86 (by decide) (fun c3 => ?_) (fun c3 => ?_)
        · refine lv_iconst (v := 0) S.1 S.2.1 dX7_findMeetings_93 (by decide) ?_
          refine lv_istore (lv' := [(5, .int 0), (4, .int (al_rg (σ.1 14) (nI k))), (0, .ref (ad (6))), (3, .int (nI k))]) S.1 S.2.1 dX7_findMeetings_94 hl (by decide) rfl (fun ls hl => ?_)
          refine lv_aload_n S.1 S.2.1 dX7_findMeetings_96 rfl (lv_at hl 2 rfl) ?_
          refine al_g_RX7_26 S hK hW dX7_findMeetings_97 ?_
          refine lv_iload S.1 S.2.1 dX7_findMeetings_100 (lv_at hl 1 rfl) ?_
          refine lv_iload S.1 S.2.1 dX7_findMeetings_102 (lv_at hl 0 rfl) ?_
          refine lv_if_eq (tgt := 119) S.1 S.2.1 dX7_findMeetings_104 (by decide) (fun c4 => ?_) (fun c4 => ?_)
          · refine lv_aload_n S.1 S.2.1 dX7_findMeetings_119 rfl (lv_at hl 2 rfl) ?_
            refine al_g_RX7_26 S hK hW dX7_findMeetings_120 ?_
            refine lv_aload_n S.1 S.2.1 dX7_findMeetings_123 rfl (lv_at hl 2 rfl) ?_
            refine al_g_RX7_9 S hK hW dX7_findMeetings_124 ?_
            refine lv_iload S.1 S.2.1 dX7_findMeetings_127 (lv_at hl 1 rfl) ?_
            refine al_cP (rest := [.ref (ad (64 + 2 * 7)), .int (al_rg (σ.1 14) (nI k)), .ref (ad (64 + 2 * 7))]) S hK hW (al_X6_parentOf l D cy ad σ 0 (by omega) (al_rg (σ.1 14) (nI k))) al_mi_X6_parentOf al_ml_RX7_57 rfl (al_rc_T D cy ad _ (t := 0) (by omega)) rfl hl.1 rfl (Nat.le_of_ble_eq_true rfl) dX7_findMeetings_129 ⟨Nat.le_of_ble_eq_true rfl, Nat.le_of_ble_eq_true rfl⟩ ⟨Nat.zero_le _, Nat.zero_le _⟩ ?_
            refine W.eq (g2 := F0 m 132 ls [.int (al_rg (σ.1 (2 * 0)) (al_rg (σ.1 14) (nI k))), .ref (ad (64 + 2 * 7)), .int (al_rg (σ.1 14) (nI k)), .ref (ad (64 + 2 * 7))]) rfl ?_
            refine al_cP (rest := [.int (al_rg (σ.1 14) (nI k)), .ref (ad (64 + 2 * 7))]) S hK hW (al_X0_get l D cy ad σ 7 (by omega) (al_rg (σ.1 (2 * 0)) (al_rg (σ.1 14) (nI k)))) al_mi_X0_get al_ml_RX7_62 rfl (al_rc_F D cy ad _ (i := 7) (by omega)) rfl hl.1 rfl (Nat.le_of_ble_eq_true rfl) dX7_findMeetings_132 ⟨Nat.le_of_ble_eq_true rfl, Nat.le_of_ble_eq_true rfl⟩ ⟨Nat.zero_le _, Nat.zero_le _⟩ ?_
            refine W.eq (g2 := F0 m 135 ls [.float (al_fg (σ.2.1 7) (al_rg (σ.1 (2 * 0)) (al_rg (σ.1 14) (nI k)))), .int (al_rg (σ.1 14) (nI k)), .ref (ad (64 + 2 * 7))]) rfl ?_
            refine al_cS (rest := []) S hK hW hS (al_X0_set l D cy ad σ 7 (by omega) (al_rg (σ.1 14) (nI k)) (al_fg (σ.2.1 7) (al_rg (σ.1 (2 * 0)) (al_rg (σ.1 14) (nI k))))) al_mi_X0_set al_ml_RX7_43 rfl (al_rc_F D cy ad _ (i := 7) (by omega)) rfl hl.1 rfl (Nat.le_of_ble_eq_true rfl) dX7_findMeetings_135 ⟨Nat.le_of_ble_eq_true rfl, Nat.le_of_ble_eq_true rfl⟩ ⟨Nat.zero_le _, Nat.zero_le _⟩ (fun H locs hW hS => ?_)
            refine W.eq (g2 := F0 m 138 ls []) rfl ?_
            refine lv_iinc (k := 3) (v := nI (k + 1)) (lv' := [(3, .int (nI (k + 1))), (5, .int 0), (4, .int (al_rg (σ.1 14) (nI k))), (0, .ref (ad (6)))]) S.1 S.2.1 dX7_findMeetings_138 hl rfl (al_inc k) (by decide) rfl (fun ls hl => ?_)
            refine lv_goto (tgt := 49) S.1 S.2.1 dX7_findMeetings_141 (by decide) ?_
            exact ih (al_fset σ 7 (al_rg (σ.1 14) (nI k)) (al_fg (σ.2.1 7) (al_rg (σ.1 (2 * 0)) (al_rg (σ.1 14) (nI k))))) (k + 1) _ _ _ (by omega) hW hS (lv_sub hl [3, 0] rfl) (fun σ'  H locs ls e9 hW hS hl => K σ'  H locs ls (by simp only [al_mpL, al_mp1, if_neg (c1), if_neg (c2), if_neg (c3), if_pos (c4)]; exact e9) hW hS hl)
          · exact absurd (by decide) c4
        · refine lv_iconst (v := 1) S.1 S.2.1 dX7_findMeetings_89 (by decide) ?_
          refine lv_goto (tgt := 94) S.1 S.2.1 dX7_findMeetings_90 (by decide) ?_
          refine lv_istore (lv' := [(5, .int 1), (4, .int (al_rg (σ.1 14) (nI k))), (0, .ref (ad (6))), (3, .int (nI k))]) S.1 S.2.1 dX7_findMeetings_94 hl (by decide) rfl (fun ls hl => ?_)
          refine lv_aload_n S.1 S.2.1 dX7_findMeetings_96 rfl (lv_at hl 2 rfl) ?_
          refine al_g_RX7_26 S hK hW dX7_findMeetings_97 ?_
          refine lv_iload S.1 S.2.1 dX7_findMeetings_100 (lv_at hl 1 rfl) ?_
          refine lv_iload S.1 S.2.1 dX7_findMeetings_102 (lv_at hl 0 rfl) ?_
          refine lv_if_eq (tgt := 119) S.1 S.2.1 dX7_findMeetings_104 (by decide) (fun c5 => ?_) (fun c5 => ?_)
          · exact absurd c5 (by decide)
          · refine lv_aload_n S.1 S.2.1 dX7_findMeetings_107 rfl (lv_at hl 2 rfl) ?_
            refine al_g_RX7_22 S hK hW dX7_findMeetings_108 ?_
            refine lv_iload S.1 S.2.1 dX7_findMeetings_111 (lv_at hl 1 rfl) ?_
            refine al_cP (rest := [.int (al_rg (σ.1 14) (nI k)), .ref (ad (64 + 2 * 7))]) S hK hW (al_X0_get l D cy ad σ 6 (by omega) (al_rg (σ.1 14) (nI k))) al_mi_X0_get al_ml_RX7_62 rfl (al_rc_F D cy ad _ (i := 6) (by omega)) rfl hl.1 rfl (Nat.le_of_ble_eq_true rfl) dX7_findMeetings_113 ⟨Nat.le_of_ble_eq_true rfl, Nat.le_of_ble_eq_true rfl⟩ ⟨Nat.zero_le _, Nat.zero_le _⟩ ?_
            refine W.eq (g2 := F0 m 116 ls [.float (al_fg (σ.2.1 6) (al_rg (σ.1 14) (nI k))), .int (al_rg (σ.1 14) (nI k)), .ref (ad (64 + 2 * 7))]) rfl ?_
            refine lv_goto (tgt := 135) S.1 S.2.1 dX7_findMeetings_116 (by decide) ?_
            refine al_cS (rest := []) S hK hW hS (al_X0_set l D cy ad σ 7 (by omega) (al_rg (σ.1 14) (nI k)) (al_fg (σ.2.1 6) (al_rg (σ.1 14) (nI k)))) al_mi_X0_set al_ml_RX7_43 rfl (al_rc_F D cy ad _ (i := 7) (by omega)) rfl hl.1 rfl (Nat.le_of_ble_eq_true rfl) dX7_findMeetings_135 ⟨Nat.le_of_ble_eq_true rfl, Nat.le_of_ble_eq_true rfl⟩ ⟨Nat.zero_le _, Nat.zero_le _⟩ (fun H locs hW hS => ?_)
            refine W.eq (g2 := F0 m 138 ls []) rfl ?_
            refine lv_iinc (k := 3) (v := nI (k + 1)) (lv' := [(3, .int (nI (k + 1))), (5, .int 1), (4, .int (al_rg (σ.1 14) (nI k))), (0, .ref (ad (6)))]) S.1 S.2.1 dX7_findMeetings_138 hl rfl (al_inc k) (by decide) rfl (fun ls hl => ?_)
            refine lv_goto (tgt := 49) S.1 S.2.1 dX7_findMeetings_141 (by decide) ?_
            exact ih (al_fset σ 7 (al_rg (σ.1 14) (nI k)) (al_fg (σ.2.1 6) (al_rg (σ.1 14) (nI k)))) (k + 1) _ _ _ (by omega) hW hS (lv_sub hl [3, 0] rfl) (fun σ'  H locs ls e9 hW hS hl => K σ'  H locs ls (by simp only [al_mpL, al_mp1, if_neg (c1), if_neg (c2), if_pos (c3), if_neg (c5)]; exact e9) hW hS hl)
theorem al_mv_X7_findMeetings : al_mv yX7_findMeetings cX7_findMeetings 6 none 1 := ⟨al_c_X7_findMeetings, al_ini_RX7, ⟨by decide +kernel, by decide +kernel, by decide +kernel⟩, by decide +kernel⟩
theorem al_mi_X7_findMeetings : al_mi yX7_findMeetings cX7_findMeetings 6 none 1 := ⟨al_mv_X7_findMeetings, al_in_X7_findMeetings, al_se_X7_findMeetings⟩
set_option maxHeartbeats 4000000 in
set_option maxRecDepth 100000 in
theorem al_X7_findMeetings (l : Launch) (D : va_G) (cy : al_CY) (ad : Nat → Nat) (σ : al_St) (x : Int32) : al_MS l yX7_findMeetings cX7_findMeetings 6 none 2 42 D cy ad σ [.ref (ad (6)), .int x] none (al_meets σ x) := by
  refine al_met al_mv_X7_findMeetings (Nat.le_of_ble_eq_true rfl) ?_
  intro p e s m args below meth c ls S hr hlocks hK hW hS hl
  have hl : lv_has ls 6 [(0, .ref (ad (6))), (1, .int x)] := hl
  refine lv_aload_n S.1 S.2.1 dX7_findMeetings_0 rfl (lv_at hl 0 rfl) ?_
  refine al_g_RX7_32 S hK hW dX7_findMeetings_1 ?_
  refine lv_iconst (v := 0) S.1 S.2.1 dX7_findMeetings_4 (by decide) ?_
  refine al_cS (rest := []) S hK hW hS (al_X2_fill l D cy ad σ 22 (by omega) 0) al_mi_X2_fill al_ml_RX7_99 rfl (al_rc_R D cy ad _ (i := 22) (by omega)) rfl hl.1 rfl (Nat.le_of_ble_eq_true rfl) dX7_findMeetings_5 ⟨Nat.le_of_ble_eq_true rfl, Nat.le_of_ble_eq_true rfl⟩ ⟨Nat.zero_le _, Nat.zero_le _⟩ (fun H locs hW hS => ?_)
  refine W.eq (g2 := F0 m 8 ls []) rfl ?_
  refine lv_iload_n S.1 S.2.1 dX7_findMeetings_8 rfl (lv_at hl 1 rfl) ?_
  refine lv_istore_n (lv' := [(2, .int x), (0, .ref (ad (6))), (1, .int x)]) S.1 S.2.1 dX7_findMeetings_9 rfl hl (by decide) rfl (fun ls hl => ?_)
  refine lv_iconst (v := 0) S.1 S.2.1 dX7_findMeetings_10 (by decide) ?_
  refine lv_istore_n (lv' := [(3, .int 0), (2, .int x), (0, .ref (ad (6))), (1, .int x)]) S.1 S.2.1 dX7_findMeetings_11 rfl hl (by decide) rfl (fun ls hl => ?_)
  refine al_lp_X7_mk l D cy ad  S hK 90 (al_sR σ 22 (al_fill 90 0 (σ.1 22))) 0 x _ _ _ (by omega) hW hS (lv_sub hl [2, 1, 0] rfl) (fun σ1 H locs ls e2 hW hS hl => ?_)
  refine lv_iconst (v := 0) S.1 S.2.1 dX7_findMeetings_47 (by decide) ?_
  refine lv_istore_n (lv' := [(3, .int 0), (0, .ref (ad (6)))]) S.1 S.2.1 dX7_findMeetings_48 rfl hl (by decide) rfl (fun ls hl => ?_)
  refine al_lp_X7_mp l D cy ad  S hK 90 σ1 0 _ _ _ (by omega) hW hS (lv_sub hl [1, 0] rfl) (fun σ3 H locs ls e4 hW hS hl => ?_)
  exact W.vret S.1 S.2.1 hr (fun t9 ht9 _ => ⟨rfl, by rw [ht9]; exact (al_He hW (by simp only [al_meets, al_fillR, e2, e4])), hS.F ht9⟩) hS.2.2 dX7_findMeetings_144
set_option maxHeartbeats 4000000 in
set_option maxRecDepth 100000 in
theorem al_lp_X7_far {p : Program} {e : Env} {s : State} {m : MethodId} {args : Array Value} {below : List Frame} {meth : Method} {c : Code} {Q : State → Prop} (l : Launch) (D : va_G) (cy : al_CY) (ad : Nat → Nat) (x : Int32) (S : CallFix p m c cX7_farthestFromOn 6 s args al_G RX7) (hK : va_K D vwCl (al_tys cy) s) {H : Heap} {locs : List Loc} {σ : al_St} (hW : al_H D cy ad σ H) : ∀ (n : Nat) (k : Nat) (g : UInt32) (r : Int32) (ls : Array Slot), (k + n = 90) → (al_FB σ) → lv_has ls 6 [(0, .ref (ad (6))), (1, .int x), (3, .int r), (4, .float g), (5, .int (nI k))] → (∀ (r' : Int32) (ls : Array Slot), al_farL σ x n k g r = r' → lv_has ls 6 [(3, .int r')] → W p l e (al_rm 2 44) s m args below meth c H locs 0 0 Q (F0 m 59 ls [])) → W p l e (al_rm 2 44) s m args below meth c H locs 0 0 Q (F0 m 9 ls []) := by
  intro n
  induction n with
  | zero =>
    intro k g r ls hk hB hl K
    refine lv_iload S.1 S.2.1 dX7_farthestFromOn_9 (lv_at hl 4 rfl) ?_
    refine lv_bipush (v := 90) S.1 S.2.1 dX7_farthestFromOn_11 (by decide) ?_
    refine lv_icmp_ge (tgt := 59) S.1 S.2.1 dX7_farthestFromOn_13 (by decide) (fun c1 => ?_) (fun c1 => ?_)
    · exact K r _ (by simp only [al_farL, if_pos (c1)]) (lv_sub hl [2] rfl)
    · exact absurd (al_90' (by omega)) c1
  | succ n ih =>
    intro k g r ls hk hB hl K
    refine lv_iload S.1 S.2.1 dX7_farthestFromOn_9 (lv_at hl 4 rfl) ?_
    refine lv_bipush (v := 90) S.1 S.2.1 dX7_farthestFromOn_11 (by decide) ?_
    refine lv_icmp_ge (tgt := 59) S.1 S.2.1 dX7_farthestFromOn_13 (by decide) (fun c1 => ?_) (fun c1 => ?_)
    · exact absurd c1 (al_90 (by omega))
    · refine lv_aload_n S.1 S.2.1 dX7_farthestFromOn_16 rfl (lv_at hl 0 rfl) ?_
      refine al_g_RX7_9 S hK hW dX7_farthestFromOn_17 ?_
      refine lv_iload S.1 S.2.1 dX7_farthestFromOn_20 (lv_at hl 4 rfl) ?_
      refine al_cP (rest := []) S hK hW (al_X6_isNode l D cy ad σ 0 (by omega) (nI k)) al_mi_X6_isNode al_ml_RX7_91 rfl (al_rc_T D cy ad _ (t := 0) (by omega)) rfl hl.1 rfl (Nat.le_of_ble_eq_true rfl) dX7_farthestFromOn_22 ⟨Nat.le_of_ble_eq_true rfl, Nat.le_of_ble_eq_true rfl⟩ ⟨Nat.zero_le _, Nat.zero_le _⟩ ?_
      refine W.eq (g2 := F0 m 25 ls [.int (al_isN σ 0 (nI k))]) rfl ?_
      refine lv_if_eq (tgt := 53) S.1 S.2.1 dX7_farthestFromOn_25 (by decide) (fun c2 => ?_) (fun c2 => ?_)
      · refine lv_iinc (k := 4) (v := nI (k + 1)) (lv' := [(5, .int (nI (k + 1))), (0, .ref (ad (6))), (1, .int x), (3, .int r), (4, .float g)]) S.1 S.2.1 dX7_farthestFromOn_53 hl rfl (al_inc k) (by decide) rfl (fun ls hl => ?_)
        refine lv_goto (tgt := 9) S.1 S.2.1 dX7_farthestFromOn_56 (by decide) ?_
        exact ih (k + 1) g r _ (by omega) hB (lv_sub hl [1, 2, 3, 4, 0] rfl) (fun r' ls e9 hl => K r' ls (by simp only [al_farL, if_neg (c1), if_pos (c2)]; exact e9) hl)
      · refine lv_aload_n S.1 S.2.1 dX7_farthestFromOn_28 rfl (lv_at hl 0 rfl) ?_
        refine lv_iload_n S.1 S.2.1 dX7_farthestFromOn_29 rfl (lv_at hl 1 rfl) ?_
        refine lv_iload S.1 S.2.1 dX7_farthestFromOn_30 (lv_at hl 4 rfl) ?_
        refine al_cP (rest := []) S hK hW (al_X7_measured l D cy ad σ x (nI k) hB) al_mi_X7_measured al_ml_RX7_95 rfl (al_rc_7 D cy ad _) rfl hl.1 rfl (Nat.le_of_ble_eq_true rfl) dX7_farthestFromOn_32 ⟨Nat.le_of_ble_eq_true rfl, Nat.le_of_ble_eq_true rfl⟩ ⟨Nat.zero_le _, Nat.zero_le _⟩ ?_
        refine W.eq (g2 := F0 m 35 ls [.float (al_meas σ x (nI k))]) rfl ?_
        refine lv_fload S.1 S.2.1 dX7_farthestFromOn_35 (lv_at hl 3 rfl) ?_
        refine lv_fcmp S.1 S.2.1 dX7_farthestFromOn_37 ?_
        refine lv_if_le (tgt := 53) S.1 S.2.1 dX7_farthestFromOn_38 (by decide) (fun c3 => ?_) (fun c3 => ?_)
        · refine lv_iinc (k := 4) (v := nI (k + 1)) (lv' := [(5, .int (nI (k + 1))), (0, .ref (ad (6))), (1, .int x), (3, .int r), (4, .float g)]) S.1 S.2.1 dX7_farthestFromOn_53 hl rfl (al_inc k) (by decide) rfl (fun ls hl => ?_)
          refine lv_goto (tgt := 9) S.1 S.2.1 dX7_farthestFromOn_56 (by decide) ?_
          exact ih (k + 1) g r _ (by omega) hB (lv_sub hl [1, 2, 3, 4, 0] rfl) (fun r' ls e9 hl => K r' ls (by simp only [al_farL, if_neg (c1), if_neg (c2), if_pos (c3)]; exact e9) hl)
        · refine lv_aload_n S.1 S.2.1 dX7_farthestFromOn_41 rfl (lv_at hl 0 rfl) ?_
          refine lv_iload_n S.1 S.2.1 dX7_farthestFromOn_42 rfl (lv_at hl 1 rfl) ?_
          refine lv_iload S.1 S.2.1 dX7_farthestFromOn_43 (lv_at hl 4 rfl) ?_
          refine al_cP (rest := []) S hK hW (al_X7_measured l D cy ad σ x (nI k) hB) al_mi_X7_measured al_ml_RX7_95 rfl (al_rc_7 D cy ad _) rfl hl.1 rfl (Nat.le_of_ble_eq_true rfl) dX7_farthestFromOn_45 ⟨Nat.le_of_ble_eq_true rfl, Nat.le_of_ble_eq_true rfl⟩ ⟨Nat.zero_le _, Nat.zero_le _⟩ ?_
          refine W.eq (g2 := F0 m 48 ls [.float (al_meas σ x (nI k))]) rfl ?_
          refine lv_fstore (lv' := [(4, .float (al_meas σ x (nI k))), (0, .ref (ad (6))), (1, .int x), (3, .int r), (5, .int (nI k))]) S.1 S.2.1 dX7_farthestFromOn_48 hl (by decide) rfl (fun ls hl => ?_)
          refine lv_iload S.1 S.2.1 dX7_farthestFromOn_50 (lv_at hl 4 rfl) ?_
          refine lv_istore_n (lv' := [(3, .int (nI k)), (4, .float (al_meas σ x (nI k))), (0, .ref (ad (6))), (1, .int x), (5, .int (nI k))]) S.1 S.2.1 dX7_farthestFromOn_52 rfl hl (by decide) rfl (fun ls hl => ?_)
          refine lv_iinc (k := 4) (v := nI (k + 1)) (lv' := [(5, .int (nI (k + 1))), (3, .int (nI k)), (4, .float (al_meas σ x (nI k))), (0, .ref (ad (6))), (1, .int x)]) S.1 S.2.1 dX7_farthestFromOn_53 hl rfl (al_inc k) (by decide) rfl (fun ls hl => ?_)
          refine lv_goto (tgt := 9) S.1 S.2.1 dX7_farthestFromOn_56 (by decide) ?_
          exact ih (k + 1) (al_meas σ x (nI k)) (nI k) _ (by omega) hB (lv_sub hl [3, 4, 1, 2, 0] rfl) (fun r' ls e9 hl => K r' ls (by simp only [al_farL, if_neg (c1), if_neg (c2), if_neg (c3)]; exact e9) hl)
theorem al_mv_X7_farthestFromOn : al_mv yX7_farthestFromOn cX7_farthestFromOn 6 (some .int) 2 := ⟨al_c_X7_farthestFromOn, al_ini_RX7, ⟨by decide +kernel, by decide +kernel, by decide +kernel⟩, by decide +kernel⟩
theorem al_mi_X7_farthestFromOn : al_mi yX7_farthestFromOn cX7_farthestFromOn 6 (some .int) 2 := ⟨al_mv_X7_farthestFromOn, al_in_X7_farthestFromOn, al_se_X7_farthestFromOn⟩
set_option maxHeartbeats 4000000 in
set_option maxRecDepth 100000 in
theorem al_X7_farthestFromOn (l : Launch) (D : va_G) (cy : al_CY) (ad : Nat → Nat) (σ : al_St) (x : Int32) (K : Nat) (hB : al_FB σ) (hK9 : K ≤ 90) : al_MP l yX7_farthestFromOn cX7_farthestFromOn 6 (some .int) 2 44 D cy ad σ [.ref (ad (6)), .int x, .int (nI K)] (some (.int (al_farOn σ x K))) := by
  refine al_met al_mv_X7_farthestFromOn (Nat.le_of_ble_eq_true rfl) ?_
  intro p e s m args below meth c ls S hr hlocks hK hW hS hl
  have hl : lv_has ls 6 [(0, .ref (ad (6))), (1, .int x), (2, .int (nI K))] := hl
  refine lv_iload_n S.1 S.2.1 dX7_farthestFromOn_0 rfl (lv_at hl 1 rfl) ?_
  refine lv_istore_n (lv' := [(3, .int x), (0, .ref (ad (6))), (1, .int x), (2, .int (nI K))]) S.1 S.2.1 dX7_farthestFromOn_1 rfl hl (by decide) rfl (fun ls hl => ?_)
  refine lv_ldcf S.1 S.2.1 S.2.2.2.1 (S.2.2.2.2 _ al_k_RX7_90) dX7_farthestFromOn_2 ?_
  refine lv_fstore (lv' := [(4, .float 3212836864), (3, .int x), (0, .ref (ad (6))), (1, .int x), (2, .int (nI K))]) S.1 S.2.1 dX7_farthestFromOn_4 hl (by decide) rfl (fun ls hl => ?_)
  refine lv_iload_n S.1 S.2.1 dX7_farthestFromOn_6 rfl (lv_at hl 4 rfl) ?_
  refine lv_istore (lv' := [(5, .int (nI K)), (4, .float 3212836864), (3, .int x), (0, .ref (ad (6))), (1, .int x), (2, .int (nI K))]) S.1 S.2.1 dX7_farthestFromOn_7 hl (by decide) rfl (fun ls hl => ?_)
  refine al_lp_X7_far l D cy ad x S hK hW (90 - K) K 3212836864 x _ (by omega) hB (lv_sub hl [3, 4, 2, 1, 0] rfl) (fun r1 ls e2 hl => ?_)
  refine lv_iload_n S.1 S.2.1 dX7_farthestFromOn_59 rfl (lv_at hl 0 rfl) ?_
  exact W.iret S.1 S.2.1 hr (fun t9 ht9 _ => ⟨(congrArg (fun z => Outcome.returned (some (Value.int z))) (by simp only [al_farOn, e2])), ht9⟩) (fun q hq => absurd hq List.not_mem_nil) dX7_farthestFromOn_60
theorem al_mv_X7_farthestFrom : al_mv yX7_farthestFrom cX7_farthestFrom 2 (some .int) 1 := ⟨al_c_X7_farthestFrom, al_ini_RX7, ⟨by decide +kernel, by decide +kernel, by decide +kernel⟩, by decide +kernel⟩
theorem al_mi_X7_farthestFrom : al_mi yX7_farthestFrom cX7_farthestFrom 2 (some .int) 1 := ⟨al_mv_X7_farthestFrom, al_in_X7_farthestFrom, al_se_X7_farthestFrom⟩
set_option maxHeartbeats 4000000 in
set_option maxRecDepth 100000 in
theorem al_X7_farthestFrom (l : Launch) (D : va_G) (cy : al_CY) (ad : Nat → Nat) (σ : al_St) (x : Int32) (hB : al_FB σ) : al_MS l yX7_farthestFrom cX7_farthestFrom 2 (some .int) 3 69 D cy ad σ [.ref (ad (6)), .int x] (some (.int (al_farOn (al_meets σ x) x 0))) (al_meets σ x) := by
  refine al_met al_mv_X7_farthestFrom (Nat.le_of_ble_eq_true rfl) ?_
  intro p e s m args below meth c ls S hr hlocks hK hW hS hl
  have hl : lv_has ls 2 [(0, .ref (ad (6))), (1, .int x)] := hl
  refine lv_aload_n S.1 S.2.1 dX7_farthestFrom_0 rfl (lv_at hl 0 rfl) ?_
  refine lv_iload_n S.1 S.2.1 dX7_farthestFrom_1 rfl (lv_at hl 1 rfl) ?_
  refine al_cS (rest := []) S hK hW hS (al_X7_findMeetings l D cy ad σ x) al_mi_X7_findMeetings al_ml_RX7_83 rfl (al_rc_7 D cy ad _) rfl hl.1 rfl (Nat.le_of_ble_eq_true rfl) dX7_farthestFrom_2 ⟨Nat.le_of_ble_eq_true rfl, Nat.le_of_ble_eq_true rfl⟩ ⟨Nat.zero_le _, Nat.zero_le _⟩ (fun H locs hW hS => ?_)
  refine W.eq (g2 := F0 m 5 ls []) rfl ?_
  refine lv_aload_n S.1 S.2.1 dX7_farthestFrom_5 rfl (lv_at hl 0 rfl) ?_
  refine lv_iload_n S.1 S.2.1 dX7_farthestFrom_6 rfl (lv_at hl 1 rfl) ?_
  refine lv_iconst (v := 0) S.1 S.2.1 dX7_farthestFrom_7 (by decide) ?_
  refine al_cP (rest := []) S hK hW (al_X7_farthestFromOn l D cy ad (al_meets σ x) x 0 (al_FB_meets hB) (by omega)) al_mi_X7_farthestFromOn al_ml_RX7_87 rfl (al_rc_7 D cy ad _) rfl hl.1 rfl (Nat.le_of_ble_eq_true rfl) dX7_farthestFrom_8 ⟨Nat.le_of_ble_eq_true rfl, Nat.le_of_ble_eq_true rfl⟩ ⟨Nat.zero_le _, Nat.zero_le _⟩ ?_
  refine W.eq (g2 := F0 m 11 ls [.int (al_farOn (al_meets σ x) x 0)]) rfl ?_
  exact W.iret S.1 S.2.1 hr (fun t9 ht9 _ => ⟨(congrArg (fun z => Outcome.returned (some (Value.int z))) rfl), by rw [ht9]; exact hW, hS.F ht9⟩) hS.2.2 dX7_farthestFrom_11
set_option maxHeartbeats 4000000 in
set_option maxRecDepth 100000 in
theorem al_lp_X7_fp {p : Program} {e : Env} {s : State} {m : MethodId} {args : Array Value} {below : List Frame} {meth : Method} {c : Code} {Q : State → Prop} (l : Launch) (D : va_G) (cy : al_CY) (ad : Nat → Nat) (S : CallFix p m c cX7_findPair 4 s args al_G RX7) (hK : va_K D vwCl (al_tys cy) s) {H0 : Heap} : ∀ (n : Nat) (σ : al_St) (k : Nat) (g : UInt32) (H : Heap) (locs : List Loc) (ls : Array Slot), (k + n = 90) → (al_FB σ) → al_H D cy ad σ H → va_S (al_A ad) H0 H locs → lv_has ls 4 [(0, .ref (ad (6))), (1, .float g), (2, .int (nI k))] → (∀ (σ' : al_St) (H : Heap) (locs : List Loc) (ls : Array Slot), al_fpL n k g σ = σ' → al_H D cy ad σ' H → va_S (al_A ad) H0 H locs → lv_has ls 4 [(0, .ref (ad (6)))] → W p l e (al_rm 3 69) s m args below meth c H locs 0 0 Q (F0 m 68 ls [])) → W p l e (al_rm 3 69) s m args below meth c H locs 0 0 Q (F0 m 5 ls []) := by
  intro n
  induction n with
  | zero =>
    intro σ k g H locs ls hk hB hW hS hl K
    refine lv_iload_n S.1 S.2.1 dX7_findPair_5 rfl (lv_at hl 2 rfl) ?_
    refine lv_bipush (v := 90) S.1 S.2.1 dX7_findPair_6 (by decide) ?_
    refine lv_icmp_ge (tgt := 68) S.1 S.2.1 dX7_findPair_8 (by decide) (fun c1 => ?_) (fun c1 => ?_)
    · exact K σ  _ _ _ (by simp only [al_fpL, if_pos (c1)]) hW hS (lv_sub hl [0] rfl)
    · exact absurd (al_90' (by omega)) c1
  | succ n ih =>
    intro σ k g H locs ls hk hB hW hS hl K
    refine lv_iload_n S.1 S.2.1 dX7_findPair_5 rfl (lv_at hl 2 rfl) ?_
    refine lv_bipush (v := 90) S.1 S.2.1 dX7_findPair_6 (by decide) ?_
    refine lv_icmp_ge (tgt := 68) S.1 S.2.1 dX7_findPair_8 (by decide) (fun c1 => ?_) (fun c1 => ?_)
    · exact absurd c1 (al_90 (by omega))
    · refine lv_aload_n S.1 S.2.1 dX7_findPair_11 rfl (lv_at hl 0 rfl) ?_
      refine al_g_RX7_9 S hK hW dX7_findPair_12 ?_
      refine lv_iload_n S.1 S.2.1 dX7_findPair_15 rfl (lv_at hl 2 rfl) ?_
      refine al_cP (rest := []) S hK hW (al_X6_isNode l D cy ad σ 0 (by omega) (nI k)) al_mi_X6_isNode al_ml_RX7_91 rfl (al_rc_T D cy ad _ (t := 0) (by omega)) rfl hl.1 rfl (Nat.le_of_ble_eq_true rfl) dX7_findPair_16 ⟨Nat.le_of_ble_eq_true rfl, Nat.le_of_ble_eq_true rfl⟩ ⟨Nat.zero_le _, Nat.zero_le _⟩ ?_
      refine W.eq (g2 := F0 m 19 ls [.int (al_isN σ 0 (nI k))]) rfl ?_
      refine lv_if_eq (tgt := 62) S.1 S.2.1 dX7_findPair_19 (by decide) (fun c2 => ?_) (fun c2 => ?_)
      · refine lv_iinc (k := 2) (v := nI (k + 1)) (lv' := [(2, .int (nI (k + 1))), (0, .ref (ad (6))), (1, .float g)]) S.1 S.2.1 dX7_findPair_62 hl rfl (al_inc k) (by decide) rfl (fun ls hl => ?_)
        refine lv_goto (tgt := 5) S.1 S.2.1 dX7_findPair_65 (by decide) ?_
        exact ih σ (k + 1) g _ _ _ (by omega) (by first | exact hB | exact al_FB_meets hB) hW hS (lv_sub hl [1, 2, 0] rfl) (fun σ'  H locs ls e9 hW hS hl => K σ'  H locs ls (by simp only [al_fpL, if_neg (c1), if_pos (c2)]; exact e9) hW hS hl)
      · refine lv_aload_n S.1 S.2.1 dX7_findPair_22 rfl (lv_at hl 0 rfl) ?_
        refine lv_iload_n S.1 S.2.1 dX7_findPair_23 rfl (lv_at hl 2 rfl) ?_
        refine al_cS (rest := []) S hK hW hS (al_X7_findMeetings l D cy ad σ (nI k)) al_mi_X7_findMeetings al_ml_RX7_83 rfl (al_rc_7 D cy ad _) rfl hl.1 rfl (Nat.le_of_ble_eq_true rfl) dX7_findPair_24 ⟨Nat.le_of_ble_eq_true rfl, Nat.le_of_ble_eq_true rfl⟩ ⟨Nat.zero_le _, Nat.zero_le _⟩ (fun H locs hW hS => ?_)
        refine W.eq (g2 := F0 m 27 ls []) rfl ?_
        refine lv_aload_n S.1 S.2.1 dX7_findPair_27 rfl (lv_at hl 0 rfl) ?_
        refine lv_iload_n S.1 S.2.1 dX7_findPair_28 rfl (lv_at hl 2 rfl) ?_
        refine lv_iload_n S.1 S.2.1 dX7_findPair_29 rfl (lv_at hl 2 rfl) ?_
        refine al_cP (rest := []) S hK hW (al_X7_farthestFromOn l D cy ad (al_meets σ (nI k)) (nI k) k (al_FB_meets hB) (by omega)) al_mi_X7_farthestFromOn al_ml_RX7_87 rfl (al_rc_7 D cy ad _) rfl hl.1 rfl (Nat.le_of_ble_eq_true rfl) dX7_findPair_30 ⟨Nat.le_of_ble_eq_true rfl, Nat.le_of_ble_eq_true rfl⟩ ⟨Nat.zero_le _, Nat.zero_le _⟩ ?_
        refine W.eq (g2 := F0 m 33 ls [.int (al_farOn (al_meets σ (nI k)) (nI k) k)]) rfl ?_
        refine lv_istore_n (lv' := [(3, .int (al_farOn (al_meets σ (nI k)) (nI k) k)), (0, .ref (ad (6))), (1, .float g), (2, .int (nI k))]) S.1 S.2.1 dX7_findPair_33 rfl hl (by decide) rfl (fun ls hl => ?_)
        refine lv_aload_n S.1 S.2.1 dX7_findPair_34 rfl (lv_at hl 1 rfl) ?_
        refine lv_iload_n S.1 S.2.1 dX7_findPair_35 rfl (lv_at hl 3 rfl) ?_
        refine lv_iload_n S.1 S.2.1 dX7_findPair_36 rfl (lv_at hl 0 rfl) ?_
        refine al_cP (rest := []) S hK hW (al_X7_measured l D cy ad (al_meets σ (nI k)) (nI k) (al_farOn (al_meets σ (nI k)) (nI k) k) (al_FB_meets hB)) al_mi_X7_measured al_ml_RX7_95 rfl (al_rc_7 D cy ad _) rfl hl.1 rfl (Nat.le_of_ble_eq_true rfl) dX7_findPair_37 ⟨Nat.le_of_ble_eq_true rfl, Nat.le_of_ble_eq_true rfl⟩ ⟨Nat.zero_le _, Nat.zero_le _⟩ ?_
        refine W.eq (g2 := F0 m 40 ls [.float (al_meas (al_meets σ (nI k)) (nI k) (al_farOn (al_meets σ (nI k)) (nI k) k))]) rfl ?_
        refine lv_fload_n S.1 S.2.1 dX7_findPair_40 rfl (lv_at hl 2 rfl) ?_
        refine lv_fcmp S.1 S.2.1 dX7_findPair_41 ?_
        refine lv_if_le (tgt := 62) S.1 S.2.1 dX7_findPair_42 (by decide) (fun c3 => ?_) (fun c3 => ?_)
        · refine lv_iinc (k := 3) (v := nI (k + 1)) (lv' := [(2, .int (nI (k + 1))), (3, .int (al_farOn (al_meets σ (nI k)) (nI k) k)), (0, .ref (ad (6))), (1, .float g)]) S.1 S.2.1 dX7_findPair_62 hl rfl (al_inc k) (by decide) rfl (fun ls hl => ?_)
          refine lv_goto (tgt := 5) S.1 S.2.1 dX7_findPair_65 (by decide) ?_
          exact ih (al_meets σ (nI k)) (k + 1) g _ _ _ (by omega) (by first | exact hB | exact al_FB_meets hB) hW hS (lv_sub hl [2, 3, 0] rfl) (fun σ'  H locs ls e9 hW hS hl => K σ'  H locs ls (by simp only [al_fpL, if_neg (c1), if_neg (c2), if_pos (c3)]; exact e9) hW hS hl)
        · refine lv_aload_n S.1 S.2.1 dX7_findPair_45 rfl (lv_at hl 1 rfl) ?_
          refine lv_iload_n S.1 S.2.1 dX7_findPair_46 rfl (lv_at hl 3 rfl) ?_
          refine lv_iload_n S.1 S.2.1 dX7_findPair_47 rfl (lv_at hl 0 rfl) ?_
          refine al_cP (rest := []) S hK hW (al_X7_measured l D cy ad (al_meets σ (nI k)) (nI k) (al_farOn (al_meets σ (nI k)) (nI k) k) (al_FB_meets hB)) al_mi_X7_measured al_ml_RX7_95 rfl (al_rc_7 D cy ad _) rfl hl.1 rfl (Nat.le_of_ble_eq_true rfl) dX7_findPair_48 ⟨Nat.le_of_ble_eq_true rfl, Nat.le_of_ble_eq_true rfl⟩ ⟨Nat.zero_le _, Nat.zero_le _⟩ ?_
          refine W.eq (g2 := F0 m 51 ls [.float (al_meas (al_meets σ (nI k)) (nI k) (al_farOn (al_meets σ (nI k)) (nI k) k))]) rfl ?_
          refine lv_fstore_n (lv' := [(1, .float (al_meas (al_meets σ (nI k)) (nI k) (al_farOn (al_meets σ (nI k)) (nI k) k))), (3, .int (al_farOn (al_meets σ (nI k)) (nI k) k)), (0, .ref (ad (6))), (2, .int (nI k))]) S.1 S.2.1 dX7_findPair_51 rfl hl (by decide) rfl (fun ls hl => ?_)
          refine lv_aload_n S.1 S.2.1 dX7_findPair_52 rfl (lv_at hl 2 rfl) ?_
          refine lv_iload_n S.1 S.2.1 dX7_findPair_53 rfl (lv_at hl 3 rfl) ?_
          refine al_p_RX7_36 S hK hW hS dX7_findPair_54 (fun H locs hW hS => ?_)
          refine lv_aload_n S.1 S.2.1 dX7_findPair_57 rfl (lv_at hl 2 rfl) ?_
          refine lv_iload_n S.1 S.2.1 dX7_findPair_58 rfl (lv_at hl 1 rfl) ?_
          refine al_p_RX7_40 S hK hW hS dX7_findPair_59 (fun H locs hW hS => ?_)
          refine lv_iinc (k := 3) (v := nI (k + 1)) (lv' := [(2, .int (nI (k + 1))), (1, .float (al_meas (al_meets σ (nI k)) (nI k) (al_farOn (al_meets σ (nI k)) (nI k) k))), (3, .int (al_farOn (al_meets σ (nI k)) (nI k) k)), (0, .ref (ad (6)))]) S.1 S.2.1 dX7_findPair_62 hl rfl (al_inc k) (by decide) rfl (fun ls hl => ?_)
          refine lv_goto (tgt := 5) S.1 S.2.1 dX7_findPair_65 (by decide) ?_
          exact ih (al_sV (al_sV (al_meets σ (nI k)) 10 (nI k)) 11 (al_farOn (al_meets σ (nI k)) (nI k) k)) (k + 1) (al_meas (al_meets σ (nI k)) (nI k) (al_farOn (al_meets σ (nI k)) (nI k) k)) _ _ _ (by omega) (by first | exact hB | exact al_FB_meets hB) hW hS (lv_sub hl [3, 1, 0] rfl) (fun σ'  H locs ls e9 hW hS hl => K σ'  H locs ls (by simp only [al_fpL, if_neg (c1), if_neg (c2), if_neg (c3)]; exact e9) hW hS hl)
theorem al_mv_X7_findPair : al_mv yX7_findPair cX7_findPair 4 none 0 := ⟨al_c_X7_findPair, al_ini_RX7, ⟨by decide +kernel, by decide +kernel, by decide +kernel⟩, by decide +kernel⟩
theorem al_mi_X7_findPair : al_mi yX7_findPair cX7_findPair 4 none 0 := ⟨al_mv_X7_findPair, al_in_X7_findPair, al_se_X7_findPair⟩
set_option maxHeartbeats 4000000 in
set_option maxRecDepth 100000 in
theorem al_X7_findPair (l : Launch) (D : va_G) (cy : al_CY) (ad : Nat → Nat) (σ : al_St) (hB : al_FB σ) : al_MS l yX7_findPair cX7_findPair 4 none 3 69 D cy ad σ [.ref (ad (6))] none (al_findPair σ) := by
  refine al_met al_mv_X7_findPair (Nat.le_of_ble_eq_true rfl) ?_
  intro p e s m args below meth c ls S hr hlocks hK hW hS hl
  have hl : lv_has ls 4 [(0, .ref (ad (6)))] := hl
  refine lv_ldcf S.1 S.2.1 S.2.2.2.1 (S.2.2.2.2 _ al_k_RX7_90) dX7_findPair_0 ?_
  refine lv_fstore_n (lv' := [(1, .float 3212836864), (0, .ref (ad (6)))]) S.1 S.2.1 dX7_findPair_2 rfl hl (by decide) rfl (fun ls hl => ?_)
  refine lv_iconst (v := 0) S.1 S.2.1 dX7_findPair_3 (by decide) ?_
  refine lv_istore_n (lv' := [(2, .int 0), (1, .float 3212836864), (0, .ref (ad (6)))]) S.1 S.2.1 dX7_findPair_4 rfl hl (by decide) rfl (fun ls hl => ?_)
  refine al_lp_X7_fp l D cy ad  S hK 90 σ 0 3212836864 _ _ _ (by omega) hB hW hS (lv_sub hl [2, 1, 0] rfl) (fun σ1 H locs ls e2 hW hS hl => ?_)
  exact W.vret S.1 S.2.1 hr (fun t9 ht9 _ => ⟨rfl, by rw [ht9]; exact (al_He hW (by simp only [al_findPair, e2])), hS.F ht9⟩) hS.2.2 dX7_findPair_68
theorem al_mv_X7_pairFirst : al_mv yX7_pairFirst cX7_pairFirst 1 (some .int) 0 := ⟨al_c_X7_pairFirst, al_ini_RX7, ⟨by decide +kernel, by decide +kernel, by decide +kernel⟩, by decide +kernel⟩
theorem al_mi_X7_pairFirst : al_mi yX7_pairFirst cX7_pairFirst 1 (some .int) 0 := ⟨al_mv_X7_pairFirst, al_in_X7_pairFirst, al_se_X7_pairFirst⟩
set_option maxHeartbeats 4000000 in
set_option maxRecDepth 100000 in
theorem al_X7_pairFirst (l : Launch) (D : va_G) (cy : al_CY) (ad : Nat → Nat) (σ : al_St) : al_MP l yX7_pairFirst cX7_pairFirst 1 (some .int) 0 0 D cy ad σ [.ref (ad (6))] (some (.int (σ.2.2.1 10))) := by
  refine al_met al_mv_X7_pairFirst (Nat.le_of_ble_eq_true rfl) ?_
  intro p e s m args below meth c ls S hr hlocks hK hW hS hl
  have hl : lv_has ls 1 [(0, .ref (ad (6)))] := hl
  refine lv_aload_n S.1 S.2.1 dX7_pairFirst_0 rfl (lv_at hl 0 rfl) ?_
  refine al_g_RX7_36 S hK hW dX7_pairFirst_1 ?_
  exact W.iret S.1 S.2.1 hr (fun t9 ht9 _ => ⟨(congrArg (fun z => Outcome.returned (some (Value.int z))) rfl), ht9⟩) (fun q hq => absurd hq List.not_mem_nil) dX7_pairFirst_4
theorem al_mv_X7_pairSecond : al_mv yX7_pairSecond cX7_pairSecond 1 (some .int) 0 := ⟨al_c_X7_pairSecond, al_ini_RX7, ⟨by decide +kernel, by decide +kernel, by decide +kernel⟩, by decide +kernel⟩
theorem al_mi_X7_pairSecond : al_mi yX7_pairSecond cX7_pairSecond 1 (some .int) 0 := ⟨al_mv_X7_pairSecond, al_in_X7_pairSecond, al_se_X7_pairSecond⟩
set_option maxHeartbeats 4000000 in
set_option maxRecDepth 100000 in
theorem al_X7_pairSecond (l : Launch) (D : va_G) (cy : al_CY) (ad : Nat → Nat) (σ : al_St) : al_MP l yX7_pairSecond cX7_pairSecond 1 (some .int) 0 0 D cy ad σ [.ref (ad (6))] (some (.int (σ.2.2.1 11))) := by
  refine al_met al_mv_X7_pairSecond (Nat.le_of_ble_eq_true rfl) ?_
  intro p e s m args below meth c ls S hr hlocks hK hW hS hl
  have hl : lv_has ls 1 [(0, .ref (ad (6)))] := hl
  refine lv_aload_n S.1 S.2.1 dX7_pairSecond_0 rfl (lv_at hl 0 rfl) ?_
  refine al_g_RX7_40 S hK hW dX7_pairSecond_1 ?_
  exact W.iret S.1 S.2.1 hr (fun t9 ht9 _ => ⟨(congrArg (fun z => Outcome.returned (some (Value.int z))) rfl), ht9⟩) (fun q hq => absurd hq List.not_mem_nil) dX7_pairSecond_4
end
section
/-! shapes -/
theorem al_15 {n : Nat} (h : n < 15) : ¬ (15 : Int32) ≤ nI n := nI_ge (a := n) (b := 15) h (by omega)
theorem al_15' {n : Nat} (h : n = 15) : (15 : Int32) ≤ nI n := by rw [h]; decide
def al_joinL (σ : al_St) : Nat → Int32 → Int32 → Int32
  | 0, _, a => a
  | n + 1, c, a => if c = -1 then a else al_joinL σ n (al_rg (σ.1 13) c) ((a <<< ((2 * al_rg (σ.1 18) c) &&& 31)) ||| al_rg (σ.1 23) c)
def al_join (σ : al_St) (x : Int32) : Int32 := al_joinL σ 15 (al_rg (σ.1 12) x) 1 <<< ((1 : Int32) &&& 31)
def al_wr1 (σ : al_St) (x : Int32) : al_St := if 15 < al_rg (σ.1 18) x then σ else al_set σ 23 x (al_join σ x)
def al_wrL : Nat → al_St → al_St
  | 0, σ => σ
  | n + 1, σ => al_wrL n (al_wr1 σ (al_rg (σ.1 14) (nI (n + 1) - 1)))
def al_write (σ : al_St) : al_St := al_wrL (σ.2.2.1 9).toNatClampNeg (al_fillR σ 23 0)
def al_likeL (σ : al_St) (x : Int32) : Nat → Nat → Int32 → Int32
  | 0, _, a => a
  | n + 1, k, a => if al_rg (σ.1 23) (nI k) = al_rg (σ.1 23) x then al_likeL σ x n (k + 1) (a + 1) else al_likeL σ x n (k + 1) a
def al_enP (σ : al_St) (v : Int32) : Nat → Nat → Nat
  | 0, k => k
  | n + 1, k => if v ≤ al_rg (σ.1 24) (nI k) then k else al_enP σ v n (k + 1)
def al_enS (k : Nat) : Nat → al_St → al_St
  | 0, σ => σ
  | n + 1, σ => al_enS k n (al_set σ 24 (nI (k + (n + 1))) (al_rg (σ.1 24) (nI (k + (n + 1)) - 1)))
def al_en2 (σ : al_St) (v : Int32) (k : Nat) : al_St := al_sV (al_set (al_enS k ((σ.2.2.1 12).toNatClampNeg - k) σ) 24 (nI k) v) 12 ((al_set (al_enS k ((σ.2.2.1 12).toNatClampNeg - k) σ) 24 (nI k) v).2.2.1 12 + 1)
def al_en1 (σ : al_St) (v : Int32) (k : Nat) : al_St := if σ.2.2.1 12 ≤ nI k then al_en2 σ v k else if al_rg (σ.1 24) (nI k) = v then σ else al_en2 σ v k
def al_enter (σ : al_St) (v : Int32) : al_St := al_en1 σ v (al_enP σ v (σ.2.2.1 12).toNatClampNeg 0)
theorem al_enP_le (σ : al_St) (v : Int32) : ∀ (n k : Nat), al_enP σ v n k ≤ n + k
  | 0, k => by simp [al_enP]
  | n + 1, k => by
    rw [al_enP]
    split
    · omega
    · have := al_enP_le σ v n (k + 1)
      omega
theorem al_enS_V (k : Nat) : ∀ (n : Nat) (σ : al_St), (al_enS k n σ).2 = σ.2
  | 0, _ => rfl
  | n + 1, σ => by rw [al_enS, al_enS_V k n]; rfl
/-- the number of kinds is a small number -/
def al_kOK (N : Nat) (σ : al_St) : Prop := ∃ K : Nat, K ≤ N ∧ σ.2.2.1 12 = nI K
theorem al_kOK_eq {N : Nat} {σ : al_St} (hN : N < 2 ^ 31) (h : al_kOK N σ) : σ.2.2.1 12 = nI (σ.2.2.1 12).toNatClampNeg ∧ (σ.2.2.1 12).toNatClampNeg ≤ N := by
  obtain ⟨P, h1, h2⟩ := h
  rw [h2, nI_clamp (by omega)]
  exact ⟨rfl, h1⟩
theorem al_en2_K {σ : al_St} {v : Int32} {k N : Nat} (h : al_kOK N σ) : al_kOK (N + 1) (al_en2 σ v k) := by
  obtain ⟨K, h1, h2⟩ := h
  refine ⟨K + 1, by omega, ?_⟩
  show (al_enS k ((σ.2.2.1 12).toNatClampNeg - k) σ).2.2.1 12 + 1 = nI (K + 1)
  rw [al_enS_V, h2, nI_1]
theorem al_enter_K {σ : al_St} {v : Int32} {N : Nat} (h : al_kOK N σ) : al_kOK (N + 1) (al_enter σ v) := by
  rw [al_enter, al_en1]
  split
  · exact al_en2_K h
  · split
    · obtain ⟨K, h1, h2⟩ := h
      exact ⟨K, by omega, h2⟩
    · exact al_en2_K h
theorem al_kOK_up {N : Nat} {σ : al_St} (h : al_kOK N σ) : al_kOK (N + 1) σ := by
  obtain ⟨K, h1, h2⟩ := h
  exact ⟨K, by omega, h2⟩
def al_sortL : Nat → Nat → al_St → al_St
  | 0, _, σ => σ
  | n + 1, k, σ => if al_rg (σ.1 23) (nI k) = 0 then al_sortL n (k + 1) σ else al_sortL n (k + 1) (al_enter σ (al_rg (σ.1 23) (nI k)))
def al_sort (σ : al_St) : al_St := al_sortL 90 0 (al_sV σ 12 0)
theorem al_seqI {x : Int32} {k n : Nat} (h : x = nI x.toNatClampNeg) (hk : k ≤ x.toNatClampNeg) (hn : n = x.toNatClampNeg - k) : x = nI (k + n) := by
  rw [show k + n = x.toNatClampNeg by omega]
  exact h
theorem al_mv_X3_shapeOf : al_mv yX3_shapeOf cX3_shapeOf 2 (some .int) 1 := ⟨al_c_X3_shapeOf, al_ini_RX3, ⟨by decide +kernel, by decide +kernel, by decide +kernel⟩, by decide +kernel⟩
theorem al_mi_X3_shapeOf : al_mi yX3_shapeOf cX3_shapeOf 2 (some .int) 1 := ⟨al_mv_X3_shapeOf, al_in_X3_shapeOf, al_se_X3_shapeOf⟩
set_option maxHeartbeats 4000000 in
set_option maxRecDepth 100000 in
theorem al_X3_shapeOf (l : Launch) (D : va_G) (cy : al_CY) (ad : Nat → Nat) (σ : al_St) (x : Int32) : al_MP l yX3_shapeOf cX3_shapeOf 2 (some .int) 1 21 D cy ad σ [.ref (ad (7)), .int x] (some (.int (al_rg (σ.1 23) x))) := by
  refine al_met al_mv_X3_shapeOf (Nat.le_of_ble_eq_true rfl) ?_
  intro p e s m args below meth c ls S hr hlocks hK hW hS hl
  have hl : lv_has ls 2 [(0, .ref (ad (7))), (1, .int x)] := hl
  refine lv_aload_n S.1 S.2.1 dX3_shapeOf_0 rfl (lv_at hl 0 rfl) ?_
  refine al_g_RX3_22 S hK hW dX3_shapeOf_1 ?_
  refine lv_iload_n S.1 S.2.1 dX3_shapeOf_4 rfl (lv_at hl 1 rfl) ?_
  refine al_cP (rest := []) S hK hW (al_X2_get l D cy ad σ 23 (by omega) x) al_mi_X2_get al_ml_RX3_60 rfl (al_rc_R D cy ad _ (i := 23) (by omega)) rfl hl.1 rfl (Nat.le_of_ble_eq_true rfl) dX3_shapeOf_5 ⟨Nat.le_of_ble_eq_true rfl, Nat.le_of_ble_eq_true rfl⟩ ⟨Nat.zero_le _, Nat.zero_le _⟩ ?_
  refine W.eq (g2 := F0 m 8 ls [.int (al_rg (σ.1 23) x)]) rfl ?_
  exact W.iret S.1 S.2.1 hr (fun t9 ht9 _ => ⟨(congrArg (fun z => Outcome.returned (some (Value.int z))) rfl), ht9⟩) (fun q hq => absurd hq List.not_mem_nil) dX3_shapeOf_8
theorem al_mv_X3_kinds : al_mv yX3_kinds cX3_kinds 1 (some .int) 0 := ⟨al_c_X3_kinds, al_ini_RX3, ⟨by decide +kernel, by decide +kernel, by decide +kernel⟩, by decide +kernel⟩
theorem al_mi_X3_kinds : al_mi yX3_kinds cX3_kinds 1 (some .int) 0 := ⟨al_mv_X3_kinds, al_in_X3_kinds, al_se_X3_kinds⟩
set_option maxHeartbeats 4000000 in
set_option maxRecDepth 100000 in
theorem al_X3_kinds (l : Launch) (D : va_G) (cy : al_CY) (ad : Nat → Nat) (σ : al_St) : al_MP l yX3_kinds cX3_kinds 1 (some .int) 0 0 D cy ad σ [.ref (ad (7))] (some (.int (σ.2.2.1 12))) := by
  refine al_met al_mv_X3_kinds (Nat.le_of_ble_eq_true rfl) ?_
  intro p e s m args below meth c ls S hr hlocks hK hW hS hl
  have hl : lv_has ls 1 [(0, .ref (ad (7)))] := hl
  refine lv_aload_n S.1 S.2.1 dX3_kinds_0 rfl (lv_at hl 0 rfl) ?_
  refine al_g_RX3_29 S hK hW dX3_kinds_1 ?_
  exact W.iret S.1 S.2.1 hr (fun t9 ht9 _ => ⟨(congrArg (fun z => Outcome.returned (some (Value.int z))) rfl), ht9⟩) (fun q hq => absurd hq List.not_mem_nil) dX3_kinds_4
set_option maxHeartbeats 4000000 in
set_option maxRecDepth 100000 in
theorem al_lp_X3_join {p : Program} {e : Env} {s : State} {m : MethodId} {args : Array Value} {below : List Frame} {meth : Method} {c : Code} {Q : State → Prop} (l : Launch) (D : va_G) (cy : al_CY) (ad : Nat → Nat) (S : CallFix p m c cX3_join 5 s args al_G RX3) (hK : va_K D vwCl (al_tys cy) s) {H : Heap} {locs : List Loc} {σ : al_St} (hW : al_H D cy ad σ H) : ∀ (n : Nat) (k : Nat) (ch : Int32) (a : Int32) (ls : Array Slot), (k + n = 15) → lv_has ls 5 [(0, .ref (ad (7))), (2, .int a), (3, .int ch), (4, .int (nI k))] → (∀ (a' : Int32) (ls : Array Slot), al_joinL σ n ch a = a' → lv_has ls 5 [(0, .ref (ad (7))), (2, .int a')] → W p l e (al_rm 2 42) s m args below meth c H locs 0 0 Q (F0 m 63 ls [])) → W p l e (al_rm 2 42) s m args below meth c H locs 0 0 Q (F0 m 14 ls []) := by
  intro n
  induction n with
  | zero =>
    intro k ch a ls hk hl K
    refine lv_iload S.1 S.2.1 dX3_join_14 (lv_at hl 3 rfl) ?_
    refine lv_bipush (v := 15) S.1 S.2.1 dX3_join_16 (by decide) ?_
    refine lv_icmp_ge (tgt := 63) S.1 S.2.1 dX3_join_18 (by decide) (fun c1 => ?_) (fun c1 => ?_)
    · exact K a _ (by simp only [al_joinL, if_pos (c1)]) (lv_sub hl [0, 1] rfl)
    · exact absurd (al_15' (by omega)) c1
  | succ n ih =>
    intro k ch a ls hk hl K
    refine lv_iload S.1 S.2.1 dX3_join_14 (lv_at hl 3 rfl) ?_
    refine lv_bipush (v := 15) S.1 S.2.1 dX3_join_16 (by decide) ?_
    refine lv_icmp_ge (tgt := 63) S.1 S.2.1 dX3_join_18 (by decide) (fun c1 => ?_) (fun c1 => ?_)
    · exact absurd c1 (al_15 (by omega))
    · refine lv_iload_n S.1 S.2.1 dX3_join_21 rfl (lv_at hl 2 rfl) ?_
      refine lv_iconst (v := -1) S.1 S.2.1 dX3_join_22 (by decide) ?_
      refine lv_icmp_eq (tgt := 63) S.1 S.2.1 dX3_join_23 (by decide) (fun c2 => ?_) (fun c2 => ?_)
      · exact K a _ (by simp only [al_joinL, if_neg (c1), if_pos (c2)]) (lv_sub hl [0, 1] rfl)
      · refine lv_iload_n S.1 S.2.1 dX3_join_26 rfl (lv_at hl 1 rfl) ?_
        refine lv_iconst (v := 2) S.1 S.2.1 dX3_join_27 (by decide) ?_
        refine lv_aload_n S.1 S.2.1 dX3_join_28 rfl (lv_at hl 0 rfl) ?_
        refine al_g_RX3_15 S hK hW dX3_join_29 ?_
        refine lv_iload_n S.1 S.2.1 dX3_join_32 rfl (lv_at hl 2 rfl) ?_
        refine al_cP (rest := [.int 2, .int a]) S hK hW (al_X4_sizeOf l D cy ad σ ch) al_mi_X4_sizeOf al_ml_RX3_47 rfl (al_rc_4 D cy ad _) rfl hl.1 rfl (Nat.le_of_ble_eq_true rfl) dX3_join_33 ⟨Nat.le_of_ble_eq_true rfl, Nat.le_of_ble_eq_true rfl⟩ ⟨Nat.zero_le _, Nat.zero_le _⟩ ?_
        refine W.eq (g2 := F0 m 36 ls [.int (al_rg (σ.1 18) ch), .int 2, .int a]) rfl ?_
        refine lv_imul S.1 S.2.1 dX3_join_36 ?_
        refine lv_ishl S.1 S.2.1 dX3_join_37 ?_
        refine lv_aload_n S.1 S.2.1 dX3_join_38 rfl (lv_at hl 0 rfl) ?_
        refine al_g_RX3_22 S hK hW dX3_join_39 ?_
        refine lv_iload_n S.1 S.2.1 dX3_join_42 rfl (lv_at hl 2 rfl) ?_
        refine al_cP (rest := [.int (a <<< ((2 * (al_rg (σ.1 18) ch)) &&& 31))]) S hK hW (al_X2_get l D cy ad σ 23 (by omega) ch) al_mi_X2_get al_ml_RX3_60 rfl (al_rc_R D cy ad _ (i := 23) (by omega)) rfl hl.1 rfl (Nat.le_of_ble_eq_true rfl) dX3_join_43 ⟨Nat.le_of_ble_eq_true rfl, Nat.le_of_ble_eq_true rfl⟩ ⟨Nat.zero_le _, Nat.zero_le _⟩ ?_
        refine W.eq (g2 := F0 m 46 ls [.int (al_rg (σ.1 23) ch), .int (a <<< ((2 * (al_rg (σ.1 18) ch)) &&& 31))]) rfl ?_
        refine lv_ior S.1 S.2.1 dX3_join_46 ?_
        refine lv_istore_n (lv' := [(2, .int ((a <<< ((2 * (al_rg (σ.1 18) ch)) &&& 31)) ||| (al_rg (σ.1 23) ch))), (0, .ref (ad (7))), (3, .int ch), (4, .int (nI k))]) S.1 S.2.1 dX3_join_47 rfl hl (by decide) rfl (fun ls hl => ?_)
        refine lv_aload_n S.1 S.2.1 dX3_join_48 rfl (lv_at hl 1 rfl) ?_
        refine al_g_RX3_15 S hK hW dX3_join_49 ?_
        refine lv_iload_n S.1 S.2.1 dX3_join_52 rfl (lv_at hl 2 rfl) ?_
        refine al_cP (rest := []) S hK hW (al_X4_nextChildOf l D cy ad σ ch) al_mi_X4_nextChildOf al_ml_RX3_63 rfl (al_rc_4 D cy ad _) rfl hl.1 rfl (Nat.le_of_ble_eq_true rfl) dX3_join_53 ⟨Nat.le_of_ble_eq_true rfl, Nat.le_of_ble_eq_true rfl⟩ ⟨Nat.zero_le _, Nat.zero_le _⟩ ?_
        refine W.eq (g2 := F0 m 56 ls [.int (al_rg (σ.1 13) ch)]) rfl ?_
        refine lv_istore_n (lv' := [(3, .int (al_rg (σ.1 13) ch)), (2, .int ((a <<< ((2 * (al_rg (σ.1 18) ch)) &&& 31)) ||| (al_rg (σ.1 23) ch))), (0, .ref (ad (7))), (4, .int (nI k))]) S.1 S.2.1 dX3_join_56 rfl hl (by decide) rfl (fun ls hl => ?_)
        refine lv_iinc (k := 3) (v := nI (k + 1)) (lv' := [(4, .int (nI (k + 1))), (3, .int (al_rg (σ.1 13) ch)), (2, .int ((a <<< ((2 * (al_rg (σ.1 18) ch)) &&& 31)) ||| (al_rg (σ.1 23) ch))), (0, .ref (ad (7)))]) S.1 S.2.1 dX3_join_57 hl rfl (al_inc k) (by decide) rfl (fun ls hl => ?_)
        refine lv_goto (tgt := 14) S.1 S.2.1 dX3_join_60 (by decide) ?_
        exact ih (k + 1) (al_rg (σ.1 13) ch) ((a <<< ((2 * (al_rg (σ.1 18) ch)) &&& 31)) ||| (al_rg (σ.1 23) ch)) _ (by omega) (lv_sub hl [3, 2, 1, 0] rfl) (fun a' ls e9 hl => K a' ls (by simp only [al_joinL, if_neg (c1), if_neg (c2)]; exact e9) hl)
theorem al_mv_X3_join : al_mv yX3_join cX3_join 5 (some .int) 1 := ⟨al_c_X3_join, al_ini_RX3, ⟨by decide +kernel, by decide +kernel, by decide +kernel⟩, by decide +kernel⟩
theorem al_mi_X3_join : al_mi yX3_join cX3_join 5 (some .int) 1 := ⟨al_mv_X3_join, al_in_X3_join, al_se_X3_join⟩
set_option maxHeartbeats 4000000 in
set_option maxRecDepth 100000 in
theorem al_X3_join (l : Launch) (D : va_G) (cy : al_CY) (ad : Nat → Nat) (σ : al_St) (x : Int32) : al_MP l yX3_join cX3_join 5 (some .int) 2 42 D cy ad σ [.ref (ad (7)), .int x] (some (.int (al_join σ x))) := by
  refine al_met al_mv_X3_join (Nat.le_of_ble_eq_true rfl) ?_
  intro p e s m args below meth c ls S hr hlocks hK hW hS hl
  have hl : lv_has ls 5 [(0, .ref (ad (7))), (1, .int x)] := hl
  refine lv_iconst (v := 1) S.1 S.2.1 dX3_join_0 (by decide) ?_
  refine lv_istore_n (lv' := [(2, .int 1), (0, .ref (ad (7))), (1, .int x)]) S.1 S.2.1 dX3_join_1 rfl hl (by decide) rfl (fun ls hl => ?_)
  refine lv_aload_n S.1 S.2.1 dX3_join_2 rfl (lv_at hl 1 rfl) ?_
  refine al_g_RX3_15 S hK hW dX3_join_3 ?_
  refine lv_iload_n S.1 S.2.1 dX3_join_6 rfl (lv_at hl 2 rfl) ?_
  refine al_cP (rest := []) S hK hW (al_X4_firstChildOf l D cy ad σ x) al_mi_X4_firstChildOf al_ml_RX3_57 rfl (al_rc_4 D cy ad _) rfl hl.1 rfl (Nat.le_of_ble_eq_true rfl) dX3_join_7 ⟨Nat.le_of_ble_eq_true rfl, Nat.le_of_ble_eq_true rfl⟩ ⟨Nat.zero_le _, Nat.zero_le _⟩ ?_
  refine W.eq (g2 := F0 m 10 ls [.int (al_rg (σ.1 12) x)]) rfl ?_
  refine lv_istore_n (lv' := [(3, .int (al_rg (σ.1 12) x)), (2, .int 1), (0, .ref (ad (7))), (1, .int x)]) S.1 S.2.1 dX3_join_10 rfl hl (by decide) rfl (fun ls hl => ?_)
  refine lv_iconst (v := 0) S.1 S.2.1 dX3_join_11 (by decide) ?_
  refine lv_istore (lv' := [(4, .int 0), (3, .int (al_rg (σ.1 12) x)), (2, .int 1), (0, .ref (ad (7))), (1, .int x)]) S.1 S.2.1 dX3_join_12 hl (by decide) rfl (fun ls hl => ?_)
  refine al_lp_X3_join l D cy ad  S hK hW 15 0 (al_rg (σ.1 12) x) 1 _ (by omega) (lv_sub hl [3, 2, 1, 0] rfl) (fun a1 ls e2 hl => ?_)
  refine lv_iload_n S.1 S.2.1 dX3_join_63 rfl (lv_at hl 1 rfl) ?_
  refine lv_iconst (v := 1) S.1 S.2.1 dX3_join_64 (by decide) ?_
  refine lv_ishl S.1 S.2.1 dX3_join_65 ?_
  exact W.iret S.1 S.2.1 hr (fun t9 ht9 _ => ⟨(congrArg (fun z => Outcome.returned (some (Value.int z))) (by simp only [al_join, e2])), ht9⟩) (fun q hq => absurd hq List.not_mem_nil) dX3_join_66
set_option maxHeartbeats 4000000 in
set_option maxRecDepth 100000 in
theorem al_lp_X3_write {p : Program} {e : Env} {s : State} {m : MethodId} {args : Array Value} {below : List Frame} {meth : Method} {c : Code} {Q : State → Prop} (l : Launch) (D : va_G) (cy : al_CY) (ad : Nat → Nat) (S : CallFix p m c cX3_write 3 s args al_G RX3) (hK : va_K D vwCl (al_tys cy) s) {H0 : Heap} : ∀ (n : Nat) (σ : al_St)  (H : Heap) (locs : List Loc) (ls : Array Slot), (n ≤ 9000) → al_H D cy ad σ H → va_S (al_A ad) H0 H locs → lv_has ls 3 [(0, .ref (ad (7))), (1, .int (nI n - 1))] → (∀ (σ' : al_St) (H : Heap) (locs : List Loc) (ls : Array Slot), al_wrL n σ = σ' → al_H D cy ad σ' H → va_S (al_A ad) H0 H locs → lv_has ls 3 [(0, .ref (ad (7)))] → W p l e (al_rm 3 66) s m args below meth c H locs 0 0 Q (F0 m 63 ls [])) → W p l e (al_rm 3 66) s m args below meth c H locs 0 0 Q (F0 m 18 ls []) := by
  intro n
  induction n with
  | zero =>
    intro σ  H locs ls hn hW hS hl K
    refine lv_iload_n S.1 S.2.1 dX3_write_18 rfl (lv_at hl 1 rfl) ?_
    refine lv_if_lt (tgt := 63) S.1 S.2.1 dX3_write_19 (by decide) (fun c1 => ?_) (fun c1 => ?_)
    · exact K σ  _ _ _ (by simp only [al_wrL, al_wr1, if_pos (c1)]) hW hS (lv_sub hl [0] rfl)
    · exact absurd (by decide) c1
  | succ n ih =>
    intro σ  H locs ls hn hW hS hl K
    refine lv_iload_n S.1 S.2.1 dX3_write_18 rfl (lv_at hl 1 rfl) ?_
    refine lv_if_lt (tgt := 63) S.1 S.2.1 dX3_write_19 (by decide) (fun c1 => ?_) (fun c1 => ?_)
    · exact absurd c1 (by rw [nI_pred]; exact nI_pos (by omega))
    · refine lv_aload_n S.1 S.2.1 dX3_write_22 rfl (lv_at hl 0 rfl) ?_
      refine al_g_RX3_15 S hK hW dX3_write_23 ?_
      refine lv_iload_n S.1 S.2.1 dX3_write_26 rfl (lv_at hl 1 rfl) ?_
      refine al_cP (rest := []) S hK hW (al_X4_downwardAt l D cy ad σ (nI (n + 1) - 1)) al_mi_X4_downwardAt al_ml_RX3_43 rfl (al_rc_4 D cy ad _) rfl hl.1 rfl (Nat.le_of_ble_eq_true rfl) dX3_write_27 ⟨Nat.le_of_ble_eq_true rfl, Nat.le_of_ble_eq_true rfl⟩ ⟨Nat.zero_le _, Nat.zero_le _⟩ ?_
      refine W.eq (g2 := F0 m 30 ls [.int (al_rg (σ.1 14) (nI (n + 1) - 1))]) rfl ?_
      refine lv_istore_n (lv' := [(2, .int (al_rg (σ.1 14) (nI (n + 1) - 1))), (0, .ref (ad (7))), (1, .int (nI (n + 1) - 1))]) S.1 S.2.1 dX3_write_30 rfl hl (by decide) rfl (fun ls hl => ?_)
      refine lv_aload_n S.1 S.2.1 dX3_write_31 rfl (lv_at hl 1 rfl) ?_
      refine al_g_RX3_15 S hK hW dX3_write_32 ?_
      refine lv_iload_n S.1 S.2.1 dX3_write_35 rfl (lv_at hl 0 rfl) ?_
      refine al_cP (rest := []) S hK hW (al_X4_sizeOf l D cy ad σ (al_rg (σ.1 14) (nI (n + 1) - 1))) al_mi_X4_sizeOf al_ml_RX3_47 rfl (al_rc_4 D cy ad _) rfl hl.1 rfl (Nat.le_of_ble_eq_true rfl) dX3_write_36 ⟨Nat.le_of_ble_eq_true rfl, Nat.le_of_ble_eq_true rfl⟩ ⟨Nat.zero_le _, Nat.zero_le _⟩ ?_
      refine W.eq (g2 := F0 m 39 ls [.int (al_rg (σ.1 18) (al_rg (σ.1 14) (nI (n + 1) - 1)))]) rfl ?_
      refine lv_bipush (v := 15) S.1 S.2.1 dX3_write_39 (by decide) ?_
      refine lv_icmp_gt (tgt := 57) S.1 S.2.1 dX3_write_41 (by decide) (fun c2 => ?_) (fun c2 => ?_)
      · refine lv_iinc (k := 2) (v := nI n - 1) (lv' := [(1, .int (nI n - 1)), (2, .int (al_rg (σ.1 14) (nI (n + 1) - 1))), (0, .ref (ad (7)))]) S.1 S.2.1 dX3_write_57 hl rfl (al_decm n) (by decide) rfl (fun ls hl => ?_)
        refine lv_goto (tgt := 18) S.1 S.2.1 dX3_write_60 (by decide) ?_
        exact ih σ  _ _ _ (by omega) hW hS (lv_sub hl [2, 0] rfl) (fun σ'  H locs ls e9 hW hS hl => K σ'  H locs ls (by simp only [al_wrL, al_wr1, if_neg (c1), if_pos (c2)]; exact e9) hW hS hl)
      · refine lv_aload_n S.1 S.2.1 dX3_write_44 rfl (lv_at hl 1 rfl) ?_
        refine al_g_RX3_22 S hK hW dX3_write_45 ?_
        refine lv_iload_n S.1 S.2.1 dX3_write_48 rfl (lv_at hl 0 rfl) ?_
        refine lv_aload_n S.1 S.2.1 dX3_write_49 rfl (lv_at hl 1 rfl) ?_
        refine lv_iload_n S.1 S.2.1 dX3_write_50 rfl (lv_at hl 0 rfl) ?_
        refine al_cP (rest := [.int (al_rg (σ.1 14) (nI (n + 1) - 1)), .ref (ad (14 + 2 * 23))]) S hK hW (al_X3_join l D cy ad σ (al_rg (σ.1 14) (nI (n + 1) - 1))) al_mi_X3_join al_ml_RX3_50 rfl (al_rc_3 D cy ad _) rfl hl.1 rfl (Nat.le_of_ble_eq_true rfl) dX3_write_51 ⟨Nat.le_of_ble_eq_true rfl, Nat.le_of_ble_eq_true rfl⟩ ⟨Nat.zero_le _, Nat.zero_le _⟩ ?_
        refine W.eq (g2 := F0 m 54 ls [.int (al_join σ (al_rg (σ.1 14) (nI (n + 1) - 1))), .int (al_rg (σ.1 14) (nI (n + 1) - 1)), .ref (ad (14 + 2 * 23))]) rfl ?_
        refine al_cS (rest := []) S hK hW hS (al_X2_set l D cy ad σ 23 (by omega) (al_rg (σ.1 14) (nI (n + 1) - 1)) (al_join σ (al_rg (σ.1 14) (nI (n + 1) - 1)))) al_mi_X2_set al_ml_RX3_53 rfl (al_rc_R D cy ad _ (i := 23) (by omega)) rfl hl.1 rfl (Nat.le_of_ble_eq_true rfl) dX3_write_54 ⟨Nat.le_of_ble_eq_true rfl, Nat.le_of_ble_eq_true rfl⟩ ⟨Nat.zero_le _, Nat.zero_le _⟩ (fun H locs hW hS => ?_)
        refine W.eq (g2 := F0 m 57 ls []) rfl ?_
        refine lv_iinc (k := 2) (v := nI n - 1) (lv' := [(1, .int (nI n - 1)), (2, .int (al_rg (σ.1 14) (nI (n + 1) - 1))), (0, .ref (ad (7)))]) S.1 S.2.1 dX3_write_57 hl rfl (al_decm n) (by decide) rfl (fun ls hl => ?_)
        refine lv_goto (tgt := 18) S.1 S.2.1 dX3_write_60 (by decide) ?_
        exact ih (al_set σ 23 (al_rg (σ.1 14) (nI (n + 1) - 1)) (al_join σ (al_rg (σ.1 14) (nI (n + 1) - 1))))  _ _ _ (by omega) hW hS (lv_sub hl [2, 0] rfl) (fun σ'  H locs ls e9 hW hS hl => K σ'  H locs ls (by simp only [al_wrL, al_wr1, if_neg (c1), if_neg (c2)]; exact e9) hW hS hl)
theorem al_mv_X3_write : al_mv yX3_write cX3_write 3 none 0 := ⟨al_c_X3_write, al_ini_RX3, ⟨by decide +kernel, by decide +kernel, by decide +kernel⟩, by decide +kernel⟩
theorem al_mi_X3_write : al_mi yX3_write cX3_write 3 none 0 := ⟨al_mv_X3_write, al_in_X3_write, al_se_X3_write⟩
set_option maxHeartbeats 4000000 in
set_option maxRecDepth 100000 in
theorem al_X3_write (l : Launch) (D : va_G) (cy : al_CY) (ad : Nat → Nat) (σ : al_St) (hP : σ.2.2.1 9 = nI (σ.2.2.1 9).toNatClampNeg) (h9 : (σ.2.2.1 9).toNatClampNeg ≤ 9000) : al_MS l yX3_write cX3_write 3 none 3 66 D cy ad σ [.ref (ad (7))] none (al_write σ) := by
  refine al_met al_mv_X3_write (Nat.le_of_ble_eq_true rfl) ?_
  intro p e s m args below meth c ls S hr hlocks hK hW hS hl
  have hl : lv_has ls 3 [(0, .ref (ad (7)))] := hl
  refine lv_aload_n S.1 S.2.1 dX3_write_0 rfl (lv_at hl 0 rfl) ?_
  refine al_g_RX3_22 S hK hW dX3_write_1 ?_
  refine lv_iconst (v := 0) S.1 S.2.1 dX3_write_4 (by decide) ?_
  refine al_cS (rest := []) S hK hW hS (al_X2_fill l D cy ad σ 23 (by omega) 0) al_mi_X2_fill al_ml_RX3_33 rfl (al_rc_R D cy ad _ (i := 23) (by omega)) rfl hl.1 rfl (Nat.le_of_ble_eq_true rfl) dX3_write_5 ⟨Nat.le_of_ble_eq_true rfl, Nat.le_of_ble_eq_true rfl⟩ ⟨Nat.zero_le _, Nat.zero_le _⟩ (fun H locs hW hS => ?_)
  refine W.eq (g2 := F0 m 8 ls []) rfl ?_
  refine lv_aload_n S.1 S.2.1 dX3_write_8 rfl (lv_at hl 0 rfl) ?_
  refine al_g_RX3_15 S hK hW dX3_write_9 ?_
  refine al_cP (rest := []) S hK hW (al_X4_present l D cy ad (al_sR σ 23 (al_fill 90 0 (σ.1 23))) ) al_mi_X4_present al_ml_RX3_37 rfl (al_rc_4 D cy ad _) rfl hl.1 rfl (Nat.le_of_ble_eq_true rfl) dX3_write_12 ⟨Nat.le_of_ble_eq_true rfl, Nat.le_of_ble_eq_true rfl⟩ ⟨Nat.zero_le _, Nat.zero_le _⟩ ?_
  refine W.eq (g2 := F0 m 15 ls [.int ((al_sR σ 23 (al_fill 90 0 (σ.1 23))).2.2.1 9)]) rfl ?_
  refine lv_iconst (v := 1) S.1 S.2.1 dX3_write_15 (by decide) ?_
  refine lv_isub S.1 S.2.1 dX3_write_16 ?_
  refine lv_istore_n (lv' := [(1, .int (((al_sR σ 23 (al_fill 90 0 (σ.1 23))).2.2.1 9) - 1)), (0, .ref (ad (7)))]) S.1 S.2.1 dX3_write_17 rfl hl (by decide) rfl (fun ls hl => ?_)
  have hl := hl
  rw [show (al_sR σ 23 (al_fill 90 0 (σ.1 23))).2.2.1 9 = nI (σ.2.2.1 9).toNatClampNeg from hP] at hl
  refine al_lp_X3_write l D cy ad  S hK ((σ.2.2.1 9).toNatClampNeg) (al_sR σ 23 (al_fill 90 0 (σ.1 23)))  _ _ _ h9 hW hS (lv_sub hl [1, 0] rfl) (fun σ1 H locs ls e2 hW hS hl => ?_)
  exact W.vret S.1 S.2.1 hr (fun t9 ht9 _ => ⟨rfl, by rw [ht9]; exact (al_He hW (by simp only [al_write, al_fillR, e2])), hS.F ht9⟩) hS.2.2 dX3_write_63
set_option maxHeartbeats 4000000 in
set_option maxRecDepth 100000 in
theorem al_lp_X3_like {p : Program} {e : Env} {s : State} {m : MethodId} {args : Array Value} {below : List Frame} {meth : Method} {c : Code} {Q : State → Prop} (l : Launch) (D : va_G) (cy : al_CY) (ad : Nat → Nat) (x : Int32) (S : CallFix p m c cX3_countLike 4 s args al_G RX3) (hK : va_K D vwCl (al_tys cy) s) {H : Heap} {locs : List Loc} {σ : al_St} (hW : al_H D cy ad σ H) : ∀ (n : Nat) (k : Nat) (a : Int32) (ls : Array Slot), (k + n = 90) → lv_has ls 4 [(0, .ref (ad (7))), (1, .int x), (2, .int a), (3, .int (nI k))] → (∀ (a' : Int32) (ls : Array Slot), al_likeL σ x n k a = a' → lv_has ls 4 [(2, .int a')] → W p l e (al_rm 1 21) s m args below meth c H locs 0 0 Q (F0 m 38 ls [])) → W p l e (al_rm 1 21) s m args below meth c H locs 0 0 Q (F0 m 4 ls []) := by
  intro n
  induction n with
  | zero =>
    intro k a ls hk hl K
    refine lv_iload_n S.1 S.2.1 dX3_countLike_4 rfl (lv_at hl 3 rfl) ?_
    refine lv_bipush (v := 90) S.1 S.2.1 dX3_countLike_5 (by decide) ?_
    refine lv_icmp_ge (tgt := 38) S.1 S.2.1 dX3_countLike_7 (by decide) (fun c1 => ?_) (fun c1 => ?_)
    · exact K a _ (by simp only [al_likeL, if_pos (c1)]) (lv_sub hl [2] rfl)
    · exact absurd (al_90' (by omega)) c1
  | succ n ih =>
    intro k a ls hk hl K
    refine lv_iload_n S.1 S.2.1 dX3_countLike_4 rfl (lv_at hl 3 rfl) ?_
    refine lv_bipush (v := 90) S.1 S.2.1 dX3_countLike_5 (by decide) ?_
    refine lv_icmp_ge (tgt := 38) S.1 S.2.1 dX3_countLike_7 (by decide) (fun c1 => ?_) (fun c1 => ?_)
    · exact absurd c1 (al_90 (by omega))
    · refine lv_aload_n S.1 S.2.1 dX3_countLike_10 rfl (lv_at hl 0 rfl) ?_
      refine al_g_RX3_22 S hK hW dX3_countLike_11 ?_
      refine lv_iload_n S.1 S.2.1 dX3_countLike_14 rfl (lv_at hl 3 rfl) ?_
      refine al_cP (rest := []) S hK hW (al_X2_get l D cy ad σ 23 (by omega) (nI k)) al_mi_X2_get al_ml_RX3_60 rfl (al_rc_R D cy ad _ (i := 23) (by omega)) rfl hl.1 rfl (Nat.le_of_ble_eq_true rfl) dX3_countLike_15 ⟨Nat.le_of_ble_eq_true rfl, Nat.le_of_ble_eq_true rfl⟩ ⟨Nat.zero_le _, Nat.zero_le _⟩ ?_
      refine W.eq (g2 := F0 m 18 ls [.int (al_rg (σ.1 23) (nI k))]) rfl ?_
      refine lv_aload_n S.1 S.2.1 dX3_countLike_18 rfl (lv_at hl 0 rfl) ?_
      refine al_g_RX3_22 S hK hW dX3_countLike_19 ?_
      refine lv_iload_n S.1 S.2.1 dX3_countLike_22 rfl (lv_at hl 1 rfl) ?_
      refine al_cP (rest := [.int (al_rg (σ.1 23) (nI k))]) S hK hW (al_X2_get l D cy ad σ 23 (by omega) x) al_mi_X2_get al_ml_RX3_60 rfl (al_rc_R D cy ad _ (i := 23) (by omega)) rfl hl.1 rfl (Nat.le_of_ble_eq_true rfl) dX3_countLike_23 ⟨Nat.le_of_ble_eq_true rfl, Nat.le_of_ble_eq_true rfl⟩ ⟨Nat.zero_le _, Nat.zero_le _⟩ ?_
      refine W.eq (g2 := F0 m 26 ls [.int (al_rg (σ.1 23) x), .int (al_rg (σ.1 23) (nI k))]) rfl ?_
      refine lv_icmp_ne (tgt := 32) S.1 S.2.1 dX3_countLike_26 (by decide) (fun c2 => ?_) (fun c2 => ?_)
      · refine lv_iinc (k := 3) (v := nI (k + 1)) (lv' := [(3, .int (nI (k + 1))), (0, .ref (ad (7))), (1, .int x), (2, .int a)]) S.1 S.2.1 dX3_countLike_32 hl rfl (al_inc k) (by decide) rfl (fun ls hl => ?_)
        refine lv_goto (tgt := 4) S.1 S.2.1 dX3_countLike_35 (by decide) ?_
        exact ih (k + 1) a _ (by omega) (lv_sub hl [1, 2, 3, 0] rfl) (fun a' ls e9 hl => K a' ls (by simp only [al_likeL, if_neg (c1), if_neg (c2)]; exact e9) hl)
      · refine lv_iinc (k := 2) (v := a + 1) (lv' := [(2, .int (a + 1)), (0, .ref (ad (7))), (1, .int x), (3, .int (nI k))]) S.1 S.2.1 dX3_countLike_29 hl rfl rfl (by decide) rfl (fun ls hl => ?_)
        refine lv_iinc (k := 3) (v := nI (k + 1)) (lv' := [(3, .int (nI (k + 1))), (2, .int (a + 1)), (0, .ref (ad (7))), (1, .int x)]) S.1 S.2.1 dX3_countLike_32 hl rfl (al_inc k) (by decide) rfl (fun ls hl => ?_)
        refine lv_goto (tgt := 4) S.1 S.2.1 dX3_countLike_35 (by decide) ?_
        exact ih (k + 1) (a + 1) _ (by omega) (lv_sub hl [2, 3, 1, 0] rfl) (fun a' ls e9 hl => K a' ls (by simp only [al_likeL, if_neg (c1), if_pos (c2)]; exact e9) hl)
theorem al_mv_X3_countLike : al_mv yX3_countLike cX3_countLike 4 (some .int) 1 := ⟨al_c_X3_countLike, al_ini_RX3, ⟨by decide +kernel, by decide +kernel, by decide +kernel⟩, by decide +kernel⟩
theorem al_mi_X3_countLike : al_mi yX3_countLike cX3_countLike 4 (some .int) 1 := ⟨al_mv_X3_countLike, al_in_X3_countLike, al_se_X3_countLike⟩
set_option maxHeartbeats 4000000 in
set_option maxRecDepth 100000 in
theorem al_X3_countLike (l : Launch) (D : va_G) (cy : al_CY) (ad : Nat → Nat) (σ : al_St) (x : Int32) : al_MP l yX3_countLike cX3_countLike 4 (some .int) 1 21 D cy ad σ [.ref (ad (7)), .int x] (some (.int (al_likeL σ x 90 0 0))) := by
  refine al_met al_mv_X3_countLike (Nat.le_of_ble_eq_true rfl) ?_
  intro p e s m args below meth c ls S hr hlocks hK hW hS hl
  have hl : lv_has ls 4 [(0, .ref (ad (7))), (1, .int x)] := hl
  refine lv_iconst (v := 0) S.1 S.2.1 dX3_countLike_0 (by decide) ?_
  refine lv_istore_n (lv' := [(2, .int 0), (0, .ref (ad (7))), (1, .int x)]) S.1 S.2.1 dX3_countLike_1 rfl hl (by decide) rfl (fun ls hl => ?_)
  refine lv_iconst (v := 0) S.1 S.2.1 dX3_countLike_2 (by decide) ?_
  refine lv_istore_n (lv' := [(3, .int 0), (2, .int 0), (0, .ref (ad (7))), (1, .int x)]) S.1 S.2.1 dX3_countLike_3 rfl hl (by decide) rfl (fun ls hl => ?_)
  refine al_lp_X3_like l D cy ad x S hK hW 90 0 0 _ (by omega) (lv_sub hl [2, 3, 1, 0] rfl) (fun a1 ls e2 hl => ?_)
  refine lv_iload_n S.1 S.2.1 dX3_countLike_38 rfl (lv_at hl 0 rfl) ?_
  exact W.iret S.1 S.2.1 hr (fun t9 ht9 _ => ⟨(congrArg (fun z => Outcome.returned (some (Value.int z))) (by simp only [e2])), ht9⟩) (fun q hq => absurd hq List.not_mem_nil) dX3_countLike_39
set_option maxHeartbeats 4000000 in
set_option maxRecDepth 100000 in
theorem al_lp_X3_enP {p : Program} {e : Env} {s : State} {m : MethodId} {args : Array Value} {below : List Frame} {meth : Method} {c : Code} {Q : State → Prop} (l : Launch) (D : va_G) (cy : al_CY) (ad : Nat → Nat) (v : Int32) (S : CallFix p m c cX3_enter 4 s args al_G RX3) (hK : va_K D vwCl (al_tys cy) s) {H : Heap} {locs : List Loc} {σ : al_St} (hW : al_H D cy ad σ H) : ∀ (n : Nat) (k : Nat) (ls : Array Slot), (n + k = (σ.2.2.1 12).toNatClampNeg) → lv_has ls 4 [(0, .ref (ad (7))), (1, .int v), (2, .int (nI k))] → (∀ (k' : Nat) (ls : Array Slot), al_enP σ v n k = k' → lv_has ls 4 [(0, .ref (ad (7))), (1, .int v), (2, .int (nI k'))] → W p l e (al_rm 1 22) s m args below meth c H locs 0 0 Q (F0 m 28 ls [])) → W p l e (al_rm 1 22) s m args below meth c H locs 0 0 Q (F0 m 2 ls []) := by
  intro n
  induction n with
  | zero =>
    intro k ls hk hl K
    refine lv_iload_n S.1 S.2.1 dX3_enter_2 rfl (lv_at hl 2 rfl) ?_
    refine lv_aload_n S.1 S.2.1 dX3_enter_3 rfl (lv_at hl 0 rfl) ?_
    refine al_g_RX3_29 S hK hW dX3_enter_4 ?_
    refine lv_icmp_ge (tgt := 28) S.1 S.2.1 dX3_enter_7 (by decide) (fun c1 => ?_) (fun c1 => ?_)
    · exact K k _ (by simp only [al_enP, if_pos (c1)]) (lv_sub hl [0, 1, 2] rfl)
    · exact absurd ((al_le_nI (Nat.lt_of_le_of_lt (show k ≤ (σ.2.2.1 12).toNatClampNeg by omega) (al_tn_lt _))).mpr (by omega)) c1
  | succ n ih =>
    intro k ls hk hl K
    refine lv_iload_n S.1 S.2.1 dX3_enter_2 rfl (lv_at hl 2 rfl) ?_
    refine lv_aload_n S.1 S.2.1 dX3_enter_3 rfl (lv_at hl 0 rfl) ?_
    refine al_g_RX3_29 S hK hW dX3_enter_4 ?_
    refine lv_icmp_ge (tgt := 28) S.1 S.2.1 dX3_enter_7 (by decide) (fun c1 => ?_) (fun c1 => ?_)
    · exact absurd c1 (fun hc => absurd ((al_le_nI (Nat.lt_of_le_of_lt (show k ≤ (σ.2.2.1 12).toNatClampNeg by omega) (al_tn_lt _))).mp hc) (by omega))
    · refine lv_aload_n S.1 S.2.1 dX3_enter_10 rfl (lv_at hl 0 rfl) ?_
      refine al_g_RX3_26 S hK hW dX3_enter_11 ?_
      refine lv_iload_n S.1 S.2.1 dX3_enter_14 rfl (lv_at hl 2 rfl) ?_
      refine al_cP (rest := []) S hK hW (al_X2_get l D cy ad σ 24 (by omega) (nI k)) al_mi_X2_get al_ml_RX3_60 rfl (al_rc_R D cy ad _ (i := 24) (by omega)) rfl hl.1 rfl (Nat.le_of_ble_eq_true rfl) dX3_enter_15 ⟨Nat.le_of_ble_eq_true rfl, Nat.le_of_ble_eq_true rfl⟩ ⟨Nat.zero_le _, Nat.zero_le _⟩ ?_
      refine W.eq (g2 := F0 m 18 ls [.int (al_rg (σ.1 24) (nI k))]) rfl ?_
      refine lv_iload_n S.1 S.2.1 dX3_enter_18 rfl (lv_at hl 1 rfl) ?_
      refine lv_icmp_ge (tgt := 28) S.1 S.2.1 dX3_enter_19 (by decide) (fun c2 => ?_) (fun c2 => ?_)
      · exact K k _ (by simp only [al_enP, if_neg (c1), if_pos (c2)]) (lv_sub hl [0, 1, 2] rfl)
      · refine lv_iinc (k := 2) (v := nI (k + 1)) (lv' := [(2, .int (nI (k + 1))), (0, .ref (ad (7))), (1, .int v)]) S.1 S.2.1 dX3_enter_22 hl rfl (al_inc k) (by decide) rfl (fun ls hl => ?_)
        refine lv_goto (tgt := 2) S.1 S.2.1 dX3_enter_25 (by decide) ?_
        exact ih (k + 1) _ (by omega) (lv_sub hl [1, 2, 0] rfl) (fun k' ls e9 hl => K k' ls (by simp only [al_enP, if_neg (c1), if_neg (c2)]; exact e9) hl)
set_option maxHeartbeats 4000000 in
set_option maxRecDepth 100000 in
theorem al_lp_X3_enS {p : Program} {e : Env} {s : State} {m : MethodId} {args : Array Value} {below : List Frame} {meth : Method} {c : Code} {Q : State → Prop} (l : Launch) (D : va_G) (cy : al_CY) (ad : Nat → Nat) (k : Nat) (v : Int32) (S : CallFix p m c cX3_enter 4 s args al_G RX3) (hK : va_K D vwCl (al_tys cy) s) {H0 : Heap} : ∀ (n : Nat) (σ : al_St)  (H : Heap) (locs : List Loc) (ls : Array Slot), (k + n < 2 ^ 31) → al_H D cy ad σ H → va_S (al_A ad) H0 H locs → lv_has ls 4 [(0, .ref (ad (7))), (1, .int v), (2, .int (nI k)), (3, .int (nI (k + n)))] → (∀ (σ' : al_St) (H : Heap) (locs : List Loc) (ls : Array Slot), al_enS k n σ = σ' → al_H D cy ad σ' H → va_S (al_A ad) H0 H locs → lv_has ls 4 [(0, .ref (ad (7))), (1, .int v), (2, .int (nI k))] → W p l e (al_rm 1 22) s m args below meth c H locs 0 0 Q (F0 m 83 ls [])) → W p l e (al_rm 1 22) s m args below meth c H locs 0 0 Q (F0 m 54 ls []) := by
  intro n
  induction n with
  | zero =>
    intro σ  H locs ls hn hW hS hl K
    refine lv_iload_n S.1 S.2.1 dX3_enter_54 rfl (lv_at hl 3 rfl) ?_
    refine lv_iload_n S.1 S.2.1 dX3_enter_55 rfl (lv_at hl 2 rfl) ?_
    refine lv_icmp_le (tgt := 83) S.1 S.2.1 dX3_enter_56 (by decide) (fun c1 => ?_) (fun c1 => ?_)
    · exact K σ  _ _ _ (by simp only [al_enS, if_pos (c1)]) hW hS (lv_sub hl [0, 1, 2] rfl)
    · exact absurd (nI_le (by omega) (by omega)) c1
  | succ n ih =>
    intro σ  H locs ls hn hW hS hl K
    refine lv_iload_n S.1 S.2.1 dX3_enter_54 rfl (lv_at hl 3 rfl) ?_
    refine lv_iload_n S.1 S.2.1 dX3_enter_55 rfl (lv_at hl 2 rfl) ?_
    refine lv_icmp_le (tgt := 83) S.1 S.2.1 dX3_enter_56 (by decide) (fun c1 => ?_) (fun c1 => ?_)
    · exact absurd c1 (nI_ge (by omega) (by omega))
    · refine lv_aload_n S.1 S.2.1 dX3_enter_59 rfl (lv_at hl 0 rfl) ?_
      refine al_g_RX3_26 S hK hW dX3_enter_60 ?_
      refine lv_iload_n S.1 S.2.1 dX3_enter_63 rfl (lv_at hl 3 rfl) ?_
      refine lv_aload_n S.1 S.2.1 dX3_enter_64 rfl (lv_at hl 0 rfl) ?_
      refine al_g_RX3_26 S hK hW dX3_enter_65 ?_
      refine lv_iload_n S.1 S.2.1 dX3_enter_68 rfl (lv_at hl 3 rfl) ?_
      refine lv_iconst (v := 1) S.1 S.2.1 dX3_enter_69 (by decide) ?_
      refine lv_isub S.1 S.2.1 dX3_enter_70 ?_
      refine al_cP (rest := [.int (nI (k + (n + 1))), .ref (ad (14 + 2 * 24))]) S hK hW (al_X2_get l D cy ad σ 24 (by omega) ((nI (k + (n + 1))) - 1)) al_mi_X2_get al_ml_RX3_60 rfl (al_rc_R D cy ad _ (i := 24) (by omega)) rfl hl.1 rfl (Nat.le_of_ble_eq_true rfl) dX3_enter_71 ⟨Nat.le_of_ble_eq_true rfl, Nat.le_of_ble_eq_true rfl⟩ ⟨Nat.zero_le _, Nat.zero_le _⟩ ?_
      refine W.eq (g2 := F0 m 74 ls [.int (al_rg (σ.1 24) ((nI (k + (n + 1))) - 1)), .int (nI (k + (n + 1))), .ref (ad (14 + 2 * 24))]) rfl ?_
      refine al_cS (rest := []) S hK hW hS (al_X2_set l D cy ad σ 24 (by omega) (nI (k + (n + 1))) (al_rg (σ.1 24) ((nI (k + (n + 1))) - 1))) al_mi_X2_set al_ml_RX3_53 rfl (al_rc_R D cy ad _ (i := 24) (by omega)) rfl hl.1 rfl (Nat.le_of_ble_eq_true rfl) dX3_enter_74 ⟨Nat.le_of_ble_eq_true rfl, Nat.le_of_ble_eq_true rfl⟩ ⟨Nat.zero_le _, Nat.zero_le _⟩ (fun H locs hW hS => ?_)
      refine W.eq (g2 := F0 m 77 ls []) rfl ?_
      refine lv_iinc (k := 3) (v := nI (k + n)) (lv' := [(3, .int (nI (k + n))), (0, .ref (ad (7))), (1, .int v), (2, .int (nI k))]) S.1 S.2.1 dX3_enter_77 hl rfl (pk_m1 (k + n)) (by decide) rfl (fun ls hl => ?_)
      refine lv_goto (tgt := 54) S.1 S.2.1 dX3_enter_80 (by decide) ?_
      exact ih (al_set σ 24 (nI (k + (n + 1))) (al_rg (σ.1 24) ((nI (k + (n + 1))) - 1)))  _ _ _ (by omega) hW hS (lv_sub hl [1, 2, 3, 0] rfl) (fun σ'  H locs ls e9 hW hS hl => K σ'  H locs ls (by simp only [al_enS, if_neg (c1)]; exact e9) hW hS hl)
theorem al_mv_X3_enter : al_mv yX3_enter cX3_enter 4 none 1 := ⟨al_c_X3_enter, al_ini_RX3, ⟨by decide +kernel, by decide +kernel, by decide +kernel⟩, by decide +kernel⟩
theorem al_mi_X3_enter : al_mi yX3_enter cX3_enter 4 none 1 := ⟨al_mv_X3_enter, al_in_X3_enter, al_se_X3_enter⟩
set_option maxHeartbeats 4000000 in
set_option maxRecDepth 100000 in
theorem al_X3_enter (l : Launch) (D : va_G) (cy : al_CY) (ad : Nat → Nat) (σ : al_St) (v : Int32) (hK9 : al_kOK 90 σ) : al_MS l yX3_enter cX3_enter 4 none 1 22 D cy ad σ [.ref (ad (7)), .int v] none (al_enter σ v) := by
  have hk0 := al_kOK_eq (by omega) hK9
  refine al_met al_mv_X3_enter (Nat.le_of_ble_eq_true rfl) ?_
  intro p e s m args below meth c ls S hr hlocks hK hW hS hl
  have hl : lv_has ls 4 [(0, .ref (ad (7))), (1, .int v)] := hl
  refine lv_iconst (v := 0) S.1 S.2.1 dX3_enter_0 (by decide) ?_
  refine lv_istore_n (lv' := [(2, .int 0), (0, .ref (ad (7))), (1, .int v)]) S.1 S.2.1 dX3_enter_1 rfl hl (by decide) rfl (fun ls hl => ?_)
  refine al_lp_X3_enP l D cy ad v S hK hW ((σ.2.2.1 12).toNatClampNeg) 0 _ (Nat.add_zero _) (lv_sub hl [1, 2, 0] rfl) (fun k1 ls e2 hl => ?_)
  refine lv_iload_n S.1 S.2.1 dX3_enter_28 rfl (lv_at hl 2 rfl) ?_
  refine lv_aload_n S.1 S.2.1 dX3_enter_29 rfl (lv_at hl 0 rfl) ?_
  refine al_g_RX3_29 S hK hW dX3_enter_30 ?_
  refine lv_icmp_ge (tgt := 49) S.1 S.2.1 dX3_enter_33 (by decide) (fun c3 => ?_) (fun c3 => ?_)
  · refine lv_aload_n S.1 S.2.1 dX3_enter_49 rfl (lv_at hl 0 rfl) ?_
    refine al_g_RX3_29 S hK hW dX3_enter_50 ?_
    refine lv_istore_n (lv' := [(3, .int (σ.2.2.1 12)), (0, .ref (ad (7))), (1, .int v), (2, .int (nI k1))]) S.1 S.2.1 dX3_enter_53 rfl hl (by decide) rfl (fun ls hl => ?_)
    have hq : k1 ≤ (σ.2.2.1 12).toNatClampNeg := by rw [← e2]; exact al_enP_le σ v _ 0
    rw [al_seqI hk0.1 hq rfl] at hl
    refine al_lp_X3_enS l D cy ad k1 v S hK ((σ.2.2.1 12).toNatClampNeg - k1) σ  _ _ _ (by omega) hW hS (lv_sub hl [1, 2, 3, 0] rfl) (fun σ4 H locs ls e5 hW hS hl => ?_)
    refine lv_aload_n S.1 S.2.1 dX3_enter_83 rfl (lv_at hl 0 rfl) ?_
    refine al_g_RX3_26 S hK hW dX3_enter_84 ?_
    refine lv_iload_n S.1 S.2.1 dX3_enter_87 rfl (lv_at hl 2 rfl) ?_
    refine lv_iload_n S.1 S.2.1 dX3_enter_88 rfl (lv_at hl 1 rfl) ?_
    refine al_cS (rest := []) S hK hW hS (al_X2_set l D cy ad σ4 24 (by omega) (nI k1) v) al_mi_X2_set al_ml_RX3_53 rfl (al_rc_R D cy ad _ (i := 24) (by omega)) rfl hl.1 rfl (Nat.le_of_ble_eq_true rfl) dX3_enter_89 ⟨Nat.le_of_ble_eq_true rfl, Nat.le_of_ble_eq_true rfl⟩ ⟨Nat.zero_le _, Nat.zero_le _⟩ (fun H locs hW hS => ?_)
    refine W.eq (g2 := F0 m 92 ls []) rfl ?_
    refine lv_aload_n S.1 S.2.1 dX3_enter_92 rfl (lv_at hl 0 rfl) ?_
    refine lv_dup S.1 S.2.1 dX3_enter_93 rfl ?_
    refine al_g_RX3_29 S hK hW dX3_enter_94 ?_
    refine lv_iconst (v := 1) S.1 S.2.1 dX3_enter_97 (by decide) ?_
    refine lv_iadd S.1 S.2.1 dX3_enter_98 ?_
    refine al_p_RX3_29 S hK hW hS dX3_enter_99 (fun H locs hW hS => ?_)
    exact W.vret S.1 S.2.1 hr (fun t9 ht9 _ => ⟨rfl, by rw [ht9]; exact (al_He hW (by simp only [al_enter, al_en1, al_en2, if_pos (c3), e2, e5])), hS.F ht9⟩) hS.2.2 dX3_enter_102
  · refine lv_aload_n S.1 S.2.1 dX3_enter_36 rfl (lv_at hl 0 rfl) ?_
    refine al_g_RX3_26 S hK hW dX3_enter_37 ?_
    refine lv_iload_n S.1 S.2.1 dX3_enter_40 rfl (lv_at hl 2 rfl) ?_
    refine al_cP (rest := []) S hK hW (al_X2_get l D cy ad σ 24 (by omega) (nI k1)) al_mi_X2_get al_ml_RX3_60 rfl (al_rc_R D cy ad _ (i := 24) (by omega)) rfl hl.1 rfl (Nat.le_of_ble_eq_true rfl) dX3_enter_41 ⟨Nat.le_of_ble_eq_true rfl, Nat.le_of_ble_eq_true rfl⟩ ⟨Nat.zero_le _, Nat.zero_le _⟩ ?_
    refine W.eq (g2 := F0 m 44 ls [.int (al_rg (σ.1 24) (nI k1))]) rfl ?_
    refine lv_iload_n S.1 S.2.1 dX3_enter_44 rfl (lv_at hl 1 rfl) ?_
    refine lv_icmp_ne (tgt := 49) S.1 S.2.1 dX3_enter_45 (by decide) (fun c6 => ?_) (fun c6 => ?_)
    · refine lv_aload_n S.1 S.2.1 dX3_enter_49 rfl (lv_at hl 0 rfl) ?_
      refine al_g_RX3_29 S hK hW dX3_enter_50 ?_
      refine lv_istore_n (lv' := [(3, .int (σ.2.2.1 12)), (0, .ref (ad (7))), (1, .int v), (2, .int (nI k1))]) S.1 S.2.1 dX3_enter_53 rfl hl (by decide) rfl (fun ls hl => ?_)
      have hq : k1 ≤ (σ.2.2.1 12).toNatClampNeg := by rw [← e2]; exact al_enP_le σ v _ 0
      rw [al_seqI hk0.1 hq rfl] at hl
      refine al_lp_X3_enS l D cy ad k1 v S hK ((σ.2.2.1 12).toNatClampNeg - k1) σ  _ _ _ (by omega) hW hS (lv_sub hl [1, 2, 3, 0] rfl) (fun σ7 H locs ls e8 hW hS hl => ?_)
      refine lv_aload_n S.1 S.2.1 dX3_enter_83 rfl (lv_at hl 0 rfl) ?_
      refine al_g_RX3_26 S hK hW dX3_enter_84 ?_
      refine lv_iload_n S.1 S.2.1 dX3_enter_87 rfl (lv_at hl 2 rfl) ?_
      refine lv_iload_n S.1 S.2.1 dX3_enter_88 rfl (lv_at hl 1 rfl) ?_
      refine al_cS (rest := []) S hK hW hS (al_X2_set l D cy ad σ7 24 (by omega) (nI k1) v) al_mi_X2_set al_ml_RX3_53 rfl (al_rc_R D cy ad _ (i := 24) (by omega)) rfl hl.1 rfl (Nat.le_of_ble_eq_true rfl) dX3_enter_89 ⟨Nat.le_of_ble_eq_true rfl, Nat.le_of_ble_eq_true rfl⟩ ⟨Nat.zero_le _, Nat.zero_le _⟩ (fun H locs hW hS => ?_)
      refine W.eq (g2 := F0 m 92 ls []) rfl ?_
      refine lv_aload_n S.1 S.2.1 dX3_enter_92 rfl (lv_at hl 0 rfl) ?_
      refine lv_dup S.1 S.2.1 dX3_enter_93 rfl ?_
      refine al_g_RX3_29 S hK hW dX3_enter_94 ?_
      refine lv_iconst (v := 1) S.1 S.2.1 dX3_enter_97 (by decide) ?_
      refine lv_iadd S.1 S.2.1 dX3_enter_98 ?_
      refine al_p_RX3_29 S hK hW hS dX3_enter_99 (fun H locs hW hS => ?_)
      exact W.vret S.1 S.2.1 hr (fun t9 ht9 _ => ⟨rfl, by rw [ht9]; exact (al_He hW (by simp only [al_enter, al_en1, al_en2, if_neg (c3), if_neg (c6), e2, e8])), hS.F ht9⟩) hS.2.2 dX3_enter_102
    · exact W.vret S.1 S.2.1 hr (fun t9 ht9 _ => ⟨rfl, by rw [ht9]; exact (al_He hW (by simp only [al_enter, al_en1, al_en2, if_neg (c3), if_pos (c6), e2])), hS.F ht9⟩) hS.2.2 dX3_enter_48
set_option maxHeartbeats 4000000 in
set_option maxRecDepth 100000 in
theorem al_lp_X3_sort {p : Program} {e : Env} {s : State} {m : MethodId} {args : Array Value} {below : List Frame} {meth : Method} {c : Code} {Q : State → Prop} (l : Launch) (D : va_G) (cy : al_CY) (ad : Nat → Nat) (S : CallFix p m c cX3_sort 2 s args al_G RX3) (hK : va_K D vwCl (al_tys cy) s) {H0 : Heap} : ∀ (n : Nat) (σ : al_St) (k : Nat) (H : Heap) (locs : List Loc) (ls : Array Slot), (k + n = 90) → (al_kOK k σ) → al_H D cy ad σ H → va_S (al_A ad) H0 H locs → lv_has ls 2 [(0, .ref (ad (7))), (1, .int (nI k))] → (∀ (σ' : al_St) (H : Heap) (locs : List Loc) (ls : Array Slot), al_sortL n k σ = σ' → al_H D cy ad σ' H → va_S (al_A ad) H0 H locs → lv_has ls 2 [(0, .ref (ad (7)))] → W p l e (al_rm 2 45) s m args below meth c H locs 0 0 Q (F0 m 42 ls [])) → W p l e (al_rm 2 45) s m args below meth c H locs 0 0 Q (F0 m 7 ls []) := by
  intro n
  induction n with
  | zero =>
    intro σ k H locs ls hk hq hW hS hl K
    refine lv_iload_n S.1 S.2.1 dX3_sort_7 rfl (lv_at hl 1 rfl) ?_
    refine lv_bipush (v := 90) S.1 S.2.1 dX3_sort_8 (by decide) ?_
    refine lv_icmp_ge (tgt := 42) S.1 S.2.1 dX3_sort_10 (by decide) (fun c1 => ?_) (fun c1 => ?_)
    · exact K σ  _ _ _ (by simp only [al_sortL, if_pos (c1)]) hW hS (lv_sub hl [0] rfl)
    · exact absurd (al_90' (by omega)) c1
  | succ n ih =>
    intro σ k H locs ls hk hq hW hS hl K
    refine lv_iload_n S.1 S.2.1 dX3_sort_7 rfl (lv_at hl 1 rfl) ?_
    refine lv_bipush (v := 90) S.1 S.2.1 dX3_sort_8 (by decide) ?_
    refine lv_icmp_ge (tgt := 42) S.1 S.2.1 dX3_sort_10 (by decide) (fun c1 => ?_) (fun c1 => ?_)
    · exact absurd c1 (al_90 (by omega))
    · refine lv_aload_n S.1 S.2.1 dX3_sort_13 rfl (lv_at hl 0 rfl) ?_
      refine al_g_RX3_22 S hK hW dX3_sort_14 ?_
      refine lv_iload_n S.1 S.2.1 dX3_sort_17 rfl (lv_at hl 1 rfl) ?_
      refine al_cP (rest := []) S hK hW (al_X2_get l D cy ad σ 23 (by omega) (nI k)) al_mi_X2_get al_ml_RX3_60 rfl (al_rc_R D cy ad _ (i := 23) (by omega)) rfl hl.1 rfl (Nat.le_of_ble_eq_true rfl) dX3_sort_18 ⟨Nat.le_of_ble_eq_true rfl, Nat.le_of_ble_eq_true rfl⟩ ⟨Nat.zero_le _, Nat.zero_le _⟩ ?_
      refine W.eq (g2 := F0 m 21 ls [.int (al_rg (σ.1 23) (nI k))]) rfl ?_
      refine lv_if_eq (tgt := 36) S.1 S.2.1 dX3_sort_21 (by decide) (fun c2 => ?_) (fun c2 => ?_)
      · refine lv_iinc (k := 1) (v := nI (k + 1)) (lv' := [(1, .int (nI (k + 1))), (0, .ref (ad (7)))]) S.1 S.2.1 dX3_sort_36 hl rfl (al_inc k) (by decide) rfl (fun ls hl => ?_)
        refine lv_goto (tgt := 7) S.1 S.2.1 dX3_sort_39 (by decide) ?_
        exact ih σ (k + 1) _ _ _ (by omega) (al_kOK_up hq) hW hS (lv_sub hl [1, 0] rfl) (fun σ'  H locs ls e9 hW hS hl => K σ'  H locs ls (by simp only [al_sortL, if_neg (c1), if_pos (c2)]; exact e9) hW hS hl)
      · refine lv_aload_n S.1 S.2.1 dX3_sort_24 rfl (lv_at hl 0 rfl) ?_
        refine lv_aload_n S.1 S.2.1 dX3_sort_25 rfl (lv_at hl 0 rfl) ?_
        refine al_g_RX3_22 S hK hW dX3_sort_26 ?_
        refine lv_iload_n S.1 S.2.1 dX3_sort_29 rfl (lv_at hl 1 rfl) ?_
        refine al_cP (rest := [.ref (ad (7))]) S hK hW (al_X2_get l D cy ad σ 23 (by omega) (nI k)) al_mi_X2_get al_ml_RX3_60 rfl (al_rc_R D cy ad _ (i := 23) (by omega)) rfl hl.1 rfl (Nat.le_of_ble_eq_true rfl) dX3_sort_30 ⟨Nat.le_of_ble_eq_true rfl, Nat.le_of_ble_eq_true rfl⟩ ⟨Nat.zero_le _, Nat.zero_le _⟩ ?_
        refine W.eq (g2 := F0 m 33 ls [.int (al_rg (σ.1 23) (nI k)), .ref (ad (7))]) rfl ?_
        refine al_cS (rest := []) S hK hW hS (al_X3_enter l D cy ad σ (al_rg (σ.1 23) (nI k)) (by obtain ⟨K, q1, q2⟩ := hq; exact ⟨K, by omega, q2⟩)) al_mi_X3_enter al_ml_RX3_66 rfl (al_rc_3 D cy ad _) rfl hl.1 rfl (Nat.le_of_ble_eq_true rfl) dX3_sort_33 ⟨Nat.le_of_ble_eq_true rfl, Nat.le_of_ble_eq_true rfl⟩ ⟨Nat.zero_le _, Nat.zero_le _⟩ (fun H locs hW hS => ?_)
        refine W.eq (g2 := F0 m 36 ls []) rfl ?_
        refine lv_iinc (k := 1) (v := nI (k + 1)) (lv' := [(1, .int (nI (k + 1))), (0, .ref (ad (7)))]) S.1 S.2.1 dX3_sort_36 hl rfl (al_inc k) (by decide) rfl (fun ls hl => ?_)
        refine lv_goto (tgt := 7) S.1 S.2.1 dX3_sort_39 (by decide) ?_
        exact ih (al_enter σ (al_rg (σ.1 23) (nI k))) (k + 1) _ _ _ (by omega) (al_enter_K hq) hW hS (lv_sub hl [1, 0] rfl) (fun σ'  H locs ls e9 hW hS hl => K σ'  H locs ls (by simp only [al_sortL, if_neg (c1), if_neg (c2)]; exact e9) hW hS hl)
theorem al_mv_X3_sort : al_mv yX3_sort cX3_sort 2 none 0 := ⟨al_c_X3_sort, al_ini_RX3, ⟨by decide +kernel, by decide +kernel, by decide +kernel⟩, by decide +kernel⟩
theorem al_mi_X3_sort : al_mi yX3_sort cX3_sort 2 none 0 := ⟨al_mv_X3_sort, al_in_X3_sort, al_se_X3_sort⟩
set_option maxHeartbeats 4000000 in
set_option maxRecDepth 100000 in
theorem al_X3_sort (l : Launch) (D : va_G) (cy : al_CY) (ad : Nat → Nat) (σ : al_St) : al_MS l yX3_sort cX3_sort 2 none 2 45 D cy ad σ [.ref (ad (7))] none (al_sort σ) := by
  refine al_met al_mv_X3_sort (Nat.le_of_ble_eq_true rfl) ?_
  intro p e s m args below meth c ls S hr hlocks hK hW hS hl
  have hl : lv_has ls 2 [(0, .ref (ad (7)))] := hl
  refine lv_aload_n S.1 S.2.1 dX3_sort_0 rfl (lv_at hl 0 rfl) ?_
  refine lv_iconst (v := 0) S.1 S.2.1 dX3_sort_1 (by decide) ?_
  refine al_p_RX3_29 S hK hW hS dX3_sort_2 (fun H locs hW hS => ?_)
  refine lv_iconst (v := 0) S.1 S.2.1 dX3_sort_5 (by decide) ?_
  refine lv_istore_n (lv' := [(1, .int 0), (0, .ref (ad (7)))]) S.1 S.2.1 dX3_sort_6 rfl hl (by decide) rfl (fun ls hl => ?_)
  refine al_lp_X3_sort l D cy ad  S hK 90 (al_sV σ 12 0) 0 _ _ _ (by omega) ⟨0, Nat.le_refl _, rfl⟩ hW hS (lv_sub hl [1, 0] rfl) (fun σ1 H locs ls e2 hW hS hl => ?_)
  exact W.vret S.1 S.2.1 hr (fun t9 ht9 _ => ⟨rfl, by rw [ht9]; exact (al_He hW (by simp only [al_sort, e2])), hS.F ht9⟩) hS.2.2 dX3_sort_42
end
section
/-! FLOATS: order and size of sums, differences and halves, by what the library says of rounding -/
def al_z (a : UInt32) : Int := FP.Core.zval FP.Core.b32 (FP.Core.val32 a)
abbrev al_one : Int := (FP.Core.one32 : Int)
theorem al_one_pos : 0 < al_one := by have := FP.Core.one32_pos; show 0 < (FP.Core.one32 : Int); omega
theorem al_B_fin {a : UInt32} (h : al_B a) : FP.Core.FFin a := (FP.Core.fin_bits32 a).mpr (by have := al_B_mag h; omega)
theorem al_B_nn {a : UInt32} (h : al_B a) : FP.Core.val32 a ≠ .nan := (al_B_fin h).ne_nan
theorem al_B_z {a : UInt32} (h : al_B a) : 0 ≤ al_z a := FP.Core.zval_nonneg32 (al_B_nn h) (by have h1 : a.toNat < 2013265920 := h; omega)
theorem al_fits (a : UInt32) : FP.Core.fits FP.Core.b32 (FP.Core.val32 a) := FP.Core.val32_fits a
/-- the whole number n as a float -/
def al_w (n : Nat) : UInt32 := FP.Core.l2f (Int64.ofNat n)
theorem al_w_int {n : Nat} (h : n ≤ 2 ^ 24) : FP.Core.FInt (n : Int) (al_w n) := by
  have e : (Int64.ofNat n).toInt = (n : Int) := by
    rw [Int64.toInt_ofNat_of_lt (by omega)]
  have h1 := FP.Core.l2f_int (a := Int64.ofNat n) (by rw [e]; omega)
  rw [e] at h1
  exact h1
theorem al_w_z {n : Nat} (h : n ≤ 2 ^ 24) : al_z (al_w n) = (n : Int) * al_one := FP.Core.FInt_zval (al_w_int h)
theorem al_w_nn {n : Nat} (h : n ≤ 2 ^ 24) : FP.Core.val32 (al_w n) ≠ .nan := FP.Core.FInt_ne_nan (al_w_int h)
theorem al_add_le {a b V : UInt32} (ha : FP.Core.FFin a) (hb : FP.Core.FFin b) (hV : FP.Core.val32 V ≠ .nan) (h : al_z a + al_z b ≤ al_z V) : al_z (FP.fadd a b) ≤ al_z V := by
  have := FP.Core.sum_le FP.Core.good_b32 ha hb (al_fits a) (al_fits b) (al_fits V) hV h
  rw [← FP.Core.val32_fadd] at this
  exact this
theorem al_add_ge {a b V : UInt32} (ha : FP.Core.FFin a) (hb : FP.Core.FFin b) (hV : FP.Core.val32 V ≠ .nan) (h : al_z V ≤ al_z a + al_z b) : al_z V ≤ al_z (FP.fadd a b) := by
  have := FP.Core.sum_ge FP.Core.good_b32 ha hb (al_fits a) (al_fits b) (al_fits V) hV h
  rw [← FP.Core.val32_fadd] at this
  exact this
theorem al_neg_fin {b : UInt32} (hb : FP.Core.FFin b) : ∃ s c q, FP.Core.negate (FP.Core.val32 b) = .fin s c q := by
  obtain ⟨s, c, q, h⟩ := hb
  exact ⟨!s, c, q, by rw [h]; rfl⟩
theorem al_sub_ge {a b V : UInt32} (ha : FP.Core.FFin a) (hb : FP.Core.FFin b) (hV : FP.Core.val32 V ≠ .nan) (h : al_z V ≤ al_z a - al_z b) : al_z V ≤ al_z (FP.fsub a b) := by
  have := FP.Core.sum_ge FP.Core.good_b32 ha (al_neg_fin hb) (al_fits a) (FP.Core.negate_fits (al_fits b)) (al_fits V) hV (by rw [FP.Core.zval_negate]; have h1 : al_z V ≤ al_z a - al_z b := h; unfold al_z at h1; omega)
  rw [← FP.Core.val32_fsub] at this
  exact this
theorem al_z0 : al_z 0 = 0 := FP.Core.zval32_zero
theorem al_nn0 : FP.Core.val32 0 ≠ .nan := by rw [FP.Core.val32_zero]; exact fun h => by cases h
/-- by the bits: what isn't negative and below a power of two is small -/
theorem al_B_of {a V : UInt32} (hn : FP.Core.val32 a ≠ .nan) (hs : a.toNat < 2 ^ 31) (hVn : FP.Core.val32 V ≠ .nan) (hV : al_B V) (h : al_z a ≤ al_z V) : al_B a := by
  have hV1 : V.toNat < 2013265920 := hV
  have h1 := FP.Core.mono_bits32 hn hVn hs (by omega)
  have h2 := FP.Core.fcmp_zval hn hVn
  show a.toNat < 2013265920
  have h3 : ¬ V.toNat < a.toNat := by
    intro h4
    have h5 := h1.2.2.mpr h4
    rw [h2] at h5
    have h6 : compare (al_z a) (al_z V) = .gt := Option.some.inj h5
    rw [FP.Core.compare_ite] at h6
    split at h6
    · cases h6
    · split at h6
      · cases h6
      · omega
  omega
theorem al_sgn_sum {x y : FP.Core.Datum} (hx : ∃ c q, x = .fin false c q) (hy : ∃ c q, y = .fin false c q) : FP.Core.sgn (FP.Core.round FP.Core.b32 (FP.Core.exactSum x y)) = false := by
  obtain ⟨c, q, rfl⟩ := hx
  obtain ⟨d, r, rfl⟩ := hy
  show FP.Core.sgn (FP.Core.roundRatio _ (FP.Core.sumSign false false (FP.Core.sumUnits false c q false d r (min q r))) _ 1 _) = false
  rw [FP.Core.sgn_roundRatio]
  unfold FP.Core.sumSign
  split
  · rfl
  · refine decide_eq_false ?_
    unfold FP.Core.sumUnits
    simp only [FP.Core.signed, Bool.false_eq_true, if_false]
    omega
theorem al_B_pos {a : UInt32} (h : al_B a) : ∃ c q, FP.Core.val32 a = .fin false c q := by
  obtain ⟨s, c, q, h1⟩ := al_B_fin h
  have h2 := FP.Core.sgn_bits32 (al_B_nn h)
  rw [h1] at h2
  have h3 : s = false := h2.trans (decide_eq_false (by have h4 : a.toNat < 2013265920 := h; omega))
  exact ⟨c, q, by rw [h1, h3]⟩
/-- a path and a length: not less than the path, and of bounded size -/
theorem al_add_B {a b : UInt32} (ha : al_B a) (hb : al_B b) {K : Nat} (hK : K ≤ 1000) (h : al_z a + al_z b ≤ (1024 * K : Nat) * al_one) : al_B (FP.fadd a b) ∧ al_z a ≤ al_z (FP.fadd a b) ∧ al_z (FP.fadd a b) ≤ (1024 * K : Nat) * al_one := by
  have fa := al_B_fin ha
  have fb := al_B_fin hb
  have hw : 1024 * K ≤ 2 ^ 24 := by omega
  have h1 := al_add_le fa fb (al_w_nn hw) (by rw [al_w_z hw]; exact h)
  have h2 := al_add_ge fa fb (al_B_nn ha) (by have := al_B_z hb; omega)
  have hn : FP.Core.val32 (FP.fadd a b) ≠ .nan := (FP.Core.notNaN_iff32 _).mp (FP.Core.fadd_out fa.notNaN fb)
  have hs : (FP.fadd a b).toNat < 2 ^ 31 := by
    have q1 := al_sgn_sum (al_B_pos ha) (al_B_pos hb)
    rw [← FP.Core.val32_fadd, FP.Core.sgn_bits32 hn] at q1
    have := of_decide_eq_false q1
    omega
  have hB : al_B (al_w 1024000) := by
    show (al_w 1024000).toNat < 2013265920
    decide +kernel
  refine ⟨al_B_of hn hs (al_B_nn hB) hB ?_, h2, ?_⟩
  · rw [al_w_z (by omega)]
    rw [al_w_z hw] at h1
    refine Int.le_trans h1 (Int.mul_le_mul_of_nonneg_right ?_ (Int.le_of_lt al_one_pos))
    omega
  · rw [al_w_z hw] at h1
    exact h1
/-- halves: w * 0.5f -/
theorem al_half_val : FP.Core.val32 1056964608 = .fin false (2 ^ 23) (-24) := by decide +kernel
theorem al_half_le {a V : UInt32} (ha : al_B a) (hV : FP.Core.val32 V ≠ .nan) (h : al_z a ≤ 2 * al_z V) : al_z (FP.fmul a 1056964608) ≤ al_z V := by
  obtain ⟨c, q, h1⟩ := al_B_pos ha
  have hf := al_fits a
  rw [h1] at hf
  have hq : (-149 : Int) ≤ q := by have := hf.2.1; rw [FP.Core.qmin_b32] at this; exact this
  have e : FP.Core.val32 (FP.fmul a 1056964608) = FP.Core.round FP.Core.b32 (.fin false (c * 2 ^ 23) (q + -24)) := by
    rw [FP.Core.val32_fmul, h1, al_half_val]
    rfl
  unfold al_z
  rw [e]
  refine FP.Core.zval_round_le FP.Core.good_b32 (al_fits V) hV (e0 := -298) (by rw [FP.Core.qmin_b32]; omega) (by omega) ?_
  have h2 : al_z a = ((c * 2 ^ (q + 149).toNat : Nat) : Int) := by
    unfold al_z
    rw [h1]
    show FP.Core.signed false (c * 2 ^ (q - FP.Core.b32.qmin).toNat) = _
    rw [FP.Core.qmin_b32, show q - -149 = q + 149 by omega]
    rfl
  rw [FP.Core.qmin_b32, show ((-149 : Int) - -298).toNat = 149 by decide]
  show ((c * 2 ^ 23 * 2 ^ (q + -24 - -298).toNat : Nat) : Int) ≤ _
  rw [show (q + -24 - -298).toNat = (q + 149).toNat + 125 by omega, Nat.pow_add, show c * 2 ^ 23 * (2 ^ (q + 149).toNat * 2 ^ 125) = (c * 2 ^ (q + 149).toNat) * 2 ^ 148 by rw [show (2 : Nat) ^ 148 = 2 ^ 23 * 2 ^ 125 by rw [← Nat.pow_add]]; ac_rfl]
  rw [h2] at h
  unfold al_z at h
  generalize FP.Core.zval FP.Core.b32 (FP.Core.val32 V) = v at h ⊢
  generalize c * 2 ^ (q + 149).toNat = x at h ⊢
  have e1 : ((2 ^ 149 : Nat) : Int) = 2 * ((2 ^ 148 : Nat) : Int) := by
    rw [show (2 : Nat) ^ 149 = 2 * 2 ^ 148 from Nat.pow_succ', Int.natCast_mul]
    rfl
  rw [e1]
  generalize (2 ^ 148 : Nat) = P
  rw [Int.natCast_mul, ← Int.mul_assoc, Int.mul_comm v 2]
  exact Int.mul_le_mul_of_nonneg_right h (Int.natCast_nonneg _)
theorem al_half_B {a : UInt32} (ha : al_B a) : al_B (FP.fmul a 1056964608) := by
  have h1 := al_half_le ha (al_B_nn ha) (by have := al_B_z ha; omega)
  have fa := al_B_fin ha
  have hh : FP.Core.FFin 1056964608 := ⟨_, _, _, al_half_val⟩
  have hn : FP.Core.val32 (FP.fmul a 1056964608) ≠ .nan := (FP.Core.notNaN_iff32 _).mp (FP.Core.fmul_out fa hh)
  have hs : (FP.fmul a 1056964608).toNat < 2 ^ 31 := by
    obtain ⟨c, q, h2⟩ := al_B_pos ha
    have q1 : FP.Core.sgn (FP.Core.val32 (FP.fmul a 1056964608)) = false := by
      rw [FP.Core.val32_fmul, h2, al_half_val]
      show FP.Core.sgn (FP.Core.roundRatio _ (false != false) _ 1 _) = false
      rw [FP.Core.sgn_roundRatio]
      rfl
    rw [FP.Core.sgn_bits32 hn] at q1
    have := of_decide_eq_false q1
    omega
  exact al_B_of hn hs (al_B_nn ha) ha h1
theorem al_half_n32 {a : UInt32} (ha : al_B a) : vf_n32 (FP.fmul a 1056964608) := al_n32 (by have := al_B_mag (al_half_B ha); omega)
/-- comparing -/
theorem al_cmp {x g : UInt32} (hx : FP.Core.val32 x ≠ .nan) (hg : FP.Core.val32 g ≠ .nan) : Op.cmpValue (FP.fcmp x g) .l ≤ 0 ↔ al_z x ≤ al_z g := by
  have h : FP.fcmp x g = some (compare (al_z x) (al_z g)) := FP.Core.fcmp_zval hx hg
  rw [h, FP.Core.compare_ite]
  by_cases h1 : al_z x < al_z g
  · rw [if_pos h1]
    exact ⟨fun _ => by omega, fun _ => by decide⟩
  · by_cases h2 : al_z x = al_z g
    · rw [if_neg h1, if_pos h2]
      exact ⟨fun _ => by omega, fun _ => by decide⟩
    · rw [if_neg h1, if_neg h2]
      exact ⟨fun h3 => absurd h3 (by decide), fun h3 => by omega⟩
theorem al_cmp_eq {x g : UInt32} (hx : FP.Core.val32 x ≠ .nan) (hg : FP.Core.val32 g ≠ .nan) : Op.cmpValue (FP.fcmp x g) .l = 0 ↔ al_z x = al_z g := by
  have h : FP.fcmp x g = some (compare (al_z x) (al_z g)) := FP.Core.fcmp_zval hx hg
  rw [h, FP.Core.compare_ite]
  by_cases h1 : al_z x < al_z g
  · rw [if_pos h1]
    exact ⟨fun h3 => absurd h3 (by decide), fun h3 => by omega⟩
  · by_cases h2 : al_z x = al_z g
    · rw [if_neg h1, if_pos h2]
      exact ⟨fun _ => h2, fun _ => by decide⟩
    · rw [if_neg h1, if_neg h2]
      exact ⟨fun h3 => absurd h3 (by decide), fun h3 => absurd h3 h2⟩
theorem al_m1_z : al_z 3212836864 < 0 := by
  have h : FP.Core.val32 3212836864 = .fin true (2 ^ 23) (-23) := by decide +kernel
  unfold al_z
  rw [h]
  show FP.Core.signed true (2 ^ 23 * 2 ^ (-23 - FP.Core.b32.qmin).toNat) < 0
  rw [FP.Core.qmin_b32]
  decide +kernel
theorem al_m1_nn : FP.Core.val32 3212836864 ≠ .nan := by decide +kernel
/-- a distance is no NaN and not negative -/
theorem al_sum_fin {a b m : UInt32} (ha : al_B a) (hb : al_B b) (hm : al_B m) : FP.Core.FFin (al_sum a b m) := (FP.Core.fin_bits32 _).mpr (by have := FP.Core.fadd_mag (al_sub_mag ha hm) (al_sub_mag hb hm) (by omega); exact Nat.lt_of_lt_of_le this (by omega))
theorem al_sum_nonneg {a b m : UInt32} (ha : al_B a) (hb : al_B b) (hm : al_B m) (h1 : al_z m ≤ al_z a) (h2 : al_z m ≤ al_z b) : 0 ≤ al_z (al_sum a b m) := by
  have f1 : FP.Core.FFin (FP.fsub a m) := (FP.Core.fin_bits32 _).mpr (by have := al_sub_mag ha hm; omega)
  have f2 : FP.Core.FFin (FP.fsub b m) := (FP.Core.fin_bits32 _).mpr (by have := al_sub_mag hb hm; omega)
  have g1 := al_sub_ge (V := 0) (al_B_fin ha) (al_B_fin hm) al_nn0 (by rw [al_z0]; omega)
  have g2 := al_sub_ge (V := 0) (al_B_fin hb) (al_B_fin hm) al_nn0 (by rw [al_z0]; omega)
  have g3 := al_add_ge (V := 0) f1 f2 al_nn0 (by rw [al_z0] at g1 g2 ⊢; omega)
  rw [al_z0] at g3
  exact g3
theorem al_sum_comm (a b m : UInt32) : al_sum a b m = al_sum b a m := FP.Core.fadd_comm _ _
theorem al_sum_self {a : UInt32} (ha : al_B a) : al_sum a a a = FP.fadd 0 0 := by
  obtain ⟨c, q, h⟩ := al_B_pos ha
  unfold al_sum
  have e : FP.fsub a a = FP.Core.fconst0 := FP.Core.fsub_self h
  rw [e]
  rfl
end
