section
-- ===== PART A: goes FIRST, ahead of the names: the tables' words, and 'selects' of the private methods out of them =====
/-- a private method of a class that the tables say can be made, by its rows of tables_1 -/
def lw_okq (q : MethodName × Nat) : Prop := (q.1.cls ≠ "java/lang/invoke/MethodHandle" ∧ q.1.cls ≠ "java/lang/invoke/VarHandle") ∧ Cond.instantiable q.1.cls q.2 ∈ tables_1 ∧ Cond.privateMethod q.1 ∈ tables_1 ∧ Cond.instanceMethod q.1 ∈ tables_1
theorem lw_p0 : lw_okq (⟨"StageShares$Batches", "place", "(I)I"⟩, 3) := ⟨⟨by decide +kernel, by decide +kernel⟩, List.mem_of_getElem? (i := 67) (by decide +kernel), List.mem_of_getElem? (i := 250) (by decide +kernel), List.mem_of_getElem? (i := 251) (by decide +kernel)⟩
theorem lw_p1 : lw_okq (⟨"StageShares$Course", "start", "(IJ)V"⟩, 15) := ⟨⟨by decide +kernel, by decide +kernel⟩, List.mem_of_getElem? (i := 101) (by decide +kernel), List.mem_of_getElem? (i := 278) (by decide +kernel), List.mem_of_getElem? (i := 279) (by decide +kernel)⟩
theorem lw_p2 : lw_okq (⟨"StageShares$Course", "doBatch", "(I)I"⟩, 15) := ⟨⟨by decide +kernel, by decide +kernel⟩, List.mem_of_getElem? (i := 101) (by decide +kernel), List.mem_of_getElem? (i := 283) (by decide +kernel), List.mem_of_getElem? (i := 284) (by decide +kernel)⟩
theorem lw_p3 : lw_okq (⟨"StageShares$Course", "choosePlace", "(I)I"⟩, 15) := ⟨⟨by decide +kernel, by decide +kernel⟩, List.mem_of_getElem? (i := 101) (by decide +kernel), List.mem_of_getElem? (i := 291) (by decide +kernel), List.mem_of_getElem? (i := 292) (by decide +kernel)⟩
theorem lw_p4 : lw_okq (⟨"StageShares$Course", "act", "(I)V"⟩, 15) := ⟨⟨by decide +kernel, by decide +kernel⟩, List.mem_of_getElem? (i := 101) (by decide +kernel), List.mem_of_getElem? (i := 297) (by decide +kernel), List.mem_of_getElem? (i := 298) (by decide +kernel)⟩
theorem lw_p5 : lw_okq (⟨"StageShares$Course", "begin", "(I)V"⟩, 15) := ⟨⟨by decide +kernel, by decide +kernel⟩, List.mem_of_getElem? (i := 101) (by decide +kernel), List.mem_of_getElem? (i := 305) (by decide +kernel), List.mem_of_getElem? (i := 306) (by decide +kernel)⟩
theorem lw_p6 : lw_okq (⟨"StageShares$Course", "breakDown", "(III)V"⟩, 15) := ⟨⟨by decide +kernel, by decide +kernel⟩, List.mem_of_getElem? (i := 101) (by decide +kernel), List.mem_of_getElem? (i := 318) (by decide +kernel), List.mem_of_getElem? (i := 319) (by decide +kernel)⟩
theorem lw_p7 : lw_okq (⟨"StageShares$Course", "goOn", "(II)V"⟩, 15) := ⟨⟨by decide +kernel, by decide +kernel⟩, List.mem_of_getElem? (i := 101) (by decide +kernel), List.mem_of_getElem? (i := 335) (by decide +kernel), List.mem_of_getElem? (i := 336) (by decide +kernel)⟩
theorem lw_p8 : lw_okq (⟨"StageShares$Course", "finish", "(II)V"⟩, 15) := ⟨⟨by decide +kernel, by decide +kernel⟩, List.mem_of_getElem? (i := 101) (by decide +kernel), List.mem_of_getElem? (i := 346) (by decide +kernel), List.mem_of_getElem? (i := 347) (by decide +kernel)⟩
theorem lw_p9 : lw_okq (⟨"StageShares", "keepOutcomes", "()V"⟩, 5) := ⟨⟨by decide +kernel, by decide +kernel⟩, List.mem_of_getElem? (i := 12) (by decide +kernel), List.mem_of_getElem? (i := 350) (by decide +kernel), List.mem_of_getElem? (i := 351) (by decide +kernel)⟩
theorem lw_p10 : lw_okq (⟨"StageSharesModel", "empty", "()V"⟩, 21) := ⟨⟨by decide +kernel, by decide +kernel⟩, List.mem_of_getElem? (i := 403) (by decide +kernel), List.mem_of_getElem? (i := 409) (by decide +kernel), List.mem_of_getElem? (i := 410) (by decide +kernel)⟩
theorem lw_p11 : lw_okq (⟨"StageSharesModel", "isShare", "(I)Z"⟩, 21) := ⟨⟨by decide +kernel, by decide +kernel⟩, List.mem_of_getElem? (i := 403) (by decide +kernel), List.mem_of_getElem? (i := 481) (by decide +kernel), List.mem_of_getElem? (i := 482) (by decide +kernel)⟩
theorem lw_p12 : lw_okq (⟨"StageSharesModel", "arrange", "()I"⟩, 21) := ⟨⟨by decide +kernel, by decide +kernel⟩, List.mem_of_getElem? (i := 403) (by decide +kernel), List.mem_of_getElem? (i := 501) (by decide +kernel), List.mem_of_getElem? (i := 502) (by decide +kernel)⟩
theorem lw_p13 : lw_okq (⟨"StageSharesModel", "failureOf", "(II)I"⟩, 21) := ⟨⟨by decide +kernel, by decide +kernel⟩, List.mem_of_getElem? (i := 403) (by decide +kernel), List.mem_of_getElem? (i := 513) (by decide +kernel), List.mem_of_getElem? (i := 514) (by decide +kernel)⟩
theorem lw_p14 : lw_okq (⟨"StageSharesModel", "go", "(IJ)I"⟩, 21) := ⟨⟨by decide +kernel, by decide +kernel⟩, List.mem_of_getElem? (i := 403) (by decide +kernel), List.mem_of_getElem? (i := 521) (by decide +kernel), List.mem_of_getElem? (i := 522) (by decide +kernel)⟩
theorem lw_p15 : lw_okq (⟨"StageSharesModel", "isDone", "(I)Z"⟩, 21) := ⟨⟨by decide +kernel, by decide +kernel⟩, List.mem_of_getElem? (i := 403) (by decide +kernel), List.mem_of_getElem? (i := 525) (by decide +kernel), List.mem_of_getElem? (i := 526) (by decide +kernel)⟩
def lw_privs_1 : List (MethodName × Nat) := [(⟨"StageShares$Batches", "place", "(I)I"⟩, 3), (⟨"StageShares$Course", "start", "(IJ)V"⟩, 15), (⟨"StageShares$Course", "doBatch", "(I)I"⟩, 15), (⟨"StageShares$Course", "choosePlace", "(I)I"⟩, 15), (⟨"StageShares$Course", "act", "(I)V"⟩, 15), (⟨"StageShares$Course", "begin", "(I)V"⟩, 15), (⟨"StageShares$Course", "breakDown", "(III)V"⟩, 15), (⟨"StageShares$Course", "goOn", "(II)V"⟩, 15), (⟨"StageShares$Course", "finish", "(II)V"⟩, 15), (⟨"StageShares", "keepOutcomes", "()V"⟩, 5), (⟨"StageSharesModel", "empty", "()V"⟩, 21), (⟨"StageSharesModel", "isShare", "(I)Z"⟩, 21), (⟨"StageSharesModel", "arrange", "()I"⟩, 21), (⟨"StageSharesModel", "failureOf", "(II)I"⟩, 21), (⟨"StageSharesModel", "go", "(IJ)I"⟩, 21), (⟨"StageSharesModel", "isDone", "(I)Z"⟩, 21)]
theorem lw_r1 : ∀ q ∈ lw_privs_1, lw_okq q := List.forall_mem_cons.mpr ⟨lw_p0, List.forall_mem_cons.mpr ⟨lw_p1, List.forall_mem_cons.mpr ⟨lw_p2, List.forall_mem_cons.mpr ⟨lw_p3, List.forall_mem_cons.mpr ⟨lw_p4, List.forall_mem_cons.mpr ⟨lw_p5, List.forall_mem_cons.mpr ⟨lw_p6, List.forall_mem_cons.mpr ⟨lw_p7, List.forall_mem_cons.mpr ⟨lw_p8, List.forall_mem_cons.mpr ⟨lw_p9, List.forall_mem_cons.mpr ⟨lw_p10, List.forall_mem_cons.mpr ⟨lw_p11, List.forall_mem_cons.mpr ⟨lw_p12, List.forall_mem_cons.mpr ⟨lw_p13, List.forall_mem_cons.mpr ⟨lw_p14, List.forall_mem_cons.mpr ⟨lw_p15, fun _ h => absurd h List.not_mem_nil⟩⟩⟩⟩⟩⟩⟩⟩⟩⟩⟩⟩⟩⟩⟩⟩
theorem lw_p16 : lw_okq (⟨"StageSharesModel", "liveCount", "()I"⟩, 21) := ⟨⟨by decide +kernel, by decide +kernel⟩, List.mem_of_getElem? (i := 403) (by decide +kernel), List.mem_of_getElem? (i := 529) (by decide +kernel), List.mem_of_getElem? (i := 530) (by decide +kernel)⟩
theorem lw_p17 : lw_okq (⟨"StageSharesModel", "liveAt", "(J)I"⟩, 21) := ⟨⟨by decide +kernel, by decide +kernel⟩, List.mem_of_getElem? (i := 403) (by decide +kernel), List.mem_of_getElem? (i := 535) (by decide +kernel), List.mem_of_getElem? (i := 536) (by decide +kernel)⟩
theorem lw_p18 : lw_okq (⟨"StageSharesModel", "take", "(I)V"⟩, 21) := ⟨⟨by decide +kernel, by decide +kernel⟩, List.mem_of_getElem? (i := 403) (by decide +kernel), List.mem_of_getElem? (i := 539) (by decide +kernel), List.mem_of_getElem? (i := 540) (by decide +kernel)⟩
theorem lw_p19 : lw_okq (⟨"StageSharesModel", "step", "(I)V"⟩, 21) := ⟨⟨by decide +kernel, by decide +kernel⟩, List.mem_of_getElem? (i := 403) (by decide +kernel), List.mem_of_getElem? (i := 543) (by decide +kernel), List.mem_of_getElem? (i := 544) (by decide +kernel)⟩
theorem lw_p20 : lw_okq (⟨"StageSharesModel", "forget", "(I)V"⟩, 21) := ⟨⟨by decide +kernel, by decide +kernel⟩, List.mem_of_getElem? (i := 403) (by decide +kernel), List.mem_of_getElem? (i := 547) (by decide +kernel), List.mem_of_getElem? (i := 548) (by decide +kernel)⟩
theorem lw_p21 : lw_okq (⟨"StageSharesModel", "resultOf", "(I)J"⟩, 21) := ⟨⟨by decide +kernel, by decide +kernel⟩, List.mem_of_getElem? (i := 403) (by decide +kernel), List.mem_of_getElem? (i := 551) (by decide +kernel), List.mem_of_getElem? (i := 552) (by decide +kernel)⟩
theorem lw_p22 : lw_okq (⟨"StageSharesModel", "join", "(Z)J"⟩, 21) := ⟨⟨by decide +kernel, by decide +kernel⟩, List.mem_of_getElem? (i := 403) (by decide +kernel), List.mem_of_getElem? (i := 579) (by decide +kernel), List.mem_of_getElem? (i := 580) (by decide +kernel)⟩
def lw_privs_2 : List (MethodName × Nat) := [(⟨"StageSharesModel", "liveCount", "()I"⟩, 21), (⟨"StageSharesModel", "liveAt", "(J)I"⟩, 21), (⟨"StageSharesModel", "take", "(I)V"⟩, 21), (⟨"StageSharesModel", "step", "(I)V"⟩, 21), (⟨"StageSharesModel", "forget", "(I)V"⟩, 21), (⟨"StageSharesModel", "resultOf", "(I)J"⟩, 21), (⟨"StageSharesModel", "join", "(Z)J"⟩, 21)]
theorem lw_r2 : ∀ q ∈ lw_privs_2, lw_okq q := List.forall_mem_cons.mpr ⟨lw_p16, List.forall_mem_cons.mpr ⟨lw_p17, List.forall_mem_cons.mpr ⟨lw_p18, List.forall_mem_cons.mpr ⟨lw_p19, List.forall_mem_cons.mpr ⟨lw_p20, List.forall_mem_cons.mpr ⟨lw_p21, List.forall_mem_cons.mpr ⟨lw_p22, fun _ h => absurd h List.not_mem_nil⟩⟩⟩⟩⟩⟩⟩
def lw_privs : List (MethodName × Nat) := lw_privs_1 ++ (lw_privs_2)
def lw_tbl : List Cond := k2_sels lw_privs ++ tables_1
theorem lw_privs_ok : ∀ q ∈ lw_privs, lw_okq q := by
  show ∀ q ∈ lw_privs_1 ++ (lw_privs_2), lw_okq q
  exact List.forall_mem_append.mpr ⟨lw_r1, lw_r2⟩
end
section
def RX0 : String := "StageShares$Batches"
def TX0 : u_T := fun k => match k with
  | 0 => ("StageShares$Batches", "batchOf", "[I", true)
  | 1 => ("StageShares$Batches", "count", "I", false)
  | _ => ("StageShares$Batches", "regions", "[I", true)
def tyX0 : Nat → FieldType := fun k => match k with
  | 0 => .array .int
  | 1 => .int
  | _ => .array .int
theorem nmX0 : ∀ a, a < 3 → ∀ b, b < 3 → a ≠ b → (TX0 a).2.1 ≠ (TX0 b).2.1 := by decide +kernel
theorem tyX0_ok : ∀ k, k < 3 → parseFieldDescriptor (TX0 k).2.2.1 = some (tyX0 k) := by decide +kernel
abbrev cX0_init : ByteArray := prog_2_method_1_code
def yX0_init : MethodName := ⟨RX0, "<init>", "(I)V"⟩
abbrev cX0_form : ByteArray := prog_2_method_2_code
def yX0_form : MethodName := ⟨RX0, "form", "(LStageShares$Work;)V"⟩
abbrev cX0_place : ByteArray := prog_2_method_3_code
def yX0_place : MethodName := ⟨RX0, "place", "(I)I"⟩
def RX1 : String := "StageShares$Course"
def TX1 : u_T := fun k => match k with
  | 0 => ("StageShares$Course", "begun", "[I", true)
  | 1 => ("StageShares$Course", "doers", "[I", true)
  | 2 => ("StageShares$Course", "outcomes", "[J", true)
  | 3 => ("StageShares$Course", "work", "LStageShares$Work;", true)
  | 4 => ("StageShares$Course", "grouping", "LStageShares$Batches;", true)
  | 5 => ("StageShares$Course", "failures", "LStageShares$Failures;", true)
  | 6 => ("StageShares$Course", "waiting", "LStageShares$WaitingRow;", true)
  | 7 => ("StageShares$Course", "crew", "LStageShares$Crew;", true)
  | 8 => ("StageShares$Course", "x", "J", false)
  | 9 => ("StageShares$Course", "undone", "I", false)
  | 10 => ("StageShares$Course", "ticks", "I", false)
  | 11 => ("StageShares$Course", "steps", "I", false)
  | 12 => ("StageShares$Course", "failed", "I", false)
  | 13 => ("StageShares$Course", "batchesDone", "I", false)
  | _ => ("StageShares$Course", "begunInAll", "I", false)
def tyX1 : Nat → FieldType := fun k => match k with
  | 0 => .array .int
  | 1 => .array .int
  | 2 => .array .long
  | 3 => .object "StageShares$Work"
  | 4 => .object "StageShares$Batches"
  | 5 => .object "StageShares$Failures"
  | 6 => .object "StageShares$WaitingRow"
  | 7 => .object "StageShares$Crew"
  | 8 => .long
  | 9 => .int
  | 10 => .int
  | 11 => .int
  | 12 => .int
  | 13 => .int
  | _ => .int
theorem nmX1 : ∀ a, a < 15 → ∀ b, b < 15 → a ≠ b → (TX1 a).2.1 ≠ (TX1 b).2.1 := by decide +kernel
theorem tyX1_ok : ∀ k, k < 15 → parseFieldDescriptor (TX1 k).2.2.1 = some (tyX1 k) := by decide +kernel
abbrev cX1_init : ByteArray := prog_3_method_1_code
def yX1_init : MethodName := ⟨RX1, "<init>", "(LStageShares$Work;LStageShares$Batches;LStageShares$Failures;)V"⟩
abbrev cX1_reset : ByteArray := prog_3_method_2_code
def yX1_reset : MethodName := ⟨RX1, "reset", "()V"⟩
abbrev cX1_figure : ByteArray := prog_3_method_3_code
def yX1_figure : MethodName := ⟨RX1, "figure", "(I)I"⟩
abbrev cX1_goThrough : ByteArray := prog_3_method_4_code
def yX1_goThrough : MethodName := ⟨RX1, "goThrough", "(IJ)I"⟩
abbrev cX1_start : ByteArray := prog_3_method_5_code
def yX1_start : MethodName := ⟨RX1, "start", "(IJ)V"⟩
abbrev cX1_doBatch : ByteArray := prog_3_method_6_code
def yX1_doBatch : MethodName := ⟨RX1, "doBatch", "(I)I"⟩
abbrev cX1_choosePlace : ByteArray := prog_3_method_7_code
def yX1_choosePlace : MethodName := ⟨RX1, "choosePlace", "(I)I"⟩
abbrev cX1_act : ByteArray := prog_3_method_8_code
def yX1_act : MethodName := ⟨RX1, "act", "(I)V"⟩
abbrev cX1_begin : ByteArray := prog_3_method_9_code
def yX1_begin : MethodName := ⟨RX1, "begin", "(I)V"⟩
abbrev cX1_goOn : ByteArray := prog_3_method_10_code
def yX1_goOn : MethodName := ⟨RX1, "goOn", "(II)V"⟩
abbrev cX1_finish : ByteArray := prog_3_method_11_code
def yX1_finish : MethodName := ⟨RX1, "finish", "(II)V"⟩
abbrev cX1_breakDown : ByteArray := prog_3_method_12_code
def yX1_breakDown : MethodName := ⟨RX1, "breakDown", "(III)V"⟩
def RX2 : String := "StageShares$Crew"
def TX2 : u_T := fun k => match k with
  | 0 => ("StageShares$Crew", "shareOf", "[I", true)
  | 1 => ("StageShares$Crew", "stepsMade", "[I", true)
  | 2 => ("StageShares$Crew", "made", "[J", true)
  | 3 => ("StageShares$Crew", "liveCount", "I", false)
  | _ => ("StageShares$Crew", "live", "[I", true)
def tyX2 : Nat → FieldType := fun k => match k with
  | 0 => .array .int
  | 1 => .array .int
  | 2 => .array .long
  | 3 => .int
  | _ => .array .int
theorem nmX2 : ∀ a, a < 5 → ∀ b, b < 5 → a ≠ b → (TX2 a).2.1 ≠ (TX2 b).2.1 := by decide +kernel
theorem tyX2_ok : ∀ k, k < 5 → parseFieldDescriptor (TX2 k).2.2.1 = some (tyX2 k) := by decide +kernel
abbrev cX2_init : ByteArray := prog_4_method_1_code
def yX2_init : MethodName := ⟨RX2, "<init>", "()V"⟩
abbrev cX2_gather : ByteArray := prog_4_method_2_code
def yX2_gather : MethodName := ⟨RX2, "gather", "(I)V"⟩
abbrev cX2_liveAt : ByteArray := prog_4_method_3_code
def yX2_liveAt : MethodName := ⟨RX2, "liveAt", "(I)I"⟩
abbrev cX2_give : ByteArray := prog_4_method_4_code
def yX2_give : MethodName := ⟨RX2, "give", "(IIJ)V"⟩
abbrev cX2_dropAt : ByteArray := prog_4_method_5_code
def yX2_dropAt : MethodName := ⟨RX2, "dropAt", "(I)V"⟩
def RX3 : String := "StageShares$Failures"
def TX3 : u_T := fun k => match k with
  | 0 => ("StageShares$Failures", "count", "I", false)
  | _ => ("StageShares$Failures", "shares", "[J", true)
def tyX3 : Nat → FieldType := fun k => match k with
  | 0 => .int
  | _ => .array .long
theorem nmX3 : ∀ a, a < 2 → ∀ b, b < 2 → a ≠ b → (TX3 a).2.1 ≠ (TX3 b).2.1 := by decide +kernel
theorem tyX3_ok : ∀ k, k < 2 → parseFieldDescriptor (TX3 k).2.2.1 = some (tyX3 k) := by decide +kernel
abbrev cX3_init : ByteArray := prog_5_method_1_code
def yX3_init : MethodName := ⟨RX3, "<init>", "()V"⟩
abbrev cX3_reset : ByteArray := prog_5_method_2_code
def yX3_reset : MethodName := ⟨RX3, "reset", "()V"⟩
abbrev cX3_has : ByteArray := prog_5_method_3_code
def yX3_has : MethodName := ⟨RX3, "has", "(II)Z"⟩
abbrev cX3_add : ByteArray := prog_5_method_4_code
def yX3_add : MethodName := ⟨RX3, "add", "(II)V"⟩
abbrev cX3_remove : ByteArray := prog_5_method_5_code
def yX3_remove : MethodName := ⟨RX3, "remove", "(II)V"⟩
def RX4 : String := "StageShares$WaitingRow"
def TX4 : u_T := fun k => match k with
  | 0 => ("StageShares$WaitingRow", "row", "[I", true)
  | 1 => ("StageShares$WaitingRow", "front", "I", false)
  | _ => ("StageShares$WaitingRow", "end", "I", false)
def tyX4 : Nat → FieldType := fun k => match k with
  | 0 => .array .int
  | 1 => .int
  | _ => .int
theorem nmX4 : ∀ a, a < 3 → ∀ b, b < 3 → a ≠ b → (TX4 a).2.1 ≠ (TX4 b).2.1 := by decide +kernel
theorem tyX4_ok : ∀ k, k < 3 → parseFieldDescriptor (TX4 k).2.2.1 = some (tyX4 k) := by decide +kernel
abbrev cX4_init : ByteArray := prog_6_method_1_code
def yX4_init : MethodName := ⟨RX4, "<init>", "(I)V"⟩
abbrev cX4_fill : ByteArray := prog_6_method_2_code
def yX4_fill : MethodName := ⟨RX4, "fill", "(LStageShares$Batches;I)I"⟩
abbrev cX4_takeFirst : ByteArray := prog_6_method_3_code
def yX4_takeFirst : MethodName := ⟨RX4, "takeFirst", "()I"⟩
abbrev cX4_putFirst : ByteArray := prog_6_method_4_code
def yX4_putFirst : MethodName := ⟨RX4, "putFirst", "(I)V"⟩
def RX5 : String := "StageShares$Work"
def TX5 : u_T := fun k => match k with
  | 0 => ("StageShares$Work", "count", "I", true)
  | 1 => ("StageShares$Work", "values", "[J", true)
  | 2 => ("StageShares$Work", "stepCounts", "[I", true)
  | 3 => ("StageShares$Work", "regions", "[I", true)
  | _ => ("StageShares$Work", "leftOut", "[Z", true)
def tyX5 : Nat → FieldType := fun k => match k with
  | 0 => .int
  | 1 => .array .long
  | 2 => .array .int
  | 3 => .array .int
  | _ => .array .boolean
theorem nmX5 : ∀ a, a < 5 → ∀ b, b < 5 → a ≠ b → (TX5 a).2.1 ≠ (TX5 b).2.1 := by decide +kernel
theorem tyX5_ok : ∀ k, k < 5 → parseFieldDescriptor (TX5 k).2.2.1 = some (tyX5 k) := by decide +kernel
abbrev cX5_init : ByteArray := prog_7_method_1_code
def yX5_init : MethodName := ⟨RX5, "<init>", "(I)V"⟩
abbrev cX5_reset : ByteArray := prog_7_method_2_code
def yX5_reset : MethodName := ⟨RX5, "reset", "()V"⟩
abbrev cX5_has : ByteArray := prog_7_method_3_code
def yX5_has : MethodName := ⟨RX5, "has", "(I)Z"⟩
abbrev cX5_madeAlone : ByteArray := prog_7_method_4_code
def yX5_madeAlone : MethodName := ⟨RX5, "madeAlone", "(I)J"⟩
def RX6 : String := "StageShares"
def TX6 : u_T := fun k => match k with
  | 0 => ("StageShares", "work", "LStageShares$Work;", true)
  | 1 => ("StageShares", "grouping", "LStageShares$Batches;", true)
  | 2 => ("StageShares", "failures", "LStageShares$Failures;", true)
  | 3 => ("StageShares", "latest", "LStageShares$Course;", true)
  | _ => ("StageShares", "results", "[J", true)
def tyX6 : Nat → FieldType := fun k => match k with
  | 0 => .object "StageShares$Work"
  | 1 => .object "StageShares$Batches"
  | 2 => .object "StageShares$Failures"
  | 3 => .object "StageShares$Course"
  | _ => .array .long
theorem nmX6 : ∀ a, a < 5 → ∀ b, b < 5 → a ≠ b → (TX6 a).2.1 ≠ (TX6 b).2.1 := by decide +kernel
theorem tyX6_ok : ∀ k, k < 5 → parseFieldDescriptor (TX6 k).2.2.1 = some (tyX6 k) := by decide +kernel
abbrev cX6_init : ByteArray := prog_1_method_1_code
def yX6_init : MethodName := ⟨RX6, "<init>", "(I)V"⟩
abbrev cX6_value : ByteArray := prog_1_method_2_code
def yX6_value : MethodName := ⟨RX6, "value", "(IJ)I"⟩
abbrev cX6_steps : ByteArray := prog_1_method_3_code
def yX6_steps : MethodName := ⟨RX6, "steps", "(II)I"⟩
abbrev cX6_touch : ByteArray := prog_1_method_4_code
def yX6_touch : MethodName := ⟨RX6, "touch", "(II)I"⟩
abbrev cX6_leave : ByteArray := prog_1_method_5_code
def yX6_leave : MethodName := ⟨RX6, "leave", "(IZ)I"⟩
abbrev cX6_batches : ByteArray := prog_1_method_6_code
def yX6_batches : MethodName := ⟨RX6, "batches", "()I"⟩
abbrev cX6_batch : ByteArray := prog_1_method_7_code
def yX6_batch : MethodName := ⟨RX6, "batch", "(I)I"⟩
abbrev cX6_fail : ByteArray := prog_1_method_8_code
def yX6_fail : MethodName := ⟨RX6, "fail", "(II)I"⟩
abbrev cX6_run : ByteArray := prog_1_method_9_code
def yX6_run : MethodName := ⟨RX6, "run", "(IJ)I"⟩
abbrev cX6_told : ByteArray := prog_1_method_10_code
def yX6_told : MethodName := ⟨RX6, "told", "(I)I"⟩
abbrev cX6_times : ByteArray := prog_1_method_11_code
def yX6_times : MethodName := ⟨RX6, "times", "(I)I"⟩
abbrev cX6_doneBy : ByteArray := prog_1_method_12_code
def yX6_doneBy : MethodName := ⟨RX6, "doneBy", "(I)I"⟩
abbrev cX6_result : ByteArray := prog_1_method_13_code
def yX6_result : MethodName := ⟨RX6, "result", "(I)J"⟩
abbrev cX6_joined : ByteArray := prog_1_method_14_code
def yX6_joined : MethodName := ⟨RX6, "joined", "()J"⟩
abbrev cX6_plain : ByteArray := prog_1_method_15_code
def yX6_plain : MethodName := ⟨RX6, "plain", "()J"⟩
abbrev cX6_clear : ByteArray := prog_1_method_16_code
def yX6_clear : MethodName := ⟨RX6, "clear", "()V"⟩
abbrev cX6_keepOutcomes : ByteArray := prog_1_method_17_code
def yX6_keepOutcomes : MethodName := ⟨RX6, "keepOutcomes", "()V"⟩
abbrev cX6_joinOne : ByteArray := prog_1_method_18_code
def yX6_joinOne : MethodName := ⟨RX6, "joinOne", "(JJ)J"⟩
abbrev cX6_makeStep : ByteArray := prog_1_method_19_code
def yX6_makeStep : MethodName := ⟨RX6, "makeStep", "(JJI)J"⟩
def RX7 : String := "StageSharesModel"
def TX7 : u_T := fun k => match k with
  | 0 => ("StageSharesModel", "code", "I", false)
  | 1 => ("StageSharesModel", "many", "I", true)
  | 2 => ("StageSharesModel", "values", "[J", true)
  | 3 => ("StageSharesModel", "steps", "[I", true)
  | 4 => ("StageSharesModel", "regions", "[I", true)
  | 5 => ("StageSharesModel", "out", "[Z", true)
  | 6 => ("StageSharesModel", "batchOf", "[I", true)
  | 7 => ("StageSharesModel", "failures", "I", false)
  | 8 => ("StageSharesModel", "failWorkers", "[I", true)
  | 9 => ("StageSharesModel", "failShares", "[I", true)
  | 10 => ("StageSharesModel", "results", "[J", true)
  | 11 => ("StageSharesModel", "counts", "[I", true)
  | 12 => ("StageSharesModel", "begun", "[I", true)
  | 13 => ("StageSharesModel", "doers", "[I", true)
  | 14 => ("StageSharesModel", "stands", "[I", true)
  | 15 => ("StageSharesModel", "ahead", "I", false)
  | 16 => ("StageSharesModel", "live", "[Z", true)
  | 17 => ("StageSharesModel", "has", "[I", true)
  | 18 => ("StageSharesModel", "made", "[I", true)
  | 19 => ("StageSharesModel", "workers", "I", false)
  | _ => ("StageSharesModel", "before", "[I", true)
def tyX7 : Nat → FieldType := fun k => match k with
  | 0 => .int
  | 1 => .int
  | 2 => .array .long
  | 3 => .array .int
  | 4 => .array .int
  | 5 => .array .boolean
  | 6 => .array .int
  | 7 => .int
  | 8 => .array .int
  | 9 => .array .int
  | 10 => .array .long
  | 11 => .array .int
  | 12 => .array .int
  | 13 => .array .int
  | 14 => .array .int
  | 15 => .int
  | 16 => .array .boolean
  | 17 => .array .int
  | 18 => .array .int
  | 19 => .int
  | _ => .array .int
theorem nmX7 : ∀ a, a < 21 → ∀ b, b < 21 → a ≠ b → (TX7 a).2.1 ≠ (TX7 b).2.1 := by decide +kernel
theorem tyX7_ok : ∀ k, k < 21 → parseFieldDescriptor (TX7 k).2.2.1 = some (tyX7 k) := by decide +kernel
abbrev cX7_init : ByteArray := prog_9_method_1_code
def yX7_init : MethodName := ⟨RX7, "<init>", "(I)V"⟩
abbrev cX7_empty : ByteArray := prog_9_method_3_code
def yX7_empty : MethodName := ⟨RX7, "empty", "()V"⟩
abbrev cX7_isShare : ByteArray := prog_9_method_4_code
def yX7_isShare : MethodName := ⟨RX7, "isShare", "(I)Z"⟩
abbrev cX7_value : ByteArray := prog_9_method_5_code
def yX7_value : MethodName := ⟨RX7, "value", "(IJ)I"⟩
abbrev cX7_steps : ByteArray := prog_9_method_6_code
def yX7_steps : MethodName := ⟨RX7, "steps", "(II)I"⟩
abbrev cX7_touch : ByteArray := prog_9_method_7_code
def yX7_touch : MethodName := ⟨RX7, "touch", "(II)I"⟩
abbrev cX7_leave : ByteArray := prog_9_method_8_code
def yX7_leave : MethodName := ⟨RX7, "leave", "(IZ)I"⟩
abbrev cX7_arrange : ByteArray := prog_9_method_9_code
def yX7_arrange : MethodName := ⟨RX7, "arrange", "()I"⟩
abbrev cX7_batches : ByteArray := prog_9_method_10_code
def yX7_batches : MethodName := ⟨RX7, "batches", "()I"⟩
abbrev cX7_batch : ByteArray := prog_9_method_11_code
def yX7_batch : MethodName := ⟨RX7, "batch", "(I)I"⟩
abbrev cX7_failureOf : ByteArray := prog_9_method_12_code
def yX7_failureOf : MethodName := ⟨RX7, "failureOf", "(II)I"⟩
abbrev cX7_fail : ByteArray := prog_9_method_13_code
def yX7_fail : MethodName := ⟨RX7, "fail", "(II)I"⟩
abbrev cX7_forget : ByteArray := prog_9_method_14_code
def yX7_forget : MethodName := ⟨RX7, "forget", "(I)V"⟩
abbrev cX7_turned : ByteArray := prog_9_method_15_code
def yX7_turned : MethodName := ⟨RX7, "turned", "(JI)J"⟩
abbrev cX7_resultOf : ByteArray := prog_9_method_16_code
def yX7_resultOf : MethodName := ⟨RX7, "resultOf", "(I)J"⟩
abbrev cX7_liveCount : ByteArray := prog_9_method_17_code
def yX7_liveCount : MethodName := ⟨RX7, "liveCount", "()I"⟩
abbrev cX7_liveAt : ByteArray := prog_9_method_18_code
def yX7_liveAt : MethodName := ⟨RX7, "liveAt", "(J)I"⟩
abbrev cX7_take : ByteArray := prog_9_method_19_code
def yX7_take : MethodName := ⟨RX7, "take", "(I)V"⟩
abbrev cX7_step : ByteArray := prog_9_method_20_code
def yX7_step : MethodName := ⟨RX7, "step", "(I)V"⟩
abbrev cX7_isDone : ByteArray := prog_9_method_21_code
def yX7_isDone : MethodName := ⟨RX7, "isDone", "(I)Z"⟩
abbrev cX7_run : ByteArray := prog_9_method_22_code
def yX7_run : MethodName := ⟨RX7, "run", "(IJ)I"⟩
abbrev cX7_go : ByteArray := prog_9_method_23_code
def yX7_go : MethodName := ⟨RX7, "go", "(IJ)I"⟩
abbrev cX7_told : ByteArray := prog_9_method_24_code
def yX7_told : MethodName := ⟨RX7, "told", "(I)I"⟩
abbrev cX7_times : ByteArray := prog_9_method_25_code
def yX7_times : MethodName := ⟨RX7, "times", "(I)I"⟩
abbrev cX7_doneBy : ByteArray := prog_9_method_26_code
def yX7_doneBy : MethodName := ⟨RX7, "doneBy", "(I)I"⟩
abbrev cX7_result : ByteArray := prog_9_method_27_code
def yX7_result : MethodName := ⟨RX7, "result", "(I)J"⟩
abbrev cX7_join : ByteArray := prog_9_method_28_code
def yX7_join : MethodName := ⟨RX7, "join", "(Z)J"⟩
abbrev cX7_joined : ByteArray := prog_9_method_29_code
def yX7_joined : MethodName := ⟨RX7, "joined", "()J"⟩
abbrev cX7_plain : ByteArray := prog_9_method_30_code
def yX7_plain : MethodName := ⟨RX7, "plain", "()J"⟩
abbrev cX7_clear : ByteArray := prog_9_method_31_code
def yX7_clear : MethodName := ⟨RX7, "clear", "()V"⟩
def RJ13 : String := "java/lang/Long"
def TJ13 : u_T := fun k => match k with
  | _ => ("", "", "", false)
def tyJ13 : Nat → FieldType := fun k => match k with
  | _ => .int
abbrev cJ13_rotateLeft_b2ac5 : ByteArray := prog_10_method_51_code
def yJ13_rotateLeft_b2ac5 : MethodName := ⟨RJ13, "rotateLeft", "(JI)J"⟩
def RJ9 : String := "java/lang/Math"
def TJ9 : u_T := fun k => match k with
  | _ => ("", "", "", false)
def tyJ9 : Nat → FieldType := fun k => match k with
  | _ => .int
abbrev cJ9_max_7cf53 : ByteArray := prog_11_method_65_code
def yJ9_max_7cf53 : MethodName := ⟨RJ9, "max", "(II)I"⟩
abbrev cJ9_min_7cf53 : ByteArray := prog_11_method_69_code
def yJ9_min_7cf53 : MethodName := ⟨RJ9, "min", "(II)I"⟩
def RL : String := "StageSharesLaw"
abbrev cL_cell : ByteArray := method_2_code
def yL_cell : MethodName := ⟨RL, "cell", "([II)I"⟩
abbrev cL_law : ByteArray := code
def yL_law : MethodName := ⟨RL, "law", "([I)Z"⟩
end
section
theorem dX0_init_0 : decode cX0_init 0 = .ok (.aload_n 0, 1) := by decide +kernel
theorem dX0_init_1 : decode cX0_init 1 = .ok (.invokespecial 3, 3) := by decide +kernel
theorem dX0_init_4 : decode cX0_init 4 = .ok (.aload_n 0, 1) := by decide +kernel
theorem dX0_init_5 : decode cX0_init 5 = .ok (.iload_n 1, 1) := by decide +kernel
theorem dX0_init_6 : decode cX0_init 6 = .ok (.newarray .int, 2) := by decide +kernel
theorem dX0_init_8 : decode cX0_init 8 = .ok (.putfield 9, 3) := by decide +kernel
theorem dX0_init_11 : decode cX0_init 11 = .ok (.aload_n 0, 1) := by decide +kernel
theorem dX0_init_12 : decode cX0_init 12 = .ok (.iload_n 1, 1) := by decide +kernel
theorem dX0_init_13 : decode cX0_init 13 = .ok (.newarray .int, 2) := by decide +kernel
theorem dX0_init_15 : decode cX0_init 15 = .ok (.putfield 15, 3) := by decide +kernel
theorem dX0_init_18 : decode cX0_init 18 = .ok (.return_, 1) := by decide +kernel
theorem dX0_form_0 : decode cX0_form 0 = .ok (.aload_n 0, 1) := by decide +kernel
theorem dX0_form_1 : decode cX0_form 1 = .ok (.iconst 0, 1) := by decide +kernel
theorem dX0_form_2 : decode cX0_form 2 = .ok (.putfield 18, 3) := by decide +kernel
theorem dX0_form_5 : decode cX0_form 5 = .ok (.iconst 0, 1) := by decide +kernel
theorem dX0_form_6 : decode cX0_form 6 = .ok (.istore_n 2, 1) := by decide +kernel
theorem dX0_form_7 : decode cX0_form 7 = .ok (.iload_n 2, 1) := by decide +kernel
theorem dX0_form_8 : decode cX0_form 8 = .ok (.aload_n 1, 1) := by decide +kernel
theorem dX0_form_9 : decode cX0_form 9 = .ok (.getfield 22, 3) := by decide +kernel
theorem dX0_form_12 : decode cX0_form 12 = .ok (.if_icmp .ge 38, 3) := by decide +kernel
theorem dX0_form_15 : decode cX0_form 15 = .ok (.aload_n 0, 1) := by decide +kernel
theorem dX0_form_16 : decode cX0_form 16 = .ok (.getfield 9, 3) := by decide +kernel
theorem dX0_form_19 : decode cX0_form 19 = .ok (.iload_n 2, 1) := by decide +kernel
theorem dX0_form_20 : decode cX0_form 20 = .ok (.aload_n 1, 1) := by decide +kernel
theorem dX0_form_21 : decode cX0_form 21 = .ok (.getfield 25, 3) := by decide +kernel
theorem dX0_form_24 : decode cX0_form 24 = .ok (.iload_n 2, 1) := by decide +kernel
theorem dX0_form_25 : decode cX0_form 25 = .ok (.baload, 1) := by decide +kernel
theorem dX0_form_26 : decode cX0_form 26 = .ok (.ifCond .eq 7, 3) := by decide +kernel
theorem dX0_form_29 : decode cX0_form 29 = .ok (.iconst (-1), 1) := by decide +kernel
theorem dX0_form_30 : decode cX0_form 30 = .ok (.goto 13, 3) := by decide +kernel
theorem dX0_form_33 : decode cX0_form 33 = .ok (.aload_n 0, 1) := by decide +kernel
theorem dX0_form_34 : decode cX0_form 34 = .ok (.aload_n 1, 1) := by decide +kernel
theorem dX0_form_35 : decode cX0_form 35 = .ok (.getfield 29, 3) := by decide +kernel
theorem dX0_form_38 : decode cX0_form 38 = .ok (.iload_n 2, 1) := by decide +kernel
theorem dX0_form_39 : decode cX0_form 39 = .ok (.iaload, 1) := by decide +kernel
theorem dX0_form_40 : decode cX0_form 40 = .ok (.invokevirtual 30, 3) := by decide +kernel
theorem dX0_form_43 : decode cX0_form 43 = .ok (.iastore, 1) := by decide +kernel
theorem dX0_form_44 : decode cX0_form 44 = .ok (.iinc 2 1, 3) := by decide +kernel
theorem dX0_form_47 : decode cX0_form 47 = .ok (.goto (-40), 3) := by decide +kernel
theorem dX0_form_50 : decode cX0_form 50 = .ok (.return_, 1) := by decide +kernel
theorem dX0_place_0 : decode cX0_place 0 = .ok (.iconst 0, 1) := by decide +kernel
theorem dX0_place_1 : decode cX0_place 1 = .ok (.istore_n 2, 1) := by decide +kernel
theorem dX0_place_2 : decode cX0_place 2 = .ok (.iload_n 2, 1) := by decide +kernel
theorem dX0_place_3 : decode cX0_place 3 = .ok (.aload_n 0, 1) := by decide +kernel
theorem dX0_place_4 : decode cX0_place 4 = .ok (.getfield 18, 3) := by decide +kernel
theorem dX0_place_7 : decode cX0_place 7 = .ok (.if_icmp .ge 20, 3) := by decide +kernel
theorem dX0_place_10 : decode cX0_place 10 = .ok (.aload_n 0, 1) := by decide +kernel
theorem dX0_place_11 : decode cX0_place 11 = .ok (.getfield 15, 3) := by decide +kernel
theorem dX0_place_14 : decode cX0_place 14 = .ok (.iload_n 2, 1) := by decide +kernel
theorem dX0_place_15 : decode cX0_place 15 = .ok (.iaload, 1) := by decide +kernel
theorem dX0_place_16 : decode cX0_place 16 = .ok (.iload_n 1, 1) := by decide +kernel
theorem dX0_place_17 : decode cX0_place 17 = .ok (.iand, 1) := by decide +kernel
theorem dX0_place_18 : decode cX0_place 18 = .ok (.ifCond .eq 9, 3) := by decide +kernel
theorem dX0_place_21 : decode cX0_place 21 = .ok (.iinc 2 1, 3) := by decide +kernel
theorem dX0_place_24 : decode cX0_place 24 = .ok (.goto (-22), 3) := by decide +kernel
theorem dX0_place_27 : decode cX0_place 27 = .ok (.iload_n 2, 1) := by decide +kernel
theorem dX0_place_28 : decode cX0_place 28 = .ok (.aload_n 0, 1) := by decide +kernel
theorem dX0_place_29 : decode cX0_place 29 = .ok (.getfield 18, 3) := by decide +kernel
theorem dX0_place_32 : decode cX0_place 32 = .ok (.if_icmp .ne 20, 3) := by decide +kernel
theorem dX0_place_35 : decode cX0_place 35 = .ok (.aload_n 0, 1) := by decide +kernel
theorem dX0_place_36 : decode cX0_place 36 = .ok (.getfield 15, 3) := by decide +kernel
theorem dX0_place_39 : decode cX0_place 39 = .ok (.iload_n 2, 1) := by decide +kernel
theorem dX0_place_40 : decode cX0_place 40 = .ok (.iconst 0, 1) := by decide +kernel
theorem dX0_place_41 : decode cX0_place 41 = .ok (.iastore, 1) := by decide +kernel
theorem dX0_place_42 : decode cX0_place 42 = .ok (.aload_n 0, 1) := by decide +kernel
theorem dX0_place_43 : decode cX0_place 43 = .ok (.dup, 1) := by decide +kernel
theorem dX0_place_44 : decode cX0_place 44 = .ok (.getfield 18, 3) := by decide +kernel
theorem dX0_place_47 : decode cX0_place 47 = .ok (.iconst 1, 1) := by decide +kernel
theorem dX0_place_48 : decode cX0_place 48 = .ok (.iadd, 1) := by decide +kernel
theorem dX0_place_49 : decode cX0_place 49 = .ok (.putfield 18, 3) := by decide +kernel
theorem dX0_place_52 : decode cX0_place 52 = .ok (.aload_n 0, 1) := by decide +kernel
theorem dX0_place_53 : decode cX0_place 53 = .ok (.getfield 15, 3) := by decide +kernel
theorem dX0_place_56 : decode cX0_place 56 = .ok (.iload_n 2, 1) := by decide +kernel
theorem dX0_place_57 : decode cX0_place 57 = .ok (.dup2, 1) := by decide +kernel
theorem dX0_place_58 : decode cX0_place 58 = .ok (.iaload, 1) := by decide +kernel
theorem dX0_place_59 : decode cX0_place 59 = .ok (.iload_n 1, 1) := by decide +kernel
theorem dX0_place_60 : decode cX0_place 60 = .ok (.ior, 1) := by decide +kernel
theorem dX0_place_61 : decode cX0_place 61 = .ok (.iastore, 1) := by decide +kernel
theorem dX0_place_62 : decode cX0_place 62 = .ok (.iload_n 2, 1) := by decide +kernel
theorem dX0_place_63 : decode cX0_place 63 = .ok (.ireturn, 1) := by decide +kernel
theorem dX1_init_0 : decode cX1_init 0 = .ok (.aload_n 0, 1) := by decide +kernel
theorem dX1_init_1 : decode cX1_init 1 = .ok (.invokespecial 3, 3) := by decide +kernel
theorem dX1_init_4 : decode cX1_init 4 = .ok (.aload_n 0, 1) := by decide +kernel
theorem dX1_init_5 : decode cX1_init 5 = .ok (.aload_n 1, 1) := by decide +kernel
theorem dX1_init_6 : decode cX1_init 6 = .ok (.putfield 9, 3) := by decide +kernel
theorem dX1_init_9 : decode cX1_init 9 = .ok (.aload_n 0, 1) := by decide +kernel
theorem dX1_init_10 : decode cX1_init 10 = .ok (.aload_n 2, 1) := by decide +kernel
theorem dX1_init_11 : decode cX1_init 11 = .ok (.putfield 15, 3) := by decide +kernel
theorem dX1_init_14 : decode cX1_init 14 = .ok (.aload_n 0, 1) := by decide +kernel
theorem dX1_init_15 : decode cX1_init 15 = .ok (.aload_n 3, 1) := by decide +kernel
theorem dX1_init_16 : decode cX1_init 16 = .ok (.putfield 19, 3) := by decide +kernel
theorem dX1_init_19 : decode cX1_init 19 = .ok (.aload_n 0, 1) := by decide +kernel
theorem dX1_init_20 : decode cX1_init 20 = .ok (.aload_n 1, 1) := by decide +kernel
theorem dX1_init_21 : decode cX1_init 21 = .ok (.getfield 23, 3) := by decide +kernel
theorem dX1_init_24 : decode cX1_init 24 = .ok (.newarray .int, 2) := by decide +kernel
theorem dX1_init_26 : decode cX1_init 26 = .ok (.putfield 29, 3) := by decide +kernel
theorem dX1_init_29 : decode cX1_init 29 = .ok (.aload_n 0, 1) := by decide +kernel
theorem dX1_init_30 : decode cX1_init 30 = .ok (.aload_n 1, 1) := by decide +kernel
theorem dX1_init_31 : decode cX1_init 31 = .ok (.getfield 23, 3) := by decide +kernel
theorem dX1_init_34 : decode cX1_init 34 = .ok (.newarray .int, 2) := by decide +kernel
theorem dX1_init_36 : decode cX1_init 36 = .ok (.putfield 33, 3) := by decide +kernel
theorem dX1_init_39 : decode cX1_init 39 = .ok (.aload_n 0, 1) := by decide +kernel
theorem dX1_init_40 : decode cX1_init 40 = .ok (.aload_n 1, 1) := by decide +kernel
theorem dX1_init_41 : decode cX1_init 41 = .ok (.getfield 23, 3) := by decide +kernel
theorem dX1_init_44 : decode cX1_init 44 = .ok (.newarray .long, 2) := by decide +kernel
theorem dX1_init_46 : decode cX1_init 46 = .ok (.putfield 36, 3) := by decide +kernel
theorem dX1_init_49 : decode cX1_init 49 = .ok (.aload_n 0, 1) := by decide +kernel
theorem dX1_init_50 : decode cX1_init 50 = .ok (.new 40, 3) := by decide +kernel
theorem dX1_init_53 : decode cX1_init 53 = .ok (.dup, 1) := by decide +kernel
theorem dX1_init_54 : decode cX1_init 54 = .ok (.aload_n 1, 1) := by decide +kernel
theorem dX1_init_55 : decode cX1_init 55 = .ok (.getfield 23, 3) := by decide +kernel
theorem dX1_init_58 : decode cX1_init 58 = .ok (.invokespecial 42, 3) := by decide +kernel
theorem dX1_init_61 : decode cX1_init 61 = .ok (.putfield 45, 3) := by decide +kernel
theorem dX1_init_64 : decode cX1_init 64 = .ok (.aload_n 0, 1) := by decide +kernel
theorem dX1_init_65 : decode cX1_init 65 = .ok (.new 49, 3) := by decide +kernel
theorem dX1_init_68 : decode cX1_init 68 = .ok (.dup, 1) := by decide +kernel
theorem dX1_init_69 : decode cX1_init 69 = .ok (.invokespecial 51, 3) := by decide +kernel
theorem dX1_init_72 : decode cX1_init 72 = .ok (.putfield 52, 3) := by decide +kernel
theorem dX1_init_75 : decode cX1_init 75 = .ok (.aload_n 0, 1) := by decide +kernel
theorem dX1_init_76 : decode cX1_init 76 = .ok (.invokevirtual 56, 3) := by decide +kernel
theorem dX1_init_79 : decode cX1_init 79 = .ok (.return_, 1) := by decide +kernel
theorem dX1_reset_0 : decode cX1_reset 0 = .ok (.aload_n 0, 1) := by decide +kernel
theorem dX1_reset_1 : decode cX1_reset 1 = .ok (.getfield 52, 3) := by decide +kernel
theorem dX1_reset_4 : decode cX1_reset 4 = .ok (.iconst 0, 1) := by decide +kernel
theorem dX1_reset_5 : decode cX1_reset 5 = .ok (.invokevirtual 59, 3) := by decide +kernel
theorem dX1_reset_8 : decode cX1_reset 8 = .ok (.aload_n 0, 1) := by decide +kernel
theorem dX1_reset_9 : decode cX1_reset 9 = .ok (.iconst 0, 1) := by decide +kernel
theorem dX1_reset_10 : decode cX1_reset 10 = .ok (.putfield 62, 3) := by decide +kernel
theorem dX1_reset_13 : decode cX1_reset 13 = .ok (.aload_n 0, 1) := by decide +kernel
theorem dX1_reset_14 : decode cX1_reset 14 = .ok (.iconst 0, 1) := by decide +kernel
theorem dX1_reset_15 : decode cX1_reset 15 = .ok (.putfield 65, 3) := by decide +kernel
theorem dX1_reset_18 : decode cX1_reset 18 = .ok (.aload_n 0, 1) := by decide +kernel
theorem dX1_reset_19 : decode cX1_reset 19 = .ok (.iconst 0, 1) := by decide +kernel
theorem dX1_reset_20 : decode cX1_reset 20 = .ok (.putfield 68, 3) := by decide +kernel
theorem dX1_reset_23 : decode cX1_reset 23 = .ok (.aload_n 0, 1) := by decide +kernel
theorem dX1_reset_24 : decode cX1_reset 24 = .ok (.iconst 0, 1) := by decide +kernel
theorem dX1_reset_25 : decode cX1_reset 25 = .ok (.putfield 71, 3) := by decide +kernel
theorem dX1_reset_28 : decode cX1_reset 28 = .ok (.aload_n 0, 1) := by decide +kernel
theorem dX1_reset_29 : decode cX1_reset 29 = .ok (.iconst 0, 1) := by decide +kernel
theorem dX1_reset_30 : decode cX1_reset 30 = .ok (.putfield 74, 3) := by decide +kernel
theorem dX1_reset_33 : decode cX1_reset 33 = .ok (.iconst 0, 1) := by decide +kernel
theorem dX1_reset_34 : decode cX1_reset 34 = .ok (.istore_n 1, 1) := by decide +kernel
theorem dX1_reset_35 : decode cX1_reset 35 = .ok (.iload_n 1, 1) := by decide +kernel
theorem dX1_reset_36 : decode cX1_reset 36 = .ok (.aload_n 0, 1) := by decide +kernel
theorem dX1_reset_37 : decode cX1_reset 37 = .ok (.getfield 9, 3) := by decide +kernel
theorem dX1_reset_40 : decode cX1_reset 40 = .ok (.getfield 23, 3) := by decide +kernel
theorem dX1_reset_43 : decode cX1_reset 43 = .ok (.if_icmp .ge 23, 3) := by decide +kernel
theorem dX1_reset_46 : decode cX1_reset 46 = .ok (.aload_n 0, 1) := by decide +kernel
theorem dX1_reset_47 : decode cX1_reset 47 = .ok (.getfield 29, 3) := by decide +kernel
theorem dX1_reset_50 : decode cX1_reset 50 = .ok (.iload_n 1, 1) := by decide +kernel
theorem dX1_reset_51 : decode cX1_reset 51 = .ok (.iconst (-1), 1) := by decide +kernel
theorem dX1_reset_52 : decode cX1_reset 52 = .ok (.iastore, 1) := by decide +kernel
theorem dX1_reset_53 : decode cX1_reset 53 = .ok (.aload_n 0, 1) := by decide +kernel
theorem dX1_reset_54 : decode cX1_reset 54 = .ok (.getfield 33, 3) := by decide +kernel
theorem dX1_reset_57 : decode cX1_reset 57 = .ok (.iload_n 1, 1) := by decide +kernel
theorem dX1_reset_58 : decode cX1_reset 58 = .ok (.iconst (-1), 1) := by decide +kernel
theorem dX1_reset_59 : decode cX1_reset 59 = .ok (.iastore, 1) := by decide +kernel
theorem dX1_reset_60 : decode cX1_reset 60 = .ok (.iinc 1 1, 3) := by decide +kernel
theorem dX1_reset_63 : decode cX1_reset 63 = .ok (.goto (-28), 3) := by decide +kernel
theorem dX1_reset_66 : decode cX1_reset 66 = .ok (.return_, 1) := by decide +kernel
theorem dX1_figure_0 : decode cX1_figure 0 = .ok (.iload_n 1, 1) := by decide +kernel
theorem dX1_figure_1 : decode cX1_figure 1 = .ok (.tableswitch 72 0 5 #[39, 44, 49, 54, 62, 67], 39) := by decide +kernel
theorem dX1_figure_40 : decode cX1_figure 40 = .ok (.aload_n 0, 1) := by decide +kernel
theorem dX1_figure_41 : decode cX1_figure 41 = .ok (.getfield 62, 3) := by decide +kernel
theorem dX1_figure_44 : decode cX1_figure 44 = .ok (.ireturn, 1) := by decide +kernel
theorem dX1_figure_45 : decode cX1_figure 45 = .ok (.aload_n 0, 1) := by decide +kernel
theorem dX1_figure_46 : decode cX1_figure 46 = .ok (.getfield 65, 3) := by decide +kernel
theorem dX1_figure_49 : decode cX1_figure 49 = .ok (.ireturn, 1) := by decide +kernel
theorem dX1_figure_50 : decode cX1_figure 50 = .ok (.aload_n 0, 1) := by decide +kernel
theorem dX1_figure_51 : decode cX1_figure 51 = .ok (.getfield 68, 3) := by decide +kernel
theorem dX1_figure_54 : decode cX1_figure 54 = .ok (.ireturn, 1) := by decide +kernel
theorem dX1_figure_55 : decode cX1_figure 55 = .ok (.aload_n 0, 1) := by decide +kernel
theorem dX1_figure_56 : decode cX1_figure 56 = .ok (.getfield 52, 3) := by decide +kernel
theorem dX1_figure_59 : decode cX1_figure 59 = .ok (.getfield 77, 3) := by decide +kernel
theorem dX1_figure_62 : decode cX1_figure 62 = .ok (.ireturn, 1) := by decide +kernel
theorem dX1_figure_63 : decode cX1_figure 63 = .ok (.aload_n 0, 1) := by decide +kernel
theorem dX1_figure_64 : decode cX1_figure 64 = .ok (.getfield 71, 3) := by decide +kernel
theorem dX1_figure_67 : decode cX1_figure 67 = .ok (.ireturn, 1) := by decide +kernel
theorem dX1_figure_68 : decode cX1_figure 68 = .ok (.aload_n 0, 1) := by decide +kernel
theorem dX1_figure_69 : decode cX1_figure 69 = .ok (.getfield 74, 3) := by decide +kernel
theorem dX1_figure_72 : decode cX1_figure 72 = .ok (.ireturn, 1) := by decide +kernel
theorem dX1_figure_73 : decode cX1_figure 73 = .ok (.bipush (-3), 2) := by decide +kernel
theorem dX1_figure_75 : decode cX1_figure 75 = .ok (.ireturn, 1) := by decide +kernel
theorem dX1_goThrough_0 : decode cX1_goThrough 0 = .ok (.aload_n 0, 1) := by decide +kernel
theorem dX1_goThrough_1 : decode cX1_goThrough 1 = .ok (.iload_n 1, 1) := by decide +kernel
theorem dX1_goThrough_2 : decode cX1_goThrough 2 = .ok (.lload_n 2, 1) := by decide +kernel
theorem dX1_goThrough_3 : decode cX1_goThrough 3 = .ok (.invokevirtual 80, 3) := by decide +kernel
theorem dX1_goThrough_6 : decode cX1_goThrough 6 = .ok (.iconst 0, 1) := by decide +kernel
theorem dX1_goThrough_7 : decode cX1_goThrough 7 = .ok (.istore 4, 2) := by decide +kernel
theorem dX1_goThrough_9 : decode cX1_goThrough 9 = .ok (.iload 4, 2) := by decide +kernel
theorem dX1_goThrough_11 : decode cX1_goThrough 11 = .ok (.aload_n 0, 1) := by decide +kernel
theorem dX1_goThrough_12 : decode cX1_goThrough 12 = .ok (.getfield 15, 3) := by decide +kernel
theorem dX1_goThrough_15 : decode cX1_goThrough 15 = .ok (.getfield 84, 3) := by decide +kernel
theorem dX1_goThrough_18 : decode cX1_goThrough 18 = .ok (.if_icmp .ge 35, 3) := by decide +kernel
theorem dX1_goThrough_21 : decode cX1_goThrough 21 = .ok (.aload_n 0, 1) := by decide +kernel
theorem dX1_goThrough_22 : decode cX1_goThrough 22 = .ok (.iload 4, 2) := by decide +kernel
theorem dX1_goThrough_24 : decode cX1_goThrough 24 = .ok (.invokevirtual 87, 3) := by decide +kernel
theorem dX1_goThrough_27 : decode cX1_goThrough 27 = .ok (.istore 5, 2) := by decide +kernel
theorem dX1_goThrough_29 : decode cX1_goThrough 29 = .ok (.iload 5, 2) := by decide +kernel
theorem dX1_goThrough_31 : decode cX1_goThrough 31 = .ok (.ifCond .eq 6, 3) := by decide +kernel
theorem dX1_goThrough_34 : decode cX1_goThrough 34 = .ok (.iload 5, 2) := by decide +kernel
theorem dX1_goThrough_36 : decode cX1_goThrough 36 = .ok (.ireturn, 1) := by decide +kernel
theorem dX1_goThrough_37 : decode cX1_goThrough 37 = .ok (.aload_n 0, 1) := by decide +kernel
theorem dX1_goThrough_38 : decode cX1_goThrough 38 = .ok (.dup, 1) := by decide +kernel
theorem dX1_goThrough_39 : decode cX1_goThrough 39 = .ok (.getfield 71, 3) := by decide +kernel
theorem dX1_goThrough_42 : decode cX1_goThrough 42 = .ok (.iconst 1, 1) := by decide +kernel
theorem dX1_goThrough_43 : decode cX1_goThrough 43 = .ok (.iadd, 1) := by decide +kernel
theorem dX1_goThrough_44 : decode cX1_goThrough 44 = .ok (.putfield 71, 3) := by decide +kernel
theorem dX1_goThrough_47 : decode cX1_goThrough 47 = .ok (.iinc 4 1, 3) := by decide +kernel
theorem dX1_goThrough_50 : decode cX1_goThrough 50 = .ok (.goto (-41), 3) := by decide +kernel
theorem dX1_goThrough_53 : decode cX1_goThrough 53 = .ok (.iconst 0, 1) := by decide +kernel
theorem dX1_goThrough_54 : decode cX1_goThrough 54 = .ok (.ireturn, 1) := by decide +kernel
theorem dX1_start_0 : decode cX1_start 0 = .ok (.aload_n 0, 1) := by decide +kernel
theorem dX1_start_1 : decode cX1_start 1 = .ok (.invokevirtual 56, 3) := by decide +kernel
theorem dX1_start_4 : decode cX1_start 4 = .ok (.aload_n 0, 1) := by decide +kernel
theorem dX1_start_5 : decode cX1_start 5 = .ok (.getfield 52, 3) := by decide +kernel
theorem dX1_start_8 : decode cX1_start 8 = .ok (.iload_n 1, 1) := by decide +kernel
theorem dX1_start_9 : decode cX1_start 9 = .ok (.invokevirtual 59, 3) := by decide +kernel
theorem dX1_start_12 : decode cX1_start 12 = .ok (.aload_n 0, 1) := by decide +kernel
theorem dX1_start_13 : decode cX1_start 13 = .ok (.lload_n 2, 1) := by decide +kernel
theorem dX1_start_14 : decode cX1_start 14 = .ok (.putfield 91, 3) := by decide +kernel
theorem dX1_start_17 : decode cX1_start 17 = .ok (.aload_n 0, 1) := by decide +kernel
theorem dX1_start_18 : decode cX1_start 18 = .ok (.getfield 15, 3) := by decide +kernel
theorem dX1_start_21 : decode cX1_start 21 = .ok (.aload_n 0, 1) := by decide +kernel
theorem dX1_start_22 : decode cX1_start 22 = .ok (.getfield 9, 3) := by decide +kernel
theorem dX1_start_25 : decode cX1_start 25 = .ok (.invokevirtual 95, 3) := by decide +kernel
theorem dX1_start_28 : decode cX1_start 28 = .ok (.iconst 0, 1) := by decide +kernel
theorem dX1_start_29 : decode cX1_start 29 = .ok (.istore 4, 2) := by decide +kernel
theorem dX1_start_31 : decode cX1_start 31 = .ok (.iload 4, 2) := by decide +kernel
theorem dX1_start_33 : decode cX1_start 33 = .ok (.aload_n 0, 1) := by decide +kernel
theorem dX1_start_34 : decode cX1_start 34 = .ok (.getfield 9, 3) := by decide +kernel
theorem dX1_start_37 : decode cX1_start 37 = .ok (.getfield 23, 3) := by decide +kernel
theorem dX1_start_40 : decode cX1_start 40 = .ok (.if_icmp .ge 30, 3) := by decide +kernel
theorem dX1_start_43 : decode cX1_start 43 = .ok (.aload_n 0, 1) := by decide +kernel
theorem dX1_start_44 : decode cX1_start 44 = .ok (.getfield 9, 3) := by decide +kernel
theorem dX1_start_47 : decode cX1_start 47 = .ok (.getfield 99, 3) := by decide +kernel
theorem dX1_start_50 : decode cX1_start 50 = .ok (.iload 4, 2) := by decide +kernel
theorem dX1_start_52 : decode cX1_start 52 = .ok (.baload, 1) := by decide +kernel
theorem dX1_start_53 : decode cX1_start 53 = .ok (.ifCond .ne 11, 3) := by decide +kernel
theorem dX1_start_56 : decode cX1_start 56 = .ok (.aload_n 0, 1) := by decide +kernel
theorem dX1_start_57 : decode cX1_start 57 = .ok (.getfield 29, 3) := by decide +kernel
theorem dX1_start_60 : decode cX1_start 60 = .ok (.iload 4, 2) := by decide +kernel
theorem dX1_start_62 : decode cX1_start 62 = .ok (.iconst 0, 1) := by decide +kernel
theorem dX1_start_63 : decode cX1_start 63 = .ok (.iastore, 1) := by decide +kernel
theorem dX1_start_64 : decode cX1_start 64 = .ok (.iinc 4 1, 3) := by decide +kernel
theorem dX1_start_67 : decode cX1_start 67 = .ok (.goto (-36), 3) := by decide +kernel
theorem dX1_start_70 : decode cX1_start 70 = .ok (.return_, 1) := by decide +kernel
theorem dX1_doBatch_0 : decode cX1_doBatch 0 = .ok (.aload_n 0, 1) := by decide +kernel
theorem dX1_doBatch_1 : decode cX1_doBatch 1 = .ok (.aload_n 0, 1) := by decide +kernel
theorem dX1_doBatch_2 : decode cX1_doBatch 2 = .ok (.getfield 45, 3) := by decide +kernel
theorem dX1_doBatch_5 : decode cX1_doBatch 5 = .ok (.aload_n 0, 1) := by decide +kernel
theorem dX1_doBatch_6 : decode cX1_doBatch 6 = .ok (.getfield 15, 3) := by decide +kernel
theorem dX1_doBatch_9 : decode cX1_doBatch 9 = .ok (.iload_n 1, 1) := by decide +kernel
theorem dX1_doBatch_10 : decode cX1_doBatch 10 = .ok (.invokevirtual 103, 3) := by decide +kernel
theorem dX1_doBatch_13 : decode cX1_doBatch 13 = .ok (.putfield 107, 3) := by decide +kernel
theorem dX1_doBatch_16 : decode cX1_doBatch 16 = .ok (.aload_n 0, 1) := by decide +kernel
theorem dX1_doBatch_17 : decode cX1_doBatch 17 = .ok (.getfield 107, 3) := by decide +kernel
theorem dX1_doBatch_20 : decode cX1_doBatch 20 = .ok (.ifCond .le 51, 3) := by decide +kernel
theorem dX1_doBatch_23 : decode cX1_doBatch 23 = .ok (.aload_n 0, 1) := by decide +kernel
theorem dX1_doBatch_24 : decode cX1_doBatch 24 = .ok (.getfield 52, 3) := by decide +kernel
theorem dX1_doBatch_27 : decode cX1_doBatch 27 = .ok (.getfield 77, 3) := by decide +kernel
theorem dX1_doBatch_30 : decode cX1_doBatch 30 = .ok (.ifCond .le 41, 3) := by decide +kernel
theorem dX1_doBatch_33 : decode cX1_doBatch 33 = .ok (.aload_n 0, 1) := by decide +kernel
theorem dX1_doBatch_34 : decode cX1_doBatch 34 = .ok (.getfield 62, 3) := by decide +kernel
theorem dX1_doBatch_37 : decode cX1_doBatch 37 = .ok (.sipush 20000, 3) := by decide +kernel
theorem dX1_doBatch_40 : decode cX1_doBatch 40 = .ok (.if_icmp .ge 31, 3) := by decide +kernel
theorem dX1_doBatch_43 : decode cX1_doBatch 43 = .ok (.aload_n 0, 1) := by decide +kernel
theorem dX1_doBatch_44 : decode cX1_doBatch 44 = .ok (.dup, 1) := by decide +kernel
theorem dX1_doBatch_45 : decode cX1_doBatch 45 = .ok (.getfield 62, 3) := by decide +kernel
theorem dX1_doBatch_48 : decode cX1_doBatch 48 = .ok (.iconst 1, 1) := by decide +kernel
theorem dX1_doBatch_49 : decode cX1_doBatch 49 = .ok (.iadd, 1) := by decide +kernel
theorem dX1_doBatch_50 : decode cX1_doBatch 50 = .ok (.putfield 62, 3) := by decide +kernel
theorem dX1_doBatch_53 : decode cX1_doBatch 53 = .ok (.aload_n 0, 1) := by decide +kernel
theorem dX1_doBatch_54 : decode cX1_doBatch 54 = .ok (.aload_n 0, 1) := by decide +kernel
theorem dX1_doBatch_55 : decode cX1_doBatch 55 = .ok (.aload_n 0, 1) := by decide +kernel
theorem dX1_doBatch_56 : decode cX1_doBatch 56 = .ok (.getfield 52, 3) := by decide +kernel
theorem dX1_doBatch_59 : decode cX1_doBatch 59 = .ok (.getfield 77, 3) := by decide +kernel
theorem dX1_doBatch_62 : decode cX1_doBatch 62 = .ok (.invokevirtual 110, 3) := by decide +kernel
theorem dX1_doBatch_65 : decode cX1_doBatch 65 = .ok (.invokevirtual 113, 3) := by decide +kernel
theorem dX1_doBatch_68 : decode cX1_doBatch 68 = .ok (.goto (-52), 3) := by decide +kernel
theorem dX1_doBatch_71 : decode cX1_doBatch 71 = .ok (.aload_n 0, 1) := by decide +kernel
theorem dX1_doBatch_72 : decode cX1_doBatch 72 = .ok (.getfield 107, 3) := by decide +kernel
theorem dX1_doBatch_75 : decode cX1_doBatch 75 = .ok (.ifCond .ne 5, 3) := by decide +kernel
theorem dX1_doBatch_78 : decode cX1_doBatch 78 = .ok (.iconst 0, 1) := by decide +kernel
theorem dX1_doBatch_79 : decode cX1_doBatch 79 = .ok (.ireturn, 1) := by decide +kernel
theorem dX1_doBatch_80 : decode cX1_doBatch 80 = .ok (.aload_n 0, 1) := by decide +kernel
theorem dX1_doBatch_81 : decode cX1_doBatch 81 = .ok (.getfield 52, 3) := by decide +kernel
theorem dX1_doBatch_84 : decode cX1_doBatch 84 = .ok (.getfield 77, 3) := by decide +kernel
theorem dX1_doBatch_87 : decode cX1_doBatch 87 = .ok (.ifCond .ne 7, 3) := by decide +kernel
theorem dX1_doBatch_90 : decode cX1_doBatch 90 = .ok (.iconst (-1), 1) := by decide +kernel
theorem dX1_doBatch_91 : decode cX1_doBatch 91 = .ok (.goto 5, 3) := by decide +kernel
theorem dX1_doBatch_94 : decode cX1_doBatch 94 = .ok (.bipush (-2), 2) := by decide +kernel
theorem dX1_doBatch_96 : decode cX1_doBatch 96 = .ok (.ireturn, 1) := by decide +kernel
theorem dX1_choosePlace_0 : decode cX1_choosePlace 0 = .ok (.aload_n 0, 1) := by decide +kernel
theorem dX1_choosePlace_1 : decode cX1_choosePlace 1 = .ok (.aload_n 0, 1) := by decide +kernel
theorem dX1_choosePlace_2 : decode cX1_choosePlace 2 = .ok (.getfield 91, 3) := by decide +kernel
theorem dX1_choosePlace_5 : decode cX1_choosePlace 5 = .ok (.ldc2_w 116, 3) := by decide +kernel
theorem dX1_choosePlace_8 : decode cX1_choosePlace 8 = .ok (.lmul, 1) := by decide +kernel
theorem dX1_choosePlace_9 : decode cX1_choosePlace 9 = .ok (.ldc2_w 118, 3) := by decide +kernel
theorem dX1_choosePlace_12 : decode cX1_choosePlace 12 = .ok (.ladd, 1) := by decide +kernel
theorem dX1_choosePlace_13 : decode cX1_choosePlace 13 = .ok (.putfield 91, 3) := by decide +kernel
theorem dX1_choosePlace_16 : decode cX1_choosePlace 16 = .ok (.aload_n 0, 1) := by decide +kernel
theorem dX1_choosePlace_17 : decode cX1_choosePlace 17 = .ok (.getfield 91, 3) := by decide +kernel
theorem dX1_choosePlace_20 : decode cX1_choosePlace 20 = .ok (.bipush 33, 2) := by decide +kernel
theorem dX1_choosePlace_22 : decode cX1_choosePlace 22 = .ok (.lushr, 1) := by decide +kernel
theorem dX1_choosePlace_23 : decode cX1_choosePlace 23 = .ok (.iload_n 1, 1) := by decide +kernel
theorem dX1_choosePlace_24 : decode cX1_choosePlace 24 = .ok (.i2l, 1) := by decide +kernel
theorem dX1_choosePlace_25 : decode cX1_choosePlace 25 = .ok (.lrem, 1) := by decide +kernel
theorem dX1_choosePlace_26 : decode cX1_choosePlace 26 = .ok (.l2i, 1) := by decide +kernel
theorem dX1_choosePlace_27 : decode cX1_choosePlace 27 = .ok (.ireturn, 1) := by decide +kernel
theorem dX1_act_0 : decode cX1_act 0 = .ok (.aload_n 0, 1) := by decide +kernel
theorem dX1_act_1 : decode cX1_act 1 = .ok (.getfield 52, 3) := by decide +kernel
theorem dX1_act_4 : decode cX1_act 4 = .ok (.iload_n 1, 1) := by decide +kernel
theorem dX1_act_5 : decode cX1_act 5 = .ok (.invokevirtual 120, 3) := by decide +kernel
theorem dX1_act_8 : decode cX1_act 8 = .ok (.istore_n 2, 1) := by decide +kernel
theorem dX1_act_9 : decode cX1_act 9 = .ok (.aload_n 0, 1) := by decide +kernel
theorem dX1_act_10 : decode cX1_act 10 = .ok (.getfield 52, 3) := by decide +kernel
theorem dX1_act_13 : decode cX1_act 13 = .ok (.getfield 123, 3) := by decide +kernel
theorem dX1_act_16 : decode cX1_act 16 = .ok (.iload_n 2, 1) := by decide +kernel
theorem dX1_act_17 : decode cX1_act 17 = .ok (.iaload, 1) := by decide +kernel
theorem dX1_act_18 : decode cX1_act 18 = .ok (.istore_n 3, 1) := by decide +kernel
theorem dX1_act_19 : decode cX1_act 19 = .ok (.iload_n 3, 1) := by decide +kernel
theorem dX1_act_20 : decode cX1_act 20 = .ok (.iconst (-1), 1) := by decide +kernel
theorem dX1_act_21 : decode cX1_act 21 = .ok (.if_icmp .ne 9, 3) := by decide +kernel
theorem dX1_act_24 : decode cX1_act 24 = .ok (.aload_n 0, 1) := by decide +kernel
theorem dX1_act_25 : decode cX1_act 25 = .ok (.iload_n 2, 1) := by decide +kernel
theorem dX1_act_26 : decode cX1_act 26 = .ok (.invokevirtual 126, 3) := by decide +kernel
theorem dX1_act_29 : decode cX1_act 29 = .ok (.return_, 1) := by decide +kernel
theorem dX1_act_30 : decode cX1_act 30 = .ok (.aload_n 0, 1) := by decide +kernel
theorem dX1_act_31 : decode cX1_act 31 = .ok (.getfield 52, 3) := by decide +kernel
theorem dX1_act_34 : decode cX1_act 34 = .ok (.getfield 129, 3) := by decide +kernel
theorem dX1_act_37 : decode cX1_act 37 = .ok (.iload_n 2, 1) := by decide +kernel
theorem dX1_act_38 : decode cX1_act 38 = .ok (.iaload, 1) := by decide +kernel
theorem dX1_act_39 : decode cX1_act 39 = .ok (.iconst 1, 1) := by decide +kernel
theorem dX1_act_40 : decode cX1_act 40 = .ok (.iadd, 1) := by decide +kernel
theorem dX1_act_41 : decode cX1_act 41 = .ok (.aload_n 0, 1) := by decide +kernel
theorem dX1_act_42 : decode cX1_act 42 = .ok (.getfield 9, 3) := by decide +kernel
theorem dX1_act_45 : decode cX1_act 45 = .ok (.getfield 132, 3) := by decide +kernel
theorem dX1_act_48 : decode cX1_act 48 = .ok (.iload_n 3, 1) := by decide +kernel
theorem dX1_act_49 : decode cX1_act 49 = .ok (.iaload, 1) := by decide +kernel
theorem dX1_act_50 : decode cX1_act 50 = .ok (.if_icmp .lt 7, 3) := by decide +kernel
theorem dX1_act_53 : decode cX1_act 53 = .ok (.iconst 1, 1) := by decide +kernel
theorem dX1_act_54 : decode cX1_act 54 = .ok (.goto 4, 3) := by decide +kernel
theorem dX1_act_57 : decode cX1_act 57 = .ok (.iconst 0, 1) := by decide +kernel
theorem dX1_act_58 : decode cX1_act 58 = .ok (.istore 4, 2) := by decide +kernel
theorem dX1_act_60 : decode cX1_act 60 = .ok (.iload 4, 2) := by decide +kernel
theorem dX1_act_62 : decode cX1_act 62 = .ok (.ifCond .eq 23, 3) := by decide +kernel
theorem dX1_act_65 : decode cX1_act 65 = .ok (.aload_n 0, 1) := by decide +kernel
theorem dX1_act_66 : decode cX1_act 66 = .ok (.getfield 19, 3) := by decide +kernel
theorem dX1_act_69 : decode cX1_act 69 = .ok (.iload_n 2, 1) := by decide +kernel
theorem dX1_act_70 : decode cX1_act 70 = .ok (.iload_n 3, 1) := by decide +kernel
theorem dX1_act_71 : decode cX1_act 71 = .ok (.invokevirtual 135, 3) := by decide +kernel
theorem dX1_act_74 : decode cX1_act 74 = .ok (.ifCond .eq 11, 3) := by decide +kernel
theorem dX1_act_77 : decode cX1_act 77 = .ok (.aload_n 0, 1) := by decide +kernel
theorem dX1_act_78 : decode cX1_act 78 = .ok (.iload_n 1, 1) := by decide +kernel
theorem dX1_act_79 : decode cX1_act 79 = .ok (.iload_n 2, 1) := by decide +kernel
theorem dX1_act_80 : decode cX1_act 80 = .ok (.iload_n 3, 1) := by decide +kernel
theorem dX1_act_81 : decode cX1_act 81 = .ok (.invokevirtual 141, 3) := by decide +kernel
theorem dX1_act_84 : decode cX1_act 84 = .ok (.return_, 1) := by decide +kernel
theorem dX1_act_85 : decode cX1_act 85 = .ok (.aload_n 0, 1) := by decide +kernel
theorem dX1_act_86 : decode cX1_act 86 = .ok (.iload_n 2, 1) := by decide +kernel
theorem dX1_act_87 : decode cX1_act 87 = .ok (.iload_n 3, 1) := by decide +kernel
theorem dX1_act_88 : decode cX1_act 88 = .ok (.invokevirtual 145, 3) := by decide +kernel
theorem dX1_act_91 : decode cX1_act 91 = .ok (.iload 4, 2) := by decide +kernel
theorem dX1_act_93 : decode cX1_act 93 = .ok (.ifCond .eq 9, 3) := by decide +kernel
theorem dX1_act_96 : decode cX1_act 96 = .ok (.aload_n 0, 1) := by decide +kernel
theorem dX1_act_97 : decode cX1_act 97 = .ok (.iload_n 2, 1) := by decide +kernel
theorem dX1_act_98 : decode cX1_act 98 = .ok (.iload_n 3, 1) := by decide +kernel
theorem dX1_act_99 : decode cX1_act 99 = .ok (.invokevirtual 149, 3) := by decide +kernel
theorem dX1_act_102 : decode cX1_act 102 = .ok (.return_, 1) := by decide +kernel
theorem dX1_begin_0 : decode cX1_begin 0 = .ok (.aload_n 0, 1) := by decide +kernel
theorem dX1_begin_1 : decode cX1_begin 1 = .ok (.getfield 45, 3) := by decide +kernel
theorem dX1_begin_4 : decode cX1_begin 4 = .ok (.invokevirtual 152, 3) := by decide +kernel
theorem dX1_begin_7 : decode cX1_begin 7 = .ok (.istore_n 2, 1) := by decide +kernel
theorem dX1_begin_8 : decode cX1_begin 8 = .ok (.iload_n 2, 1) := by decide +kernel
theorem dX1_begin_9 : decode cX1_begin 9 = .ok (.iconst (-1), 1) := by decide +kernel
theorem dX1_begin_10 : decode cX1_begin 10 = .ok (.if_icmp .ne 4, 3) := by decide +kernel
theorem dX1_begin_13 : decode cX1_begin 13 = .ok (.return_, 1) := by decide +kernel
theorem dX1_begin_14 : decode cX1_begin 14 = .ok (.aload_n 0, 1) := by decide +kernel
theorem dX1_begin_15 : decode cX1_begin 15 = .ok (.getfield 52, 3) := by decide +kernel
theorem dX1_begin_18 : decode cX1_begin 18 = .ok (.iload_n 1, 1) := by decide +kernel
theorem dX1_begin_19 : decode cX1_begin 19 = .ok (.iload_n 2, 1) := by decide +kernel
theorem dX1_begin_20 : decode cX1_begin 20 = .ok (.aload_n 0, 1) := by decide +kernel
theorem dX1_begin_21 : decode cX1_begin 21 = .ok (.getfield 9, 3) := by decide +kernel
theorem dX1_begin_24 : decode cX1_begin 24 = .ok (.getfield 156, 3) := by decide +kernel
theorem dX1_begin_27 : decode cX1_begin 27 = .ok (.iload_n 2, 1) := by decide +kernel
theorem dX1_begin_28 : decode cX1_begin 28 = .ok (.laload, 1) := by decide +kernel
theorem dX1_begin_29 : decode cX1_begin 29 = .ok (.invokevirtual 159, 3) := by decide +kernel
theorem dX1_begin_32 : decode cX1_begin 32 = .ok (.aload_n 0, 1) := by decide +kernel
theorem dX1_begin_33 : decode cX1_begin 33 = .ok (.getfield 29, 3) := by decide +kernel
theorem dX1_begin_36 : decode cX1_begin 36 = .ok (.iload_n 2, 1) := by decide +kernel
theorem dX1_begin_37 : decode cX1_begin 37 = .ok (.dup2, 1) := by decide +kernel
theorem dX1_begin_38 : decode cX1_begin 38 = .ok (.iaload, 1) := by decide +kernel
theorem dX1_begin_39 : decode cX1_begin 39 = .ok (.iconst 1, 1) := by decide +kernel
theorem dX1_begin_40 : decode cX1_begin 40 = .ok (.iadd, 1) := by decide +kernel
theorem dX1_begin_41 : decode cX1_begin 41 = .ok (.iastore, 1) := by decide +kernel
theorem dX1_begin_42 : decode cX1_begin 42 = .ok (.aload_n 0, 1) := by decide +kernel
theorem dX1_begin_43 : decode cX1_begin 43 = .ok (.dup, 1) := by decide +kernel
theorem dX1_begin_44 : decode cX1_begin 44 = .ok (.getfield 74, 3) := by decide +kernel
theorem dX1_begin_47 : decode cX1_begin 47 = .ok (.iconst 1, 1) := by decide +kernel
theorem dX1_begin_48 : decode cX1_begin 48 = .ok (.iadd, 1) := by decide +kernel
theorem dX1_begin_49 : decode cX1_begin 49 = .ok (.putfield 74, 3) := by decide +kernel
theorem dX1_begin_52 : decode cX1_begin 52 = .ok (.return_, 1) := by decide +kernel
theorem dX1_goOn_0 : decode cX1_goOn 0 = .ok (.aload_n 0, 1) := by decide +kernel
theorem dX1_goOn_1 : decode cX1_goOn 1 = .ok (.getfield 52, 3) := by decide +kernel
theorem dX1_goOn_4 : decode cX1_goOn 4 = .ok (.getfield 163, 3) := by decide +kernel
theorem dX1_goOn_7 : decode cX1_goOn 7 = .ok (.iload_n 1, 1) := by decide +kernel
theorem dX1_goOn_8 : decode cX1_goOn 8 = .ok (.aload_n 0, 1) := by decide +kernel
theorem dX1_goOn_9 : decode cX1_goOn 9 = .ok (.getfield 52, 3) := by decide +kernel
theorem dX1_goOn_12 : decode cX1_goOn 12 = .ok (.getfield 163, 3) := by decide +kernel
theorem dX1_goOn_15 : decode cX1_goOn 15 = .ok (.iload_n 1, 1) := by decide +kernel
theorem dX1_goOn_16 : decode cX1_goOn 16 = .ok (.laload, 1) := by decide +kernel
theorem dX1_goOn_17 : decode cX1_goOn 17 = .ok (.aload_n 0, 1) := by decide +kernel
theorem dX1_goOn_18 : decode cX1_goOn 18 = .ok (.getfield 9, 3) := by decide +kernel
theorem dX1_goOn_21 : decode cX1_goOn 21 = .ok (.getfield 156, 3) := by decide +kernel
theorem dX1_goOn_24 : decode cX1_goOn 24 = .ok (.iload_n 2, 1) := by decide +kernel
theorem dX1_goOn_25 : decode cX1_goOn 25 = .ok (.laload, 1) := by decide +kernel
theorem dX1_goOn_26 : decode cX1_goOn 26 = .ok (.aload_n 0, 1) := by decide +kernel
theorem dX1_goOn_27 : decode cX1_goOn 27 = .ok (.getfield 52, 3) := by decide +kernel
theorem dX1_goOn_30 : decode cX1_goOn 30 = .ok (.getfield 129, 3) := by decide +kernel
theorem dX1_goOn_33 : decode cX1_goOn 33 = .ok (.iload_n 1, 1) := by decide +kernel
theorem dX1_goOn_34 : decode cX1_goOn 34 = .ok (.iaload, 1) := by decide +kernel
theorem dX1_goOn_35 : decode cX1_goOn 35 = .ok (.invokestatic 166, 3) := by decide +kernel
theorem dX1_goOn_38 : decode cX1_goOn 38 = .ok (.lastore, 1) := by decide +kernel
theorem dX1_goOn_39 : decode cX1_goOn 39 = .ok (.aload_n 0, 1) := by decide +kernel
theorem dX1_goOn_40 : decode cX1_goOn 40 = .ok (.getfield 52, 3) := by decide +kernel
theorem dX1_goOn_43 : decode cX1_goOn 43 = .ok (.getfield 129, 3) := by decide +kernel
theorem dX1_goOn_46 : decode cX1_goOn 46 = .ok (.iload_n 1, 1) := by decide +kernel
theorem dX1_goOn_47 : decode cX1_goOn 47 = .ok (.dup2, 1) := by decide +kernel
theorem dX1_goOn_48 : decode cX1_goOn 48 = .ok (.iaload, 1) := by decide +kernel
theorem dX1_goOn_49 : decode cX1_goOn 49 = .ok (.iconst 1, 1) := by decide +kernel
theorem dX1_goOn_50 : decode cX1_goOn 50 = .ok (.iadd, 1) := by decide +kernel
theorem dX1_goOn_51 : decode cX1_goOn 51 = .ok (.iastore, 1) := by decide +kernel
theorem dX1_goOn_52 : decode cX1_goOn 52 = .ok (.aload_n 0, 1) := by decide +kernel
theorem dX1_goOn_53 : decode cX1_goOn 53 = .ok (.dup, 1) := by decide +kernel
theorem dX1_goOn_54 : decode cX1_goOn 54 = .ok (.getfield 65, 3) := by decide +kernel
theorem dX1_goOn_57 : decode cX1_goOn 57 = .ok (.iconst 1, 1) := by decide +kernel
theorem dX1_goOn_58 : decode cX1_goOn 58 = .ok (.iadd, 1) := by decide +kernel
theorem dX1_goOn_59 : decode cX1_goOn 59 = .ok (.putfield 65, 3) := by decide +kernel
theorem dX1_goOn_62 : decode cX1_goOn 62 = .ok (.return_, 1) := by decide +kernel
theorem dX1_finish_0 : decode cX1_finish 0 = .ok (.aload_n 0, 1) := by decide +kernel
theorem dX1_finish_1 : decode cX1_finish 1 = .ok (.getfield 36, 3) := by decide +kernel
theorem dX1_finish_4 : decode cX1_finish 4 = .ok (.iload_n 2, 1) := by decide +kernel
theorem dX1_finish_5 : decode cX1_finish 5 = .ok (.aload_n 0, 1) := by decide +kernel
theorem dX1_finish_6 : decode cX1_finish 6 = .ok (.getfield 52, 3) := by decide +kernel
theorem dX1_finish_9 : decode cX1_finish 9 = .ok (.getfield 163, 3) := by decide +kernel
theorem dX1_finish_12 : decode cX1_finish 12 = .ok (.iload_n 1, 1) := by decide +kernel
theorem dX1_finish_13 : decode cX1_finish 13 = .ok (.laload, 1) := by decide +kernel
theorem dX1_finish_14 : decode cX1_finish 14 = .ok (.lastore, 1) := by decide +kernel
theorem dX1_finish_15 : decode cX1_finish 15 = .ok (.aload_n 0, 1) := by decide +kernel
theorem dX1_finish_16 : decode cX1_finish 16 = .ok (.getfield 33, 3) := by decide +kernel
theorem dX1_finish_19 : decode cX1_finish 19 = .ok (.iload_n 2, 1) := by decide +kernel
theorem dX1_finish_20 : decode cX1_finish 20 = .ok (.iload_n 1, 1) := by decide +kernel
theorem dX1_finish_21 : decode cX1_finish 21 = .ok (.iastore, 1) := by decide +kernel
theorem dX1_finish_22 : decode cX1_finish 22 = .ok (.aload_n 0, 1) := by decide +kernel
theorem dX1_finish_23 : decode cX1_finish 23 = .ok (.getfield 52, 3) := by decide +kernel
theorem dX1_finish_26 : decode cX1_finish 26 = .ok (.getfield 123, 3) := by decide +kernel
theorem dX1_finish_29 : decode cX1_finish 29 = .ok (.iload_n 1, 1) := by decide +kernel
theorem dX1_finish_30 : decode cX1_finish 30 = .ok (.iconst (-1), 1) := by decide +kernel
theorem dX1_finish_31 : decode cX1_finish 31 = .ok (.iastore, 1) := by decide +kernel
theorem dX1_finish_32 : decode cX1_finish 32 = .ok (.aload_n 0, 1) := by decide +kernel
theorem dX1_finish_33 : decode cX1_finish 33 = .ok (.dup, 1) := by decide +kernel
theorem dX1_finish_34 : decode cX1_finish 34 = .ok (.getfield 107, 3) := by decide +kernel
theorem dX1_finish_37 : decode cX1_finish 37 = .ok (.iconst 1, 1) := by decide +kernel
theorem dX1_finish_38 : decode cX1_finish 38 = .ok (.isub, 1) := by decide +kernel
theorem dX1_finish_39 : decode cX1_finish 39 = .ok (.putfield 107, 3) := by decide +kernel
theorem dX1_finish_42 : decode cX1_finish 42 = .ok (.return_, 1) := by decide +kernel
theorem dX1_breakDown_0 : decode cX1_breakDown 0 = .ok (.aload_n 0, 1) := by decide +kernel
theorem dX1_breakDown_1 : decode cX1_breakDown 1 = .ok (.getfield 19, 3) := by decide +kernel
theorem dX1_breakDown_4 : decode cX1_breakDown 4 = .ok (.iload_n 2, 1) := by decide +kernel
theorem dX1_breakDown_5 : decode cX1_breakDown 5 = .ok (.iload_n 3, 1) := by decide +kernel
theorem dX1_breakDown_6 : decode cX1_breakDown 6 = .ok (.invokevirtual 170, 3) := by decide +kernel
theorem dX1_breakDown_9 : decode cX1_breakDown 9 = .ok (.aload_n 0, 1) := by decide +kernel
theorem dX1_breakDown_10 : decode cX1_breakDown 10 = .ok (.getfield 52, 3) := by decide +kernel
theorem dX1_breakDown_13 : decode cX1_breakDown 13 = .ok (.iload_n 1, 1) := by decide +kernel
theorem dX1_breakDown_14 : decode cX1_breakDown 14 = .ok (.invokevirtual 173, 3) := by decide +kernel
theorem dX1_breakDown_17 : decode cX1_breakDown 17 = .ok (.aload_n 0, 1) := by decide +kernel
theorem dX1_breakDown_18 : decode cX1_breakDown 18 = .ok (.dup, 1) := by decide +kernel
theorem dX1_breakDown_19 : decode cX1_breakDown 19 = .ok (.getfield 68, 3) := by decide +kernel
theorem dX1_breakDown_22 : decode cX1_breakDown 22 = .ok (.iconst 1, 1) := by decide +kernel
theorem dX1_breakDown_23 : decode cX1_breakDown 23 = .ok (.iadd, 1) := by decide +kernel
theorem dX1_breakDown_24 : decode cX1_breakDown 24 = .ok (.putfield 68, 3) := by decide +kernel
theorem dX1_breakDown_27 : decode cX1_breakDown 27 = .ok (.aload_n 0, 1) := by decide +kernel
theorem dX1_breakDown_28 : decode cX1_breakDown 28 = .ok (.getfield 45, 3) := by decide +kernel
theorem dX1_breakDown_31 : decode cX1_breakDown 31 = .ok (.iload_n 3, 1) := by decide +kernel
theorem dX1_breakDown_32 : decode cX1_breakDown 32 = .ok (.invokevirtual 176, 3) := by decide +kernel
theorem dX1_breakDown_35 : decode cX1_breakDown 35 = .ok (.return_, 1) := by decide +kernel
theorem dX2_init_0 : decode cX2_init 0 = .ok (.aload_n 0, 1) := by decide +kernel
theorem dX2_init_1 : decode cX2_init 1 = .ok (.invokespecial 3, 3) := by decide +kernel
theorem dX2_init_4 : decode cX2_init 4 = .ok (.aload_n 0, 1) := by decide +kernel
theorem dX2_init_5 : decode cX2_init 5 = .ok (.bipush 16, 2) := by decide +kernel
theorem dX2_init_7 : decode cX2_init 7 = .ok (.newarray .int, 2) := by decide +kernel
theorem dX2_init_9 : decode cX2_init 9 = .ok (.putfield 9, 3) := by decide +kernel
theorem dX2_init_12 : decode cX2_init 12 = .ok (.aload_n 0, 1) := by decide +kernel
theorem dX2_init_13 : decode cX2_init 13 = .ok (.bipush 16, 2) := by decide +kernel
theorem dX2_init_15 : decode cX2_init 15 = .ok (.newarray .int, 2) := by decide +kernel
theorem dX2_init_17 : decode cX2_init 17 = .ok (.putfield 15, 3) := by decide +kernel
theorem dX2_init_20 : decode cX2_init 20 = .ok (.aload_n 0, 1) := by decide +kernel
theorem dX2_init_21 : decode cX2_init 21 = .ok (.bipush 16, 2) := by decide +kernel
theorem dX2_init_23 : decode cX2_init 23 = .ok (.newarray .long, 2) := by decide +kernel
theorem dX2_init_25 : decode cX2_init 25 = .ok (.putfield 18, 3) := by decide +kernel
theorem dX2_init_28 : decode cX2_init 28 = .ok (.aload_n 0, 1) := by decide +kernel
theorem dX2_init_29 : decode cX2_init 29 = .ok (.bipush 16, 2) := by decide +kernel
theorem dX2_init_31 : decode cX2_init 31 = .ok (.newarray .int, 2) := by decide +kernel
theorem dX2_init_33 : decode cX2_init 33 = .ok (.putfield 22, 3) := by decide +kernel
theorem dX2_init_36 : decode cX2_init 36 = .ok (.return_, 1) := by decide +kernel
theorem dX2_gather_0 : decode cX2_gather 0 = .ok (.aload_n 0, 1) := by decide +kernel
theorem dX2_gather_1 : decode cX2_gather 1 = .ok (.iload_n 1, 1) := by decide +kernel
theorem dX2_gather_2 : decode cX2_gather 2 = .ok (.putfield 25, 3) := by decide +kernel
theorem dX2_gather_5 : decode cX2_gather 5 = .ok (.iconst 0, 1) := by decide +kernel
theorem dX2_gather_6 : decode cX2_gather 6 = .ok (.istore_n 2, 1) := by decide +kernel
theorem dX2_gather_7 : decode cX2_gather 7 = .ok (.iload_n 2, 1) := by decide +kernel
theorem dX2_gather_8 : decode cX2_gather 8 = .ok (.iload_n 1, 1) := by decide +kernel
theorem dX2_gather_9 : decode cX2_gather 9 = .ok (.if_icmp .ge 23, 3) := by decide +kernel
theorem dX2_gather_12 : decode cX2_gather 12 = .ok (.aload_n 0, 1) := by decide +kernel
theorem dX2_gather_13 : decode cX2_gather 13 = .ok (.getfield 22, 3) := by decide +kernel
theorem dX2_gather_16 : decode cX2_gather 16 = .ok (.iload_n 2, 1) := by decide +kernel
theorem dX2_gather_17 : decode cX2_gather 17 = .ok (.iload_n 2, 1) := by decide +kernel
theorem dX2_gather_18 : decode cX2_gather 18 = .ok (.iastore, 1) := by decide +kernel
theorem dX2_gather_19 : decode cX2_gather 19 = .ok (.aload_n 0, 1) := by decide +kernel
theorem dX2_gather_20 : decode cX2_gather 20 = .ok (.getfield 9, 3) := by decide +kernel
theorem dX2_gather_23 : decode cX2_gather 23 = .ok (.iload_n 2, 1) := by decide +kernel
theorem dX2_gather_24 : decode cX2_gather 24 = .ok (.iconst (-1), 1) := by decide +kernel
theorem dX2_gather_25 : decode cX2_gather 25 = .ok (.iastore, 1) := by decide +kernel
theorem dX2_gather_26 : decode cX2_gather 26 = .ok (.iinc 2 1, 3) := by decide +kernel
theorem dX2_gather_29 : decode cX2_gather 29 = .ok (.goto (-22), 3) := by decide +kernel
theorem dX2_gather_32 : decode cX2_gather 32 = .ok (.return_, 1) := by decide +kernel
theorem dX2_liveAt_0 : decode cX2_liveAt 0 = .ok (.aload_n 0, 1) := by decide +kernel
theorem dX2_liveAt_1 : decode cX2_liveAt 1 = .ok (.getfield 22, 3) := by decide +kernel
theorem dX2_liveAt_4 : decode cX2_liveAt 4 = .ok (.iload_n 1, 1) := by decide +kernel
theorem dX2_liveAt_5 : decode cX2_liveAt 5 = .ok (.iaload, 1) := by decide +kernel
theorem dX2_liveAt_6 : decode cX2_liveAt 6 = .ok (.ireturn, 1) := by decide +kernel
theorem dX2_give_0 : decode cX2_give 0 = .ok (.aload_n 0, 1) := by decide +kernel
theorem dX2_give_1 : decode cX2_give 1 = .ok (.getfield 9, 3) := by decide +kernel
theorem dX2_give_4 : decode cX2_give 4 = .ok (.iload_n 1, 1) := by decide +kernel
theorem dX2_give_5 : decode cX2_give 5 = .ok (.iload_n 2, 1) := by decide +kernel
theorem dX2_give_6 : decode cX2_give 6 = .ok (.iastore, 1) := by decide +kernel
theorem dX2_give_7 : decode cX2_give 7 = .ok (.aload_n 0, 1) := by decide +kernel
theorem dX2_give_8 : decode cX2_give 8 = .ok (.getfield 15, 3) := by decide +kernel
theorem dX2_give_11 : decode cX2_give 11 = .ok (.iload_n 1, 1) := by decide +kernel
theorem dX2_give_12 : decode cX2_give 12 = .ok (.iconst 0, 1) := by decide +kernel
theorem dX2_give_13 : decode cX2_give 13 = .ok (.iastore, 1) := by decide +kernel
theorem dX2_give_14 : decode cX2_give 14 = .ok (.aload_n 0, 1) := by decide +kernel
theorem dX2_give_15 : decode cX2_give 15 = .ok (.getfield 18, 3) := by decide +kernel
theorem dX2_give_18 : decode cX2_give 18 = .ok (.iload_n 1, 1) := by decide +kernel
theorem dX2_give_19 : decode cX2_give 19 = .ok (.lload_n 3, 1) := by decide +kernel
theorem dX2_give_20 : decode cX2_give 20 = .ok (.lastore, 1) := by decide +kernel
theorem dX2_give_21 : decode cX2_give 21 = .ok (.return_, 1) := by decide +kernel
theorem dX2_dropAt_0 : decode cX2_dropAt 0 = .ok (.aload_n 0, 1) := by decide +kernel
theorem dX2_dropAt_1 : decode cX2_dropAt 1 = .ok (.dup, 1) := by decide +kernel
theorem dX2_dropAt_2 : decode cX2_dropAt 2 = .ok (.getfield 25, 3) := by decide +kernel
theorem dX2_dropAt_5 : decode cX2_dropAt 5 = .ok (.iconst 1, 1) := by decide +kernel
theorem dX2_dropAt_6 : decode cX2_dropAt 6 = .ok (.isub, 1) := by decide +kernel
theorem dX2_dropAt_7 : decode cX2_dropAt 7 = .ok (.putfield 25, 3) := by decide +kernel
theorem dX2_dropAt_10 : decode cX2_dropAt 10 = .ok (.iload_n 1, 1) := by decide +kernel
theorem dX2_dropAt_11 : decode cX2_dropAt 11 = .ok (.istore_n 2, 1) := by decide +kernel
theorem dX2_dropAt_12 : decode cX2_dropAt 12 = .ok (.iload_n 2, 1) := by decide +kernel
theorem dX2_dropAt_13 : decode cX2_dropAt 13 = .ok (.aload_n 0, 1) := by decide +kernel
theorem dX2_dropAt_14 : decode cX2_dropAt 14 = .ok (.getfield 25, 3) := by decide +kernel
theorem dX2_dropAt_17 : decode cX2_dropAt 17 = .ok (.if_icmp .ge 23, 3) := by decide +kernel
theorem dX2_dropAt_20 : decode cX2_dropAt 20 = .ok (.aload_n 0, 1) := by decide +kernel
theorem dX2_dropAt_21 : decode cX2_dropAt 21 = .ok (.getfield 22, 3) := by decide +kernel
theorem dX2_dropAt_24 : decode cX2_dropAt 24 = .ok (.iload_n 2, 1) := by decide +kernel
theorem dX2_dropAt_25 : decode cX2_dropAt 25 = .ok (.aload_n 0, 1) := by decide +kernel
theorem dX2_dropAt_26 : decode cX2_dropAt 26 = .ok (.getfield 22, 3) := by decide +kernel
theorem dX2_dropAt_29 : decode cX2_dropAt 29 = .ok (.iload_n 2, 1) := by decide +kernel
theorem dX2_dropAt_30 : decode cX2_dropAt 30 = .ok (.iconst 1, 1) := by decide +kernel
theorem dX2_dropAt_31 : decode cX2_dropAt 31 = .ok (.iadd, 1) := by decide +kernel
theorem dX2_dropAt_32 : decode cX2_dropAt 32 = .ok (.iaload, 1) := by decide +kernel
theorem dX2_dropAt_33 : decode cX2_dropAt 33 = .ok (.iastore, 1) := by decide +kernel
theorem dX2_dropAt_34 : decode cX2_dropAt 34 = .ok (.iinc 2 1, 3) := by decide +kernel
theorem dX2_dropAt_37 : decode cX2_dropAt 37 = .ok (.goto (-25), 3) := by decide +kernel
theorem dX2_dropAt_40 : decode cX2_dropAt 40 = .ok (.return_, 1) := by decide +kernel
theorem dX3_init_0 : decode cX3_init 0 = .ok (.aload_n 0, 1) := by decide +kernel
theorem dX3_init_1 : decode cX3_init 1 = .ok (.invokespecial 3, 3) := by decide +kernel
theorem dX3_init_4 : decode cX3_init 4 = .ok (.aload_n 0, 1) := by decide +kernel
theorem dX3_init_5 : decode cX3_init 5 = .ok (.bipush 16, 2) := by decide +kernel
theorem dX3_init_7 : decode cX3_init 7 = .ok (.newarray .long, 2) := by decide +kernel
theorem dX3_init_9 : decode cX3_init 9 = .ok (.putfield 9, 3) := by decide +kernel
theorem dX3_init_12 : decode cX3_init 12 = .ok (.return_, 1) := by decide +kernel
theorem dX3_reset_0 : decode cX3_reset 0 = .ok (.aload_n 0, 1) := by decide +kernel
theorem dX3_reset_1 : decode cX3_reset 1 = .ok (.iconst 0, 1) := by decide +kernel
theorem dX3_reset_2 : decode cX3_reset 2 = .ok (.putfield 15, 3) := by decide +kernel
theorem dX3_reset_5 : decode cX3_reset 5 = .ok (.iconst 0, 1) := by decide +kernel
theorem dX3_reset_6 : decode cX3_reset 6 = .ok (.istore_n 1, 1) := by decide +kernel
theorem dX3_reset_7 : decode cX3_reset 7 = .ok (.iload_n 1, 1) := by decide +kernel
theorem dX3_reset_8 : decode cX3_reset 8 = .ok (.bipush 16, 2) := by decide +kernel
theorem dX3_reset_10 : decode cX3_reset 10 = .ok (.if_icmp .ge 16, 3) := by decide +kernel
theorem dX3_reset_13 : decode cX3_reset 13 = .ok (.aload_n 0, 1) := by decide +kernel
theorem dX3_reset_14 : decode cX3_reset 14 = .ok (.getfield 9, 3) := by decide +kernel
theorem dX3_reset_17 : decode cX3_reset 17 = .ok (.iload_n 1, 1) := by decide +kernel
theorem dX3_reset_18 : decode cX3_reset 18 = .ok (.lconst 0, 1) := by decide +kernel
theorem dX3_reset_19 : decode cX3_reset 19 = .ok (.lastore, 1) := by decide +kernel
theorem dX3_reset_20 : decode cX3_reset 20 = .ok (.iinc 1 1, 3) := by decide +kernel
theorem dX3_reset_23 : decode cX3_reset 23 = .ok (.goto (-16), 3) := by decide +kernel
theorem dX3_reset_26 : decode cX3_reset 26 = .ok (.return_, 1) := by decide +kernel
theorem dX3_has_0 : decode cX3_has 0 = .ok (.aload_n 0, 1) := by decide +kernel
theorem dX3_has_1 : decode cX3_has 1 = .ok (.getfield 9, 3) := by decide +kernel
theorem dX3_has_4 : decode cX3_has 4 = .ok (.iload_n 1, 1) := by decide +kernel
theorem dX3_has_5 : decode cX3_has 5 = .ok (.laload, 1) := by decide +kernel
theorem dX3_has_6 : decode cX3_has 6 = .ok (.lconst 1, 1) := by decide +kernel
theorem dX3_has_7 : decode cX3_has 7 = .ok (.iload_n 2, 1) := by decide +kernel
theorem dX3_has_8 : decode cX3_has 8 = .ok (.lshl, 1) := by decide +kernel
theorem dX3_has_9 : decode cX3_has 9 = .ok (.land, 1) := by decide +kernel
theorem dX3_has_10 : decode cX3_has 10 = .ok (.lconst 0, 1) := by decide +kernel
theorem dX3_has_11 : decode cX3_has 11 = .ok (.lcmp, 1) := by decide +kernel
theorem dX3_has_12 : decode cX3_has 12 = .ok (.ifCond .eq 7, 3) := by decide +kernel
theorem dX3_has_15 : decode cX3_has 15 = .ok (.iconst 1, 1) := by decide +kernel
theorem dX3_has_16 : decode cX3_has 16 = .ok (.goto 4, 3) := by decide +kernel
theorem dX3_has_19 : decode cX3_has 19 = .ok (.iconst 0, 1) := by decide +kernel
theorem dX3_has_20 : decode cX3_has 20 = .ok (.ireturn, 1) := by decide +kernel
theorem dX3_add_0 : decode cX3_add 0 = .ok (.aload_n 0, 1) := by decide +kernel
theorem dX3_add_1 : decode cX3_add 1 = .ok (.getfield 9, 3) := by decide +kernel
theorem dX3_add_4 : decode cX3_add 4 = .ok (.iload_n 1, 1) := by decide +kernel
theorem dX3_add_5 : decode cX3_add 5 = .ok (.dup2, 1) := by decide +kernel
theorem dX3_add_6 : decode cX3_add 6 = .ok (.laload, 1) := by decide +kernel
theorem dX3_add_7 : decode cX3_add 7 = .ok (.lconst 1, 1) := by decide +kernel
theorem dX3_add_8 : decode cX3_add 8 = .ok (.iload_n 2, 1) := by decide +kernel
theorem dX3_add_9 : decode cX3_add 9 = .ok (.lshl, 1) := by decide +kernel
theorem dX3_add_10 : decode cX3_add 10 = .ok (.lor, 1) := by decide +kernel
theorem dX3_add_11 : decode cX3_add 11 = .ok (.lastore, 1) := by decide +kernel
theorem dX3_add_12 : decode cX3_add 12 = .ok (.aload_n 0, 1) := by decide +kernel
theorem dX3_add_13 : decode cX3_add 13 = .ok (.dup, 1) := by decide +kernel
theorem dX3_add_14 : decode cX3_add 14 = .ok (.getfield 15, 3) := by decide +kernel
theorem dX3_add_17 : decode cX3_add 17 = .ok (.iconst 1, 1) := by decide +kernel
theorem dX3_add_18 : decode cX3_add 18 = .ok (.iadd, 1) := by decide +kernel
theorem dX3_add_19 : decode cX3_add 19 = .ok (.putfield 15, 3) := by decide +kernel
theorem dX3_add_22 : decode cX3_add 22 = .ok (.return_, 1) := by decide +kernel
theorem dX3_remove_0 : decode cX3_remove 0 = .ok (.aload_n 0, 1) := by decide +kernel
theorem dX3_remove_1 : decode cX3_remove 1 = .ok (.getfield 9, 3) := by decide +kernel
theorem dX3_remove_4 : decode cX3_remove 4 = .ok (.iload_n 1, 1) := by decide +kernel
theorem dX3_remove_5 : decode cX3_remove 5 = .ok (.dup2, 1) := by decide +kernel
theorem dX3_remove_6 : decode cX3_remove 6 = .ok (.laload, 1) := by decide +kernel
theorem dX3_remove_7 : decode cX3_remove 7 = .ok (.lconst 1, 1) := by decide +kernel
theorem dX3_remove_8 : decode cX3_remove 8 = .ok (.iload_n 2, 1) := by decide +kernel
theorem dX3_remove_9 : decode cX3_remove 9 = .ok (.lshl, 1) := by decide +kernel
theorem dX3_remove_10 : decode cX3_remove 10 = .ok (.ldc2_w 19, 3) := by decide +kernel
theorem dX3_remove_13 : decode cX3_remove 13 = .ok (.lxor, 1) := by decide +kernel
theorem dX3_remove_14 : decode cX3_remove 14 = .ok (.land, 1) := by decide +kernel
theorem dX3_remove_15 : decode cX3_remove 15 = .ok (.lastore, 1) := by decide +kernel
theorem dX3_remove_16 : decode cX3_remove 16 = .ok (.aload_n 0, 1) := by decide +kernel
theorem dX3_remove_17 : decode cX3_remove 17 = .ok (.dup, 1) := by decide +kernel
theorem dX3_remove_18 : decode cX3_remove 18 = .ok (.getfield 15, 3) := by decide +kernel
theorem dX3_remove_21 : decode cX3_remove 21 = .ok (.iconst 1, 1) := by decide +kernel
theorem dX3_remove_22 : decode cX3_remove 22 = .ok (.isub, 1) := by decide +kernel
theorem dX3_remove_23 : decode cX3_remove 23 = .ok (.putfield 15, 3) := by decide +kernel
theorem dX3_remove_26 : decode cX3_remove 26 = .ok (.return_, 1) := by decide +kernel
theorem dX4_init_0 : decode cX4_init 0 = .ok (.aload_n 0, 1) := by decide +kernel
theorem dX4_init_1 : decode cX4_init 1 = .ok (.invokespecial 3, 3) := by decide +kernel
theorem dX4_init_4 : decode cX4_init 4 = .ok (.aload_n 0, 1) := by decide +kernel
theorem dX4_init_5 : decode cX4_init 5 = .ok (.iload_n 1, 1) := by decide +kernel
theorem dX4_init_6 : decode cX4_init 6 = .ok (.newarray .int, 2) := by decide +kernel
theorem dX4_init_8 : decode cX4_init 8 = .ok (.putfield 9, 3) := by decide +kernel
theorem dX4_init_11 : decode cX4_init 11 = .ok (.return_, 1) := by decide +kernel
theorem dX4_fill_0 : decode cX4_fill 0 = .ok (.aload_n 0, 1) := by decide +kernel
theorem dX4_fill_1 : decode cX4_fill 1 = .ok (.iconst 0, 1) := by decide +kernel
theorem dX4_fill_2 : decode cX4_fill 2 = .ok (.putfield 15, 3) := by decide +kernel
theorem dX4_fill_5 : decode cX4_fill 5 = .ok (.aload_n 0, 1) := by decide +kernel
theorem dX4_fill_6 : decode cX4_fill 6 = .ok (.iconst 0, 1) := by decide +kernel
theorem dX4_fill_7 : decode cX4_fill 7 = .ok (.putfield 19, 3) := by decide +kernel
theorem dX4_fill_10 : decode cX4_fill 10 = .ok (.iconst 0, 1) := by decide +kernel
theorem dX4_fill_11 : decode cX4_fill 11 = .ok (.istore_n 3, 1) := by decide +kernel
theorem dX4_fill_12 : decode cX4_fill 12 = .ok (.iload_n 3, 1) := by decide +kernel
theorem dX4_fill_13 : decode cX4_fill 13 = .ok (.aload_n 0, 1) := by decide +kernel
theorem dX4_fill_14 : decode cX4_fill 14 = .ok (.getfield 9, 3) := by decide +kernel
theorem dX4_fill_17 : decode cX4_fill 17 = .ok (.arraylength, 1) := by decide +kernel
theorem dX4_fill_18 : decode cX4_fill 18 = .ok (.if_icmp .ge 39, 3) := by decide +kernel
theorem dX4_fill_21 : decode cX4_fill 21 = .ok (.aload_n 1, 1) := by decide +kernel
theorem dX4_fill_22 : decode cX4_fill 22 = .ok (.getfield 22, 3) := by decide +kernel
theorem dX4_fill_25 : decode cX4_fill 25 = .ok (.iload_n 3, 1) := by decide +kernel
theorem dX4_fill_26 : decode cX4_fill 26 = .ok (.iaload, 1) := by decide +kernel
theorem dX4_fill_27 : decode cX4_fill 27 = .ok (.iload_n 2, 1) := by decide +kernel
theorem dX4_fill_28 : decode cX4_fill 28 = .ok (.if_icmp .ne 23, 3) := by decide +kernel
theorem dX4_fill_31 : decode cX4_fill 31 = .ok (.aload_n 0, 1) := by decide +kernel
theorem dX4_fill_32 : decode cX4_fill 32 = .ok (.getfield 9, 3) := by decide +kernel
theorem dX4_fill_35 : decode cX4_fill 35 = .ok (.aload_n 0, 1) := by decide +kernel
theorem dX4_fill_36 : decode cX4_fill 36 = .ok (.getfield 19, 3) := by decide +kernel
theorem dX4_fill_39 : decode cX4_fill 39 = .ok (.iload_n 3, 1) := by decide +kernel
theorem dX4_fill_40 : decode cX4_fill 40 = .ok (.iastore, 1) := by decide +kernel
theorem dX4_fill_41 : decode cX4_fill 41 = .ok (.aload_n 0, 1) := by decide +kernel
theorem dX4_fill_42 : decode cX4_fill 42 = .ok (.dup, 1) := by decide +kernel
theorem dX4_fill_43 : decode cX4_fill 43 = .ok (.getfield 19, 3) := by decide +kernel
theorem dX4_fill_46 : decode cX4_fill 46 = .ok (.iconst 1, 1) := by decide +kernel
theorem dX4_fill_47 : decode cX4_fill 47 = .ok (.iadd, 1) := by decide +kernel
theorem dX4_fill_48 : decode cX4_fill 48 = .ok (.putfield 19, 3) := by decide +kernel
theorem dX4_fill_51 : decode cX4_fill 51 = .ok (.iinc 3 1, 3) := by decide +kernel
theorem dX4_fill_54 : decode cX4_fill 54 = .ok (.goto (-42), 3) := by decide +kernel
theorem dX4_fill_57 : decode cX4_fill 57 = .ok (.aload_n 0, 1) := by decide +kernel
theorem dX4_fill_58 : decode cX4_fill 58 = .ok (.getfield 19, 3) := by decide +kernel
theorem dX4_fill_61 : decode cX4_fill 61 = .ok (.ireturn, 1) := by decide +kernel
theorem dX4_takeFirst_0 : decode cX4_takeFirst 0 = .ok (.aload_n 0, 1) := by decide +kernel
theorem dX4_takeFirst_1 : decode cX4_takeFirst 1 = .ok (.getfield 15, 3) := by decide +kernel
theorem dX4_takeFirst_4 : decode cX4_takeFirst 4 = .ok (.aload_n 0, 1) := by decide +kernel
theorem dX4_takeFirst_5 : decode cX4_takeFirst 5 = .ok (.getfield 19, 3) := by decide +kernel
theorem dX4_takeFirst_8 : decode cX4_takeFirst 8 = .ok (.if_icmp .lt 5, 3) := by decide +kernel
theorem dX4_takeFirst_11 : decode cX4_takeFirst 11 = .ok (.iconst (-1), 1) := by decide +kernel
theorem dX4_takeFirst_12 : decode cX4_takeFirst 12 = .ok (.ireturn, 1) := by decide +kernel
theorem dX4_takeFirst_13 : decode cX4_takeFirst 13 = .ok (.aload_n 0, 1) := by decide +kernel
theorem dX4_takeFirst_14 : decode cX4_takeFirst 14 = .ok (.getfield 9, 3) := by decide +kernel
theorem dX4_takeFirst_17 : decode cX4_takeFirst 17 = .ok (.aload_n 0, 1) := by decide +kernel
theorem dX4_takeFirst_18 : decode cX4_takeFirst 18 = .ok (.getfield 15, 3) := by decide +kernel
theorem dX4_takeFirst_21 : decode cX4_takeFirst 21 = .ok (.iaload, 1) := by decide +kernel
theorem dX4_takeFirst_22 : decode cX4_takeFirst 22 = .ok (.istore_n 1, 1) := by decide +kernel
theorem dX4_takeFirst_23 : decode cX4_takeFirst 23 = .ok (.aload_n 0, 1) := by decide +kernel
theorem dX4_takeFirst_24 : decode cX4_takeFirst 24 = .ok (.dup, 1) := by decide +kernel
theorem dX4_takeFirst_25 : decode cX4_takeFirst 25 = .ok (.getfield 15, 3) := by decide +kernel
theorem dX4_takeFirst_28 : decode cX4_takeFirst 28 = .ok (.iconst 1, 1) := by decide +kernel
theorem dX4_takeFirst_29 : decode cX4_takeFirst 29 = .ok (.iadd, 1) := by decide +kernel
theorem dX4_takeFirst_30 : decode cX4_takeFirst 30 = .ok (.putfield 15, 3) := by decide +kernel
theorem dX4_takeFirst_33 : decode cX4_takeFirst 33 = .ok (.iload_n 1, 1) := by decide +kernel
theorem dX4_takeFirst_34 : decode cX4_takeFirst 34 = .ok (.ireturn, 1) := by decide +kernel
theorem dX4_putFirst_0 : decode cX4_putFirst 0 = .ok (.aload_n 0, 1) := by decide +kernel
theorem dX4_putFirst_1 : decode cX4_putFirst 1 = .ok (.getfield 15, 3) := by decide +kernel
theorem dX4_putFirst_4 : decode cX4_putFirst 4 = .ok (.ifCond .le 23, 3) := by decide +kernel
theorem dX4_putFirst_7 : decode cX4_putFirst 7 = .ok (.aload_n 0, 1) := by decide +kernel
theorem dX4_putFirst_8 : decode cX4_putFirst 8 = .ok (.dup, 1) := by decide +kernel
theorem dX4_putFirst_9 : decode cX4_putFirst 9 = .ok (.getfield 15, 3) := by decide +kernel
theorem dX4_putFirst_12 : decode cX4_putFirst 12 = .ok (.iconst 1, 1) := by decide +kernel
theorem dX4_putFirst_13 : decode cX4_putFirst 13 = .ok (.isub, 1) := by decide +kernel
theorem dX4_putFirst_14 : decode cX4_putFirst 14 = .ok (.putfield 15, 3) := by decide +kernel
theorem dX4_putFirst_17 : decode cX4_putFirst 17 = .ok (.aload_n 0, 1) := by decide +kernel
theorem dX4_putFirst_18 : decode cX4_putFirst 18 = .ok (.getfield 9, 3) := by decide +kernel
theorem dX4_putFirst_21 : decode cX4_putFirst 21 = .ok (.aload_n 0, 1) := by decide +kernel
theorem dX4_putFirst_22 : decode cX4_putFirst 22 = .ok (.getfield 15, 3) := by decide +kernel
theorem dX4_putFirst_25 : decode cX4_putFirst 25 = .ok (.iload_n 1, 1) := by decide +kernel
theorem dX4_putFirst_26 : decode cX4_putFirst 26 = .ok (.iastore, 1) := by decide +kernel
theorem dX4_putFirst_27 : decode cX4_putFirst 27 = .ok (.return_, 1) := by decide +kernel
theorem dX5_init_0 : decode cX5_init 0 = .ok (.aload_n 0, 1) := by decide +kernel
theorem dX5_init_1 : decode cX5_init 1 = .ok (.invokespecial 1, 3) := by decide +kernel
theorem dX5_init_4 : decode cX5_init 4 = .ok (.aload_n 0, 1) := by decide +kernel
theorem dX5_init_5 : decode cX5_init 5 = .ok (.iload_n 1, 1) := by decide +kernel
theorem dX5_init_6 : decode cX5_init 6 = .ok (.putfield 7, 3) := by decide +kernel
theorem dX5_init_9 : decode cX5_init 9 = .ok (.aload_n 0, 1) := by decide +kernel
theorem dX5_init_10 : decode cX5_init 10 = .ok (.iload_n 1, 1) := by decide +kernel
theorem dX5_init_11 : decode cX5_init 11 = .ok (.newarray .long, 2) := by decide +kernel
theorem dX5_init_13 : decode cX5_init 13 = .ok (.putfield 13, 3) := by decide +kernel
theorem dX5_init_16 : decode cX5_init 16 = .ok (.aload_n 0, 1) := by decide +kernel
theorem dX5_init_17 : decode cX5_init 17 = .ok (.iload_n 1, 1) := by decide +kernel
theorem dX5_init_18 : decode cX5_init 18 = .ok (.newarray .int, 2) := by decide +kernel
theorem dX5_init_20 : decode cX5_init 20 = .ok (.putfield 17, 3) := by decide +kernel
theorem dX5_init_23 : decode cX5_init 23 = .ok (.aload_n 0, 1) := by decide +kernel
theorem dX5_init_24 : decode cX5_init 24 = .ok (.iload_n 1, 1) := by decide +kernel
theorem dX5_init_25 : decode cX5_init 25 = .ok (.newarray .int, 2) := by decide +kernel
theorem dX5_init_27 : decode cX5_init 27 = .ok (.putfield 21, 3) := by decide +kernel
theorem dX5_init_30 : decode cX5_init 30 = .ok (.aload_n 0, 1) := by decide +kernel
theorem dX5_init_31 : decode cX5_init 31 = .ok (.iload_n 1, 1) := by decide +kernel
theorem dX5_init_32 : decode cX5_init 32 = .ok (.newarray .boolean, 2) := by decide +kernel
theorem dX5_init_34 : decode cX5_init 34 = .ok (.putfield 24, 3) := by decide +kernel
theorem dX5_init_37 : decode cX5_init 37 = .ok (.aload_n 0, 1) := by decide +kernel
theorem dX5_init_38 : decode cX5_init 38 = .ok (.invokevirtual 28, 3) := by decide +kernel
theorem dX5_init_41 : decode cX5_init 41 = .ok (.return_, 1) := by decide +kernel
theorem dX5_reset_0 : decode cX5_reset 0 = .ok (.iconst 0, 1) := by decide +kernel
theorem dX5_reset_1 : decode cX5_reset 1 = .ok (.istore_n 1, 1) := by decide +kernel
theorem dX5_reset_2 : decode cX5_reset 2 = .ok (.iload_n 1, 1) := by decide +kernel
theorem dX5_reset_3 : decode cX5_reset 3 = .ok (.aload_n 0, 1) := by decide +kernel
theorem dX5_reset_4 : decode cX5_reset 4 = .ok (.getfield 7, 3) := by decide +kernel
theorem dX5_reset_7 : decode cX5_reset 7 = .ok (.if_icmp .ge 37, 3) := by decide +kernel
theorem dX5_reset_10 : decode cX5_reset 10 = .ok (.aload_n 0, 1) := by decide +kernel
theorem dX5_reset_11 : decode cX5_reset 11 = .ok (.getfield 13, 3) := by decide +kernel
theorem dX5_reset_14 : decode cX5_reset 14 = .ok (.iload_n 1, 1) := by decide +kernel
theorem dX5_reset_15 : decode cX5_reset 15 = .ok (.lconst 0, 1) := by decide +kernel
theorem dX5_reset_16 : decode cX5_reset 16 = .ok (.lastore, 1) := by decide +kernel
theorem dX5_reset_17 : decode cX5_reset 17 = .ok (.aload_n 0, 1) := by decide +kernel
theorem dX5_reset_18 : decode cX5_reset 18 = .ok (.getfield 17, 3) := by decide +kernel
theorem dX5_reset_21 : decode cX5_reset 21 = .ok (.iload_n 1, 1) := by decide +kernel
theorem dX5_reset_22 : decode cX5_reset 22 = .ok (.iconst 1, 1) := by decide +kernel
theorem dX5_reset_23 : decode cX5_reset 23 = .ok (.iastore, 1) := by decide +kernel
theorem dX5_reset_24 : decode cX5_reset 24 = .ok (.aload_n 0, 1) := by decide +kernel
theorem dX5_reset_25 : decode cX5_reset 25 = .ok (.getfield 21, 3) := by decide +kernel
theorem dX5_reset_28 : decode cX5_reset 28 = .ok (.iload_n 1, 1) := by decide +kernel
theorem dX5_reset_29 : decode cX5_reset 29 = .ok (.iconst 0, 1) := by decide +kernel
theorem dX5_reset_30 : decode cX5_reset 30 = .ok (.iastore, 1) := by decide +kernel
theorem dX5_reset_31 : decode cX5_reset 31 = .ok (.aload_n 0, 1) := by decide +kernel
theorem dX5_reset_32 : decode cX5_reset 32 = .ok (.getfield 24, 3) := by decide +kernel
theorem dX5_reset_35 : decode cX5_reset 35 = .ok (.iload_n 1, 1) := by decide +kernel
theorem dX5_reset_36 : decode cX5_reset 36 = .ok (.iconst 0, 1) := by decide +kernel
theorem dX5_reset_37 : decode cX5_reset 37 = .ok (.bastore, 1) := by decide +kernel
theorem dX5_reset_38 : decode cX5_reset 38 = .ok (.iinc 1 1, 3) := by decide +kernel
theorem dX5_reset_41 : decode cX5_reset 41 = .ok (.goto (-39), 3) := by decide +kernel
theorem dX5_reset_44 : decode cX5_reset 44 = .ok (.return_, 1) := by decide +kernel
theorem dX5_has_0 : decode cX5_has 0 = .ok (.iload_n 1, 1) := by decide +kernel
theorem dX5_has_1 : decode cX5_has 1 = .ok (.ifCond .lt 15, 3) := by decide +kernel
theorem dX5_has_4 : decode cX5_has 4 = .ok (.iload_n 1, 1) := by decide +kernel
theorem dX5_has_5 : decode cX5_has 5 = .ok (.aload_n 0, 1) := by decide +kernel
theorem dX5_has_6 : decode cX5_has 6 = .ok (.getfield 7, 3) := by decide +kernel
theorem dX5_has_9 : decode cX5_has 9 = .ok (.if_icmp .ge 7, 3) := by decide +kernel
theorem dX5_has_12 : decode cX5_has 12 = .ok (.iconst 1, 1) := by decide +kernel
theorem dX5_has_13 : decode cX5_has 13 = .ok (.goto 4, 3) := by decide +kernel
theorem dX5_has_16 : decode cX5_has 16 = .ok (.iconst 0, 1) := by decide +kernel
theorem dX5_has_17 : decode cX5_has 17 = .ok (.ireturn, 1) := by decide +kernel
theorem dX5_madeAlone_0 : decode cX5_madeAlone 0 = .ok (.aload_n 0, 1) := by decide +kernel
theorem dX5_madeAlone_1 : decode cX5_madeAlone 1 = .ok (.getfield 13, 3) := by decide +kernel
theorem dX5_madeAlone_4 : decode cX5_madeAlone 4 = .ok (.iload_n 1, 1) := by decide +kernel
theorem dX5_madeAlone_5 : decode cX5_madeAlone 5 = .ok (.laload, 1) := by decide +kernel
theorem dX5_madeAlone_6 : decode cX5_madeAlone 6 = .ok (.lstore_n 2, 1) := by decide +kernel
theorem dX5_madeAlone_7 : decode cX5_madeAlone 7 = .ok (.iconst 0, 1) := by decide +kernel
theorem dX5_madeAlone_8 : decode cX5_madeAlone 8 = .ok (.istore 4, 2) := by decide +kernel
theorem dX5_madeAlone_10 : decode cX5_madeAlone 10 = .ok (.iload 4, 2) := by decide +kernel
theorem dX5_madeAlone_12 : decode cX5_madeAlone 12 = .ok (.aload_n 0, 1) := by decide +kernel
theorem dX5_madeAlone_13 : decode cX5_madeAlone 13 = .ok (.getfield 17, 3) := by decide +kernel
theorem dX5_madeAlone_16 : decode cX5_madeAlone 16 = .ok (.iload_n 1, 1) := by decide +kernel
theorem dX5_madeAlone_17 : decode cX5_madeAlone 17 = .ok (.iaload, 1) := by decide +kernel
theorem dX5_madeAlone_18 : decode cX5_madeAlone 18 = .ok (.if_icmp .ge 22, 3) := by decide +kernel
theorem dX5_madeAlone_21 : decode cX5_madeAlone 21 = .ok (.lload_n 2, 1) := by decide +kernel
theorem dX5_madeAlone_22 : decode cX5_madeAlone 22 = .ok (.aload_n 0, 1) := by decide +kernel
theorem dX5_madeAlone_23 : decode cX5_madeAlone 23 = .ok (.getfield 13, 3) := by decide +kernel
theorem dX5_madeAlone_26 : decode cX5_madeAlone 26 = .ok (.iload_n 1, 1) := by decide +kernel
theorem dX5_madeAlone_27 : decode cX5_madeAlone 27 = .ok (.laload, 1) := by decide +kernel
theorem dX5_madeAlone_28 : decode cX5_madeAlone 28 = .ok (.iload 4, 2) := by decide +kernel
theorem dX5_madeAlone_30 : decode cX5_madeAlone 30 = .ok (.invokestatic 31, 3) := by decide +kernel
theorem dX5_madeAlone_33 : decode cX5_madeAlone 33 = .ok (.lstore_n 2, 1) := by decide +kernel
theorem dX5_madeAlone_34 : decode cX5_madeAlone 34 = .ok (.iinc 4 1, 3) := by decide +kernel
theorem dX5_madeAlone_37 : decode cX5_madeAlone 37 = .ok (.goto (-27), 3) := by decide +kernel
theorem dX5_madeAlone_40 : decode cX5_madeAlone 40 = .ok (.lload_n 2, 1) := by decide +kernel
theorem dX5_madeAlone_41 : decode cX5_madeAlone 41 = .ok (.lreturn, 1) := by decide +kernel
theorem dX6_init_0 : decode cX6_init 0 = .ok (.aload_n 0, 1) := by decide +kernel
theorem dX6_init_1 : decode cX6_init 1 = .ok (.invokespecial 1, 3) := by decide +kernel
theorem dX6_init_4 : decode cX6_init 4 = .ok (.iconst 1, 1) := by decide +kernel
theorem dX6_init_5 : decode cX6_init 5 = .ok (.iload_n 1, 1) := by decide +kernel
theorem dX6_init_6 : decode cX6_init 6 = .ok (.bipush 64, 2) := by decide +kernel
theorem dX6_init_8 : decode cX6_init 8 = .ok (.invokestatic 9, 3) := by decide +kernel
theorem dX6_init_11 : decode cX6_init 11 = .ok (.invokestatic 15, 3) := by decide +kernel
theorem dX6_init_14 : decode cX6_init 14 = .ok (.istore_n 2, 1) := by decide +kernel
theorem dX6_init_15 : decode cX6_init 15 = .ok (.aload_n 0, 1) := by decide +kernel
theorem dX6_init_16 : decode cX6_init 16 = .ok (.new 18, 3) := by decide +kernel
theorem dX6_init_19 : decode cX6_init 19 = .ok (.dup, 1) := by decide +kernel
theorem dX6_init_20 : decode cX6_init 20 = .ok (.iload_n 2, 1) := by decide +kernel
theorem dX6_init_21 : decode cX6_init 21 = .ok (.invokespecial 20, 3) := by decide +kernel
theorem dX6_init_24 : decode cX6_init 24 = .ok (.putfield 23, 3) := by decide +kernel
theorem dX6_init_27 : decode cX6_init 27 = .ok (.aload_n 0, 1) := by decide +kernel
theorem dX6_init_28 : decode cX6_init 28 = .ok (.new 27, 3) := by decide +kernel
theorem dX6_init_31 : decode cX6_init 31 = .ok (.dup, 1) := by decide +kernel
theorem dX6_init_32 : decode cX6_init 32 = .ok (.iload_n 2, 1) := by decide +kernel
theorem dX6_init_33 : decode cX6_init 33 = .ok (.invokespecial 29, 3) := by decide +kernel
theorem dX6_init_36 : decode cX6_init 36 = .ok (.putfield 30, 3) := by decide +kernel
theorem dX6_init_39 : decode cX6_init 39 = .ok (.aload_n 0, 1) := by decide +kernel
theorem dX6_init_40 : decode cX6_init 40 = .ok (.new 34, 3) := by decide +kernel
theorem dX6_init_43 : decode cX6_init 43 = .ok (.dup, 1) := by decide +kernel
theorem dX6_init_44 : decode cX6_init 44 = .ok (.invokespecial 36, 3) := by decide +kernel
theorem dX6_init_47 : decode cX6_init 47 = .ok (.putfield 37, 3) := by decide +kernel
theorem dX6_init_50 : decode cX6_init 50 = .ok (.aload_n 0, 1) := by decide +kernel
theorem dX6_init_51 : decode cX6_init 51 = .ok (.new 41, 3) := by decide +kernel
theorem dX6_init_54 : decode cX6_init 54 = .ok (.dup, 1) := by decide +kernel
theorem dX6_init_55 : decode cX6_init 55 = .ok (.aload_n 0, 1) := by decide +kernel
theorem dX6_init_56 : decode cX6_init 56 = .ok (.getfield 23, 3) := by decide +kernel
theorem dX6_init_59 : decode cX6_init 59 = .ok (.aload_n 0, 1) := by decide +kernel
theorem dX6_init_60 : decode cX6_init 60 = .ok (.getfield 30, 3) := by decide +kernel
theorem dX6_init_63 : decode cX6_init 63 = .ok (.aload_n 0, 1) := by decide +kernel
theorem dX6_init_64 : decode cX6_init 64 = .ok (.getfield 37, 3) := by decide +kernel
theorem dX6_init_67 : decode cX6_init 67 = .ok (.invokespecial 43, 3) := by decide +kernel
theorem dX6_init_70 : decode cX6_init 70 = .ok (.putfield 46, 3) := by decide +kernel
theorem dX6_init_73 : decode cX6_init 73 = .ok (.aload_n 0, 1) := by decide +kernel
theorem dX6_init_74 : decode cX6_init 74 = .ok (.iload_n 2, 1) := by decide +kernel
theorem dX6_init_75 : decode cX6_init 75 = .ok (.newarray .long, 2) := by decide +kernel
theorem dX6_init_77 : decode cX6_init 77 = .ok (.putfield 50, 3) := by decide +kernel
theorem dX6_init_80 : decode cX6_init 80 = .ok (.return_, 1) := by decide +kernel
theorem dX6_value_0 : decode cX6_value 0 = .ok (.aload_n 0, 1) := by decide +kernel
theorem dX6_value_1 : decode cX6_value 1 = .ok (.getfield 23, 3) := by decide +kernel
theorem dX6_value_4 : decode cX6_value 4 = .ok (.iload_n 1, 1) := by decide +kernel
theorem dX6_value_5 : decode cX6_value 5 = .ok (.invokevirtual 54, 3) := by decide +kernel
theorem dX6_value_8 : decode cX6_value 8 = .ok (.ifCond .ne 6, 3) := by decide +kernel
theorem dX6_value_11 : decode cX6_value 11 = .ok (.bipush (-3), 2) := by decide +kernel
theorem dX6_value_13 : decode cX6_value 13 = .ok (.ireturn, 1) := by decide +kernel
theorem dX6_value_14 : decode cX6_value 14 = .ok (.aload_n 0, 1) := by decide +kernel
theorem dX6_value_15 : decode cX6_value 15 = .ok (.getfield 23, 3) := by decide +kernel
theorem dX6_value_18 : decode cX6_value 18 = .ok (.getfield 58, 3) := by decide +kernel
theorem dX6_value_21 : decode cX6_value 21 = .ok (.iload_n 1, 1) := by decide +kernel
theorem dX6_value_22 : decode cX6_value 22 = .ok (.lload_n 2, 1) := by decide +kernel
theorem dX6_value_23 : decode cX6_value 23 = .ok (.lastore, 1) := by decide +kernel
theorem dX6_value_24 : decode cX6_value 24 = .ok (.iconst 1, 1) := by decide +kernel
theorem dX6_value_25 : decode cX6_value 25 = .ok (.ireturn, 1) := by decide +kernel
theorem dX6_steps_0 : decode cX6_steps 0 = .ok (.aload_n 0, 1) := by decide +kernel
theorem dX6_steps_1 : decode cX6_steps 1 = .ok (.getfield 23, 3) := by decide +kernel
theorem dX6_steps_4 : decode cX6_steps 4 = .ok (.iload_n 1, 1) := by decide +kernel
theorem dX6_steps_5 : decode cX6_steps 5 = .ok (.invokevirtual 54, 3) := by decide +kernel
theorem dX6_steps_8 : decode cX6_steps 8 = .ok (.ifCond .eq 14, 3) := by decide +kernel
theorem dX6_steps_11 : decode cX6_steps 11 = .ok (.iload_n 2, 1) := by decide +kernel
theorem dX6_steps_12 : decode cX6_steps 12 = .ok (.iconst 1, 1) := by decide +kernel
theorem dX6_steps_13 : decode cX6_steps 13 = .ok (.if_icmp .lt 9, 3) := by decide +kernel
theorem dX6_steps_16 : decode cX6_steps 16 = .ok (.iload_n 2, 1) := by decide +kernel
theorem dX6_steps_17 : decode cX6_steps 17 = .ok (.bipush 20, 2) := by decide +kernel
theorem dX6_steps_19 : decode cX6_steps 19 = .ok (.if_icmp .le 6, 3) := by decide +kernel
theorem dX6_steps_22 : decode cX6_steps 22 = .ok (.bipush (-3), 2) := by decide +kernel
theorem dX6_steps_24 : decode cX6_steps 24 = .ok (.ireturn, 1) := by decide +kernel
theorem dX6_steps_25 : decode cX6_steps 25 = .ok (.aload_n 0, 1) := by decide +kernel
theorem dX6_steps_26 : decode cX6_steps 26 = .ok (.getfield 23, 3) := by decide +kernel
theorem dX6_steps_29 : decode cX6_steps 29 = .ok (.getfield 61, 3) := by decide +kernel
theorem dX6_steps_32 : decode cX6_steps 32 = .ok (.iload_n 1, 1) := by decide +kernel
theorem dX6_steps_33 : decode cX6_steps 33 = .ok (.iaload, 1) := by decide +kernel
theorem dX6_steps_34 : decode cX6_steps 34 = .ok (.istore_n 3, 1) := by decide +kernel
theorem dX6_steps_35 : decode cX6_steps 35 = .ok (.aload_n 0, 1) := by decide +kernel
theorem dX6_steps_36 : decode cX6_steps 36 = .ok (.getfield 23, 3) := by decide +kernel
theorem dX6_steps_39 : decode cX6_steps 39 = .ok (.getfield 61, 3) := by decide +kernel
theorem dX6_steps_42 : decode cX6_steps 42 = .ok (.iload_n 1, 1) := by decide +kernel
theorem dX6_steps_43 : decode cX6_steps 43 = .ok (.iload_n 2, 1) := by decide +kernel
theorem dX6_steps_44 : decode cX6_steps 44 = .ok (.iastore, 1) := by decide +kernel
theorem dX6_steps_45 : decode cX6_steps 45 = .ok (.iload_n 3, 1) := by decide +kernel
theorem dX6_steps_46 : decode cX6_steps 46 = .ok (.ireturn, 1) := by decide +kernel
theorem dX6_touch_0 : decode cX6_touch 0 = .ok (.aload_n 0, 1) := by decide +kernel
theorem dX6_touch_1 : decode cX6_touch 1 = .ok (.getfield 23, 3) := by decide +kernel
theorem dX6_touch_4 : decode cX6_touch 4 = .ok (.iload_n 1, 1) := by decide +kernel
theorem dX6_touch_5 : decode cX6_touch 5 = .ok (.invokevirtual 54, 3) := by decide +kernel
theorem dX6_touch_8 : decode cX6_touch 8 = .ok (.ifCond .eq 13, 3) := by decide +kernel
theorem dX6_touch_11 : decode cX6_touch 11 = .ok (.iload_n 2, 1) := by decide +kernel
theorem dX6_touch_12 : decode cX6_touch 12 = .ok (.ifCond .lt 9, 3) := by decide +kernel
theorem dX6_touch_15 : decode cX6_touch 15 = .ok (.iload_n 2, 1) := by decide +kernel
theorem dX6_touch_16 : decode cX6_touch 16 = .ok (.bipush 16, 2) := by decide +kernel
theorem dX6_touch_18 : decode cX6_touch 18 = .ok (.if_icmp .lt 6, 3) := by decide +kernel
theorem dX6_touch_21 : decode cX6_touch 21 = .ok (.bipush (-3), 2) := by decide +kernel
theorem dX6_touch_23 : decode cX6_touch 23 = .ok (.ireturn, 1) := by decide +kernel
theorem dX6_touch_24 : decode cX6_touch 24 = .ok (.iconst 1, 1) := by decide +kernel
theorem dX6_touch_25 : decode cX6_touch 25 = .ok (.iload_n 2, 1) := by decide +kernel
theorem dX6_touch_26 : decode cX6_touch 26 = .ok (.ishl, 1) := by decide +kernel
theorem dX6_touch_27 : decode cX6_touch 27 = .ok (.istore_n 3, 1) := by decide +kernel
theorem dX6_touch_28 : decode cX6_touch 28 = .ok (.aload_n 0, 1) := by decide +kernel
theorem dX6_touch_29 : decode cX6_touch 29 = .ok (.getfield 23, 3) := by decide +kernel
theorem dX6_touch_32 : decode cX6_touch 32 = .ok (.getfield 65, 3) := by decide +kernel
theorem dX6_touch_35 : decode cX6_touch 35 = .ok (.iload_n 1, 1) := by decide +kernel
theorem dX6_touch_36 : decode cX6_touch 36 = .ok (.iaload, 1) := by decide +kernel
theorem dX6_touch_37 : decode cX6_touch 37 = .ok (.iload_n 3, 1) := by decide +kernel
theorem dX6_touch_38 : decode cX6_touch 38 = .ok (.iand, 1) := by decide +kernel
theorem dX6_touch_39 : decode cX6_touch 39 = .ok (.ifCond .eq 5, 3) := by decide +kernel
theorem dX6_touch_42 : decode cX6_touch 42 = .ok (.iconst 0, 1) := by decide +kernel
theorem dX6_touch_43 : decode cX6_touch 43 = .ok (.ireturn, 1) := by decide +kernel
theorem dX6_touch_44 : decode cX6_touch 44 = .ok (.aload_n 0, 1) := by decide +kernel
theorem dX6_touch_45 : decode cX6_touch 45 = .ok (.getfield 23, 3) := by decide +kernel
theorem dX6_touch_48 : decode cX6_touch 48 = .ok (.getfield 65, 3) := by decide +kernel
theorem dX6_touch_51 : decode cX6_touch 51 = .ok (.iload_n 1, 1) := by decide +kernel
theorem dX6_touch_52 : decode cX6_touch 52 = .ok (.dup2, 1) := by decide +kernel
theorem dX6_touch_53 : decode cX6_touch 53 = .ok (.iaload, 1) := by decide +kernel
theorem dX6_touch_54 : decode cX6_touch 54 = .ok (.iload_n 3, 1) := by decide +kernel
theorem dX6_touch_55 : decode cX6_touch 55 = .ok (.ior, 1) := by decide +kernel
theorem dX6_touch_56 : decode cX6_touch 56 = .ok (.iastore, 1) := by decide +kernel
theorem dX6_touch_57 : decode cX6_touch 57 = .ok (.iconst 1, 1) := by decide +kernel
theorem dX6_touch_58 : decode cX6_touch 58 = .ok (.ireturn, 1) := by decide +kernel
theorem dX6_leave_0 : decode cX6_leave 0 = .ok (.aload_n 0, 1) := by decide +kernel
theorem dX6_leave_1 : decode cX6_leave 1 = .ok (.getfield 23, 3) := by decide +kernel
theorem dX6_leave_4 : decode cX6_leave 4 = .ok (.iload_n 1, 1) := by decide +kernel
theorem dX6_leave_5 : decode cX6_leave 5 = .ok (.invokevirtual 54, 3) := by decide +kernel
theorem dX6_leave_8 : decode cX6_leave 8 = .ok (.ifCond .ne 6, 3) := by decide +kernel
theorem dX6_leave_11 : decode cX6_leave 11 = .ok (.bipush (-3), 2) := by decide +kernel
theorem dX6_leave_13 : decode cX6_leave 13 = .ok (.ireturn, 1) := by decide +kernel
theorem dX6_leave_14 : decode cX6_leave 14 = .ok (.aload_n 0, 1) := by decide +kernel
theorem dX6_leave_15 : decode cX6_leave 15 = .ok (.getfield 23, 3) := by decide +kernel
theorem dX6_leave_18 : decode cX6_leave 18 = .ok (.getfield 68, 3) := by decide +kernel
theorem dX6_leave_21 : decode cX6_leave 21 = .ok (.iload_n 1, 1) := by decide +kernel
theorem dX6_leave_22 : decode cX6_leave 22 = .ok (.baload, 1) := by decide +kernel
theorem dX6_leave_23 : decode cX6_leave 23 = .ok (.iload_n 2, 1) := by decide +kernel
theorem dX6_leave_24 : decode cX6_leave 24 = .ok (.if_icmp .ne 5, 3) := by decide +kernel
theorem dX6_leave_27 : decode cX6_leave 27 = .ok (.iconst 0, 1) := by decide +kernel
theorem dX6_leave_28 : decode cX6_leave 28 = .ok (.ireturn, 1) := by decide +kernel
theorem dX6_leave_29 : decode cX6_leave 29 = .ok (.aload_n 0, 1) := by decide +kernel
theorem dX6_leave_30 : decode cX6_leave 30 = .ok (.getfield 23, 3) := by decide +kernel
theorem dX6_leave_33 : decode cX6_leave 33 = .ok (.getfield 68, 3) := by decide +kernel
theorem dX6_leave_36 : decode cX6_leave 36 = .ok (.iload_n 1, 1) := by decide +kernel
theorem dX6_leave_37 : decode cX6_leave 37 = .ok (.iload_n 2, 1) := by decide +kernel
theorem dX6_leave_38 : decode cX6_leave 38 = .ok (.bastore, 1) := by decide +kernel
theorem dX6_leave_39 : decode cX6_leave 39 = .ok (.iconst 1, 1) := by decide +kernel
theorem dX6_leave_40 : decode cX6_leave 40 = .ok (.ireturn, 1) := by decide +kernel
theorem dX6_batches_0 : decode cX6_batches 0 = .ok (.aload_n 0, 1) := by decide +kernel
theorem dX6_batches_1 : decode cX6_batches 1 = .ok (.getfield 30, 3) := by decide +kernel
theorem dX6_batches_4 : decode cX6_batches 4 = .ok (.aload_n 0, 1) := by decide +kernel
theorem dX6_batches_5 : decode cX6_batches 5 = .ok (.getfield 23, 3) := by decide +kernel
theorem dX6_batches_8 : decode cX6_batches 8 = .ok (.invokevirtual 72, 3) := by decide +kernel
theorem dX6_batches_11 : decode cX6_batches 11 = .ok (.aload_n 0, 1) := by decide +kernel
theorem dX6_batches_12 : decode cX6_batches 12 = .ok (.getfield 30, 3) := by decide +kernel
theorem dX6_batches_15 : decode cX6_batches 15 = .ok (.getfield 76, 3) := by decide +kernel
theorem dX6_batches_18 : decode cX6_batches 18 = .ok (.ireturn, 1) := by decide +kernel
theorem dX6_batch_0 : decode cX6_batch 0 = .ok (.aload_n 0, 1) := by decide +kernel
theorem dX6_batch_1 : decode cX6_batch 1 = .ok (.getfield 23, 3) := by decide +kernel
theorem dX6_batch_4 : decode cX6_batch 4 = .ok (.iload_n 1, 1) := by decide +kernel
theorem dX6_batch_5 : decode cX6_batch 5 = .ok (.invokevirtual 54, 3) := by decide +kernel
theorem dX6_batch_8 : decode cX6_batch 8 = .ok (.ifCond .ne 6, 3) := by decide +kernel
theorem dX6_batch_11 : decode cX6_batch 11 = .ok (.bipush (-3), 2) := by decide +kernel
theorem dX6_batch_13 : decode cX6_batch 13 = .ok (.ireturn, 1) := by decide +kernel
theorem dX6_batch_14 : decode cX6_batch 14 = .ok (.aload_n 0, 1) := by decide +kernel
theorem dX6_batch_15 : decode cX6_batch 15 = .ok (.getfield 30, 3) := by decide +kernel
theorem dX6_batch_18 : decode cX6_batch 18 = .ok (.aload_n 0, 1) := by decide +kernel
theorem dX6_batch_19 : decode cX6_batch 19 = .ok (.getfield 23, 3) := by decide +kernel
theorem dX6_batch_22 : decode cX6_batch 22 = .ok (.invokevirtual 72, 3) := by decide +kernel
theorem dX6_batch_25 : decode cX6_batch 25 = .ok (.aload_n 0, 1) := by decide +kernel
theorem dX6_batch_26 : decode cX6_batch 26 = .ok (.getfield 30, 3) := by decide +kernel
theorem dX6_batch_29 : decode cX6_batch 29 = .ok (.getfield 80, 3) := by decide +kernel
theorem dX6_batch_32 : decode cX6_batch 32 = .ok (.iload_n 1, 1) := by decide +kernel
theorem dX6_batch_33 : decode cX6_batch 33 = .ok (.iaload, 1) := by decide +kernel
theorem dX6_batch_34 : decode cX6_batch 34 = .ok (.ireturn, 1) := by decide +kernel
theorem dX6_fail_0 : decode cX6_fail 0 = .ok (.iload_n 1, 1) := by decide +kernel
theorem dX6_fail_1 : decode cX6_fail 1 = .ok (.ifCond .lt 20, 3) := by decide +kernel
theorem dX6_fail_4 : decode cX6_fail 4 = .ok (.iload_n 1, 1) := by decide +kernel
theorem dX6_fail_5 : decode cX6_fail 5 = .ok (.bipush 16, 2) := by decide +kernel
theorem dX6_fail_7 : decode cX6_fail 7 = .ok (.if_icmp .ge 14, 3) := by decide +kernel
theorem dX6_fail_10 : decode cX6_fail 10 = .ok (.aload_n 0, 1) := by decide +kernel
theorem dX6_fail_11 : decode cX6_fail 11 = .ok (.getfield 23, 3) := by decide +kernel
theorem dX6_fail_14 : decode cX6_fail 14 = .ok (.iload_n 2, 1) := by decide +kernel
theorem dX6_fail_15 : decode cX6_fail 15 = .ok (.invokevirtual 54, 3) := by decide +kernel
theorem dX6_fail_18 : decode cX6_fail 18 = .ok (.ifCond .ne 6, 3) := by decide +kernel
theorem dX6_fail_21 : decode cX6_fail 21 = .ok (.bipush (-3), 2) := by decide +kernel
theorem dX6_fail_23 : decode cX6_fail 23 = .ok (.ireturn, 1) := by decide +kernel
theorem dX6_fail_24 : decode cX6_fail 24 = .ok (.aload_n 0, 1) := by decide +kernel
theorem dX6_fail_25 : decode cX6_fail 25 = .ok (.getfield 37, 3) := by decide +kernel
theorem dX6_fail_28 : decode cX6_fail 28 = .ok (.iload_n 1, 1) := by decide +kernel
theorem dX6_fail_29 : decode cX6_fail 29 = .ok (.iload_n 2, 1) := by decide +kernel
theorem dX6_fail_30 : decode cX6_fail 30 = .ok (.invokevirtual 83, 3) := by decide +kernel
theorem dX6_fail_33 : decode cX6_fail 33 = .ok (.ifCond .eq 5, 3) := by decide +kernel
theorem dX6_fail_36 : decode cX6_fail 36 = .ok (.iconst 0, 1) := by decide +kernel
theorem dX6_fail_37 : decode cX6_fail 37 = .ok (.ireturn, 1) := by decide +kernel
theorem dX6_fail_38 : decode cX6_fail 38 = .ok (.aload_n 0, 1) := by decide +kernel
theorem dX6_fail_39 : decode cX6_fail 39 = .ok (.getfield 37, 3) := by decide +kernel
theorem dX6_fail_42 : decode cX6_fail 42 = .ok (.getfield 86, 3) := by decide +kernel
theorem dX6_fail_45 : decode cX6_fail 45 = .ok (.bipush 20, 2) := by decide +kernel
theorem dX6_fail_47 : decode cX6_fail 47 = .ok (.if_icmp .lt 6, 3) := by decide +kernel
theorem dX6_fail_50 : decode cX6_fail 50 = .ok (.bipush (-4), 2) := by decide +kernel
theorem dX6_fail_52 : decode cX6_fail 52 = .ok (.ireturn, 1) := by decide +kernel
theorem dX6_fail_53 : decode cX6_fail 53 = .ok (.aload_n 0, 1) := by decide +kernel
theorem dX6_fail_54 : decode cX6_fail 54 = .ok (.getfield 37, 3) := by decide +kernel
theorem dX6_fail_57 : decode cX6_fail 57 = .ok (.iload_n 1, 1) := by decide +kernel
theorem dX6_fail_58 : decode cX6_fail 58 = .ok (.iload_n 2, 1) := by decide +kernel
theorem dX6_fail_59 : decode cX6_fail 59 = .ok (.invokevirtual 87, 3) := by decide +kernel
theorem dX6_fail_62 : decode cX6_fail 62 = .ok (.aload_n 0, 1) := by decide +kernel
theorem dX6_fail_63 : decode cX6_fail 63 = .ok (.getfield 37, 3) := by decide +kernel
theorem dX6_fail_66 : decode cX6_fail 66 = .ok (.getfield 86, 3) := by decide +kernel
theorem dX6_fail_69 : decode cX6_fail 69 = .ok (.ireturn, 1) := by decide +kernel
theorem dX6_run_0 : decode cX6_run 0 = .ok (.iload_n 1, 1) := by decide +kernel
theorem dX6_run_1 : decode cX6_run 1 = .ok (.iconst 1, 1) := by decide +kernel
theorem dX6_run_2 : decode cX6_run 2 = .ok (.if_icmp .lt 9, 3) := by decide +kernel
theorem dX6_run_5 : decode cX6_run 5 = .ok (.iload_n 1, 1) := by decide +kernel
theorem dX6_run_6 : decode cX6_run 6 = .ok (.bipush 16, 2) := by decide +kernel
theorem dX6_run_8 : decode cX6_run 8 = .ok (.if_icmp .le 6, 3) := by decide +kernel
theorem dX6_run_11 : decode cX6_run 11 = .ok (.bipush (-3), 2) := by decide +kernel
theorem dX6_run_13 : decode cX6_run 13 = .ok (.ireturn, 1) := by decide +kernel
theorem dX6_run_14 : decode cX6_run 14 = .ok (.aload_n 0, 1) := by decide +kernel
theorem dX6_run_15 : decode cX6_run 15 = .ok (.getfield 46, 3) := by decide +kernel
theorem dX6_run_18 : decode cX6_run 18 = .ok (.iload_n 1, 1) := by decide +kernel
theorem dX6_run_19 : decode cX6_run 19 = .ok (.lload_n 2, 1) := by decide +kernel
theorem dX6_run_20 : decode cX6_run 20 = .ok (.invokevirtual 91, 3) := by decide +kernel
theorem dX6_run_23 : decode cX6_run 23 = .ok (.istore 4, 2) := by decide +kernel
theorem dX6_run_25 : decode cX6_run 25 = .ok (.iload 4, 2) := by decide +kernel
theorem dX6_run_27 : decode cX6_run 27 = .ok (.ifCond .ne 7, 3) := by decide +kernel
theorem dX6_run_30 : decode cX6_run 30 = .ok (.aload_n 0, 1) := by decide +kernel
theorem dX6_run_31 : decode cX6_run 31 = .ok (.invokevirtual 95, 3) := by decide +kernel
theorem dX6_run_34 : decode cX6_run 34 = .ok (.iload 4, 2) := by decide +kernel
theorem dX6_run_36 : decode cX6_run 36 = .ok (.ireturn, 1) := by decide +kernel
theorem dX6_told_0 : decode cX6_told 0 = .ok (.iload_n 1, 1) := by decide +kernel
theorem dX6_told_1 : decode cX6_told 1 = .ok (.bipush 6, 2) := by decide +kernel
theorem dX6_told_3 : decode cX6_told 3 = .ok (.if_icmp .ne 13, 3) := by decide +kernel
theorem dX6_told_6 : decode cX6_told 6 = .ok (.aload_n 0, 1) := by decide +kernel
theorem dX6_told_7 : decode cX6_told 7 = .ok (.getfield 37, 3) := by decide +kernel
theorem dX6_told_10 : decode cX6_told 10 = .ok (.getfield 86, 3) := by decide +kernel
theorem dX6_told_13 : decode cX6_told 13 = .ok (.goto 11, 3) := by decide +kernel
theorem dX6_told_16 : decode cX6_told 16 = .ok (.aload_n 0, 1) := by decide +kernel
theorem dX6_told_17 : decode cX6_told 17 = .ok (.getfield 46, 3) := by decide +kernel
theorem dX6_told_20 : decode cX6_told 20 = .ok (.iload_n 1, 1) := by decide +kernel
theorem dX6_told_21 : decode cX6_told 21 = .ok (.invokevirtual 98, 3) := by decide +kernel
theorem dX6_told_24 : decode cX6_told 24 = .ok (.ireturn, 1) := by decide +kernel
theorem dX6_times_0 : decode cX6_times 0 = .ok (.aload_n 0, 1) := by decide +kernel
theorem dX6_times_1 : decode cX6_times 1 = .ok (.getfield 23, 3) := by decide +kernel
theorem dX6_times_4 : decode cX6_times 4 = .ok (.iload_n 1, 1) := by decide +kernel
theorem dX6_times_5 : decode cX6_times 5 = .ok (.invokevirtual 54, 3) := by decide +kernel
theorem dX6_times_8 : decode cX6_times 8 = .ok (.ifCond .eq 15, 3) := by decide +kernel
theorem dX6_times_11 : decode cX6_times 11 = .ok (.aload_n 0, 1) := by decide +kernel
theorem dX6_times_12 : decode cX6_times 12 = .ok (.getfield 46, 3) := by decide +kernel
theorem dX6_times_15 : decode cX6_times 15 = .ok (.getfield 102, 3) := by decide +kernel
theorem dX6_times_18 : decode cX6_times 18 = .ok (.iload_n 1, 1) := by decide +kernel
theorem dX6_times_19 : decode cX6_times 19 = .ok (.iaload, 1) := by decide +kernel
theorem dX6_times_20 : decode cX6_times 20 = .ok (.goto 5, 3) := by decide +kernel
theorem dX6_times_23 : decode cX6_times 23 = .ok (.bipush (-3), 2) := by decide +kernel
theorem dX6_times_25 : decode cX6_times 25 = .ok (.ireturn, 1) := by decide +kernel
theorem dX6_doneBy_0 : decode cX6_doneBy 0 = .ok (.aload_n 0, 1) := by decide +kernel
theorem dX6_doneBy_1 : decode cX6_doneBy 1 = .ok (.getfield 23, 3) := by decide +kernel
theorem dX6_doneBy_4 : decode cX6_doneBy 4 = .ok (.iload_n 1, 1) := by decide +kernel
theorem dX6_doneBy_5 : decode cX6_doneBy 5 = .ok (.invokevirtual 54, 3) := by decide +kernel
theorem dX6_doneBy_8 : decode cX6_doneBy 8 = .ok (.ifCond .eq 15, 3) := by decide +kernel
theorem dX6_doneBy_11 : decode cX6_doneBy 11 = .ok (.aload_n 0, 1) := by decide +kernel
theorem dX6_doneBy_12 : decode cX6_doneBy 12 = .ok (.getfield 46, 3) := by decide +kernel
theorem dX6_doneBy_15 : decode cX6_doneBy 15 = .ok (.getfield 105, 3) := by decide +kernel
theorem dX6_doneBy_18 : decode cX6_doneBy 18 = .ok (.iload_n 1, 1) := by decide +kernel
theorem dX6_doneBy_19 : decode cX6_doneBy 19 = .ok (.iaload, 1) := by decide +kernel
theorem dX6_doneBy_20 : decode cX6_doneBy 20 = .ok (.goto 5, 3) := by decide +kernel
theorem dX6_doneBy_23 : decode cX6_doneBy 23 = .ok (.bipush (-3), 2) := by decide +kernel
theorem dX6_doneBy_25 : decode cX6_doneBy 25 = .ok (.ireturn, 1) := by decide +kernel
theorem dX6_result_0 : decode cX6_result 0 = .ok (.aload_n 0, 1) := by decide +kernel
theorem dX6_result_1 : decode cX6_result 1 = .ok (.getfield 23, 3) := by decide +kernel
theorem dX6_result_4 : decode cX6_result 4 = .ok (.iload_n 1, 1) := by decide +kernel
theorem dX6_result_5 : decode cX6_result 5 = .ok (.invokevirtual 54, 3) := by decide +kernel
theorem dX6_result_8 : decode cX6_result 8 = .ok (.ifCond .eq 12, 3) := by decide +kernel
theorem dX6_result_11 : decode cX6_result 11 = .ok (.aload_n 0, 1) := by decide +kernel
theorem dX6_result_12 : decode cX6_result 12 = .ok (.getfield 50, 3) := by decide +kernel
theorem dX6_result_15 : decode cX6_result 15 = .ok (.iload_n 1, 1) := by decide +kernel
theorem dX6_result_16 : decode cX6_result 16 = .ok (.laload, 1) := by decide +kernel
theorem dX6_result_17 : decode cX6_result 17 = .ok (.goto 4, 3) := by decide +kernel
theorem dX6_result_20 : decode cX6_result 20 = .ok (.lconst 0, 1) := by decide +kernel
theorem dX6_result_21 : decode cX6_result 21 = .ok (.lreturn, 1) := by decide +kernel
theorem dX6_joined_0 : decode cX6_joined 0 = .ok (.lconst 0, 1) := by decide +kernel
theorem dX6_joined_1 : decode cX6_joined 1 = .ok (.lstore_n 1, 1) := by decide +kernel
theorem dX6_joined_2 : decode cX6_joined 2 = .ok (.iconst 0, 1) := by decide +kernel
theorem dX6_joined_3 : decode cX6_joined 3 = .ok (.istore_n 3, 1) := by decide +kernel
theorem dX6_joined_4 : decode cX6_joined 4 = .ok (.iload_n 3, 1) := by decide +kernel
theorem dX6_joined_5 : decode cX6_joined 5 = .ok (.aload_n 0, 1) := by decide +kernel
theorem dX6_joined_6 : decode cX6_joined 6 = .ok (.getfield 23, 3) := by decide +kernel
theorem dX6_joined_9 : decode cX6_joined 9 = .ok (.getfield 108, 3) := by decide +kernel
theorem dX6_joined_12 : decode cX6_joined 12 = .ok (.if_icmp .ge 32, 3) := by decide +kernel
theorem dX6_joined_15 : decode cX6_joined 15 = .ok (.aload_n 0, 1) := by decide +kernel
theorem dX6_joined_16 : decode cX6_joined 16 = .ok (.getfield 23, 3) := by decide +kernel
theorem dX6_joined_19 : decode cX6_joined 19 = .ok (.getfield 68, 3) := by decide +kernel
theorem dX6_joined_22 : decode cX6_joined 22 = .ok (.iload_n 3, 1) := by decide +kernel
theorem dX6_joined_23 : decode cX6_joined 23 = .ok (.baload, 1) := by decide +kernel
theorem dX6_joined_24 : decode cX6_joined 24 = .ok (.ifCond .ne 14, 3) := by decide +kernel
theorem dX6_joined_27 : decode cX6_joined 27 = .ok (.lload_n 1, 1) := by decide +kernel
theorem dX6_joined_28 : decode cX6_joined 28 = .ok (.aload_n 0, 1) := by decide +kernel
theorem dX6_joined_29 : decode cX6_joined 29 = .ok (.getfield 50, 3) := by decide +kernel
theorem dX6_joined_32 : decode cX6_joined 32 = .ok (.iload_n 3, 1) := by decide +kernel
theorem dX6_joined_33 : decode cX6_joined 33 = .ok (.laload, 1) := by decide +kernel
theorem dX6_joined_34 : decode cX6_joined 34 = .ok (.invokestatic 109, 3) := by decide +kernel
theorem dX6_joined_37 : decode cX6_joined 37 = .ok (.lstore_n 1, 1) := by decide +kernel
theorem dX6_joined_38 : decode cX6_joined 38 = .ok (.iinc 3 1, 3) := by decide +kernel
theorem dX6_joined_41 : decode cX6_joined 41 = .ok (.goto (-37), 3) := by decide +kernel
theorem dX6_joined_44 : decode cX6_joined 44 = .ok (.lload_n 1, 1) := by decide +kernel
theorem dX6_joined_45 : decode cX6_joined 45 = .ok (.lreturn, 1) := by decide +kernel
theorem dX6_plain_0 : decode cX6_plain 0 = .ok (.lconst 0, 1) := by decide +kernel
theorem dX6_plain_1 : decode cX6_plain 1 = .ok (.lstore_n 1, 1) := by decide +kernel
theorem dX6_plain_2 : decode cX6_plain 2 = .ok (.iconst 0, 1) := by decide +kernel
theorem dX6_plain_3 : decode cX6_plain 3 = .ok (.istore_n 3, 1) := by decide +kernel
theorem dX6_plain_4 : decode cX6_plain 4 = .ok (.iload_n 3, 1) := by decide +kernel
theorem dX6_plain_5 : decode cX6_plain 5 = .ok (.aload_n 0, 1) := by decide +kernel
theorem dX6_plain_6 : decode cX6_plain 6 = .ok (.getfield 23, 3) := by decide +kernel
theorem dX6_plain_9 : decode cX6_plain 9 = .ok (.getfield 108, 3) := by decide +kernel
theorem dX6_plain_12 : decode cX6_plain 12 = .ok (.if_icmp .ge 34, 3) := by decide +kernel
theorem dX6_plain_15 : decode cX6_plain 15 = .ok (.aload_n 0, 1) := by decide +kernel
theorem dX6_plain_16 : decode cX6_plain 16 = .ok (.getfield 23, 3) := by decide +kernel
theorem dX6_plain_19 : decode cX6_plain 19 = .ok (.getfield 68, 3) := by decide +kernel
theorem dX6_plain_22 : decode cX6_plain 22 = .ok (.iload_n 3, 1) := by decide +kernel
theorem dX6_plain_23 : decode cX6_plain 23 = .ok (.baload, 1) := by decide +kernel
theorem dX6_plain_24 : decode cX6_plain 24 = .ok (.ifCond .ne 16, 3) := by decide +kernel
theorem dX6_plain_27 : decode cX6_plain 27 = .ok (.lload_n 1, 1) := by decide +kernel
theorem dX6_plain_28 : decode cX6_plain 28 = .ok (.aload_n 0, 1) := by decide +kernel
theorem dX6_plain_29 : decode cX6_plain 29 = .ok (.getfield 23, 3) := by decide +kernel
theorem dX6_plain_32 : decode cX6_plain 32 = .ok (.iload_n 3, 1) := by decide +kernel
theorem dX6_plain_33 : decode cX6_plain 33 = .ok (.invokevirtual 113, 3) := by decide +kernel
theorem dX6_plain_36 : decode cX6_plain 36 = .ok (.invokestatic 109, 3) := by decide +kernel
theorem dX6_plain_39 : decode cX6_plain 39 = .ok (.lstore_n 1, 1) := by decide +kernel
theorem dX6_plain_40 : decode cX6_plain 40 = .ok (.iinc 3 1, 3) := by decide +kernel
theorem dX6_plain_43 : decode cX6_plain 43 = .ok (.goto (-39), 3) := by decide +kernel
theorem dX6_plain_46 : decode cX6_plain 46 = .ok (.lload_n 1, 1) := by decide +kernel
theorem dX6_plain_47 : decode cX6_plain 47 = .ok (.lreturn, 1) := by decide +kernel
theorem dX6_clear_0 : decode cX6_clear 0 = .ok (.aload_n 0, 1) := by decide +kernel
theorem dX6_clear_1 : decode cX6_clear 1 = .ok (.getfield 23, 3) := by decide +kernel
theorem dX6_clear_4 : decode cX6_clear 4 = .ok (.invokevirtual 117, 3) := by decide +kernel
theorem dX6_clear_7 : decode cX6_clear 7 = .ok (.aload_n 0, 1) := by decide +kernel
theorem dX6_clear_8 : decode cX6_clear 8 = .ok (.getfield 37, 3) := by decide +kernel
theorem dX6_clear_11 : decode cX6_clear 11 = .ok (.invokevirtual 120, 3) := by decide +kernel
theorem dX6_clear_14 : decode cX6_clear 14 = .ok (.aload_n 0, 1) := by decide +kernel
theorem dX6_clear_15 : decode cX6_clear 15 = .ok (.getfield 46, 3) := by decide +kernel
theorem dX6_clear_18 : decode cX6_clear 18 = .ok (.invokevirtual 121, 3) := by decide +kernel
theorem dX6_clear_21 : decode cX6_clear 21 = .ok (.iconst 0, 1) := by decide +kernel
theorem dX6_clear_22 : decode cX6_clear 22 = .ok (.istore_n 1, 1) := by decide +kernel
theorem dX6_clear_23 : decode cX6_clear 23 = .ok (.iload_n 1, 1) := by decide +kernel
theorem dX6_clear_24 : decode cX6_clear 24 = .ok (.aload_n 0, 1) := by decide +kernel
theorem dX6_clear_25 : decode cX6_clear 25 = .ok (.getfield 23, 3) := by decide +kernel
theorem dX6_clear_28 : decode cX6_clear 28 = .ok (.getfield 108, 3) := by decide +kernel
theorem dX6_clear_31 : decode cX6_clear 31 = .ok (.if_icmp .ge 16, 3) := by decide +kernel
theorem dX6_clear_34 : decode cX6_clear 34 = .ok (.aload_n 0, 1) := by decide +kernel
theorem dX6_clear_35 : decode cX6_clear 35 = .ok (.getfield 50, 3) := by decide +kernel
theorem dX6_clear_38 : decode cX6_clear 38 = .ok (.iload_n 1, 1) := by decide +kernel
theorem dX6_clear_39 : decode cX6_clear 39 = .ok (.lconst 0, 1) := by decide +kernel
theorem dX6_clear_40 : decode cX6_clear 40 = .ok (.lastore, 1) := by decide +kernel
theorem dX6_clear_41 : decode cX6_clear 41 = .ok (.iinc 1 1, 3) := by decide +kernel
theorem dX6_clear_44 : decode cX6_clear 44 = .ok (.goto (-21), 3) := by decide +kernel
theorem dX6_clear_47 : decode cX6_clear 47 = .ok (.return_, 1) := by decide +kernel
theorem dX6_keepOutcomes_0 : decode cX6_keepOutcomes 0 = .ok (.iconst 0, 1) := by decide +kernel
theorem dX6_keepOutcomes_1 : decode cX6_keepOutcomes 1 = .ok (.istore_n 1, 1) := by decide +kernel
theorem dX6_keepOutcomes_2 : decode cX6_keepOutcomes 2 = .ok (.iload_n 1, 1) := by decide +kernel
theorem dX6_keepOutcomes_3 : decode cX6_keepOutcomes 3 = .ok (.aload_n 0, 1) := by decide +kernel
theorem dX6_keepOutcomes_4 : decode cX6_keepOutcomes 4 = .ok (.getfield 23, 3) := by decide +kernel
theorem dX6_keepOutcomes_7 : decode cX6_keepOutcomes 7 = .ok (.getfield 108, 3) := by decide +kernel
theorem dX6_keepOutcomes_10 : decode cX6_keepOutcomes 10 = .ok (.if_icmp .ge 36, 3) := by decide +kernel
theorem dX6_keepOutcomes_13 : decode cX6_keepOutcomes 13 = .ok (.aload_n 0, 1) := by decide +kernel
theorem dX6_keepOutcomes_14 : decode cX6_keepOutcomes 14 = .ok (.getfield 23, 3) := by decide +kernel
theorem dX6_keepOutcomes_17 : decode cX6_keepOutcomes 17 = .ok (.getfield 68, 3) := by decide +kernel
theorem dX6_keepOutcomes_20 : decode cX6_keepOutcomes 20 = .ok (.iload_n 1, 1) := by decide +kernel
theorem dX6_keepOutcomes_21 : decode cX6_keepOutcomes 21 = .ok (.baload, 1) := by decide +kernel
theorem dX6_keepOutcomes_22 : decode cX6_keepOutcomes 22 = .ok (.ifCond .ne 18, 3) := by decide +kernel
theorem dX6_keepOutcomes_25 : decode cX6_keepOutcomes 25 = .ok (.aload_n 0, 1) := by decide +kernel
theorem dX6_keepOutcomes_26 : decode cX6_keepOutcomes 26 = .ok (.getfield 50, 3) := by decide +kernel
theorem dX6_keepOutcomes_29 : decode cX6_keepOutcomes 29 = .ok (.iload_n 1, 1) := by decide +kernel
theorem dX6_keepOutcomes_30 : decode cX6_keepOutcomes 30 = .ok (.aload_n 0, 1) := by decide +kernel
theorem dX6_keepOutcomes_31 : decode cX6_keepOutcomes 31 = .ok (.getfield 46, 3) := by decide +kernel
theorem dX6_keepOutcomes_34 : decode cX6_keepOutcomes 34 = .ok (.getfield 122, 3) := by decide +kernel
theorem dX6_keepOutcomes_37 : decode cX6_keepOutcomes 37 = .ok (.iload_n 1, 1) := by decide +kernel
theorem dX6_keepOutcomes_38 : decode cX6_keepOutcomes 38 = .ok (.laload, 1) := by decide +kernel
theorem dX6_keepOutcomes_39 : decode cX6_keepOutcomes 39 = .ok (.lastore, 1) := by decide +kernel
theorem dX6_keepOutcomes_40 : decode cX6_keepOutcomes 40 = .ok (.iinc 1 1, 3) := by decide +kernel
theorem dX6_keepOutcomes_43 : decode cX6_keepOutcomes 43 = .ok (.goto (-41), 3) := by decide +kernel
theorem dX6_keepOutcomes_46 : decode cX6_keepOutcomes 46 = .ok (.return_, 1) := by decide +kernel
theorem dX6_joinOne_0 : decode cX6_joinOne 0 = .ok (.lload_n 0, 1) := by decide +kernel
theorem dX6_joinOne_1 : decode cX6_joinOne 1 = .ok (.iconst 5, 1) := by decide +kernel
theorem dX6_joinOne_2 : decode cX6_joinOne 2 = .ok (.invokestatic 125, 3) := by decide +kernel
theorem dX6_joinOne_5 : decode cX6_joinOne 5 = .ok (.lload_n 2, 1) := by decide +kernel
theorem dX6_joinOne_6 : decode cX6_joinOne 6 = .ok (.lxor, 1) := by decide +kernel
theorem dX6_joinOne_7 : decode cX6_joinOne 7 = .ok (.lreturn, 1) := by decide +kernel
theorem dX6_makeStep_0 : decode cX6_makeStep 0 = .ok (.lload_n 0, 1) := by decide +kernel
theorem dX6_makeStep_1 : decode cX6_makeStep 1 = .ok (.bipush 7, 2) := by decide +kernel
theorem dX6_makeStep_3 : decode cX6_makeStep 3 = .ok (.invokestatic 125, 3) := by decide +kernel
theorem dX6_makeStep_6 : decode cX6_makeStep 6 = .ok (.lload_n 2, 1) := by decide +kernel
theorem dX6_makeStep_7 : decode cX6_makeStep 7 = .ok (.lxor, 1) := by decide +kernel
theorem dX6_makeStep_8 : decode cX6_makeStep 8 = .ok (.ldc2_w 131, 3) := by decide +kernel
theorem dX6_makeStep_11 : decode cX6_makeStep 11 = .ok (.lmul, 1) := by decide +kernel
theorem dX6_makeStep_12 : decode cX6_makeStep 12 = .ok (.iload 4, 2) := by decide +kernel
theorem dX6_makeStep_14 : decode cX6_makeStep 14 = .ok (.i2l, 1) := by decide +kernel
theorem dX6_makeStep_15 : decode cX6_makeStep 15 = .ok (.ladd, 1) := by decide +kernel
theorem dX6_makeStep_16 : decode cX6_makeStep 16 = .ok (.lreturn, 1) := by decide +kernel
theorem dJ13_rotateLeft_b2ac5_0 : decode cJ13_rotateLeft_b2ac5 0 = .ok (.lload_n 0, 1) := by decide +kernel
theorem dJ13_rotateLeft_b2ac5_1 : decode cJ13_rotateLeft_b2ac5 1 = .ok (.iload_n 2, 1) := by decide +kernel
theorem dJ13_rotateLeft_b2ac5_2 : decode cJ13_rotateLeft_b2ac5 2 = .ok (.lshl, 1) := by decide +kernel
theorem dJ13_rotateLeft_b2ac5_3 : decode cJ13_rotateLeft_b2ac5 3 = .ok (.lload_n 0, 1) := by decide +kernel
theorem dJ13_rotateLeft_b2ac5_4 : decode cJ13_rotateLeft_b2ac5 4 = .ok (.iload_n 2, 1) := by decide +kernel
theorem dJ13_rotateLeft_b2ac5_5 : decode cJ13_rotateLeft_b2ac5 5 = .ok (.ineg, 1) := by decide +kernel
theorem dJ13_rotateLeft_b2ac5_6 : decode cJ13_rotateLeft_b2ac5 6 = .ok (.lushr, 1) := by decide +kernel
theorem dJ13_rotateLeft_b2ac5_7 : decode cJ13_rotateLeft_b2ac5 7 = .ok (.lor, 1) := by decide +kernel
theorem dJ13_rotateLeft_b2ac5_8 : decode cJ13_rotateLeft_b2ac5 8 = .ok (.lreturn, 1) := by decide +kernel
theorem dJ9_max_7cf53_0 : decode cJ9_max_7cf53 0 = .ok (.iload_n 0, 1) := by decide +kernel
theorem dJ9_max_7cf53_1 : decode cJ9_max_7cf53 1 = .ok (.iload_n 1, 1) := by decide +kernel
theorem dJ9_max_7cf53_2 : decode cJ9_max_7cf53 2 = .ok (.if_icmp .lt 7, 3) := by decide +kernel
theorem dJ9_max_7cf53_5 : decode cJ9_max_7cf53 5 = .ok (.iload_n 0, 1) := by decide +kernel
theorem dJ9_max_7cf53_6 : decode cJ9_max_7cf53 6 = .ok (.goto 4, 3) := by decide +kernel
theorem dJ9_max_7cf53_9 : decode cJ9_max_7cf53 9 = .ok (.iload_n 1, 1) := by decide +kernel
theorem dJ9_max_7cf53_10 : decode cJ9_max_7cf53 10 = .ok (.ireturn, 1) := by decide +kernel
theorem dJ9_min_7cf53_0 : decode cJ9_min_7cf53 0 = .ok (.iload_n 0, 1) := by decide +kernel
theorem dJ9_min_7cf53_1 : decode cJ9_min_7cf53 1 = .ok (.iload_n 1, 1) := by decide +kernel
theorem dJ9_min_7cf53_2 : decode cJ9_min_7cf53 2 = .ok (.if_icmp .gt 7, 3) := by decide +kernel
theorem dJ9_min_7cf53_5 : decode cJ9_min_7cf53 5 = .ok (.iload_n 0, 1) := by decide +kernel
theorem dJ9_min_7cf53_6 : decode cJ9_min_7cf53 6 = .ok (.goto 4, 3) := by decide +kernel
theorem dJ9_min_7cf53_9 : decode cJ9_min_7cf53 9 = .ok (.iload_n 1, 1) := by decide +kernel
theorem dJ9_min_7cf53_10 : decode cJ9_min_7cf53 10 = .ok (.ireturn, 1) := by decide +kernel
theorem dL_cell_0 : decode cL_cell 0 = .ok (.iload_n 1, 1) := by decide +kernel
theorem dL_cell_1 : decode cL_cell 1 = .ok (.aload_n 0, 1) := by decide +kernel
theorem dL_cell_2 : decode cL_cell 2 = .ok (.arraylength, 1) := by decide +kernel
theorem dL_cell_3 : decode cL_cell 3 = .ok (.if_icmp .ge 9, 3) := by decide +kernel
theorem dL_cell_6 : decode cL_cell 6 = .ok (.aload_n 0, 1) := by decide +kernel
theorem dL_cell_7 : decode cL_cell 7 = .ok (.iload_n 1, 1) := by decide +kernel
theorem dL_cell_8 : decode cL_cell 8 = .ok (.iaload, 1) := by decide +kernel
theorem dL_cell_9 : decode cL_cell 9 = .ok (.goto 4, 3) := by decide +kernel
theorem dL_cell_12 : decode cL_cell 12 = .ok (.iconst 0, 1) := by decide +kernel
theorem dL_cell_13 : decode cL_cell 13 = .ok (.ireturn, 1) := by decide +kernel
end
section
theorem dX7_init_0 : decode cX7_init 0 = .ok (.aload_n 0, 1) := by decide +kernel
theorem dX7_init_1 : decode cX7_init 1 = .ok (.invokespecial 1, 3) := by decide +kernel
theorem dX7_init_4 : decode cX7_init 4 = .ok (.aload_n 0, 1) := by decide +kernel
theorem dX7_init_5 : decode cX7_init 5 = .ok (.bipush 64, 2) := by decide +kernel
theorem dX7_init_7 : decode cX7_init 7 = .ok (.newarray .long, 2) := by decide +kernel
theorem dX7_init_9 : decode cX7_init 9 = .ok (.putfield 7, 3) := by decide +kernel
theorem dX7_init_12 : decode cX7_init 12 = .ok (.aload_n 0, 1) := by decide +kernel
theorem dX7_init_13 : decode cX7_init 13 = .ok (.bipush 64, 2) := by decide +kernel
theorem dX7_init_15 : decode cX7_init 15 = .ok (.newarray .int, 2) := by decide +kernel
theorem dX7_init_17 : decode cX7_init 17 = .ok (.putfield 13, 3) := by decide +kernel
theorem dX7_init_20 : decode cX7_init 20 = .ok (.aload_n 0, 1) := by decide +kernel
theorem dX7_init_21 : decode cX7_init 21 = .ok (.bipush 64, 2) := by decide +kernel
theorem dX7_init_23 : decode cX7_init 23 = .ok (.newarray .int, 2) := by decide +kernel
theorem dX7_init_25 : decode cX7_init 25 = .ok (.putfield 17, 3) := by decide +kernel
theorem dX7_init_28 : decode cX7_init 28 = .ok (.aload_n 0, 1) := by decide +kernel
theorem dX7_init_29 : decode cX7_init 29 = .ok (.bipush 64, 2) := by decide +kernel
theorem dX7_init_31 : decode cX7_init 31 = .ok (.newarray .boolean, 2) := by decide +kernel
theorem dX7_init_33 : decode cX7_init 33 = .ok (.putfield 20, 3) := by decide +kernel
theorem dX7_init_36 : decode cX7_init 36 = .ok (.aload_n 0, 1) := by decide +kernel
theorem dX7_init_37 : decode cX7_init 37 = .ok (.bipush 64, 2) := by decide +kernel
theorem dX7_init_39 : decode cX7_init 39 = .ok (.newarray .int, 2) := by decide +kernel
theorem dX7_init_41 : decode cX7_init 41 = .ok (.putfield 24, 3) := by decide +kernel
theorem dX7_init_44 : decode cX7_init 44 = .ok (.aload_n 0, 1) := by decide +kernel
theorem dX7_init_45 : decode cX7_init 45 = .ok (.bipush 20, 2) := by decide +kernel
theorem dX7_init_47 : decode cX7_init 47 = .ok (.newarray .int, 2) := by decide +kernel
theorem dX7_init_49 : decode cX7_init 49 = .ok (.putfield 27, 3) := by decide +kernel
theorem dX7_init_52 : decode cX7_init 52 = .ok (.aload_n 0, 1) := by decide +kernel
theorem dX7_init_53 : decode cX7_init 53 = .ok (.bipush 20, 2) := by decide +kernel
theorem dX7_init_55 : decode cX7_init 55 = .ok (.newarray .int, 2) := by decide +kernel
theorem dX7_init_57 : decode cX7_init 57 = .ok (.putfield 30, 3) := by decide +kernel
theorem dX7_init_60 : decode cX7_init 60 = .ok (.aload_n 0, 1) := by decide +kernel
theorem dX7_init_61 : decode cX7_init 61 = .ok (.bipush 64, 2) := by decide +kernel
theorem dX7_init_63 : decode cX7_init 63 = .ok (.newarray .long, 2) := by decide +kernel
theorem dX7_init_65 : decode cX7_init 65 = .ok (.putfield 33, 3) := by decide +kernel
theorem dX7_init_68 : decode cX7_init 68 = .ok (.aload_n 0, 1) := by decide +kernel
theorem dX7_init_69 : decode cX7_init 69 = .ok (.bipush 6, 2) := by decide +kernel
theorem dX7_init_71 : decode cX7_init 71 = .ok (.newarray .int, 2) := by decide +kernel
theorem dX7_init_73 : decode cX7_init 73 = .ok (.putfield 36, 3) := by decide +kernel
theorem dX7_init_76 : decode cX7_init 76 = .ok (.aload_n 0, 1) := by decide +kernel
theorem dX7_init_77 : decode cX7_init 77 = .ok (.bipush 64, 2) := by decide +kernel
theorem dX7_init_79 : decode cX7_init 79 = .ok (.newarray .int, 2) := by decide +kernel
theorem dX7_init_81 : decode cX7_init 81 = .ok (.putfield 39, 3) := by decide +kernel
theorem dX7_init_84 : decode cX7_init 84 = .ok (.aload_n 0, 1) := by decide +kernel
theorem dX7_init_85 : decode cX7_init 85 = .ok (.bipush 64, 2) := by decide +kernel
theorem dX7_init_87 : decode cX7_init 87 = .ok (.newarray .int, 2) := by decide +kernel
theorem dX7_init_89 : decode cX7_init 89 = .ok (.putfield 42, 3) := by decide +kernel
theorem dX7_init_92 : decode cX7_init 92 = .ok (.aload_n 0, 1) := by decide +kernel
theorem dX7_init_93 : decode cX7_init 93 = .ok (.bipush 64, 2) := by decide +kernel
theorem dX7_init_95 : decode cX7_init 95 = .ok (.newarray .int, 2) := by decide +kernel
theorem dX7_init_97 : decode cX7_init 97 = .ok (.putfield 45, 3) := by decide +kernel
theorem dX7_init_100 : decode cX7_init 100 = .ok (.aload_n 0, 1) := by decide +kernel
theorem dX7_init_101 : decode cX7_init 101 = .ok (.bipush 16, 2) := by decide +kernel
theorem dX7_init_103 : decode cX7_init 103 = .ok (.newarray .boolean, 2) := by decide +kernel
theorem dX7_init_105 : decode cX7_init 105 = .ok (.putfield 48, 3) := by decide +kernel
theorem dX7_init_108 : decode cX7_init 108 = .ok (.aload_n 0, 1) := by decide +kernel
theorem dX7_init_109 : decode cX7_init 109 = .ok (.bipush 16, 2) := by decide +kernel
theorem dX7_init_111 : decode cX7_init 111 = .ok (.newarray .int, 2) := by decide +kernel
theorem dX7_init_113 : decode cX7_init 113 = .ok (.putfield 51, 3) := by decide +kernel
theorem dX7_init_116 : decode cX7_init 116 = .ok (.aload_n 0, 1) := by decide +kernel
theorem dX7_init_117 : decode cX7_init 117 = .ok (.bipush 16, 2) := by decide +kernel
theorem dX7_init_119 : decode cX7_init 119 = .ok (.newarray .int, 2) := by decide +kernel
theorem dX7_init_121 : decode cX7_init 121 = .ok (.putfield 54, 3) := by decide +kernel
theorem dX7_init_124 : decode cX7_init 124 = .ok (.aload_n 0, 1) := by decide +kernel
theorem dX7_init_125 : decode cX7_init 125 = .ok (.bipush 64, 2) := by decide +kernel
theorem dX7_init_127 : decode cX7_init 127 = .ok (.newarray .int, 2) := by decide +kernel
theorem dX7_init_129 : decode cX7_init 129 = .ok (.putfield 57, 3) := by decide +kernel
theorem dX7_init_132 : decode cX7_init 132 = .ok (.aload_n 0, 1) := by decide +kernel
theorem dX7_init_133 : decode cX7_init 133 = .ok (.iload_n 1, 1) := by decide +kernel
theorem dX7_init_134 : decode cX7_init 134 = .ok (.iconst 1, 1) := by decide +kernel
theorem dX7_init_135 : decode cX7_init 135 = .ok (.if_icmp .ge 7, 3) := by decide +kernel
theorem dX7_init_138 : decode cX7_init 138 = .ok (.iconst 1, 1) := by decide +kernel
theorem dX7_init_139 : decode cX7_init 139 = .ok (.goto 15, 3) := by decide +kernel
theorem dX7_init_142 : decode cX7_init 142 = .ok (.iload_n 1, 1) := by decide +kernel
theorem dX7_init_143 : decode cX7_init 143 = .ok (.bipush 64, 2) := by decide +kernel
theorem dX7_init_145 : decode cX7_init 145 = .ok (.if_icmp .le 8, 3) := by decide +kernel
theorem dX7_init_148 : decode cX7_init 148 = .ok (.bipush 64, 2) := by decide +kernel
theorem dX7_init_150 : decode cX7_init 150 = .ok (.goto 4, 3) := by decide +kernel
theorem dX7_init_153 : decode cX7_init 153 = .ok (.iload_n 1, 1) := by decide +kernel
theorem dX7_init_154 : decode cX7_init 154 = .ok (.putfield 60, 3) := by decide +kernel
theorem dX7_init_157 : decode cX7_init 157 = .ok (.aload_n 0, 1) := by decide +kernel
theorem dX7_init_158 : decode cX7_init 158 = .ok (.invokevirtual 64, 3) := by decide +kernel
theorem dX7_init_161 : decode cX7_init 161 = .ok (.return_, 1) := by decide +kernel
theorem dX7_empty_0 : decode cX7_empty 0 = .ok (.iconst 0, 1) := by decide +kernel
theorem dX7_empty_1 : decode cX7_empty 1 = .ok (.istore_n 1, 1) := by decide +kernel
theorem dX7_empty_2 : decode cX7_empty 2 = .ok (.iload_n 1, 1) := by decide +kernel
theorem dX7_empty_3 : decode cX7_empty 3 = .ok (.bipush 64, 2) := by decide +kernel
theorem dX7_empty_5 : decode cX7_empty 5 = .ok (.if_icmp .ge 58, 3) := by decide +kernel
theorem dX7_empty_8 : decode cX7_empty 8 = .ok (.aload_n 0, 1) := by decide +kernel
theorem dX7_empty_9 : decode cX7_empty 9 = .ok (.getfield 7, 3) := by decide +kernel
theorem dX7_empty_12 : decode cX7_empty 12 = .ok (.iload_n 1, 1) := by decide +kernel
theorem dX7_empty_13 : decode cX7_empty 13 = .ok (.lconst 0, 1) := by decide +kernel
theorem dX7_empty_14 : decode cX7_empty 14 = .ok (.lastore, 1) := by decide +kernel
theorem dX7_empty_15 : decode cX7_empty 15 = .ok (.aload_n 0, 1) := by decide +kernel
theorem dX7_empty_16 : decode cX7_empty 16 = .ok (.getfield 13, 3) := by decide +kernel
theorem dX7_empty_19 : decode cX7_empty 19 = .ok (.iload_n 1, 1) := by decide +kernel
theorem dX7_empty_20 : decode cX7_empty 20 = .ok (.iconst 1, 1) := by decide +kernel
theorem dX7_empty_21 : decode cX7_empty 21 = .ok (.iastore, 1) := by decide +kernel
theorem dX7_empty_22 : decode cX7_empty 22 = .ok (.aload_n 0, 1) := by decide +kernel
theorem dX7_empty_23 : decode cX7_empty 23 = .ok (.getfield 17, 3) := by decide +kernel
theorem dX7_empty_26 : decode cX7_empty 26 = .ok (.iload_n 1, 1) := by decide +kernel
theorem dX7_empty_27 : decode cX7_empty 27 = .ok (.iconst 0, 1) := by decide +kernel
theorem dX7_empty_28 : decode cX7_empty 28 = .ok (.iastore, 1) := by decide +kernel
theorem dX7_empty_29 : decode cX7_empty 29 = .ok (.aload_n 0, 1) := by decide +kernel
theorem dX7_empty_30 : decode cX7_empty 30 = .ok (.getfield 20, 3) := by decide +kernel
theorem dX7_empty_33 : decode cX7_empty 33 = .ok (.iload_n 1, 1) := by decide +kernel
theorem dX7_empty_34 : decode cX7_empty 34 = .ok (.iconst 0, 1) := by decide +kernel
theorem dX7_empty_35 : decode cX7_empty 35 = .ok (.bastore, 1) := by decide +kernel
theorem dX7_empty_36 : decode cX7_empty 36 = .ok (.aload_n 0, 1) := by decide +kernel
theorem dX7_empty_37 : decode cX7_empty 37 = .ok (.getfield 33, 3) := by decide +kernel
theorem dX7_empty_40 : decode cX7_empty 40 = .ok (.iload_n 1, 1) := by decide +kernel
theorem dX7_empty_41 : decode cX7_empty 41 = .ok (.lconst 0, 1) := by decide +kernel
theorem dX7_empty_42 : decode cX7_empty 42 = .ok (.lastore, 1) := by decide +kernel
theorem dX7_empty_43 : decode cX7_empty 43 = .ok (.aload_n 0, 1) := by decide +kernel
theorem dX7_empty_44 : decode cX7_empty 44 = .ok (.getfield 39, 3) := by decide +kernel
theorem dX7_empty_47 : decode cX7_empty 47 = .ok (.iload_n 1, 1) := by decide +kernel
theorem dX7_empty_48 : decode cX7_empty 48 = .ok (.iconst (-1), 1) := by decide +kernel
theorem dX7_empty_49 : decode cX7_empty 49 = .ok (.iastore, 1) := by decide +kernel
theorem dX7_empty_50 : decode cX7_empty 50 = .ok (.aload_n 0, 1) := by decide +kernel
theorem dX7_empty_51 : decode cX7_empty 51 = .ok (.getfield 42, 3) := by decide +kernel
theorem dX7_empty_54 : decode cX7_empty 54 = .ok (.iload_n 1, 1) := by decide +kernel
theorem dX7_empty_55 : decode cX7_empty 55 = .ok (.iconst (-1), 1) := by decide +kernel
theorem dX7_empty_56 : decode cX7_empty 56 = .ok (.iastore, 1) := by decide +kernel
theorem dX7_empty_57 : decode cX7_empty 57 = .ok (.iinc 1 1, 3) := by decide +kernel
theorem dX7_empty_60 : decode cX7_empty 60 = .ok (.goto (-58), 3) := by decide +kernel
theorem dX7_empty_63 : decode cX7_empty 63 = .ok (.iconst 0, 1) := by decide +kernel
theorem dX7_empty_64 : decode cX7_empty 64 = .ok (.istore_n 1, 1) := by decide +kernel
theorem dX7_empty_65 : decode cX7_empty 65 = .ok (.iload_n 1, 1) := by decide +kernel
theorem dX7_empty_66 : decode cX7_empty 66 = .ok (.bipush 6, 2) := by decide +kernel
theorem dX7_empty_68 : decode cX7_empty 68 = .ok (.if_icmp .ge 16, 3) := by decide +kernel
theorem dX7_empty_71 : decode cX7_empty 71 = .ok (.aload_n 0, 1) := by decide +kernel
theorem dX7_empty_72 : decode cX7_empty 72 = .ok (.getfield 36, 3) := by decide +kernel
theorem dX7_empty_75 : decode cX7_empty 75 = .ok (.iload_n 1, 1) := by decide +kernel
theorem dX7_empty_76 : decode cX7_empty 76 = .ok (.iconst 0, 1) := by decide +kernel
theorem dX7_empty_77 : decode cX7_empty 77 = .ok (.iastore, 1) := by decide +kernel
theorem dX7_empty_78 : decode cX7_empty 78 = .ok (.iinc 1 1, 3) := by decide +kernel
theorem dX7_empty_81 : decode cX7_empty 81 = .ok (.goto (-16), 3) := by decide +kernel
theorem dX7_empty_84 : decode cX7_empty 84 = .ok (.aload_n 0, 1) := by decide +kernel
theorem dX7_empty_85 : decode cX7_empty 85 = .ok (.iconst 0, 1) := by decide +kernel
theorem dX7_empty_86 : decode cX7_empty 86 = .ok (.putfield 70, 3) := by decide +kernel
theorem dX7_empty_89 : decode cX7_empty 89 = .ok (.return_, 1) := by decide +kernel
theorem dX7_isShare_0 : decode cX7_isShare 0 = .ok (.iload_n 1, 1) := by decide +kernel
theorem dX7_isShare_1 : decode cX7_isShare 1 = .ok (.ifCond .lt 15, 3) := by decide +kernel
theorem dX7_isShare_4 : decode cX7_isShare 4 = .ok (.iload_n 1, 1) := by decide +kernel
theorem dX7_isShare_5 : decode cX7_isShare 5 = .ok (.aload_n 0, 1) := by decide +kernel
theorem dX7_isShare_6 : decode cX7_isShare 6 = .ok (.getfield 60, 3) := by decide +kernel
theorem dX7_isShare_9 : decode cX7_isShare 9 = .ok (.if_icmp .ge 7, 3) := by decide +kernel
theorem dX7_isShare_12 : decode cX7_isShare 12 = .ok (.iconst 1, 1) := by decide +kernel
theorem dX7_isShare_13 : decode cX7_isShare 13 = .ok (.goto 4, 3) := by decide +kernel
theorem dX7_isShare_16 : decode cX7_isShare 16 = .ok (.iconst 0, 1) := by decide +kernel
theorem dX7_isShare_17 : decode cX7_isShare 17 = .ok (.ireturn, 1) := by decide +kernel
theorem dX7_value_0 : decode cX7_value 0 = .ok (.aload_n 0, 1) := by decide +kernel
theorem dX7_value_1 : decode cX7_value 1 = .ok (.iconst 0, 1) := by decide +kernel
theorem dX7_value_2 : decode cX7_value 2 = .ok (.putfield 67, 3) := by decide +kernel
theorem dX7_value_5 : decode cX7_value 5 = .ok (.aload_n 0, 1) := by decide +kernel
theorem dX7_value_6 : decode cX7_value 6 = .ok (.iload_n 1, 1) := by decide +kernel
theorem dX7_value_7 : decode cX7_value 7 = .ok (.invokevirtual 73, 3) := by decide +kernel
theorem dX7_value_10 : decode cX7_value 10 = .ok (.ifCond .ne 6, 3) := by decide +kernel
theorem dX7_value_13 : decode cX7_value 13 = .ok (.bipush (-3), 2) := by decide +kernel
theorem dX7_value_15 : decode cX7_value 15 = .ok (.ireturn, 1) := by decide +kernel
theorem dX7_value_16 : decode cX7_value 16 = .ok (.aload_n 0, 1) := by decide +kernel
theorem dX7_value_17 : decode cX7_value 17 = .ok (.getfield 7, 3) := by decide +kernel
theorem dX7_value_20 : decode cX7_value 20 = .ok (.iload_n 1, 1) := by decide +kernel
theorem dX7_value_21 : decode cX7_value 21 = .ok (.lload_n 2, 1) := by decide +kernel
theorem dX7_value_22 : decode cX7_value 22 = .ok (.lastore, 1) := by decide +kernel
theorem dX7_value_23 : decode cX7_value 23 = .ok (.iconst 1, 1) := by decide +kernel
theorem dX7_value_24 : decode cX7_value 24 = .ok (.ireturn, 1) := by decide +kernel
theorem dX7_steps_0 : decode cX7_steps 0 = .ok (.aload_n 0, 1) := by decide +kernel
theorem dX7_steps_1 : decode cX7_steps 1 = .ok (.iconst 0, 1) := by decide +kernel
theorem dX7_steps_2 : decode cX7_steps 2 = .ok (.putfield 67, 3) := by decide +kernel
theorem dX7_steps_5 : decode cX7_steps 5 = .ok (.aload_n 0, 1) := by decide +kernel
theorem dX7_steps_6 : decode cX7_steps 6 = .ok (.iload_n 1, 1) := by decide +kernel
theorem dX7_steps_7 : decode cX7_steps 7 = .ok (.invokevirtual 73, 3) := by decide +kernel
theorem dX7_steps_10 : decode cX7_steps 10 = .ok (.ifCond .eq 14, 3) := by decide +kernel
theorem dX7_steps_13 : decode cX7_steps 13 = .ok (.iload_n 2, 1) := by decide +kernel
theorem dX7_steps_14 : decode cX7_steps 14 = .ok (.iconst 1, 1) := by decide +kernel
theorem dX7_steps_15 : decode cX7_steps 15 = .ok (.if_icmp .lt 9, 3) := by decide +kernel
theorem dX7_steps_18 : decode cX7_steps 18 = .ok (.iload_n 2, 1) := by decide +kernel
theorem dX7_steps_19 : decode cX7_steps 19 = .ok (.bipush 20, 2) := by decide +kernel
theorem dX7_steps_21 : decode cX7_steps 21 = .ok (.if_icmp .le 6, 3) := by decide +kernel
theorem dX7_steps_24 : decode cX7_steps 24 = .ok (.bipush (-3), 2) := by decide +kernel
theorem dX7_steps_26 : decode cX7_steps 26 = .ok (.ireturn, 1) := by decide +kernel
theorem dX7_steps_27 : decode cX7_steps 27 = .ok (.aload_n 0, 1) := by decide +kernel
theorem dX7_steps_28 : decode cX7_steps 28 = .ok (.getfield 13, 3) := by decide +kernel
theorem dX7_steps_31 : decode cX7_steps 31 = .ok (.iload_n 1, 1) := by decide +kernel
theorem dX7_steps_32 : decode cX7_steps 32 = .ok (.iaload, 1) := by decide +kernel
theorem dX7_steps_33 : decode cX7_steps 33 = .ok (.istore_n 3, 1) := by decide +kernel
theorem dX7_steps_34 : decode cX7_steps 34 = .ok (.aload_n 0, 1) := by decide +kernel
theorem dX7_steps_35 : decode cX7_steps 35 = .ok (.getfield 13, 3) := by decide +kernel
theorem dX7_steps_38 : decode cX7_steps 38 = .ok (.iload_n 1, 1) := by decide +kernel
theorem dX7_steps_39 : decode cX7_steps 39 = .ok (.iload_n 2, 1) := by decide +kernel
theorem dX7_steps_40 : decode cX7_steps 40 = .ok (.iastore, 1) := by decide +kernel
theorem dX7_steps_41 : decode cX7_steps 41 = .ok (.iload_n 3, 1) := by decide +kernel
theorem dX7_steps_42 : decode cX7_steps 42 = .ok (.ireturn, 1) := by decide +kernel
theorem dX7_touch_0 : decode cX7_touch 0 = .ok (.aload_n 0, 1) := by decide +kernel
theorem dX7_touch_1 : decode cX7_touch 1 = .ok (.iconst 0, 1) := by decide +kernel
theorem dX7_touch_2 : decode cX7_touch 2 = .ok (.putfield 67, 3) := by decide +kernel
theorem dX7_touch_5 : decode cX7_touch 5 = .ok (.aload_n 0, 1) := by decide +kernel
theorem dX7_touch_6 : decode cX7_touch 6 = .ok (.iload_n 1, 1) := by decide +kernel
theorem dX7_touch_7 : decode cX7_touch 7 = .ok (.invokevirtual 73, 3) := by decide +kernel
theorem dX7_touch_10 : decode cX7_touch 10 = .ok (.ifCond .eq 13, 3) := by decide +kernel
theorem dX7_touch_13 : decode cX7_touch 13 = .ok (.iload_n 2, 1) := by decide +kernel
theorem dX7_touch_14 : decode cX7_touch 14 = .ok (.ifCond .lt 9, 3) := by decide +kernel
theorem dX7_touch_17 : decode cX7_touch 17 = .ok (.iload_n 2, 1) := by decide +kernel
theorem dX7_touch_18 : decode cX7_touch 18 = .ok (.bipush 16, 2) := by decide +kernel
theorem dX7_touch_20 : decode cX7_touch 20 = .ok (.if_icmp .lt 6, 3) := by decide +kernel
theorem dX7_touch_23 : decode cX7_touch 23 = .ok (.bipush (-3), 2) := by decide +kernel
theorem dX7_touch_25 : decode cX7_touch 25 = .ok (.ireturn, 1) := by decide +kernel
theorem dX7_touch_26 : decode cX7_touch 26 = .ok (.aload_n 0, 1) := by decide +kernel
theorem dX7_touch_27 : decode cX7_touch 27 = .ok (.getfield 17, 3) := by decide +kernel
theorem dX7_touch_30 : decode cX7_touch 30 = .ok (.iload_n 1, 1) := by decide +kernel
theorem dX7_touch_31 : decode cX7_touch 31 = .ok (.iaload, 1) := by decide +kernel
theorem dX7_touch_32 : decode cX7_touch 32 = .ok (.istore_n 3, 1) := by decide +kernel
theorem dX7_touch_33 : decode cX7_touch 33 = .ok (.aload_n 0, 1) := by decide +kernel
theorem dX7_touch_34 : decode cX7_touch 34 = .ok (.getfield 17, 3) := by decide +kernel
theorem dX7_touch_37 : decode cX7_touch 37 = .ok (.iload_n 1, 1) := by decide +kernel
theorem dX7_touch_38 : decode cX7_touch 38 = .ok (.dup2, 1) := by decide +kernel
theorem dX7_touch_39 : decode cX7_touch 39 = .ok (.iaload, 1) := by decide +kernel
theorem dX7_touch_40 : decode cX7_touch 40 = .ok (.iconst 1, 1) := by decide +kernel
theorem dX7_touch_41 : decode cX7_touch 41 = .ok (.iload_n 2, 1) := by decide +kernel
theorem dX7_touch_42 : decode cX7_touch 42 = .ok (.ishl, 1) := by decide +kernel
theorem dX7_touch_43 : decode cX7_touch 43 = .ok (.ior, 1) := by decide +kernel
theorem dX7_touch_44 : decode cX7_touch 44 = .ok (.iastore, 1) := by decide +kernel
theorem dX7_touch_45 : decode cX7_touch 45 = .ok (.iload_n 3, 1) := by decide +kernel
theorem dX7_touch_46 : decode cX7_touch 46 = .ok (.aload_n 0, 1) := by decide +kernel
theorem dX7_touch_47 : decode cX7_touch 47 = .ok (.getfield 17, 3) := by decide +kernel
theorem dX7_touch_50 : decode cX7_touch 50 = .ok (.iload_n 1, 1) := by decide +kernel
theorem dX7_touch_51 : decode cX7_touch 51 = .ok (.iaload, 1) := by decide +kernel
theorem dX7_touch_52 : decode cX7_touch 52 = .ok (.if_icmp .ne 7, 3) := by decide +kernel
theorem dX7_touch_55 : decode cX7_touch 55 = .ok (.iconst 0, 1) := by decide +kernel
theorem dX7_touch_56 : decode cX7_touch 56 = .ok (.goto 4, 3) := by decide +kernel
theorem dX7_touch_59 : decode cX7_touch 59 = .ok (.iconst 1, 1) := by decide +kernel
theorem dX7_touch_60 : decode cX7_touch 60 = .ok (.ireturn, 1) := by decide +kernel
theorem dX7_leave_0 : decode cX7_leave 0 = .ok (.aload_n 0, 1) := by decide +kernel
theorem dX7_leave_1 : decode cX7_leave 1 = .ok (.iconst 0, 1) := by decide +kernel
theorem dX7_leave_2 : decode cX7_leave 2 = .ok (.putfield 67, 3) := by decide +kernel
theorem dX7_leave_5 : decode cX7_leave 5 = .ok (.aload_n 0, 1) := by decide +kernel
theorem dX7_leave_6 : decode cX7_leave 6 = .ok (.iload_n 1, 1) := by decide +kernel
theorem dX7_leave_7 : decode cX7_leave 7 = .ok (.invokevirtual 73, 3) := by decide +kernel
theorem dX7_leave_10 : decode cX7_leave 10 = .ok (.ifCond .ne 6, 3) := by decide +kernel
theorem dX7_leave_13 : decode cX7_leave 13 = .ok (.bipush (-3), 2) := by decide +kernel
theorem dX7_leave_15 : decode cX7_leave 15 = .ok (.ireturn, 1) := by decide +kernel
theorem dX7_leave_16 : decode cX7_leave 16 = .ok (.aload_n 0, 1) := by decide +kernel
theorem dX7_leave_17 : decode cX7_leave 17 = .ok (.getfield 20, 3) := by decide +kernel
theorem dX7_leave_20 : decode cX7_leave 20 = .ok (.iload_n 1, 1) := by decide +kernel
theorem dX7_leave_21 : decode cX7_leave 21 = .ok (.baload, 1) := by decide +kernel
theorem dX7_leave_22 : decode cX7_leave 22 = .ok (.istore_n 3, 1) := by decide +kernel
theorem dX7_leave_23 : decode cX7_leave 23 = .ok (.aload_n 0, 1) := by decide +kernel
theorem dX7_leave_24 : decode cX7_leave 24 = .ok (.getfield 20, 3) := by decide +kernel
theorem dX7_leave_27 : decode cX7_leave 27 = .ok (.iload_n 1, 1) := by decide +kernel
theorem dX7_leave_28 : decode cX7_leave 28 = .ok (.iload_n 2, 1) := by decide +kernel
theorem dX7_leave_29 : decode cX7_leave 29 = .ok (.bastore, 1) := by decide +kernel
theorem dX7_leave_30 : decode cX7_leave 30 = .ok (.iload_n 3, 1) := by decide +kernel
theorem dX7_leave_31 : decode cX7_leave 31 = .ok (.iload_n 2, 1) := by decide +kernel
theorem dX7_leave_32 : decode cX7_leave 32 = .ok (.if_icmp .ne 7, 3) := by decide +kernel
theorem dX7_leave_35 : decode cX7_leave 35 = .ok (.iconst 0, 1) := by decide +kernel
theorem dX7_leave_36 : decode cX7_leave 36 = .ok (.goto 4, 3) := by decide +kernel
theorem dX7_leave_39 : decode cX7_leave 39 = .ok (.iconst 1, 1) := by decide +kernel
theorem dX7_leave_40 : decode cX7_leave 40 = .ok (.ireturn, 1) := by decide +kernel
theorem dX7_arrange_0 : decode cX7_arrange 0 = .ok (.iconst 0, 1) := by decide +kernel
theorem dX7_arrange_1 : decode cX7_arrange 1 = .ok (.istore_n 1, 1) := by decide +kernel
theorem dX7_arrange_2 : decode cX7_arrange 2 = .ok (.iconst 0, 1) := by decide +kernel
theorem dX7_arrange_3 : decode cX7_arrange 3 = .ok (.istore_n 2, 1) := by decide +kernel
theorem dX7_arrange_4 : decode cX7_arrange 4 = .ok (.iload_n 2, 1) := by decide +kernel
theorem dX7_arrange_5 : decode cX7_arrange 5 = .ok (.aload_n 0, 1) := by decide +kernel
theorem dX7_arrange_6 : decode cX7_arrange 6 = .ok (.getfield 60, 3) := by decide +kernel
theorem dX7_arrange_9 : decode cX7_arrange 9 = .ok (.if_icmp .ge 134, 3) := by decide +kernel
theorem dX7_arrange_12 : decode cX7_arrange 12 = .ok (.aload_n 0, 1) := by decide +kernel
theorem dX7_arrange_13 : decode cX7_arrange 13 = .ok (.getfield 24, 3) := by decide +kernel
theorem dX7_arrange_16 : decode cX7_arrange 16 = .ok (.iload_n 2, 1) := by decide +kernel
theorem dX7_arrange_17 : decode cX7_arrange 17 = .ok (.iconst (-1), 1) := by decide +kernel
theorem dX7_arrange_18 : decode cX7_arrange 18 = .ok (.iastore, 1) := by decide +kernel
theorem dX7_arrange_19 : decode cX7_arrange 19 = .ok (.aload_n 0, 1) := by decide +kernel
theorem dX7_arrange_20 : decode cX7_arrange 20 = .ok (.getfield 20, 3) := by decide +kernel
theorem dX7_arrange_23 : decode cX7_arrange 23 = .ok (.iload_n 2, 1) := by decide +kernel
theorem dX7_arrange_24 : decode cX7_arrange 24 = .ok (.baload, 1) := by decide +kernel
theorem dX7_arrange_25 : decode cX7_arrange 25 = .ok (.ifCond .eq 6, 3) := by decide +kernel
theorem dX7_arrange_28 : decode cX7_arrange 28 = .ok (.goto 109, 3) := by decide +kernel
theorem dX7_arrange_31 : decode cX7_arrange 31 = .ok (.iconst 0, 1) := by decide +kernel
theorem dX7_arrange_32 : decode cX7_arrange 32 = .ok (.istore_n 3, 1) := by decide +kernel
theorem dX7_arrange_33 : decode cX7_arrange 33 = .ok (.iconst 0, 1) := by decide +kernel
theorem dX7_arrange_34 : decode cX7_arrange 34 = .ok (.istore 4, 2) := by decide +kernel
theorem dX7_arrange_36 : decode cX7_arrange 36 = .ok (.iload 4, 2) := by decide +kernel
theorem dX7_arrange_38 : decode cX7_arrange 38 = .ok (.ifCond .ne 77, 3) := by decide +kernel
theorem dX7_arrange_41 : decode cX7_arrange 41 = .ok (.iconst 1, 1) := by decide +kernel
theorem dX7_arrange_42 : decode cX7_arrange 42 = .ok (.istore 4, 2) := by decide +kernel
theorem dX7_arrange_44 : decode cX7_arrange 44 = .ok (.iconst 0, 1) := by decide +kernel
theorem dX7_arrange_45 : decode cX7_arrange 45 = .ok (.istore 5, 2) := by decide +kernel
theorem dX7_arrange_47 : decode cX7_arrange 47 = .ok (.iload 5, 2) := by decide +kernel
theorem dX7_arrange_49 : decode cX7_arrange 49 = .ok (.iload_n 2, 1) := by decide +kernel
theorem dX7_arrange_50 : decode cX7_arrange 50 = .ok (.if_icmp .ge 49, 3) := by decide +kernel
theorem dX7_arrange_53 : decode cX7_arrange 53 = .ok (.iload 4, 2) := by decide +kernel
theorem dX7_arrange_55 : decode cX7_arrange 55 = .ok (.ifCond .eq 35, 3) := by decide +kernel
theorem dX7_arrange_58 : decode cX7_arrange 58 = .ok (.aload_n 0, 1) := by decide +kernel
theorem dX7_arrange_59 : decode cX7_arrange 59 = .ok (.getfield 24, 3) := by decide +kernel
theorem dX7_arrange_62 : decode cX7_arrange 62 = .ok (.iload 5, 2) := by decide +kernel
theorem dX7_arrange_64 : decode cX7_arrange 64 = .ok (.iaload, 1) := by decide +kernel
theorem dX7_arrange_65 : decode cX7_arrange 65 = .ok (.iload_n 3, 1) := by decide +kernel
theorem dX7_arrange_66 : decode cX7_arrange 66 = .ok (.if_icmp .ne 20, 3) := by decide +kernel
theorem dX7_arrange_69 : decode cX7_arrange 69 = .ok (.aload_n 0, 1) := by decide +kernel
theorem dX7_arrange_70 : decode cX7_arrange 70 = .ok (.getfield 17, 3) := by decide +kernel
theorem dX7_arrange_73 : decode cX7_arrange 73 = .ok (.iload 5, 2) := by decide +kernel
theorem dX7_arrange_75 : decode cX7_arrange 75 = .ok (.iaload, 1) := by decide +kernel
theorem dX7_arrange_76 : decode cX7_arrange 76 = .ok (.aload_n 0, 1) := by decide +kernel
theorem dX7_arrange_77 : decode cX7_arrange 77 = .ok (.getfield 17, 3) := by decide +kernel
theorem dX7_arrange_80 : decode cX7_arrange 80 = .ok (.iload_n 2, 1) := by decide +kernel
theorem dX7_arrange_81 : decode cX7_arrange 81 = .ok (.iaload, 1) := by decide +kernel
theorem dX7_arrange_82 : decode cX7_arrange 82 = .ok (.iand, 1) := by decide +kernel
theorem dX7_arrange_83 : decode cX7_arrange 83 = .ok (.ifCond .ne 7, 3) := by decide +kernel
theorem dX7_arrange_86 : decode cX7_arrange 86 = .ok (.iconst 1, 1) := by decide +kernel
theorem dX7_arrange_87 : decode cX7_arrange 87 = .ok (.goto 4, 3) := by decide +kernel
theorem dX7_arrange_90 : decode cX7_arrange 90 = .ok (.iconst 0, 1) := by decide +kernel
theorem dX7_arrange_91 : decode cX7_arrange 91 = .ok (.istore 4, 2) := by decide +kernel
theorem dX7_arrange_93 : decode cX7_arrange 93 = .ok (.iinc 5 1, 3) := by decide +kernel
theorem dX7_arrange_96 : decode cX7_arrange 96 = .ok (.goto (-49), 3) := by decide +kernel
theorem dX7_arrange_99 : decode cX7_arrange 99 = .ok (.iload_n 3, 1) := by decide +kernel
theorem dX7_arrange_100 : decode cX7_arrange 100 = .ok (.iload 4, 2) := by decide +kernel
theorem dX7_arrange_102 : decode cX7_arrange 102 = .ok (.ifCond .eq 7, 3) := by decide +kernel
theorem dX7_arrange_105 : decode cX7_arrange 105 = .ok (.iconst 0, 1) := by decide +kernel
theorem dX7_arrange_106 : decode cX7_arrange 106 = .ok (.goto 4, 3) := by decide +kernel
theorem dX7_arrange_109 : decode cX7_arrange 109 = .ok (.iconst 1, 1) := by decide +kernel
theorem dX7_arrange_110 : decode cX7_arrange 110 = .ok (.iadd, 1) := by decide +kernel
theorem dX7_arrange_111 : decode cX7_arrange 111 = .ok (.istore_n 3, 1) := by decide +kernel
theorem dX7_arrange_112 : decode cX7_arrange 112 = .ok (.goto (-76), 3) := by decide +kernel
theorem dX7_arrange_115 : decode cX7_arrange 115 = .ok (.aload_n 0, 1) := by decide +kernel
theorem dX7_arrange_116 : decode cX7_arrange 116 = .ok (.getfield 24, 3) := by decide +kernel
theorem dX7_arrange_119 : decode cX7_arrange 119 = .ok (.iload_n 2, 1) := by decide +kernel
theorem dX7_arrange_120 : decode cX7_arrange 120 = .ok (.iload_n 3, 1) := by decide +kernel
theorem dX7_arrange_121 : decode cX7_arrange 121 = .ok (.iastore, 1) := by decide +kernel
theorem dX7_arrange_122 : decode cX7_arrange 122 = .ok (.iload_n 3, 1) := by decide +kernel
theorem dX7_arrange_123 : decode cX7_arrange 123 = .ok (.iconst 1, 1) := by decide +kernel
theorem dX7_arrange_124 : decode cX7_arrange 124 = .ok (.iadd, 1) := by decide +kernel
theorem dX7_arrange_125 : decode cX7_arrange 125 = .ok (.iload_n 1, 1) := by decide +kernel
theorem dX7_arrange_126 : decode cX7_arrange 126 = .ok (.if_icmp .le 9, 3) := by decide +kernel
theorem dX7_arrange_129 : decode cX7_arrange 129 = .ok (.iload_n 3, 1) := by decide +kernel
theorem dX7_arrange_130 : decode cX7_arrange 130 = .ok (.iconst 1, 1) := by decide +kernel
theorem dX7_arrange_131 : decode cX7_arrange 131 = .ok (.iadd, 1) := by decide +kernel
theorem dX7_arrange_132 : decode cX7_arrange 132 = .ok (.goto 4, 3) := by decide +kernel
theorem dX7_arrange_135 : decode cX7_arrange 135 = .ok (.iload_n 1, 1) := by decide +kernel
theorem dX7_arrange_136 : decode cX7_arrange 136 = .ok (.istore_n 1, 1) := by decide +kernel
theorem dX7_arrange_137 : decode cX7_arrange 137 = .ok (.iinc 2 1, 3) := by decide +kernel
theorem dX7_arrange_140 : decode cX7_arrange 140 = .ok (.goto (-136), 3) := by decide +kernel
theorem dX7_arrange_143 : decode cX7_arrange 143 = .ok (.iload_n 1, 1) := by decide +kernel
theorem dX7_arrange_144 : decode cX7_arrange 144 = .ok (.ireturn, 1) := by decide +kernel
theorem dX7_batches_0 : decode cX7_batches 0 = .ok (.aload_n 0, 1) := by decide +kernel
theorem dX7_batches_1 : decode cX7_batches 1 = .ok (.iconst 0, 1) := by decide +kernel
theorem dX7_batches_2 : decode cX7_batches 2 = .ok (.putfield 67, 3) := by decide +kernel
theorem dX7_batches_5 : decode cX7_batches 5 = .ok (.aload_n 0, 1) := by decide +kernel
theorem dX7_batches_6 : decode cX7_batches 6 = .ok (.invokevirtual 77, 3) := by decide +kernel
theorem dX7_batches_9 : decode cX7_batches 9 = .ok (.ireturn, 1) := by decide +kernel
theorem dX7_batch_0 : decode cX7_batch 0 = .ok (.aload_n 0, 1) := by decide +kernel
theorem dX7_batch_1 : decode cX7_batch 1 = .ok (.iconst 0, 1) := by decide +kernel
theorem dX7_batch_2 : decode cX7_batch 2 = .ok (.putfield 67, 3) := by decide +kernel
theorem dX7_batch_5 : decode cX7_batch 5 = .ok (.aload_n 0, 1) := by decide +kernel
theorem dX7_batch_6 : decode cX7_batch 6 = .ok (.invokevirtual 77, 3) := by decide +kernel
theorem dX7_batch_9 : decode cX7_batch 9 = .ok (.pop, 1) := by decide +kernel
theorem dX7_batch_10 : decode cX7_batch 10 = .ok (.aload_n 0, 1) := by decide +kernel
theorem dX7_batch_11 : decode cX7_batch 11 = .ok (.iload_n 1, 1) := by decide +kernel
theorem dX7_batch_12 : decode cX7_batch 12 = .ok (.invokevirtual 73, 3) := by decide +kernel
theorem dX7_batch_15 : decode cX7_batch 15 = .ok (.ifCond .eq 12, 3) := by decide +kernel
theorem dX7_batch_18 : decode cX7_batch 18 = .ok (.aload_n 0, 1) := by decide +kernel
theorem dX7_batch_19 : decode cX7_batch 19 = .ok (.getfield 24, 3) := by decide +kernel
theorem dX7_batch_22 : decode cX7_batch 22 = .ok (.iload_n 1, 1) := by decide +kernel
theorem dX7_batch_23 : decode cX7_batch 23 = .ok (.iaload, 1) := by decide +kernel
theorem dX7_batch_24 : decode cX7_batch 24 = .ok (.goto 5, 3) := by decide +kernel
theorem dX7_batch_27 : decode cX7_batch 27 = .ok (.bipush (-3), 2) := by decide +kernel
theorem dX7_batch_29 : decode cX7_batch 29 = .ok (.ireturn, 1) := by decide +kernel
theorem dX7_failureOf_0 : decode cX7_failureOf 0 = .ok (.iconst 0, 1) := by decide +kernel
theorem dX7_failureOf_1 : decode cX7_failureOf 1 = .ok (.istore_n 3, 1) := by decide +kernel
theorem dX7_failureOf_2 : decode cX7_failureOf 2 = .ok (.iload_n 3, 1) := by decide +kernel
theorem dX7_failureOf_3 : decode cX7_failureOf 3 = .ok (.aload_n 0, 1) := by decide +kernel
theorem dX7_failureOf_4 : decode cX7_failureOf 4 = .ok (.getfield 70, 3) := by decide +kernel
theorem dX7_failureOf_7 : decode cX7_failureOf 7 = .ok (.if_icmp .ge 31, 3) := by decide +kernel
theorem dX7_failureOf_10 : decode cX7_failureOf 10 = .ok (.aload_n 0, 1) := by decide +kernel
theorem dX7_failureOf_11 : decode cX7_failureOf 11 = .ok (.getfield 27, 3) := by decide +kernel
theorem dX7_failureOf_14 : decode cX7_failureOf 14 = .ok (.iload_n 3, 1) := by decide +kernel
theorem dX7_failureOf_15 : decode cX7_failureOf 15 = .ok (.iaload, 1) := by decide +kernel
theorem dX7_failureOf_16 : decode cX7_failureOf 16 = .ok (.iload_n 1, 1) := by decide +kernel
theorem dX7_failureOf_17 : decode cX7_failureOf 17 = .ok (.if_icmp .ne 15, 3) := by decide +kernel
theorem dX7_failureOf_20 : decode cX7_failureOf 20 = .ok (.aload_n 0, 1) := by decide +kernel
theorem dX7_failureOf_21 : decode cX7_failureOf 21 = .ok (.getfield 30, 3) := by decide +kernel
theorem dX7_failureOf_24 : decode cX7_failureOf 24 = .ok (.iload_n 3, 1) := by decide +kernel
theorem dX7_failureOf_25 : decode cX7_failureOf 25 = .ok (.iaload, 1) := by decide +kernel
theorem dX7_failureOf_26 : decode cX7_failureOf 26 = .ok (.iload_n 2, 1) := by decide +kernel
theorem dX7_failureOf_27 : decode cX7_failureOf 27 = .ok (.if_icmp .ne 5, 3) := by decide +kernel
theorem dX7_failureOf_30 : decode cX7_failureOf 30 = .ok (.iload_n 3, 1) := by decide +kernel
theorem dX7_failureOf_31 : decode cX7_failureOf 31 = .ok (.ireturn, 1) := by decide +kernel
theorem dX7_failureOf_32 : decode cX7_failureOf 32 = .ok (.iinc 3 1, 3) := by decide +kernel
theorem dX7_failureOf_35 : decode cX7_failureOf 35 = .ok (.goto (-33), 3) := by decide +kernel
theorem dX7_failureOf_38 : decode cX7_failureOf 38 = .ok (.iconst (-1), 1) := by decide +kernel
theorem dX7_failureOf_39 : decode cX7_failureOf 39 = .ok (.ireturn, 1) := by decide +kernel
theorem dX7_fail_0 : decode cX7_fail 0 = .ok (.aload_n 0, 1) := by decide +kernel
theorem dX7_fail_1 : decode cX7_fail 1 = .ok (.iconst 0, 1) := by decide +kernel
theorem dX7_fail_2 : decode cX7_fail 2 = .ok (.putfield 67, 3) := by decide +kernel
theorem dX7_fail_5 : decode cX7_fail 5 = .ok (.iload_n 1, 1) := by decide +kernel
theorem dX7_fail_6 : decode cX7_fail 6 = .ok (.ifCond .lt 17, 3) := by decide +kernel
theorem dX7_fail_9 : decode cX7_fail 9 = .ok (.iload_n 1, 1) := by decide +kernel
theorem dX7_fail_10 : decode cX7_fail 10 = .ok (.bipush 16, 2) := by decide +kernel
theorem dX7_fail_12 : decode cX7_fail 12 = .ok (.if_icmp .ge 11, 3) := by decide +kernel
theorem dX7_fail_15 : decode cX7_fail 15 = .ok (.aload_n 0, 1) := by decide +kernel
theorem dX7_fail_16 : decode cX7_fail 16 = .ok (.iload_n 2, 1) := by decide +kernel
theorem dX7_fail_17 : decode cX7_fail 17 = .ok (.invokevirtual 73, 3) := by decide +kernel
theorem dX7_fail_20 : decode cX7_fail 20 = .ok (.ifCond .ne 6, 3) := by decide +kernel
theorem dX7_fail_23 : decode cX7_fail 23 = .ok (.bipush (-3), 2) := by decide +kernel
theorem dX7_fail_25 : decode cX7_fail 25 = .ok (.ireturn, 1) := by decide +kernel
theorem dX7_fail_26 : decode cX7_fail 26 = .ok (.aload_n 0, 1) := by decide +kernel
theorem dX7_fail_27 : decode cX7_fail 27 = .ok (.iload_n 1, 1) := by decide +kernel
theorem dX7_fail_28 : decode cX7_fail 28 = .ok (.iload_n 2, 1) := by decide +kernel
theorem dX7_fail_29 : decode cX7_fail 29 = .ok (.invokevirtual 81, 3) := by decide +kernel
theorem dX7_fail_32 : decode cX7_fail 32 = .ok (.iconst (-1), 1) := by decide +kernel
theorem dX7_fail_33 : decode cX7_fail 33 = .ok (.if_icmp .eq 5, 3) := by decide +kernel
theorem dX7_fail_36 : decode cX7_fail 36 = .ok (.iconst 0, 1) := by decide +kernel
theorem dX7_fail_37 : decode cX7_fail 37 = .ok (.ireturn, 1) := by decide +kernel
theorem dX7_fail_38 : decode cX7_fail 38 = .ok (.aload_n 0, 1) := by decide +kernel
theorem dX7_fail_39 : decode cX7_fail 39 = .ok (.getfield 70, 3) := by decide +kernel
theorem dX7_fail_42 : decode cX7_fail 42 = .ok (.bipush 20, 2) := by decide +kernel
theorem dX7_fail_44 : decode cX7_fail 44 = .ok (.if_icmp .ne 6, 3) := by decide +kernel
theorem dX7_fail_47 : decode cX7_fail 47 = .ok (.bipush (-4), 2) := by decide +kernel
theorem dX7_fail_49 : decode cX7_fail 49 = .ok (.ireturn, 1) := by decide +kernel
theorem dX7_fail_50 : decode cX7_fail 50 = .ok (.aload_n 0, 1) := by decide +kernel
theorem dX7_fail_51 : decode cX7_fail 51 = .ok (.getfield 27, 3) := by decide +kernel
theorem dX7_fail_54 : decode cX7_fail 54 = .ok (.aload_n 0, 1) := by decide +kernel
theorem dX7_fail_55 : decode cX7_fail 55 = .ok (.getfield 70, 3) := by decide +kernel
theorem dX7_fail_58 : decode cX7_fail 58 = .ok (.iload_n 1, 1) := by decide +kernel
theorem dX7_fail_59 : decode cX7_fail 59 = .ok (.iastore, 1) := by decide +kernel
theorem dX7_fail_60 : decode cX7_fail 60 = .ok (.aload_n 0, 1) := by decide +kernel
theorem dX7_fail_61 : decode cX7_fail 61 = .ok (.getfield 30, 3) := by decide +kernel
theorem dX7_fail_64 : decode cX7_fail 64 = .ok (.aload_n 0, 1) := by decide +kernel
theorem dX7_fail_65 : decode cX7_fail 65 = .ok (.getfield 70, 3) := by decide +kernel
theorem dX7_fail_68 : decode cX7_fail 68 = .ok (.iload_n 2, 1) := by decide +kernel
theorem dX7_fail_69 : decode cX7_fail 69 = .ok (.iastore, 1) := by decide +kernel
theorem dX7_fail_70 : decode cX7_fail 70 = .ok (.aload_n 0, 1) := by decide +kernel
theorem dX7_fail_71 : decode cX7_fail 71 = .ok (.dup, 1) := by decide +kernel
theorem dX7_fail_72 : decode cX7_fail 72 = .ok (.getfield 70, 3) := by decide +kernel
theorem dX7_fail_75 : decode cX7_fail 75 = .ok (.iconst 1, 1) := by decide +kernel
theorem dX7_fail_76 : decode cX7_fail 76 = .ok (.iadd, 1) := by decide +kernel
theorem dX7_fail_77 : decode cX7_fail 77 = .ok (.putfield 70, 3) := by decide +kernel
theorem dX7_fail_80 : decode cX7_fail 80 = .ok (.aload_n 0, 1) := by decide +kernel
theorem dX7_fail_81 : decode cX7_fail 81 = .ok (.getfield 70, 3) := by decide +kernel
theorem dX7_fail_84 : decode cX7_fail 84 = .ok (.ireturn, 1) := by decide +kernel
theorem dX7_forget_0 : decode cX7_forget 0 = .ok (.aload_n 0, 1) := by decide +kernel
theorem dX7_forget_1 : decode cX7_forget 1 = .ok (.dup, 1) := by decide +kernel
theorem dX7_forget_2 : decode cX7_forget 2 = .ok (.getfield 70, 3) := by decide +kernel
theorem dX7_forget_5 : decode cX7_forget 5 = .ok (.iconst 1, 1) := by decide +kernel
theorem dX7_forget_6 : decode cX7_forget 6 = .ok (.isub, 1) := by decide +kernel
theorem dX7_forget_7 : decode cX7_forget 7 = .ok (.putfield 70, 3) := by decide +kernel
theorem dX7_forget_10 : decode cX7_forget 10 = .ok (.iload_n 1, 1) := by decide +kernel
theorem dX7_forget_11 : decode cX7_forget 11 = .ok (.istore_n 2, 1) := by decide +kernel
theorem dX7_forget_12 : decode cX7_forget 12 = .ok (.iload_n 2, 1) := by decide +kernel
theorem dX7_forget_13 : decode cX7_forget 13 = .ok (.aload_n 0, 1) := by decide +kernel
theorem dX7_forget_14 : decode cX7_forget 14 = .ok (.getfield 70, 3) := by decide +kernel
theorem dX7_forget_17 : decode cX7_forget 17 = .ok (.if_icmp .ge 37, 3) := by decide +kernel
theorem dX7_forget_20 : decode cX7_forget 20 = .ok (.aload_n 0, 1) := by decide +kernel
theorem dX7_forget_21 : decode cX7_forget 21 = .ok (.getfield 27, 3) := by decide +kernel
theorem dX7_forget_24 : decode cX7_forget 24 = .ok (.iload_n 2, 1) := by decide +kernel
theorem dX7_forget_25 : decode cX7_forget 25 = .ok (.aload_n 0, 1) := by decide +kernel
theorem dX7_forget_26 : decode cX7_forget 26 = .ok (.getfield 27, 3) := by decide +kernel
theorem dX7_forget_29 : decode cX7_forget 29 = .ok (.iload_n 2, 1) := by decide +kernel
theorem dX7_forget_30 : decode cX7_forget 30 = .ok (.iconst 1, 1) := by decide +kernel
theorem dX7_forget_31 : decode cX7_forget 31 = .ok (.iadd, 1) := by decide +kernel
theorem dX7_forget_32 : decode cX7_forget 32 = .ok (.iaload, 1) := by decide +kernel
theorem dX7_forget_33 : decode cX7_forget 33 = .ok (.iastore, 1) := by decide +kernel
theorem dX7_forget_34 : decode cX7_forget 34 = .ok (.aload_n 0, 1) := by decide +kernel
theorem dX7_forget_35 : decode cX7_forget 35 = .ok (.getfield 30, 3) := by decide +kernel
theorem dX7_forget_38 : decode cX7_forget 38 = .ok (.iload_n 2, 1) := by decide +kernel
theorem dX7_forget_39 : decode cX7_forget 39 = .ok (.aload_n 0, 1) := by decide +kernel
theorem dX7_forget_40 : decode cX7_forget 40 = .ok (.getfield 30, 3) := by decide +kernel
theorem dX7_forget_43 : decode cX7_forget 43 = .ok (.iload_n 2, 1) := by decide +kernel
theorem dX7_forget_44 : decode cX7_forget 44 = .ok (.iconst 1, 1) := by decide +kernel
theorem dX7_forget_45 : decode cX7_forget 45 = .ok (.iadd, 1) := by decide +kernel
theorem dX7_forget_46 : decode cX7_forget 46 = .ok (.iaload, 1) := by decide +kernel
theorem dX7_forget_47 : decode cX7_forget 47 = .ok (.iastore, 1) := by decide +kernel
theorem dX7_forget_48 : decode cX7_forget 48 = .ok (.iinc 2 1, 3) := by decide +kernel
theorem dX7_forget_51 : decode cX7_forget 51 = .ok (.goto (-39), 3) := by decide +kernel
theorem dX7_forget_54 : decode cX7_forget 54 = .ok (.return_, 1) := by decide +kernel
theorem dX7_turned_0 : decode cX7_turned 0 = .ok (.lload_n 0, 1) := by decide +kernel
theorem dX7_turned_1 : decode cX7_turned 1 = .ok (.iload_n 2, 1) := by decide +kernel
theorem dX7_turned_2 : decode cX7_turned 2 = .ok (.lshl, 1) := by decide +kernel
theorem dX7_turned_3 : decode cX7_turned 3 = .ok (.lload_n 0, 1) := by decide +kernel
theorem dX7_turned_4 : decode cX7_turned 4 = .ok (.bipush 64, 2) := by decide +kernel
theorem dX7_turned_6 : decode cX7_turned 6 = .ok (.iload_n 2, 1) := by decide +kernel
theorem dX7_turned_7 : decode cX7_turned 7 = .ok (.isub, 1) := by decide +kernel
theorem dX7_turned_8 : decode cX7_turned 8 = .ok (.lushr, 1) := by decide +kernel
theorem dX7_turned_9 : decode cX7_turned 9 = .ok (.lor, 1) := by decide +kernel
theorem dX7_turned_10 : decode cX7_turned 10 = .ok (.lreturn, 1) := by decide +kernel
theorem dX7_resultOf_0 : decode cX7_resultOf 0 = .ok (.aload_n 0, 1) := by decide +kernel
theorem dX7_resultOf_1 : decode cX7_resultOf 1 = .ok (.getfield 7, 3) := by decide +kernel
theorem dX7_resultOf_4 : decode cX7_resultOf 4 = .ok (.iload_n 1, 1) := by decide +kernel
theorem dX7_resultOf_5 : decode cX7_resultOf 5 = .ok (.laload, 1) := by decide +kernel
theorem dX7_resultOf_6 : decode cX7_resultOf 6 = .ok (.lstore_n 2, 1) := by decide +kernel
theorem dX7_resultOf_7 : decode cX7_resultOf 7 = .ok (.iconst 0, 1) := by decide +kernel
theorem dX7_resultOf_8 : decode cX7_resultOf 8 = .ok (.istore 4, 2) := by decide +kernel
theorem dX7_resultOf_10 : decode cX7_resultOf 10 = .ok (.iload 4, 2) := by decide +kernel
theorem dX7_resultOf_12 : decode cX7_resultOf 12 = .ok (.aload_n 0, 1) := by decide +kernel
theorem dX7_resultOf_13 : decode cX7_resultOf 13 = .ok (.getfield 13, 3) := by decide +kernel
theorem dX7_resultOf_16 : decode cX7_resultOf 16 = .ok (.iload_n 1, 1) := by decide +kernel
theorem dX7_resultOf_17 : decode cX7_resultOf 17 = .ok (.iaload, 1) := by decide +kernel
theorem dX7_resultOf_18 : decode cX7_resultOf 18 = .ok (.if_icmp .ge 31, 3) := by decide +kernel
theorem dX7_resultOf_21 : decode cX7_resultOf 21 = .ok (.lload_n 2, 1) := by decide +kernel
theorem dX7_resultOf_22 : decode cX7_resultOf 22 = .ok (.bipush 7, 2) := by decide +kernel
theorem dX7_resultOf_24 : decode cX7_resultOf 24 = .ok (.invokestatic 85, 3) := by decide +kernel
theorem dX7_resultOf_27 : decode cX7_resultOf 27 = .ok (.aload_n 0, 1) := by decide +kernel
theorem dX7_resultOf_28 : decode cX7_resultOf 28 = .ok (.getfield 7, 3) := by decide +kernel
theorem dX7_resultOf_31 : decode cX7_resultOf 31 = .ok (.iload_n 1, 1) := by decide +kernel
theorem dX7_resultOf_32 : decode cX7_resultOf 32 = .ok (.laload, 1) := by decide +kernel
theorem dX7_resultOf_33 : decode cX7_resultOf 33 = .ok (.lxor, 1) := by decide +kernel
theorem dX7_resultOf_34 : decode cX7_resultOf 34 = .ok (.ldc2_w 89, 3) := by decide +kernel
theorem dX7_resultOf_37 : decode cX7_resultOf 37 = .ok (.lmul, 1) := by decide +kernel
theorem dX7_resultOf_38 : decode cX7_resultOf 38 = .ok (.iload 4, 2) := by decide +kernel
theorem dX7_resultOf_40 : decode cX7_resultOf 40 = .ok (.i2l, 1) := by decide +kernel
theorem dX7_resultOf_41 : decode cX7_resultOf 41 = .ok (.ladd, 1) := by decide +kernel
theorem dX7_resultOf_42 : decode cX7_resultOf 42 = .ok (.lstore_n 2, 1) := by decide +kernel
theorem dX7_resultOf_43 : decode cX7_resultOf 43 = .ok (.iinc 4 1, 3) := by decide +kernel
theorem dX7_resultOf_46 : decode cX7_resultOf 46 = .ok (.goto (-36), 3) := by decide +kernel
theorem dX7_resultOf_49 : decode cX7_resultOf 49 = .ok (.lload_n 2, 1) := by decide +kernel
theorem dX7_resultOf_50 : decode cX7_resultOf 50 = .ok (.lreturn, 1) := by decide +kernel
theorem dX7_liveCount_0 : decode cX7_liveCount 0 = .ok (.iconst 0, 1) := by decide +kernel
theorem dX7_liveCount_1 : decode cX7_liveCount 1 = .ok (.istore_n 1, 1) := by decide +kernel
theorem dX7_liveCount_2 : decode cX7_liveCount 2 = .ok (.iconst 0, 1) := by decide +kernel
theorem dX7_liveCount_3 : decode cX7_liveCount 3 = .ok (.istore_n 2, 1) := by decide +kernel
theorem dX7_liveCount_4 : decode cX7_liveCount 4 = .ok (.iload_n 2, 1) := by decide +kernel
theorem dX7_liveCount_5 : decode cX7_liveCount 5 = .ok (.aload_n 0, 1) := by decide +kernel
theorem dX7_liveCount_6 : decode cX7_liveCount 6 = .ok (.getfield 91, 3) := by decide +kernel
theorem dX7_liveCount_9 : decode cX7_liveCount 9 = .ok (.if_icmp .ge 26, 3) := by decide +kernel
theorem dX7_liveCount_12 : decode cX7_liveCount 12 = .ok (.iload_n 1, 1) := by decide +kernel
theorem dX7_liveCount_13 : decode cX7_liveCount 13 = .ok (.aload_n 0, 1) := by decide +kernel
theorem dX7_liveCount_14 : decode cX7_liveCount 14 = .ok (.getfield 48, 3) := by decide +kernel
theorem dX7_liveCount_17 : decode cX7_liveCount 17 = .ok (.iload_n 2, 1) := by decide +kernel
theorem dX7_liveCount_18 : decode cX7_liveCount 18 = .ok (.baload, 1) := by decide +kernel
theorem dX7_liveCount_19 : decode cX7_liveCount 19 = .ok (.ifCond .eq 7, 3) := by decide +kernel
theorem dX7_liveCount_22 : decode cX7_liveCount 22 = .ok (.iconst 1, 1) := by decide +kernel
theorem dX7_liveCount_23 : decode cX7_liveCount 23 = .ok (.goto 4, 3) := by decide +kernel
theorem dX7_liveCount_26 : decode cX7_liveCount 26 = .ok (.iconst 0, 1) := by decide +kernel
theorem dX7_liveCount_27 : decode cX7_liveCount 27 = .ok (.iadd, 1) := by decide +kernel
theorem dX7_liveCount_28 : decode cX7_liveCount 28 = .ok (.istore_n 1, 1) := by decide +kernel
theorem dX7_liveCount_29 : decode cX7_liveCount 29 = .ok (.iinc 2 1, 3) := by decide +kernel
theorem dX7_liveCount_32 : decode cX7_liveCount 32 = .ok (.goto (-28), 3) := by decide +kernel
theorem dX7_liveCount_35 : decode cX7_liveCount 35 = .ok (.iload_n 1, 1) := by decide +kernel
theorem dX7_liveCount_36 : decode cX7_liveCount 36 = .ok (.ireturn, 1) := by decide +kernel
theorem dX7_liveAt_0 : decode cX7_liveAt 0 = .ok (.lload_n 1, 1) := by decide +kernel
theorem dX7_liveAt_1 : decode cX7_liveAt 1 = .ok (.lstore_n 3, 1) := by decide +kernel
theorem dX7_liveAt_2 : decode cX7_liveAt 2 = .ok (.iconst 0, 1) := by decide +kernel
theorem dX7_liveAt_3 : decode cX7_liveAt 3 = .ok (.istore 5, 2) := by decide +kernel
theorem dX7_liveAt_5 : decode cX7_liveAt 5 = .ok (.aload_n 0, 1) := by decide +kernel
theorem dX7_liveAt_6 : decode cX7_liveAt 6 = .ok (.getfield 48, 3) := by decide +kernel
theorem dX7_liveAt_9 : decode cX7_liveAt 9 = .ok (.iload 5, 2) := by decide +kernel
theorem dX7_liveAt_11 : decode cX7_liveAt 11 = .ok (.baload, 1) := by decide +kernel
theorem dX7_liveAt_12 : decode cX7_liveAt 12 = .ok (.ifCond .eq 9, 3) := by decide +kernel
theorem dX7_liveAt_15 : decode cX7_liveAt 15 = .ok (.lload_n 3, 1) := by decide +kernel
theorem dX7_liveAt_16 : decode cX7_liveAt 16 = .ok (.lconst 0, 1) := by decide +kernel
theorem dX7_liveAt_17 : decode cX7_liveAt 17 = .ok (.lcmp, 1) := by decide +kernel
theorem dX7_liveAt_18 : decode cX7_liveAt 18 = .ok (.ifCond .le 27, 3) := by decide +kernel
theorem dX7_liveAt_21 : decode cX7_liveAt 21 = .ok (.lload_n 3, 1) := by decide +kernel
theorem dX7_liveAt_22 : decode cX7_liveAt 22 = .ok (.aload_n 0, 1) := by decide +kernel
theorem dX7_liveAt_23 : decode cX7_liveAt 23 = .ok (.getfield 48, 3) := by decide +kernel
theorem dX7_liveAt_26 : decode cX7_liveAt 26 = .ok (.iload 5, 2) := by decide +kernel
theorem dX7_liveAt_28 : decode cX7_liveAt 28 = .ok (.baload, 1) := by decide +kernel
theorem dX7_liveAt_29 : decode cX7_liveAt 29 = .ok (.ifCond .eq 7, 3) := by decide +kernel
theorem dX7_liveAt_32 : decode cX7_liveAt 32 = .ok (.lconst 1, 1) := by decide +kernel
theorem dX7_liveAt_33 : decode cX7_liveAt 33 = .ok (.goto 4, 3) := by decide +kernel
theorem dX7_liveAt_36 : decode cX7_liveAt 36 = .ok (.lconst 0, 1) := by decide +kernel
theorem dX7_liveAt_37 : decode cX7_liveAt 37 = .ok (.lsub, 1) := by decide +kernel
theorem dX7_liveAt_38 : decode cX7_liveAt 38 = .ok (.lstore_n 3, 1) := by decide +kernel
theorem dX7_liveAt_39 : decode cX7_liveAt 39 = .ok (.iinc 5 1, 3) := by decide +kernel
theorem dX7_liveAt_42 : decode cX7_liveAt 42 = .ok (.goto (-37), 3) := by decide +kernel
theorem dX7_liveAt_45 : decode cX7_liveAt 45 = .ok (.iload 5, 2) := by decide +kernel
theorem dX7_liveAt_47 : decode cX7_liveAt 47 = .ok (.ireturn, 1) := by decide +kernel
theorem dX7_take_0 : decode cX7_take 0 = .ok (.iconst (-1), 1) := by decide +kernel
theorem dX7_take_1 : decode cX7_take 1 = .ok (.istore_n 2, 1) := by decide +kernel
theorem dX7_take_2 : decode cX7_take 2 = .ok (.aload_n 0, 1) := by decide +kernel
theorem dX7_take_3 : decode cX7_take 3 = .ok (.getfield 94, 3) := by decide +kernel
theorem dX7_take_6 : decode cX7_take 6 = .ok (.ifCond .le 23, 3) := by decide +kernel
theorem dX7_take_9 : decode cX7_take 9 = .ok (.aload_n 0, 1) := by decide +kernel
theorem dX7_take_10 : decode cX7_take 10 = .ok (.dup, 1) := by decide +kernel
theorem dX7_take_11 : decode cX7_take 11 = .ok (.getfield 94, 3) := by decide +kernel
theorem dX7_take_14 : decode cX7_take 14 = .ok (.iconst 1, 1) := by decide +kernel
theorem dX7_take_15 : decode cX7_take 15 = .ok (.isub, 1) := by decide +kernel
theorem dX7_take_16 : decode cX7_take 16 = .ok (.putfield 94, 3) := by decide +kernel
theorem dX7_take_19 : decode cX7_take 19 = .ok (.aload_n 0, 1) := by decide +kernel
theorem dX7_take_20 : decode cX7_take 20 = .ok (.getfield 57, 3) := by decide +kernel
theorem dX7_take_23 : decode cX7_take 23 = .ok (.aload_n 0, 1) := by decide +kernel
theorem dX7_take_24 : decode cX7_take 24 = .ok (.getfield 94, 3) := by decide +kernel
theorem dX7_take_27 : decode cX7_take 27 = .ok (.iaload, 1) := by decide +kernel
theorem dX7_take_28 : decode cX7_take 28 = .ok (.istore_n 2, 1) := by decide +kernel
theorem dX7_take_29 : decode cX7_take 29 = .ok (.iconst 0, 1) := by decide +kernel
theorem dX7_take_30 : decode cX7_take 30 = .ok (.istore_n 3, 1) := by decide +kernel
theorem dX7_take_31 : decode cX7_take 31 = .ok (.iload_n 3, 1) := by decide +kernel
theorem dX7_take_32 : decode cX7_take 32 = .ok (.aload_n 0, 1) := by decide +kernel
theorem dX7_take_33 : decode cX7_take 33 = .ok (.getfield 60, 3) := by decide +kernel
theorem dX7_take_36 : decode cX7_take 36 = .ok (.if_icmp .ge 30, 3) := by decide +kernel
theorem dX7_take_39 : decode cX7_take 39 = .ok (.iload_n 2, 1) := by decide +kernel
theorem dX7_take_40 : decode cX7_take 40 = .ok (.iconst (-1), 1) := by decide +kernel
theorem dX7_take_41 : decode cX7_take 41 = .ok (.if_icmp .ne 25, 3) := by decide +kernel
theorem dX7_take_44 : decode cX7_take 44 = .ok (.aload_n 0, 1) := by decide +kernel
theorem dX7_take_45 : decode cX7_take 45 = .ok (.getfield 45, 3) := by decide +kernel
theorem dX7_take_48 : decode cX7_take 48 = .ok (.iload_n 3, 1) := by decide +kernel
theorem dX7_take_49 : decode cX7_take 49 = .ok (.iaload, 1) := by decide +kernel
theorem dX7_take_50 : decode cX7_take 50 = .ok (.iconst 1, 1) := by decide +kernel
theorem dX7_take_51 : decode cX7_take 51 = .ok (.if_icmp .ne 7, 3) := by decide +kernel
theorem dX7_take_54 : decode cX7_take 54 = .ok (.iload_n 3, 1) := by decide +kernel
theorem dX7_take_55 : decode cX7_take 55 = .ok (.goto 4, 3) := by decide +kernel
theorem dX7_take_58 : decode cX7_take 58 = .ok (.iconst (-1), 1) := by decide +kernel
theorem dX7_take_59 : decode cX7_take 59 = .ok (.istore_n 2, 1) := by decide +kernel
theorem dX7_take_60 : decode cX7_take 60 = .ok (.iinc 3 1, 3) := by decide +kernel
theorem dX7_take_63 : decode cX7_take 63 = .ok (.goto (-32), 3) := by decide +kernel
theorem dX7_take_66 : decode cX7_take 66 = .ok (.iload_n 2, 1) := by decide +kernel
theorem dX7_take_67 : decode cX7_take 67 = .ok (.iconst (-1), 1) := by decide +kernel
theorem dX7_take_68 : decode cX7_take 68 = .ok (.if_icmp .eq 44, 3) := by decide +kernel
theorem dX7_take_71 : decode cX7_take 71 = .ok (.aload_n 0, 1) := by decide +kernel
theorem dX7_take_72 : decode cX7_take 72 = .ok (.getfield 45, 3) := by decide +kernel
theorem dX7_take_75 : decode cX7_take 75 = .ok (.iload_n 2, 1) := by decide +kernel
theorem dX7_take_76 : decode cX7_take 76 = .ok (.iconst 2, 1) := by decide +kernel
theorem dX7_take_77 : decode cX7_take 77 = .ok (.iastore, 1) := by decide +kernel
theorem dX7_take_78 : decode cX7_take 78 = .ok (.aload_n 0, 1) := by decide +kernel
theorem dX7_take_79 : decode cX7_take 79 = .ok (.getfield 51, 3) := by decide +kernel
theorem dX7_take_82 : decode cX7_take 82 = .ok (.iload_n 1, 1) := by decide +kernel
theorem dX7_take_83 : decode cX7_take 83 = .ok (.iload_n 2, 1) := by decide +kernel
theorem dX7_take_84 : decode cX7_take 84 = .ok (.iastore, 1) := by decide +kernel
theorem dX7_take_85 : decode cX7_take 85 = .ok (.aload_n 0, 1) := by decide +kernel
theorem dX7_take_86 : decode cX7_take 86 = .ok (.getfield 54, 3) := by decide +kernel
theorem dX7_take_89 : decode cX7_take 89 = .ok (.iload_n 1, 1) := by decide +kernel
theorem dX7_take_90 : decode cX7_take 90 = .ok (.iconst 0, 1) := by decide +kernel
theorem dX7_take_91 : decode cX7_take 91 = .ok (.iastore, 1) := by decide +kernel
theorem dX7_take_92 : decode cX7_take 92 = .ok (.aload_n 0, 1) := by decide +kernel
theorem dX7_take_93 : decode cX7_take 93 = .ok (.getfield 39, 3) := by decide +kernel
theorem dX7_take_96 : decode cX7_take 96 = .ok (.iload_n 2, 1) := by decide +kernel
theorem dX7_take_97 : decode cX7_take 97 = .ok (.dup2, 1) := by decide +kernel
theorem dX7_take_98 : decode cX7_take 98 = .ok (.iaload, 1) := by decide +kernel
theorem dX7_take_99 : decode cX7_take 99 = .ok (.iconst 1, 1) := by decide +kernel
theorem dX7_take_100 : decode cX7_take 100 = .ok (.iadd, 1) := by decide +kernel
theorem dX7_take_101 : decode cX7_take 101 = .ok (.iastore, 1) := by decide +kernel
theorem dX7_take_102 : decode cX7_take 102 = .ok (.aload_n 0, 1) := by decide +kernel
theorem dX7_take_103 : decode cX7_take 103 = .ok (.getfield 36, 3) := by decide +kernel
theorem dX7_take_106 : decode cX7_take 106 = .ok (.iconst 5, 1) := by decide +kernel
theorem dX7_take_107 : decode cX7_take 107 = .ok (.dup2, 1) := by decide +kernel
theorem dX7_take_108 : decode cX7_take 108 = .ok (.iaload, 1) := by decide +kernel
theorem dX7_take_109 : decode cX7_take 109 = .ok (.iconst 1, 1) := by decide +kernel
theorem dX7_take_110 : decode cX7_take 110 = .ok (.iadd, 1) := by decide +kernel
theorem dX7_take_111 : decode cX7_take 111 = .ok (.iastore, 1) := by decide +kernel
theorem dX7_take_112 : decode cX7_take 112 = .ok (.return_, 1) := by decide +kernel
theorem dX7_step_0 : decode cX7_step 0 = .ok (.aload_n 0, 1) := by decide +kernel
theorem dX7_step_1 : decode cX7_step 1 = .ok (.getfield 51, 3) := by decide +kernel
theorem dX7_step_4 : decode cX7_step 4 = .ok (.iload_n 1, 1) := by decide +kernel
theorem dX7_step_5 : decode cX7_step 5 = .ok (.iaload, 1) := by decide +kernel
theorem dX7_step_6 : decode cX7_step 6 = .ok (.istore_n 2, 1) := by decide +kernel
theorem dX7_step_7 : decode cX7_step 7 = .ok (.aload_n 0, 1) := by decide +kernel
theorem dX7_step_8 : decode cX7_step 8 = .ok (.iload_n 1, 1) := by decide +kernel
theorem dX7_step_9 : decode cX7_step 9 = .ok (.iload_n 2, 1) := by decide +kernel
theorem dX7_step_10 : decode cX7_step 10 = .ok (.invokevirtual 81, 3) := by decide +kernel
theorem dX7_step_13 : decode cX7_step 13 = .ok (.istore_n 3, 1) := by decide +kernel
theorem dX7_step_14 : decode cX7_step 14 = .ok (.aload_n 0, 1) := by decide +kernel
theorem dX7_step_15 : decode cX7_step 15 = .ok (.getfield 54, 3) := by decide +kernel
theorem dX7_step_18 : decode cX7_step 18 = .ok (.iload_n 1, 1) := by decide +kernel
theorem dX7_step_19 : decode cX7_step 19 = .ok (.iaload, 1) := by decide +kernel
theorem dX7_step_20 : decode cX7_step 20 = .ok (.aload_n 0, 1) := by decide +kernel
theorem dX7_step_21 : decode cX7_step 21 = .ok (.getfield 13, 3) := by decide +kernel
theorem dX7_step_24 : decode cX7_step 24 = .ok (.iload_n 2, 1) := by decide +kernel
theorem dX7_step_25 : decode cX7_step 25 = .ok (.iaload, 1) := by decide +kernel
theorem dX7_step_26 : decode cX7_step 26 = .ok (.iconst 1, 1) := by decide +kernel
theorem dX7_step_27 : decode cX7_step 27 = .ok (.isub, 1) := by decide +kernel
theorem dX7_step_28 : decode cX7_step 28 = .ok (.if_icmp .ne 65, 3) := by decide +kernel
theorem dX7_step_31 : decode cX7_step 31 = .ok (.iload_n 3, 1) := by decide +kernel
theorem dX7_step_32 : decode cX7_step 32 = .ok (.iconst (-1), 1) := by decide +kernel
theorem dX7_step_33 : decode cX7_step 33 = .ok (.if_icmp .eq 60, 3) := by decide +kernel
theorem dX7_step_36 : decode cX7_step 36 = .ok (.aload_n 0, 1) := by decide +kernel
theorem dX7_step_37 : decode cX7_step 37 = .ok (.getfield 48, 3) := by decide +kernel
theorem dX7_step_40 : decode cX7_step 40 = .ok (.iload_n 1, 1) := by decide +kernel
theorem dX7_step_41 : decode cX7_step 41 = .ok (.iconst 0, 1) := by decide +kernel
theorem dX7_step_42 : decode cX7_step 42 = .ok (.bastore, 1) := by decide +kernel
theorem dX7_step_43 : decode cX7_step 43 = .ok (.aload_n 0, 1) := by decide +kernel
theorem dX7_step_44 : decode cX7_step 44 = .ok (.getfield 51, 3) := by decide +kernel
theorem dX7_step_47 : decode cX7_step 47 = .ok (.iload_n 1, 1) := by decide +kernel
theorem dX7_step_48 : decode cX7_step 48 = .ok (.iconst (-1), 1) := by decide +kernel
theorem dX7_step_49 : decode cX7_step 49 = .ok (.iastore, 1) := by decide +kernel
theorem dX7_step_50 : decode cX7_step 50 = .ok (.aload_n 0, 1) := by decide +kernel
theorem dX7_step_51 : decode cX7_step 51 = .ok (.iload_n 3, 1) := by decide +kernel
theorem dX7_step_52 : decode cX7_step 52 = .ok (.invokevirtual 97, 3) := by decide +kernel
theorem dX7_step_55 : decode cX7_step 55 = .ok (.aload_n 0, 1) := by decide +kernel
theorem dX7_step_56 : decode cX7_step 56 = .ok (.getfield 36, 3) := by decide +kernel
theorem dX7_step_59 : decode cX7_step 59 = .ok (.iconst 2, 1) := by decide +kernel
theorem dX7_step_60 : decode cX7_step 60 = .ok (.dup2, 1) := by decide +kernel
theorem dX7_step_61 : decode cX7_step 61 = .ok (.iaload, 1) := by decide +kernel
theorem dX7_step_62 : decode cX7_step 62 = .ok (.iconst 1, 1) := by decide +kernel
theorem dX7_step_63 : decode cX7_step 63 = .ok (.iadd, 1) := by decide +kernel
theorem dX7_step_64 : decode cX7_step 64 = .ok (.iastore, 1) := by decide +kernel
theorem dX7_step_65 : decode cX7_step 65 = .ok (.aload_n 0, 1) := by decide +kernel
theorem dX7_step_66 : decode cX7_step 66 = .ok (.getfield 45, 3) := by decide +kernel
theorem dX7_step_69 : decode cX7_step 69 = .ok (.iload_n 2, 1) := by decide +kernel
theorem dX7_step_70 : decode cX7_step 70 = .ok (.iconst 4, 1) := by decide +kernel
theorem dX7_step_71 : decode cX7_step 71 = .ok (.iastore, 1) := by decide +kernel
theorem dX7_step_72 : decode cX7_step 72 = .ok (.aload_n 0, 1) := by decide +kernel
theorem dX7_step_73 : decode cX7_step 73 = .ok (.getfield 57, 3) := by decide +kernel
theorem dX7_step_76 : decode cX7_step 76 = .ok (.aload_n 0, 1) := by decide +kernel
theorem dX7_step_77 : decode cX7_step 77 = .ok (.getfield 94, 3) := by decide +kernel
theorem dX7_step_80 : decode cX7_step 80 = .ok (.iload_n 2, 1) := by decide +kernel
theorem dX7_step_81 : decode cX7_step 81 = .ok (.iastore, 1) := by decide +kernel
theorem dX7_step_82 : decode cX7_step 82 = .ok (.aload_n 0, 1) := by decide +kernel
theorem dX7_step_83 : decode cX7_step 83 = .ok (.dup, 1) := by decide +kernel
theorem dX7_step_84 : decode cX7_step 84 = .ok (.getfield 94, 3) := by decide +kernel
theorem dX7_step_87 : decode cX7_step 87 = .ok (.iconst 1, 1) := by decide +kernel
theorem dX7_step_88 : decode cX7_step 88 = .ok (.iadd, 1) := by decide +kernel
theorem dX7_step_89 : decode cX7_step 89 = .ok (.putfield 94, 3) := by decide +kernel
theorem dX7_step_92 : decode cX7_step 92 = .ok (.return_, 1) := by decide +kernel
theorem dX7_step_93 : decode cX7_step 93 = .ok (.aload_n 0, 1) := by decide +kernel
theorem dX7_step_94 : decode cX7_step 94 = .ok (.getfield 54, 3) := by decide +kernel
theorem dX7_step_97 : decode cX7_step 97 = .ok (.iload_n 1, 1) := by decide +kernel
theorem dX7_step_98 : decode cX7_step 98 = .ok (.dup2, 1) := by decide +kernel
theorem dX7_step_99 : decode cX7_step 99 = .ok (.iaload, 1) := by decide +kernel
theorem dX7_step_100 : decode cX7_step 100 = .ok (.iconst 1, 1) := by decide +kernel
theorem dX7_step_101 : decode cX7_step 101 = .ok (.iadd, 1) := by decide +kernel
theorem dX7_step_102 : decode cX7_step 102 = .ok (.iastore, 1) := by decide +kernel
theorem dX7_step_103 : decode cX7_step 103 = .ok (.aload_n 0, 1) := by decide +kernel
theorem dX7_step_104 : decode cX7_step 104 = .ok (.getfield 36, 3) := by decide +kernel
theorem dX7_step_107 : decode cX7_step 107 = .ok (.iconst 1, 1) := by decide +kernel
theorem dX7_step_108 : decode cX7_step 108 = .ok (.dup2, 1) := by decide +kernel
theorem dX7_step_109 : decode cX7_step 109 = .ok (.iaload, 1) := by decide +kernel
theorem dX7_step_110 : decode cX7_step 110 = .ok (.iconst 1, 1) := by decide +kernel
theorem dX7_step_111 : decode cX7_step 111 = .ok (.iadd, 1) := by decide +kernel
theorem dX7_step_112 : decode cX7_step 112 = .ok (.iastore, 1) := by decide +kernel
theorem dX7_step_113 : decode cX7_step 113 = .ok (.aload_n 0, 1) := by decide +kernel
theorem dX7_step_114 : decode cX7_step 114 = .ok (.getfield 54, 3) := by decide +kernel
theorem dX7_step_117 : decode cX7_step 117 = .ok (.iload_n 1, 1) := by decide +kernel
theorem dX7_step_118 : decode cX7_step 118 = .ok (.iaload, 1) := by decide +kernel
theorem dX7_step_119 : decode cX7_step 119 = .ok (.aload_n 0, 1) := by decide +kernel
theorem dX7_step_120 : decode cX7_step 120 = .ok (.getfield 13, 3) := by decide +kernel
theorem dX7_step_123 : decode cX7_step 123 = .ok (.iload_n 2, 1) := by decide +kernel
theorem dX7_step_124 : decode cX7_step 124 = .ok (.iaload, 1) := by decide +kernel
theorem dX7_step_125 : decode cX7_step 125 = .ok (.if_icmp .ne 24, 3) := by decide +kernel
theorem dX7_step_128 : decode cX7_step 128 = .ok (.aload_n 0, 1) := by decide +kernel
theorem dX7_step_129 : decode cX7_step 129 = .ok (.getfield 45, 3) := by decide +kernel
theorem dX7_step_132 : decode cX7_step 132 = .ok (.iload_n 2, 1) := by decide +kernel
theorem dX7_step_133 : decode cX7_step 133 = .ok (.iconst 3, 1) := by decide +kernel
theorem dX7_step_134 : decode cX7_step 134 = .ok (.iastore, 1) := by decide +kernel
theorem dX7_step_135 : decode cX7_step 135 = .ok (.aload_n 0, 1) := by decide +kernel
theorem dX7_step_136 : decode cX7_step 136 = .ok (.getfield 42, 3) := by decide +kernel
theorem dX7_step_139 : decode cX7_step 139 = .ok (.iload_n 2, 1) := by decide +kernel
theorem dX7_step_140 : decode cX7_step 140 = .ok (.iload_n 1, 1) := by decide +kernel
theorem dX7_step_141 : decode cX7_step 141 = .ok (.iastore, 1) := by decide +kernel
theorem dX7_step_142 : decode cX7_step 142 = .ok (.aload_n 0, 1) := by decide +kernel
theorem dX7_step_143 : decode cX7_step 143 = .ok (.getfield 51, 3) := by decide +kernel
theorem dX7_step_146 : decode cX7_step 146 = .ok (.iload_n 1, 1) := by decide +kernel
theorem dX7_step_147 : decode cX7_step 147 = .ok (.iconst (-1), 1) := by decide +kernel
theorem dX7_step_148 : decode cX7_step 148 = .ok (.iastore, 1) := by decide +kernel
theorem dX7_step_149 : decode cX7_step 149 = .ok (.return_, 1) := by decide +kernel
theorem dX7_isDone_0 : decode cX7_isDone 0 = .ok (.iconst 1, 1) := by decide +kernel
theorem dX7_isDone_1 : decode cX7_isDone 1 = .ok (.istore_n 2, 1) := by decide +kernel
theorem dX7_isDone_2 : decode cX7_isDone 2 = .ok (.iconst 0, 1) := by decide +kernel
theorem dX7_isDone_3 : decode cX7_isDone 3 = .ok (.istore_n 3, 1) := by decide +kernel
theorem dX7_isDone_4 : decode cX7_isDone 4 = .ok (.iload_n 3, 1) := by decide +kernel
theorem dX7_isDone_5 : decode cX7_isDone 5 = .ok (.aload_n 0, 1) := by decide +kernel
theorem dX7_isDone_6 : decode cX7_isDone 6 = .ok (.getfield 60, 3) := by decide +kernel
theorem dX7_isDone_9 : decode cX7_isDone 9 = .ok (.if_icmp .ge 39, 3) := by decide +kernel
theorem dX7_isDone_12 : decode cX7_isDone 12 = .ok (.iload_n 2, 1) := by decide +kernel
theorem dX7_isDone_13 : decode cX7_isDone 13 = .ok (.ifCond .eq 27, 3) := by decide +kernel
theorem dX7_isDone_16 : decode cX7_isDone 16 = .ok (.aload_n 0, 1) := by decide +kernel
theorem dX7_isDone_17 : decode cX7_isDone 17 = .ok (.getfield 24, 3) := by decide +kernel
theorem dX7_isDone_20 : decode cX7_isDone 20 = .ok (.iload_n 3, 1) := by decide +kernel
theorem dX7_isDone_21 : decode cX7_isDone 21 = .ok (.iaload, 1) := by decide +kernel
theorem dX7_isDone_22 : decode cX7_isDone 22 = .ok (.iload_n 1, 1) := by decide +kernel
theorem dX7_isDone_23 : decode cX7_isDone 23 = .ok (.if_icmp .ne 13, 3) := by decide +kernel
theorem dX7_isDone_26 : decode cX7_isDone 26 = .ok (.aload_n 0, 1) := by decide +kernel
theorem dX7_isDone_27 : decode cX7_isDone 27 = .ok (.getfield 45, 3) := by decide +kernel
theorem dX7_isDone_30 : decode cX7_isDone 30 = .ok (.iload_n 3, 1) := by decide +kernel
theorem dX7_isDone_31 : decode cX7_isDone 31 = .ok (.iaload, 1) := by decide +kernel
theorem dX7_isDone_32 : decode cX7_isDone 32 = .ok (.iconst 3, 1) := by decide +kernel
theorem dX7_isDone_33 : decode cX7_isDone 33 = .ok (.if_icmp .ne 7, 3) := by decide +kernel
theorem dX7_isDone_36 : decode cX7_isDone 36 = .ok (.iconst 1, 1) := by decide +kernel
theorem dX7_isDone_37 : decode cX7_isDone 37 = .ok (.goto 4, 3) := by decide +kernel
theorem dX7_isDone_40 : decode cX7_isDone 40 = .ok (.iconst 0, 1) := by decide +kernel
theorem dX7_isDone_41 : decode cX7_isDone 41 = .ok (.istore_n 2, 1) := by decide +kernel
theorem dX7_isDone_42 : decode cX7_isDone 42 = .ok (.iinc 3 1, 3) := by decide +kernel
theorem dX7_isDone_45 : decode cX7_isDone 45 = .ok (.goto (-41), 3) := by decide +kernel
theorem dX7_isDone_48 : decode cX7_isDone 48 = .ok (.iload_n 2, 1) := by decide +kernel
theorem dX7_isDone_49 : decode cX7_isDone 49 = .ok (.ireturn, 1) := by decide +kernel
theorem dX7_run_0 : decode cX7_run 0 = .ok (.aload_n 0, 1) := by decide +kernel
theorem dX7_run_1 : decode cX7_run 1 = .ok (.iconst 0, 1) := by decide +kernel
theorem dX7_run_2 : decode cX7_run 2 = .ok (.putfield 67, 3) := by decide +kernel
theorem dX7_run_5 : decode cX7_run 5 = .ok (.iload_n 1, 1) := by decide +kernel
theorem dX7_run_6 : decode cX7_run 6 = .ok (.iconst 1, 1) := by decide +kernel
theorem dX7_run_7 : decode cX7_run 7 = .ok (.if_icmp .lt 9, 3) := by decide +kernel
theorem dX7_run_10 : decode cX7_run 10 = .ok (.iload_n 1, 1) := by decide +kernel
theorem dX7_run_11 : decode cX7_run 11 = .ok (.bipush 16, 2) := by decide +kernel
theorem dX7_run_13 : decode cX7_run 13 = .ok (.if_icmp .le 6, 3) := by decide +kernel
theorem dX7_run_16 : decode cX7_run 16 = .ok (.bipush (-3), 2) := by decide +kernel
theorem dX7_run_18 : decode cX7_run 18 = .ok (.ireturn, 1) := by decide +kernel
theorem dX7_run_19 : decode cX7_run 19 = .ok (.aload_n 0, 1) := by decide +kernel
theorem dX7_run_20 : decode cX7_run 20 = .ok (.iload_n 1, 1) := by decide +kernel
theorem dX7_run_21 : decode cX7_run 21 = .ok (.putfield 91, 3) := by decide +kernel
theorem dX7_run_24 : decode cX7_run 24 = .ok (.iconst 0, 1) := by decide +kernel
theorem dX7_run_25 : decode cX7_run 25 = .ok (.istore 4, 2) := by decide +kernel
theorem dX7_run_27 : decode cX7_run 27 = .ok (.iload 4, 2) := by decide +kernel
theorem dX7_run_29 : decode cX7_run 29 = .ok (.bipush 16, 2) := by decide +kernel
theorem dX7_run_31 : decode cX7_run 31 = .ok (.if_icmp .ge 35, 3) := by decide +kernel
theorem dX7_run_34 : decode cX7_run 34 = .ok (.aload_n 0, 1) := by decide +kernel
theorem dX7_run_35 : decode cX7_run 35 = .ok (.getfield 48, 3) := by decide +kernel
theorem dX7_run_38 : decode cX7_run 38 = .ok (.iload 4, 2) := by decide +kernel
theorem dX7_run_40 : decode cX7_run 40 = .ok (.iload 4, 2) := by decide +kernel
theorem dX7_run_42 : decode cX7_run 42 = .ok (.iload_n 1, 1) := by decide +kernel
theorem dX7_run_43 : decode cX7_run 43 = .ok (.if_icmp .ge 7, 3) := by decide +kernel
theorem dX7_run_46 : decode cX7_run 46 = .ok (.iconst 1, 1) := by decide +kernel
theorem dX7_run_47 : decode cX7_run 47 = .ok (.goto 4, 3) := by decide +kernel
theorem dX7_run_50 : decode cX7_run 50 = .ok (.iconst 0, 1) := by decide +kernel
theorem dX7_run_51 : decode cX7_run 51 = .ok (.bastore, 1) := by decide +kernel
theorem dX7_run_52 : decode cX7_run 52 = .ok (.aload_n 0, 1) := by decide +kernel
theorem dX7_run_53 : decode cX7_run 53 = .ok (.getfield 51, 3) := by decide +kernel
theorem dX7_run_56 : decode cX7_run 56 = .ok (.iload 4, 2) := by decide +kernel
theorem dX7_run_58 : decode cX7_run 58 = .ok (.iconst (-1), 1) := by decide +kernel
theorem dX7_run_59 : decode cX7_run 59 = .ok (.iastore, 1) := by decide +kernel
theorem dX7_run_60 : decode cX7_run 60 = .ok (.iinc 4 1, 3) := by decide +kernel
theorem dX7_run_63 : decode cX7_run 63 = .ok (.goto (-36), 3) := by decide +kernel
theorem dX7_run_66 : decode cX7_run 66 = .ok (.iconst 0, 1) := by decide +kernel
theorem dX7_run_67 : decode cX7_run 67 = .ok (.istore 4, 2) := by decide +kernel
theorem dX7_run_69 : decode cX7_run 69 = .ok (.iload 4, 2) := by decide +kernel
theorem dX7_run_71 : decode cX7_run 71 = .ok (.bipush 6, 2) := by decide +kernel
theorem dX7_run_73 : decode cX7_run 73 = .ok (.if_icmp .ge 17, 3) := by decide +kernel
theorem dX7_run_76 : decode cX7_run 76 = .ok (.aload_n 0, 1) := by decide +kernel
theorem dX7_run_77 : decode cX7_run 77 = .ok (.getfield 36, 3) := by decide +kernel
theorem dX7_run_80 : decode cX7_run 80 = .ok (.iload 4, 2) := by decide +kernel
theorem dX7_run_82 : decode cX7_run 82 = .ok (.iconst 0, 1) := by decide +kernel
theorem dX7_run_83 : decode cX7_run 83 = .ok (.iastore, 1) := by decide +kernel
theorem dX7_run_84 : decode cX7_run 84 = .ok (.iinc 4 1, 3) := by decide +kernel
theorem dX7_run_87 : decode cX7_run 87 = .ok (.goto (-18), 3) := by decide +kernel
theorem dX7_run_90 : decode cX7_run 90 = .ok (.aload_n 0, 1) := by decide +kernel
theorem dX7_run_91 : decode cX7_run 91 = .ok (.invokevirtual 77, 3) := by decide +kernel
theorem dX7_run_94 : decode cX7_run 94 = .ok (.istore 4, 2) := by decide +kernel
theorem dX7_run_96 : decode cX7_run 96 = .ok (.iconst 0, 1) := by decide +kernel
theorem dX7_run_97 : decode cX7_run 97 = .ok (.istore 5, 2) := by decide +kernel
theorem dX7_run_99 : decode cX7_run 99 = .ok (.iload 5, 2) := by decide +kernel
theorem dX7_run_101 : decode cX7_run 101 = .ok (.bipush 64, 2) := by decide +kernel
theorem dX7_run_103 : decode cX7_run 103 = .ok (.if_icmp .ge 48, 3) := by decide +kernel
theorem dX7_run_106 : decode cX7_run 106 = .ok (.aload_n 0, 1) := by decide +kernel
theorem dX7_run_107 : decode cX7_run 107 = .ok (.getfield 39, 3) := by decide +kernel
theorem dX7_run_110 : decode cX7_run 110 = .ok (.iload 5, 2) := by decide +kernel
theorem dX7_run_112 : decode cX7_run 112 = .ok (.iload 5, 2) := by decide +kernel
theorem dX7_run_114 : decode cX7_run 114 = .ok (.aload_n 0, 1) := by decide +kernel
theorem dX7_run_115 : decode cX7_run 115 = .ok (.getfield 60, 3) := by decide +kernel
theorem dX7_run_118 : decode cX7_run 118 = .ok (.if_icmp .ge 17, 3) := by decide +kernel
theorem dX7_run_121 : decode cX7_run 121 = .ok (.aload_n 0, 1) := by decide +kernel
theorem dX7_run_122 : decode cX7_run 122 = .ok (.getfield 20, 3) := by decide +kernel
theorem dX7_run_125 : decode cX7_run 125 = .ok (.iload 5, 2) := by decide +kernel
theorem dX7_run_127 : decode cX7_run 127 = .ok (.baload, 1) := by decide +kernel
theorem dX7_run_128 : decode cX7_run 128 = .ok (.ifCond .eq 7, 3) := by decide +kernel
theorem dX7_run_131 : decode cX7_run 131 = .ok (.iconst (-1), 1) := by decide +kernel
theorem dX7_run_132 : decode cX7_run 132 = .ok (.goto 4, 3) := by decide +kernel
theorem dX7_run_135 : decode cX7_run 135 = .ok (.iconst 0, 1) := by decide +kernel
theorem dX7_run_136 : decode cX7_run 136 = .ok (.iastore, 1) := by decide +kernel
theorem dX7_run_137 : decode cX7_run 137 = .ok (.aload_n 0, 1) := by decide +kernel
theorem dX7_run_138 : decode cX7_run 138 = .ok (.getfield 42, 3) := by decide +kernel
theorem dX7_run_141 : decode cX7_run 141 = .ok (.iload 5, 2) := by decide +kernel
theorem dX7_run_143 : decode cX7_run 143 = .ok (.iconst (-1), 1) := by decide +kernel
theorem dX7_run_144 : decode cX7_run 144 = .ok (.iastore, 1) := by decide +kernel
theorem dX7_run_145 : decode cX7_run 145 = .ok (.iinc 5 1, 3) := by decide +kernel
theorem dX7_run_148 : decode cX7_run 148 = .ok (.goto (-49), 3) := by decide +kernel
theorem dX7_run_151 : decode cX7_run 151 = .ok (.aload_n 0, 1) := by decide +kernel
theorem dX7_run_152 : decode cX7_run 152 = .ok (.iconst 0, 1) := by decide +kernel
theorem dX7_run_153 : decode cX7_run 153 = .ok (.putfield 94, 3) := by decide +kernel
theorem dX7_run_156 : decode cX7_run 156 = .ok (.aload_n 0, 1) := by decide +kernel
theorem dX7_run_157 : decode cX7_run 157 = .ok (.iload 4, 2) := by decide +kernel
theorem dX7_run_159 : decode cX7_run 159 = .ok (.lload_n 2, 1) := by decide +kernel
theorem dX7_run_160 : decode cX7_run 160 = .ok (.invokevirtual 101, 3) := by decide +kernel
theorem dX7_run_163 : decode cX7_run 163 = .ok (.istore 5, 2) := by decide +kernel
theorem dX7_run_165 : decode cX7_run 165 = .ok (.aload_n 0, 1) := by decide +kernel
theorem dX7_run_166 : decode cX7_run 166 = .ok (.getfield 36, 3) := by decide +kernel
theorem dX7_run_169 : decode cX7_run 169 = .ok (.iconst 3, 1) := by decide +kernel
theorem dX7_run_170 : decode cX7_run 170 = .ok (.aload_n 0, 1) := by decide +kernel
theorem dX7_run_171 : decode cX7_run 171 = .ok (.invokevirtual 105, 3) := by decide +kernel
theorem dX7_run_174 : decode cX7_run 174 = .ok (.iastore, 1) := by decide +kernel
theorem dX7_run_175 : decode cX7_run 175 = .ok (.iconst 0, 1) := by decide +kernel
theorem dX7_run_176 : decode cX7_run 176 = .ok (.istore 6, 2) := by decide +kernel
theorem dX7_run_178 : decode cX7_run 178 = .ok (.iload 6, 2) := by decide +kernel
theorem dX7_run_180 : decode cX7_run 180 = .ok (.aload_n 0, 1) := by decide +kernel
theorem dX7_run_181 : decode cX7_run 181 = .ok (.getfield 60, 3) := by decide +kernel
theorem dX7_run_184 : decode cX7_run 184 = .ok (.if_icmp .ge 47, 3) := by decide +kernel
theorem dX7_run_187 : decode cX7_run 187 = .ok (.iload 5, 2) := by decide +kernel
theorem dX7_run_189 : decode cX7_run 189 = .ok (.ifCond .ne 42, 3) := by decide +kernel
theorem dX7_run_192 : decode cX7_run 192 = .ok (.aload_n 0, 1) := by decide +kernel
theorem dX7_run_193 : decode cX7_run 193 = .ok (.getfield 33, 3) := by decide +kernel
theorem dX7_run_196 : decode cX7_run 196 = .ok (.iload 6, 2) := by decide +kernel
theorem dX7_run_198 : decode cX7_run 198 = .ok (.aload_n 0, 1) := by decide +kernel
theorem dX7_run_199 : decode cX7_run 199 = .ok (.getfield 20, 3) := by decide +kernel
theorem dX7_run_202 : decode cX7_run 202 = .ok (.iload 6, 2) := by decide +kernel
theorem dX7_run_204 : decode cX7_run 204 = .ok (.baload, 1) := by decide +kernel
theorem dX7_run_205 : decode cX7_run 205 = .ok (.ifCond .eq 13, 3) := by decide +kernel
theorem dX7_run_208 : decode cX7_run 208 = .ok (.aload_n 0, 1) := by decide +kernel
theorem dX7_run_209 : decode cX7_run 209 = .ok (.getfield 33, 3) := by decide +kernel
theorem dX7_run_212 : decode cX7_run 212 = .ok (.iload 6, 2) := by decide +kernel
theorem dX7_run_214 : decode cX7_run 214 = .ok (.laload, 1) := by decide +kernel
theorem dX7_run_215 : decode cX7_run 215 = .ok (.goto 9, 3) := by decide +kernel
theorem dX7_run_218 : decode cX7_run 218 = .ok (.aload_n 0, 1) := by decide +kernel
theorem dX7_run_219 : decode cX7_run 219 = .ok (.iload 6, 2) := by decide +kernel
theorem dX7_run_221 : decode cX7_run 221 = .ok (.invokevirtual 108, 3) := by decide +kernel
theorem dX7_run_224 : decode cX7_run 224 = .ok (.lastore, 1) := by decide +kernel
theorem dX7_run_225 : decode cX7_run 225 = .ok (.iinc 6 1, 3) := by decide +kernel
theorem dX7_run_228 : decode cX7_run 228 = .ok (.goto (-50), 3) := by decide +kernel
theorem dX7_run_231 : decode cX7_run 231 = .ok (.iload 5, 2) := by decide +kernel
theorem dX7_run_233 : decode cX7_run 233 = .ok (.ireturn, 1) := by decide +kernel
theorem dX7_go_0 : decode cX7_go 0 = .ok (.lload_n 2, 1) := by decide +kernel
theorem dX7_go_1 : decode cX7_go 1 = .ok (.lstore 4, 2) := by decide +kernel
theorem dX7_go_3 : decode cX7_go 3 = .ok (.iconst 0, 1) := by decide +kernel
theorem dX7_go_4 : decode cX7_go 4 = .ok (.istore 6, 2) := by decide +kernel
theorem dX7_go_6 : decode cX7_go 6 = .ok (.iload 6, 2) := by decide +kernel
theorem dX7_go_8 : decode cX7_go 8 = .ok (.iload_n 1, 1) := by decide +kernel
theorem dX7_go_9 : decode cX7_go 9 = .ok (.if_icmp .ge 164, 3) := by decide +kernel
theorem dX7_go_12 : decode cX7_go 12 = .ok (.iconst 0, 1) := by decide +kernel
theorem dX7_go_13 : decode cX7_go 13 = .ok (.istore 7, 2) := by decide +kernel
theorem dX7_go_15 : decode cX7_go 15 = .ok (.iload 7, 2) := by decide +kernel
theorem dX7_go_17 : decode cX7_go 17 = .ok (.aload_n 0, 1) := by decide +kernel
theorem dX7_go_18 : decode cX7_go 18 = .ok (.getfield 60, 3) := by decide +kernel
theorem dX7_go_21 : decode cX7_go 21 = .ok (.if_icmp .ge 33, 3) := by decide +kernel
theorem dX7_go_24 : decode cX7_go 24 = .ok (.aload_n 0, 1) := by decide +kernel
theorem dX7_go_25 : decode cX7_go 25 = .ok (.getfield 45, 3) := by decide +kernel
theorem dX7_go_28 : decode cX7_go 28 = .ok (.iload 7, 2) := by decide +kernel
theorem dX7_go_30 : decode cX7_go 30 = .ok (.aload_n 0, 1) := by decide +kernel
theorem dX7_go_31 : decode cX7_go 31 = .ok (.getfield 24, 3) := by decide +kernel
theorem dX7_go_34 : decode cX7_go 34 = .ok (.iload 7, 2) := by decide +kernel
theorem dX7_go_36 : decode cX7_go 36 = .ok (.iaload, 1) := by decide +kernel
theorem dX7_go_37 : decode cX7_go 37 = .ok (.iload 6, 2) := by decide +kernel
theorem dX7_go_39 : decode cX7_go 39 = .ok (.if_icmp .ne 7, 3) := by decide +kernel
theorem dX7_go_42 : decode cX7_go 42 = .ok (.iconst 1, 1) := by decide +kernel
theorem dX7_go_43 : decode cX7_go 43 = .ok (.goto 4, 3) := by decide +kernel
theorem dX7_go_46 : decode cX7_go 46 = .ok (.iconst 0, 1) := by decide +kernel
theorem dX7_go_47 : decode cX7_go 47 = .ok (.iastore, 1) := by decide +kernel
theorem dX7_go_48 : decode cX7_go 48 = .ok (.iinc 7 1, 3) := by decide +kernel
theorem dX7_go_51 : decode cX7_go 51 = .ok (.goto (-36), 3) := by decide +kernel
theorem dX7_go_54 : decode cX7_go 54 = .ok (.aload_n 0, 1) := by decide +kernel
theorem dX7_go_55 : decode cX7_go 55 = .ok (.iload 6, 2) := by decide +kernel
theorem dX7_go_57 : decode cX7_go 57 = .ok (.invokevirtual 112, 3) := by decide +kernel
theorem dX7_go_60 : decode cX7_go 60 = .ok (.ifCond .ne 97, 3) := by decide +kernel
theorem dX7_go_63 : decode cX7_go 63 = .ok (.aload_n 0, 1) := by decide +kernel
theorem dX7_go_64 : decode cX7_go 64 = .ok (.invokevirtual 105, 3) := by decide +kernel
theorem dX7_go_67 : decode cX7_go 67 = .ok (.istore 7, 2) := by decide +kernel
theorem dX7_go_69 : decode cX7_go 69 = .ok (.iload 7, 2) := by decide +kernel
theorem dX7_go_71 : decode cX7_go 71 = .ok (.ifCond .ne 5, 3) := by decide +kernel
theorem dX7_go_74 : decode cX7_go 74 = .ok (.iconst (-1), 1) := by decide +kernel
theorem dX7_go_75 : decode cX7_go 75 = .ok (.ireturn, 1) := by decide +kernel
theorem dX7_go_76 : decode cX7_go 76 = .ok (.aload_n 0, 1) := by decide +kernel
theorem dX7_go_77 : decode cX7_go 77 = .ok (.getfield 36, 3) := by decide +kernel
theorem dX7_go_80 : decode cX7_go 80 = .ok (.iconst 0, 1) := by decide +kernel
theorem dX7_go_81 : decode cX7_go 81 = .ok (.iaload, 1) := by decide +kernel
theorem dX7_go_82 : decode cX7_go 82 = .ok (.sipush 20000, 3) := by decide +kernel
theorem dX7_go_85 : decode cX7_go 85 = .ok (.if_icmp .ne 6, 3) := by decide +kernel
theorem dX7_go_88 : decode cX7_go 88 = .ok (.bipush (-2), 2) := by decide +kernel
theorem dX7_go_90 : decode cX7_go 90 = .ok (.ireturn, 1) := by decide +kernel
theorem dX7_go_91 : decode cX7_go 91 = .ok (.aload_n 0, 1) := by decide +kernel
theorem dX7_go_92 : decode cX7_go 92 = .ok (.getfield 36, 3) := by decide +kernel
theorem dX7_go_95 : decode cX7_go 95 = .ok (.iconst 0, 1) := by decide +kernel
theorem dX7_go_96 : decode cX7_go 96 = .ok (.dup2, 1) := by decide +kernel
theorem dX7_go_97 : decode cX7_go 97 = .ok (.iaload, 1) := by decide +kernel
theorem dX7_go_98 : decode cX7_go 98 = .ok (.iconst 1, 1) := by decide +kernel
theorem dX7_go_99 : decode cX7_go 99 = .ok (.iadd, 1) := by decide +kernel
theorem dX7_go_100 : decode cX7_go 100 = .ok (.iastore, 1) := by decide +kernel
theorem dX7_go_101 : decode cX7_go 101 = .ok (.lload 4, 2) := by decide +kernel
theorem dX7_go_103 : decode cX7_go 103 = .ok (.ldc2_w 115, 3) := by decide +kernel
theorem dX7_go_106 : decode cX7_go 106 = .ok (.lmul, 1) := by decide +kernel
theorem dX7_go_107 : decode cX7_go 107 = .ok (.ldc2_w 117, 3) := by decide +kernel
theorem dX7_go_110 : decode cX7_go 110 = .ok (.ladd, 1) := by decide +kernel
theorem dX7_go_111 : decode cX7_go 111 = .ok (.lstore 4, 2) := by decide +kernel
theorem dX7_go_113 : decode cX7_go 113 = .ok (.aload_n 0, 1) := by decide +kernel
theorem dX7_go_114 : decode cX7_go 114 = .ok (.lload 4, 2) := by decide +kernel
theorem dX7_go_116 : decode cX7_go 116 = .ok (.bipush 33, 2) := by decide +kernel
theorem dX7_go_118 : decode cX7_go 118 = .ok (.lushr, 1) := by decide +kernel
theorem dX7_go_119 : decode cX7_go 119 = .ok (.iload 7, 2) := by decide +kernel
theorem dX7_go_121 : decode cX7_go 121 = .ok (.i2l, 1) := by decide +kernel
theorem dX7_go_122 : decode cX7_go 122 = .ok (.lrem, 1) := by decide +kernel
theorem dX7_go_123 : decode cX7_go 123 = .ok (.invokevirtual 119, 3) := by decide +kernel
theorem dX7_go_126 : decode cX7_go 126 = .ok (.istore 8, 2) := by decide +kernel
theorem dX7_go_128 : decode cX7_go 128 = .ok (.aload_n 0, 1) := by decide +kernel
theorem dX7_go_129 : decode cX7_go 129 = .ok (.getfield 51, 3) := by decide +kernel
theorem dX7_go_132 : decode cX7_go 132 = .ok (.iload 8, 2) := by decide +kernel
theorem dX7_go_134 : decode cX7_go 134 = .ok (.iaload, 1) := by decide +kernel
theorem dX7_go_135 : decode cX7_go 135 = .ok (.iconst (-1), 1) := by decide +kernel
theorem dX7_go_136 : decode cX7_go 136 = .ok (.if_icmp .ne 12, 3) := by decide +kernel
theorem dX7_go_139 : decode cX7_go 139 = .ok (.aload_n 0, 1) := by decide +kernel
theorem dX7_go_140 : decode cX7_go 140 = .ok (.iload 8, 2) := by decide +kernel
theorem dX7_go_142 : decode cX7_go 142 = .ok (.invokevirtual 123, 3) := by decide +kernel
theorem dX7_go_145 : decode cX7_go 145 = .ok (.goto 9, 3) := by decide +kernel
theorem dX7_go_148 : decode cX7_go 148 = .ok (.aload_n 0, 1) := by decide +kernel
theorem dX7_go_149 : decode cX7_go 149 = .ok (.iload 8, 2) := by decide +kernel
theorem dX7_go_151 : decode cX7_go 151 = .ok (.invokevirtual 126, 3) := by decide +kernel
theorem dX7_go_154 : decode cX7_go 154 = .ok (.goto (-100), 3) := by decide +kernel
theorem dX7_go_157 : decode cX7_go 157 = .ok (.aload_n 0, 1) := by decide +kernel
theorem dX7_go_158 : decode cX7_go 158 = .ok (.getfield 36, 3) := by decide +kernel
theorem dX7_go_161 : decode cX7_go 161 = .ok (.iconst 4, 1) := by decide +kernel
theorem dX7_go_162 : decode cX7_go 162 = .ok (.dup2, 1) := by decide +kernel
theorem dX7_go_163 : decode cX7_go 163 = .ok (.iaload, 1) := by decide +kernel
theorem dX7_go_164 : decode cX7_go 164 = .ok (.iconst 1, 1) := by decide +kernel
theorem dX7_go_165 : decode cX7_go 165 = .ok (.iadd, 1) := by decide +kernel
theorem dX7_go_166 : decode cX7_go 166 = .ok (.iastore, 1) := by decide +kernel
theorem dX7_go_167 : decode cX7_go 167 = .ok (.iinc 6 1, 3) := by decide +kernel
theorem dX7_go_170 : decode cX7_go 170 = .ok (.goto (-164), 3) := by decide +kernel
theorem dX7_go_173 : decode cX7_go 173 = .ok (.iconst 0, 1) := by decide +kernel
theorem dX7_go_174 : decode cX7_go 174 = .ok (.ireturn, 1) := by decide +kernel
theorem dX7_told_0 : decode cX7_told 0 = .ok (.aload_n 0, 1) := by decide +kernel
theorem dX7_told_1 : decode cX7_told 1 = .ok (.iconst 0, 1) := by decide +kernel
theorem dX7_told_2 : decode cX7_told 2 = .ok (.putfield 67, 3) := by decide +kernel
theorem dX7_told_5 : decode cX7_told 5 = .ok (.iload_n 1, 1) := by decide +kernel
theorem dX7_told_6 : decode cX7_told 6 = .ok (.ifCond .lt 9, 3) := by decide +kernel
theorem dX7_told_9 : decode cX7_told 9 = .ok (.iload_n 1, 1) := by decide +kernel
theorem dX7_told_10 : decode cX7_told 10 = .ok (.bipush 6, 2) := by decide +kernel
theorem dX7_told_12 : decode cX7_told 12 = .ok (.if_icmp .le 8, 3) := by decide +kernel
theorem dX7_told_15 : decode cX7_told 15 = .ok (.bipush (-3), 2) := by decide +kernel
theorem dX7_told_17 : decode cX7_told 17 = .ok (.goto 22, 3) := by decide +kernel
theorem dX7_told_20 : decode cX7_told 20 = .ok (.iload_n 1, 1) := by decide +kernel
theorem dX7_told_21 : decode cX7_told 21 = .ok (.bipush 6, 2) := by decide +kernel
theorem dX7_told_23 : decode cX7_told 23 = .ok (.if_icmp .ne 10, 3) := by decide +kernel
theorem dX7_told_26 : decode cX7_told 26 = .ok (.aload_n 0, 1) := by decide +kernel
theorem dX7_told_27 : decode cX7_told 27 = .ok (.getfield 70, 3) := by decide +kernel
theorem dX7_told_30 : decode cX7_told 30 = .ok (.goto 9, 3) := by decide +kernel
theorem dX7_told_33 : decode cX7_told 33 = .ok (.aload_n 0, 1) := by decide +kernel
theorem dX7_told_34 : decode cX7_told 34 = .ok (.getfield 36, 3) := by decide +kernel
theorem dX7_told_37 : decode cX7_told 37 = .ok (.iload_n 1, 1) := by decide +kernel
theorem dX7_told_38 : decode cX7_told 38 = .ok (.iaload, 1) := by decide +kernel
theorem dX7_told_39 : decode cX7_told 39 = .ok (.ireturn, 1) := by decide +kernel
theorem dX7_times_0 : decode cX7_times 0 = .ok (.aload_n 0, 1) := by decide +kernel
theorem dX7_times_1 : decode cX7_times 1 = .ok (.iconst 0, 1) := by decide +kernel
theorem dX7_times_2 : decode cX7_times 2 = .ok (.putfield 67, 3) := by decide +kernel
theorem dX7_times_5 : decode cX7_times 5 = .ok (.aload_n 0, 1) := by decide +kernel
theorem dX7_times_6 : decode cX7_times 6 = .ok (.iload_n 1, 1) := by decide +kernel
theorem dX7_times_7 : decode cX7_times 7 = .ok (.invokevirtual 73, 3) := by decide +kernel
theorem dX7_times_10 : decode cX7_times 10 = .ok (.ifCond .eq 12, 3) := by decide +kernel
theorem dX7_times_13 : decode cX7_times 13 = .ok (.aload_n 0, 1) := by decide +kernel
theorem dX7_times_14 : decode cX7_times 14 = .ok (.getfield 39, 3) := by decide +kernel
theorem dX7_times_17 : decode cX7_times 17 = .ok (.iload_n 1, 1) := by decide +kernel
theorem dX7_times_18 : decode cX7_times 18 = .ok (.iaload, 1) := by decide +kernel
theorem dX7_times_19 : decode cX7_times 19 = .ok (.goto 5, 3) := by decide +kernel
theorem dX7_times_22 : decode cX7_times 22 = .ok (.bipush (-3), 2) := by decide +kernel
theorem dX7_times_24 : decode cX7_times 24 = .ok (.ireturn, 1) := by decide +kernel
theorem dX7_doneBy_0 : decode cX7_doneBy 0 = .ok (.aload_n 0, 1) := by decide +kernel
theorem dX7_doneBy_1 : decode cX7_doneBy 1 = .ok (.iconst 0, 1) := by decide +kernel
theorem dX7_doneBy_2 : decode cX7_doneBy 2 = .ok (.putfield 67, 3) := by decide +kernel
theorem dX7_doneBy_5 : decode cX7_doneBy 5 = .ok (.aload_n 0, 1) := by decide +kernel
theorem dX7_doneBy_6 : decode cX7_doneBy 6 = .ok (.iload_n 1, 1) := by decide +kernel
theorem dX7_doneBy_7 : decode cX7_doneBy 7 = .ok (.invokevirtual 73, 3) := by decide +kernel
theorem dX7_doneBy_10 : decode cX7_doneBy 10 = .ok (.ifCond .eq 12, 3) := by decide +kernel
theorem dX7_doneBy_13 : decode cX7_doneBy 13 = .ok (.aload_n 0, 1) := by decide +kernel
theorem dX7_doneBy_14 : decode cX7_doneBy 14 = .ok (.getfield 42, 3) := by decide +kernel
theorem dX7_doneBy_17 : decode cX7_doneBy 17 = .ok (.iload_n 1, 1) := by decide +kernel
theorem dX7_doneBy_18 : decode cX7_doneBy 18 = .ok (.iaload, 1) := by decide +kernel
theorem dX7_doneBy_19 : decode cX7_doneBy 19 = .ok (.goto 5, 3) := by decide +kernel
theorem dX7_doneBy_22 : decode cX7_doneBy 22 = .ok (.bipush (-3), 2) := by decide +kernel
theorem dX7_doneBy_24 : decode cX7_doneBy 24 = .ok (.ireturn, 1) := by decide +kernel
theorem dX7_result_0 : decode cX7_result 0 = .ok (.aload_n 0, 1) := by decide +kernel
theorem dX7_result_1 : decode cX7_result 1 = .ok (.iconst 0, 1) := by decide +kernel
theorem dX7_result_2 : decode cX7_result 2 = .ok (.putfield 67, 3) := by decide +kernel
theorem dX7_result_5 : decode cX7_result 5 = .ok (.aload_n 0, 1) := by decide +kernel
theorem dX7_result_6 : decode cX7_result 6 = .ok (.iload_n 1, 1) := by decide +kernel
theorem dX7_result_7 : decode cX7_result 7 = .ok (.invokevirtual 73, 3) := by decide +kernel
theorem dX7_result_10 : decode cX7_result 10 = .ok (.ifCond .eq 12, 3) := by decide +kernel
theorem dX7_result_13 : decode cX7_result 13 = .ok (.aload_n 0, 1) := by decide +kernel
theorem dX7_result_14 : decode cX7_result 14 = .ok (.getfield 33, 3) := by decide +kernel
theorem dX7_result_17 : decode cX7_result 17 = .ok (.iload_n 1, 1) := by decide +kernel
theorem dX7_result_18 : decode cX7_result 18 = .ok (.laload, 1) := by decide +kernel
theorem dX7_result_19 : decode cX7_result 19 = .ok (.goto 4, 3) := by decide +kernel
theorem dX7_result_22 : decode cX7_result 22 = .ok (.lconst 0, 1) := by decide +kernel
theorem dX7_result_23 : decode cX7_result 23 = .ok (.lreturn, 1) := by decide +kernel
theorem dX7_join_0 : decode cX7_join 0 = .ok (.lconst 0, 1) := by decide +kernel
theorem dX7_join_1 : decode cX7_join 1 = .ok (.lstore_n 2, 1) := by decide +kernel
theorem dX7_join_2 : decode cX7_join 2 = .ok (.iconst 0, 1) := by decide +kernel
theorem dX7_join_3 : decode cX7_join 3 = .ok (.istore 4, 2) := by decide +kernel
theorem dX7_join_5 : decode cX7_join 5 = .ok (.iload 4, 2) := by decide +kernel
theorem dX7_join_7 : decode cX7_join 7 = .ok (.aload_n 0, 1) := by decide +kernel
theorem dX7_join_8 : decode cX7_join 8 = .ok (.getfield 60, 3) := by decide +kernel
theorem dX7_join_11 : decode cX7_join 11 = .ok (.if_icmp .ge 46, 3) := by decide +kernel
theorem dX7_join_14 : decode cX7_join 14 = .ok (.aload_n 0, 1) := by decide +kernel
theorem dX7_join_15 : decode cX7_join 15 = .ok (.getfield 20, 3) := by decide +kernel
theorem dX7_join_18 : decode cX7_join 18 = .ok (.iload 4, 2) := by decide +kernel
theorem dX7_join_20 : decode cX7_join 20 = .ok (.baload, 1) := by decide +kernel
theorem dX7_join_21 : decode cX7_join 21 = .ok (.ifCond .ne 30, 3) := by decide +kernel
theorem dX7_join_24 : decode cX7_join 24 = .ok (.lload_n 2, 1) := by decide +kernel
theorem dX7_join_25 : decode cX7_join 25 = .ok (.iconst 5, 1) := by decide +kernel
theorem dX7_join_26 : decode cX7_join 26 = .ok (.invokestatic 85, 3) := by decide +kernel
theorem dX7_join_29 : decode cX7_join 29 = .ok (.iload_n 1, 1) := by decide +kernel
theorem dX7_join_30 : decode cX7_join 30 = .ok (.ifCond .eq 12, 3) := by decide +kernel
theorem dX7_join_33 : decode cX7_join 33 = .ok (.aload_n 0, 1) := by decide +kernel
theorem dX7_join_34 : decode cX7_join 34 = .ok (.iload 4, 2) := by decide +kernel
theorem dX7_join_36 : decode cX7_join 36 = .ok (.invokevirtual 108, 3) := by decide +kernel
theorem dX7_join_39 : decode cX7_join 39 = .ok (.goto 10, 3) := by decide +kernel
theorem dX7_join_42 : decode cX7_join 42 = .ok (.aload_n 0, 1) := by decide +kernel
theorem dX7_join_43 : decode cX7_join 43 = .ok (.getfield 33, 3) := by decide +kernel
theorem dX7_join_46 : decode cX7_join 46 = .ok (.iload 4, 2) := by decide +kernel
theorem dX7_join_48 : decode cX7_join 48 = .ok (.laload, 1) := by decide +kernel
theorem dX7_join_49 : decode cX7_join 49 = .ok (.lxor, 1) := by decide +kernel
theorem dX7_join_50 : decode cX7_join 50 = .ok (.lstore_n 2, 1) := by decide +kernel
theorem dX7_join_51 : decode cX7_join 51 = .ok (.iinc 4 1, 3) := by decide +kernel
theorem dX7_join_54 : decode cX7_join 54 = .ok (.goto (-49), 3) := by decide +kernel
theorem dX7_join_57 : decode cX7_join 57 = .ok (.lload_n 2, 1) := by decide +kernel
theorem dX7_join_58 : decode cX7_join 58 = .ok (.lreturn, 1) := by decide +kernel
theorem dX7_joined_0 : decode cX7_joined 0 = .ok (.aload_n 0, 1) := by decide +kernel
theorem dX7_joined_1 : decode cX7_joined 1 = .ok (.iconst 0, 1) := by decide +kernel
theorem dX7_joined_2 : decode cX7_joined 2 = .ok (.putfield 67, 3) := by decide +kernel
theorem dX7_joined_5 : decode cX7_joined 5 = .ok (.aload_n 0, 1) := by decide +kernel
theorem dX7_joined_6 : decode cX7_joined 6 = .ok (.iconst 0, 1) := by decide +kernel
theorem dX7_joined_7 : decode cX7_joined 7 = .ok (.invokevirtual 129, 3) := by decide +kernel
theorem dX7_joined_10 : decode cX7_joined 10 = .ok (.lreturn, 1) := by decide +kernel
theorem dX7_plain_0 : decode cX7_plain 0 = .ok (.aload_n 0, 1) := by decide +kernel
theorem dX7_plain_1 : decode cX7_plain 1 = .ok (.iconst 0, 1) := by decide +kernel
theorem dX7_plain_2 : decode cX7_plain 2 = .ok (.putfield 67, 3) := by decide +kernel
theorem dX7_plain_5 : decode cX7_plain 5 = .ok (.aload_n 0, 1) := by decide +kernel
theorem dX7_plain_6 : decode cX7_plain 6 = .ok (.iconst 1, 1) := by decide +kernel
theorem dX7_plain_7 : decode cX7_plain 7 = .ok (.invokevirtual 129, 3) := by decide +kernel
theorem dX7_plain_10 : decode cX7_plain 10 = .ok (.lreturn, 1) := by decide +kernel
theorem dX7_clear_0 : decode cX7_clear 0 = .ok (.aload_n 0, 1) := by decide +kernel
theorem dX7_clear_1 : decode cX7_clear 1 = .ok (.iconst 0, 1) := by decide +kernel
theorem dX7_clear_2 : decode cX7_clear 2 = .ok (.putfield 67, 3) := by decide +kernel
theorem dX7_clear_5 : decode cX7_clear 5 = .ok (.aload_n 0, 1) := by decide +kernel
theorem dX7_clear_6 : decode cX7_clear 6 = .ok (.invokevirtual 64, 3) := by decide +kernel
theorem dX7_clear_9 : decode cX7_clear 9 = .ok (.return_, 1) := by decide +kernel
end
section
theorem dL_law_0 : decode cL_law 0 = .ok (.new 7, 3) := by decide +kernel
theorem dL_law_3 : decode cL_law 3 = .ok (.dup, 1) := by decide +kernel
theorem dL_law_4 : decode cL_law 4 = .ok (.aload_n 0, 1) := by decide +kernel
theorem dL_law_5 : decode cL_law 5 = .ok (.iconst 0, 1) := by decide +kernel
theorem dL_law_6 : decode cL_law 6 = .ok (.invokestatic 9, 3) := by decide +kernel
theorem dL_law_9 : decode cL_law 9 = .ok (.invokespecial 15, 3) := by decide +kernel
theorem dL_law_12 : decode cL_law 12 = .ok (.astore_n 1, 1) := by decide +kernel
theorem dL_law_13 : decode cL_law 13 = .ok (.new 18, 3) := by decide +kernel
theorem dL_law_16 : decode cL_law 16 = .ok (.dup, 1) := by decide +kernel
theorem dL_law_17 : decode cL_law 17 = .ok (.aload_n 0, 1) := by decide +kernel
theorem dL_law_18 : decode cL_law 18 = .ok (.iconst 0, 1) := by decide +kernel
theorem dL_law_19 : decode cL_law 19 = .ok (.invokestatic 9, 3) := by decide +kernel
theorem dL_law_22 : decode cL_law 22 = .ok (.invokespecial 20, 3) := by decide +kernel
theorem dL_law_25 : decode cL_law 25 = .ok (.astore_n 2, 1) := by decide +kernel
theorem dL_law_26 : decode cL_law 26 = .ok (.iconst 1, 1) := by decide +kernel
theorem dL_law_27 : decode cL_law 27 = .ok (.istore_n 3, 1) := by decide +kernel
theorem dL_law_28 : decode cL_law 28 = .ok (.iload_n 3, 1) := by decide +kernel
theorem dL_law_29 : decode cL_law 29 = .ok (.aload_n 0, 1) := by decide +kernel
theorem dL_law_30 : decode cL_law 30 = .ok (.arraylength, 1) := by decide +kernel
theorem dL_law_31 : decode cL_law 31 = .ok (.iconst 4, 1) := by decide +kernel
theorem dL_law_32 : decode cL_law 32 = .ok (.isub, 1) := by decide +kernel
theorem dL_law_33 : decode cL_law 33 = .ok (.if_icmp .gt 531, 3) := by decide +kernel
theorem dL_law_36 : decode cL_law 36 = .ok (.aload_n 0, 1) := by decide +kernel
theorem dL_law_37 : decode cL_law 37 = .ok (.iload_n 3, 1) := by decide +kernel
theorem dL_law_38 : decode cL_law 38 = .ok (.iaload, 1) := by decide +kernel
theorem dL_law_39 : decode cL_law 39 = .ok (.bipush 15, 2) := by decide +kernel
theorem dL_law_41 : decode cL_law 41 = .ok (.iand, 1) := by decide +kernel
theorem dL_law_42 : decode cL_law 42 = .ok (.tableswitch 516 0 14 #[74, 137, 170, 203, 252, 265, 288, 321, 384, 407, 430, 453, 477, 491, 505], 74) := by decide +kernel
theorem dL_law_116 : decode cL_law 116 = .ok (.aload_n 1, 1) := by decide +kernel
theorem dL_law_117 : decode cL_law 117 = .ok (.aload_n 0, 1) := by decide +kernel
theorem dL_law_118 : decode cL_law 118 = .ok (.iload_n 3, 1) := by decide +kernel
theorem dL_law_119 : decode cL_law 119 = .ok (.iconst 1, 1) := by decide +kernel
theorem dL_law_120 : decode cL_law 120 = .ok (.iadd, 1) := by decide +kernel
theorem dL_law_121 : decode cL_law 121 = .ok (.iaload, 1) := by decide +kernel
theorem dL_law_122 : decode cL_law 122 = .ok (.aload_n 0, 1) := by decide +kernel
theorem dL_law_123 : decode cL_law 123 = .ok (.iload_n 3, 1) := by decide +kernel
theorem dL_law_124 : decode cL_law 124 = .ok (.iconst 2, 1) := by decide +kernel
theorem dL_law_125 : decode cL_law 125 = .ok (.iadd, 1) := by decide +kernel
theorem dL_law_126 : decode cL_law 126 = .ok (.iaload, 1) := by decide +kernel
theorem dL_law_127 : decode cL_law 127 = .ok (.i2l, 1) := by decide +kernel
theorem dL_law_128 : decode cL_law 128 = .ok (.bipush 32, 2) := by decide +kernel
theorem dL_law_130 : decode cL_law 130 = .ok (.lshl, 1) := by decide +kernel
theorem dL_law_131 : decode cL_law 131 = .ok (.aload_n 0, 1) := by decide +kernel
theorem dL_law_132 : decode cL_law 132 = .ok (.iload_n 3, 1) := by decide +kernel
theorem dL_law_133 : decode cL_law 133 = .ok (.iconst 3, 1) := by decide +kernel
theorem dL_law_134 : decode cL_law 134 = .ok (.iadd, 1) := by decide +kernel
theorem dL_law_135 : decode cL_law 135 = .ok (.iaload, 1) := by decide +kernel
theorem dL_law_136 : decode cL_law 136 = .ok (.i2l, 1) := by decide +kernel
theorem dL_law_137 : decode cL_law 137 = .ok (.ldc2_w 21, 3) := by decide +kernel
theorem dL_law_140 : decode cL_law 140 = .ok (.land, 1) := by decide +kernel
theorem dL_law_141 : decode cL_law 141 = .ok (.lor, 1) := by decide +kernel
theorem dL_law_142 : decode cL_law 142 = .ok (.invokevirtual 23, 3) := by decide +kernel
theorem dL_law_145 : decode cL_law 145 = .ok (.aload_n 2, 1) := by decide +kernel
theorem dL_law_146 : decode cL_law 146 = .ok (.aload_n 0, 1) := by decide +kernel
theorem dL_law_147 : decode cL_law 147 = .ok (.iload_n 3, 1) := by decide +kernel
theorem dL_law_148 : decode cL_law 148 = .ok (.iconst 1, 1) := by decide +kernel
theorem dL_law_149 : decode cL_law 149 = .ok (.iadd, 1) := by decide +kernel
theorem dL_law_150 : decode cL_law 150 = .ok (.iaload, 1) := by decide +kernel
theorem dL_law_151 : decode cL_law 151 = .ok (.aload_n 0, 1) := by decide +kernel
theorem dL_law_152 : decode cL_law 152 = .ok (.iload_n 3, 1) := by decide +kernel
theorem dL_law_153 : decode cL_law 153 = .ok (.iconst 2, 1) := by decide +kernel
theorem dL_law_154 : decode cL_law 154 = .ok (.iadd, 1) := by decide +kernel
theorem dL_law_155 : decode cL_law 155 = .ok (.iaload, 1) := by decide +kernel
theorem dL_law_156 : decode cL_law 156 = .ok (.i2l, 1) := by decide +kernel
theorem dL_law_157 : decode cL_law 157 = .ok (.bipush 32, 2) := by decide +kernel
theorem dL_law_159 : decode cL_law 159 = .ok (.lshl, 1) := by decide +kernel
theorem dL_law_160 : decode cL_law 160 = .ok (.aload_n 0, 1) := by decide +kernel
theorem dL_law_161 : decode cL_law 161 = .ok (.iload_n 3, 1) := by decide +kernel
theorem dL_law_162 : decode cL_law 162 = .ok (.iconst 3, 1) := by decide +kernel
theorem dL_law_163 : decode cL_law 163 = .ok (.iadd, 1) := by decide +kernel
theorem dL_law_164 : decode cL_law 164 = .ok (.iaload, 1) := by decide +kernel
theorem dL_law_165 : decode cL_law 165 = .ok (.i2l, 1) := by decide +kernel
theorem dL_law_166 : decode cL_law 166 = .ok (.ldc2_w 21, 3) := by decide +kernel
theorem dL_law_169 : decode cL_law 169 = .ok (.land, 1) := by decide +kernel
theorem dL_law_170 : decode cL_law 170 = .ok (.lor, 1) := by decide +kernel
theorem dL_law_171 : decode cL_law 171 = .ok (.invokevirtual 27, 3) := by decide +kernel
theorem dL_law_174 : decode cL_law 174 = .ok (.if_icmp .eq 384, 3) := by decide +kernel
theorem dL_law_177 : decode cL_law 177 = .ok (.iconst 0, 1) := by decide +kernel
theorem dL_law_178 : decode cL_law 178 = .ok (.ireturn, 1) := by decide +kernel
theorem dL_law_179 : decode cL_law 179 = .ok (.aload_n 1, 1) := by decide +kernel
theorem dL_law_180 : decode cL_law 180 = .ok (.aload_n 0, 1) := by decide +kernel
theorem dL_law_181 : decode cL_law 181 = .ok (.iload_n 3, 1) := by decide +kernel
theorem dL_law_182 : decode cL_law 182 = .ok (.iconst 1, 1) := by decide +kernel
theorem dL_law_183 : decode cL_law 183 = .ok (.iadd, 1) := by decide +kernel
theorem dL_law_184 : decode cL_law 184 = .ok (.iaload, 1) := by decide +kernel
theorem dL_law_185 : decode cL_law 185 = .ok (.aload_n 0, 1) := by decide +kernel
theorem dL_law_186 : decode cL_law 186 = .ok (.iload_n 3, 1) := by decide +kernel
theorem dL_law_187 : decode cL_law 187 = .ok (.iconst 2, 1) := by decide +kernel
theorem dL_law_188 : decode cL_law 188 = .ok (.iadd, 1) := by decide +kernel
theorem dL_law_189 : decode cL_law 189 = .ok (.iaload, 1) := by decide +kernel
theorem dL_law_190 : decode cL_law 190 = .ok (.invokevirtual 28, 3) := by decide +kernel
theorem dL_law_193 : decode cL_law 193 = .ok (.aload_n 2, 1) := by decide +kernel
theorem dL_law_194 : decode cL_law 194 = .ok (.aload_n 0, 1) := by decide +kernel
theorem dL_law_195 : decode cL_law 195 = .ok (.iload_n 3, 1) := by decide +kernel
theorem dL_law_196 : decode cL_law 196 = .ok (.iconst 1, 1) := by decide +kernel
theorem dL_law_197 : decode cL_law 197 = .ok (.iadd, 1) := by decide +kernel
theorem dL_law_198 : decode cL_law 198 = .ok (.iaload, 1) := by decide +kernel
theorem dL_law_199 : decode cL_law 199 = .ok (.aload_n 0, 1) := by decide +kernel
theorem dL_law_200 : decode cL_law 200 = .ok (.iload_n 3, 1) := by decide +kernel
theorem dL_law_201 : decode cL_law 201 = .ok (.iconst 2, 1) := by decide +kernel
theorem dL_law_202 : decode cL_law 202 = .ok (.iadd, 1) := by decide +kernel
theorem dL_law_203 : decode cL_law 203 = .ok (.iaload, 1) := by decide +kernel
theorem dL_law_204 : decode cL_law 204 = .ok (.invokevirtual 32, 3) := by decide +kernel
theorem dL_law_207 : decode cL_law 207 = .ok (.if_icmp .eq 351, 3) := by decide +kernel
theorem dL_law_210 : decode cL_law 210 = .ok (.iconst 0, 1) := by decide +kernel
theorem dL_law_211 : decode cL_law 211 = .ok (.ireturn, 1) := by decide +kernel
theorem dL_law_212 : decode cL_law 212 = .ok (.aload_n 1, 1) := by decide +kernel
theorem dL_law_213 : decode cL_law 213 = .ok (.aload_n 0, 1) := by decide +kernel
theorem dL_law_214 : decode cL_law 214 = .ok (.iload_n 3, 1) := by decide +kernel
theorem dL_law_215 : decode cL_law 215 = .ok (.iconst 1, 1) := by decide +kernel
theorem dL_law_216 : decode cL_law 216 = .ok (.iadd, 1) := by decide +kernel
theorem dL_law_217 : decode cL_law 217 = .ok (.iaload, 1) := by decide +kernel
theorem dL_law_218 : decode cL_law 218 = .ok (.aload_n 0, 1) := by decide +kernel
theorem dL_law_219 : decode cL_law 219 = .ok (.iload_n 3, 1) := by decide +kernel
theorem dL_law_220 : decode cL_law 220 = .ok (.iconst 2, 1) := by decide +kernel
theorem dL_law_221 : decode cL_law 221 = .ok (.iadd, 1) := by decide +kernel
theorem dL_law_222 : decode cL_law 222 = .ok (.iaload, 1) := by decide +kernel
theorem dL_law_223 : decode cL_law 223 = .ok (.invokevirtual 33, 3) := by decide +kernel
theorem dL_law_226 : decode cL_law 226 = .ok (.aload_n 2, 1) := by decide +kernel
theorem dL_law_227 : decode cL_law 227 = .ok (.aload_n 0, 1) := by decide +kernel
theorem dL_law_228 : decode cL_law 228 = .ok (.iload_n 3, 1) := by decide +kernel
theorem dL_law_229 : decode cL_law 229 = .ok (.iconst 1, 1) := by decide +kernel
theorem dL_law_230 : decode cL_law 230 = .ok (.iadd, 1) := by decide +kernel
theorem dL_law_231 : decode cL_law 231 = .ok (.iaload, 1) := by decide +kernel
theorem dL_law_232 : decode cL_law 232 = .ok (.aload_n 0, 1) := by decide +kernel
theorem dL_law_233 : decode cL_law 233 = .ok (.iload_n 3, 1) := by decide +kernel
theorem dL_law_234 : decode cL_law 234 = .ok (.iconst 2, 1) := by decide +kernel
theorem dL_law_235 : decode cL_law 235 = .ok (.iadd, 1) := by decide +kernel
theorem dL_law_236 : decode cL_law 236 = .ok (.iaload, 1) := by decide +kernel
theorem dL_law_237 : decode cL_law 237 = .ok (.invokevirtual 36, 3) := by decide +kernel
theorem dL_law_240 : decode cL_law 240 = .ok (.if_icmp .eq 318, 3) := by decide +kernel
theorem dL_law_243 : decode cL_law 243 = .ok (.iconst 0, 1) := by decide +kernel
theorem dL_law_244 : decode cL_law 244 = .ok (.ireturn, 1) := by decide +kernel
theorem dL_law_245 : decode cL_law 245 = .ok (.aload_n 1, 1) := by decide +kernel
theorem dL_law_246 : decode cL_law 246 = .ok (.aload_n 0, 1) := by decide +kernel
theorem dL_law_247 : decode cL_law 247 = .ok (.iload_n 3, 1) := by decide +kernel
theorem dL_law_248 : decode cL_law 248 = .ok (.iconst 1, 1) := by decide +kernel
theorem dL_law_249 : decode cL_law 249 = .ok (.iadd, 1) := by decide +kernel
theorem dL_law_250 : decode cL_law 250 = .ok (.iaload, 1) := by decide +kernel
theorem dL_law_251 : decode cL_law 251 = .ok (.aload_n 0, 1) := by decide +kernel
theorem dL_law_252 : decode cL_law 252 = .ok (.iload_n 3, 1) := by decide +kernel
theorem dL_law_253 : decode cL_law 253 = .ok (.iconst 2, 1) := by decide +kernel
theorem dL_law_254 : decode cL_law 254 = .ok (.iadd, 1) := by decide +kernel
theorem dL_law_255 : decode cL_law 255 = .ok (.iaload, 1) := by decide +kernel
theorem dL_law_256 : decode cL_law 256 = .ok (.ifCond .eq 7, 3) := by decide +kernel
theorem dL_law_259 : decode cL_law 259 = .ok (.iconst 1, 1) := by decide +kernel
theorem dL_law_260 : decode cL_law 260 = .ok (.goto 4, 3) := by decide +kernel
theorem dL_law_263 : decode cL_law 263 = .ok (.iconst 0, 1) := by decide +kernel
theorem dL_law_264 : decode cL_law 264 = .ok (.invokevirtual 37, 3) := by decide +kernel
theorem dL_law_267 : decode cL_law 267 = .ok (.aload_n 2, 1) := by decide +kernel
theorem dL_law_268 : decode cL_law 268 = .ok (.aload_n 0, 1) := by decide +kernel
theorem dL_law_269 : decode cL_law 269 = .ok (.iload_n 3, 1) := by decide +kernel
theorem dL_law_270 : decode cL_law 270 = .ok (.iconst 1, 1) := by decide +kernel
theorem dL_law_271 : decode cL_law 271 = .ok (.iadd, 1) := by decide +kernel
theorem dL_law_272 : decode cL_law 272 = .ok (.iaload, 1) := by decide +kernel
theorem dL_law_273 : decode cL_law 273 = .ok (.aload_n 0, 1) := by decide +kernel
theorem dL_law_274 : decode cL_law 274 = .ok (.iload_n 3, 1) := by decide +kernel
theorem dL_law_275 : decode cL_law 275 = .ok (.iconst 2, 1) := by decide +kernel
theorem dL_law_276 : decode cL_law 276 = .ok (.iadd, 1) := by decide +kernel
theorem dL_law_277 : decode cL_law 277 = .ok (.iaload, 1) := by decide +kernel
theorem dL_law_278 : decode cL_law 278 = .ok (.ifCond .eq 7, 3) := by decide +kernel
theorem dL_law_281 : decode cL_law 281 = .ok (.iconst 1, 1) := by decide +kernel
theorem dL_law_282 : decode cL_law 282 = .ok (.goto 4, 3) := by decide +kernel
theorem dL_law_285 : decode cL_law 285 = .ok (.iconst 0, 1) := by decide +kernel
theorem dL_law_286 : decode cL_law 286 = .ok (.invokevirtual 41, 3) := by decide +kernel
theorem dL_law_289 : decode cL_law 289 = .ok (.if_icmp .eq 269, 3) := by decide +kernel
theorem dL_law_292 : decode cL_law 292 = .ok (.iconst 0, 1) := by decide +kernel
theorem dL_law_293 : decode cL_law 293 = .ok (.ireturn, 1) := by decide +kernel
theorem dL_law_294 : decode cL_law 294 = .ok (.aload_n 1, 1) := by decide +kernel
theorem dL_law_295 : decode cL_law 295 = .ok (.invokevirtual 42, 3) := by decide +kernel
theorem dL_law_298 : decode cL_law 298 = .ok (.aload_n 2, 1) := by decide +kernel
theorem dL_law_299 : decode cL_law 299 = .ok (.invokevirtual 46, 3) := by decide +kernel
theorem dL_law_302 : decode cL_law 302 = .ok (.if_icmp .eq 256, 3) := by decide +kernel
theorem dL_law_305 : decode cL_law 305 = .ok (.iconst 0, 1) := by decide +kernel
theorem dL_law_306 : decode cL_law 306 = .ok (.ireturn, 1) := by decide +kernel
theorem dL_law_307 : decode cL_law 307 = .ok (.aload_n 1, 1) := by decide +kernel
theorem dL_law_308 : decode cL_law 308 = .ok (.aload_n 0, 1) := by decide +kernel
theorem dL_law_309 : decode cL_law 309 = .ok (.iload_n 3, 1) := by decide +kernel
theorem dL_law_310 : decode cL_law 310 = .ok (.iconst 1, 1) := by decide +kernel
theorem dL_law_311 : decode cL_law 311 = .ok (.iadd, 1) := by decide +kernel
theorem dL_law_312 : decode cL_law 312 = .ok (.iaload, 1) := by decide +kernel
theorem dL_law_313 : decode cL_law 313 = .ok (.invokevirtual 47, 3) := by decide +kernel
theorem dL_law_316 : decode cL_law 316 = .ok (.aload_n 2, 1) := by decide +kernel
theorem dL_law_317 : decode cL_law 317 = .ok (.aload_n 0, 1) := by decide +kernel
theorem dL_law_318 : decode cL_law 318 = .ok (.iload_n 3, 1) := by decide +kernel
theorem dL_law_319 : decode cL_law 319 = .ok (.iconst 1, 1) := by decide +kernel
theorem dL_law_320 : decode cL_law 320 = .ok (.iadd, 1) := by decide +kernel
theorem dL_law_321 : decode cL_law 321 = .ok (.iaload, 1) := by decide +kernel
theorem dL_law_322 : decode cL_law 322 = .ok (.invokevirtual 51, 3) := by decide +kernel
theorem dL_law_325 : decode cL_law 325 = .ok (.if_icmp .eq 233, 3) := by decide +kernel
theorem dL_law_328 : decode cL_law 328 = .ok (.iconst 0, 1) := by decide +kernel
theorem dL_law_329 : decode cL_law 329 = .ok (.ireturn, 1) := by decide +kernel
theorem dL_law_330 : decode cL_law 330 = .ok (.aload_n 1, 1) := by decide +kernel
theorem dL_law_331 : decode cL_law 331 = .ok (.aload_n 0, 1) := by decide +kernel
theorem dL_law_332 : decode cL_law 332 = .ok (.iload_n 3, 1) := by decide +kernel
theorem dL_law_333 : decode cL_law 333 = .ok (.iconst 1, 1) := by decide +kernel
theorem dL_law_334 : decode cL_law 334 = .ok (.iadd, 1) := by decide +kernel
theorem dL_law_335 : decode cL_law 335 = .ok (.iaload, 1) := by decide +kernel
theorem dL_law_336 : decode cL_law 336 = .ok (.aload_n 0, 1) := by decide +kernel
theorem dL_law_337 : decode cL_law 337 = .ok (.iload_n 3, 1) := by decide +kernel
theorem dL_law_338 : decode cL_law 338 = .ok (.iconst 2, 1) := by decide +kernel
theorem dL_law_339 : decode cL_law 339 = .ok (.iadd, 1) := by decide +kernel
theorem dL_law_340 : decode cL_law 340 = .ok (.iaload, 1) := by decide +kernel
theorem dL_law_341 : decode cL_law 341 = .ok (.invokevirtual 52, 3) := by decide +kernel
theorem dL_law_344 : decode cL_law 344 = .ok (.aload_n 2, 1) := by decide +kernel
theorem dL_law_345 : decode cL_law 345 = .ok (.aload_n 0, 1) := by decide +kernel
theorem dL_law_346 : decode cL_law 346 = .ok (.iload_n 3, 1) := by decide +kernel
theorem dL_law_347 : decode cL_law 347 = .ok (.iconst 1, 1) := by decide +kernel
theorem dL_law_348 : decode cL_law 348 = .ok (.iadd, 1) := by decide +kernel
theorem dL_law_349 : decode cL_law 349 = .ok (.iaload, 1) := by decide +kernel
theorem dL_law_350 : decode cL_law 350 = .ok (.aload_n 0, 1) := by decide +kernel
theorem dL_law_351 : decode cL_law 351 = .ok (.iload_n 3, 1) := by decide +kernel
theorem dL_law_352 : decode cL_law 352 = .ok (.iconst 2, 1) := by decide +kernel
theorem dL_law_353 : decode cL_law 353 = .ok (.iadd, 1) := by decide +kernel
theorem dL_law_354 : decode cL_law 354 = .ok (.iaload, 1) := by decide +kernel
theorem dL_law_355 : decode cL_law 355 = .ok (.invokevirtual 55, 3) := by decide +kernel
theorem dL_law_358 : decode cL_law 358 = .ok (.if_icmp .eq 200, 3) := by decide +kernel
theorem dL_law_361 : decode cL_law 361 = .ok (.iconst 0, 1) := by decide +kernel
theorem dL_law_362 : decode cL_law 362 = .ok (.ireturn, 1) := by decide +kernel
theorem dL_law_363 : decode cL_law 363 = .ok (.aload_n 1, 1) := by decide +kernel
theorem dL_law_364 : decode cL_law 364 = .ok (.aload_n 0, 1) := by decide +kernel
theorem dL_law_365 : decode cL_law 365 = .ok (.iload_n 3, 1) := by decide +kernel
theorem dL_law_366 : decode cL_law 366 = .ok (.iconst 1, 1) := by decide +kernel
theorem dL_law_367 : decode cL_law 367 = .ok (.iadd, 1) := by decide +kernel
theorem dL_law_368 : decode cL_law 368 = .ok (.iaload, 1) := by decide +kernel
theorem dL_law_369 : decode cL_law 369 = .ok (.aload_n 0, 1) := by decide +kernel
theorem dL_law_370 : decode cL_law 370 = .ok (.iload_n 3, 1) := by decide +kernel
theorem dL_law_371 : decode cL_law 371 = .ok (.iconst 2, 1) := by decide +kernel
theorem dL_law_372 : decode cL_law 372 = .ok (.iadd, 1) := by decide +kernel
theorem dL_law_373 : decode cL_law 373 = .ok (.iaload, 1) := by decide +kernel
theorem dL_law_374 : decode cL_law 374 = .ok (.i2l, 1) := by decide +kernel
theorem dL_law_375 : decode cL_law 375 = .ok (.bipush 32, 2) := by decide +kernel
theorem dL_law_377 : decode cL_law 377 = .ok (.lshl, 1) := by decide +kernel
theorem dL_law_378 : decode cL_law 378 = .ok (.aload_n 0, 1) := by decide +kernel
theorem dL_law_379 : decode cL_law 379 = .ok (.iload_n 3, 1) := by decide +kernel
theorem dL_law_380 : decode cL_law 380 = .ok (.iconst 3, 1) := by decide +kernel
theorem dL_law_381 : decode cL_law 381 = .ok (.iadd, 1) := by decide +kernel
theorem dL_law_382 : decode cL_law 382 = .ok (.iaload, 1) := by decide +kernel
theorem dL_law_383 : decode cL_law 383 = .ok (.i2l, 1) := by decide +kernel
theorem dL_law_384 : decode cL_law 384 = .ok (.ldc2_w 21, 3) := by decide +kernel
theorem dL_law_387 : decode cL_law 387 = .ok (.land, 1) := by decide +kernel
theorem dL_law_388 : decode cL_law 388 = .ok (.lor, 1) := by decide +kernel
theorem dL_law_389 : decode cL_law 389 = .ok (.invokevirtual 56, 3) := by decide +kernel
theorem dL_law_392 : decode cL_law 392 = .ok (.aload_n 2, 1) := by decide +kernel
theorem dL_law_393 : decode cL_law 393 = .ok (.aload_n 0, 1) := by decide +kernel
theorem dL_law_394 : decode cL_law 394 = .ok (.iload_n 3, 1) := by decide +kernel
theorem dL_law_395 : decode cL_law 395 = .ok (.iconst 1, 1) := by decide +kernel
theorem dL_law_396 : decode cL_law 396 = .ok (.iadd, 1) := by decide +kernel
theorem dL_law_397 : decode cL_law 397 = .ok (.iaload, 1) := by decide +kernel
theorem dL_law_398 : decode cL_law 398 = .ok (.aload_n 0, 1) := by decide +kernel
theorem dL_law_399 : decode cL_law 399 = .ok (.iload_n 3, 1) := by decide +kernel
theorem dL_law_400 : decode cL_law 400 = .ok (.iconst 2, 1) := by decide +kernel
theorem dL_law_401 : decode cL_law 401 = .ok (.iadd, 1) := by decide +kernel
theorem dL_law_402 : decode cL_law 402 = .ok (.iaload, 1) := by decide +kernel
theorem dL_law_403 : decode cL_law 403 = .ok (.i2l, 1) := by decide +kernel
theorem dL_law_404 : decode cL_law 404 = .ok (.bipush 32, 2) := by decide +kernel
theorem dL_law_406 : decode cL_law 406 = .ok (.lshl, 1) := by decide +kernel
theorem dL_law_407 : decode cL_law 407 = .ok (.aload_n 0, 1) := by decide +kernel
theorem dL_law_408 : decode cL_law 408 = .ok (.iload_n 3, 1) := by decide +kernel
theorem dL_law_409 : decode cL_law 409 = .ok (.iconst 3, 1) := by decide +kernel
theorem dL_law_410 : decode cL_law 410 = .ok (.iadd, 1) := by decide +kernel
theorem dL_law_411 : decode cL_law 411 = .ok (.iaload, 1) := by decide +kernel
theorem dL_law_412 : decode cL_law 412 = .ok (.i2l, 1) := by decide +kernel
theorem dL_law_413 : decode cL_law 413 = .ok (.ldc2_w 21, 3) := by decide +kernel
theorem dL_law_416 : decode cL_law 416 = .ok (.land, 1) := by decide +kernel
theorem dL_law_417 : decode cL_law 417 = .ok (.lor, 1) := by decide +kernel
theorem dL_law_418 : decode cL_law 418 = .ok (.invokevirtual 59, 3) := by decide +kernel
theorem dL_law_421 : decode cL_law 421 = .ok (.if_icmp .eq 137, 3) := by decide +kernel
theorem dL_law_424 : decode cL_law 424 = .ok (.iconst 0, 1) := by decide +kernel
theorem dL_law_425 : decode cL_law 425 = .ok (.ireturn, 1) := by decide +kernel
theorem dL_law_426 : decode cL_law 426 = .ok (.aload_n 1, 1) := by decide +kernel
theorem dL_law_427 : decode cL_law 427 = .ok (.aload_n 0, 1) := by decide +kernel
theorem dL_law_428 : decode cL_law 428 = .ok (.iload_n 3, 1) := by decide +kernel
theorem dL_law_429 : decode cL_law 429 = .ok (.iconst 1, 1) := by decide +kernel
theorem dL_law_430 : decode cL_law 430 = .ok (.iadd, 1) := by decide +kernel
theorem dL_law_431 : decode cL_law 431 = .ok (.iaload, 1) := by decide +kernel
theorem dL_law_432 : decode cL_law 432 = .ok (.invokevirtual 60, 3) := by decide +kernel
theorem dL_law_435 : decode cL_law 435 = .ok (.aload_n 2, 1) := by decide +kernel
theorem dL_law_436 : decode cL_law 436 = .ok (.aload_n 0, 1) := by decide +kernel
theorem dL_law_437 : decode cL_law 437 = .ok (.iload_n 3, 1) := by decide +kernel
theorem dL_law_438 : decode cL_law 438 = .ok (.iconst 1, 1) := by decide +kernel
theorem dL_law_439 : decode cL_law 439 = .ok (.iadd, 1) := by decide +kernel
theorem dL_law_440 : decode cL_law 440 = .ok (.iaload, 1) := by decide +kernel
theorem dL_law_441 : decode cL_law 441 = .ok (.invokevirtual 63, 3) := by decide +kernel
theorem dL_law_444 : decode cL_law 444 = .ok (.if_icmp .eq 114, 3) := by decide +kernel
theorem dL_law_447 : decode cL_law 447 = .ok (.iconst 0, 1) := by decide +kernel
theorem dL_law_448 : decode cL_law 448 = .ok (.ireturn, 1) := by decide +kernel
theorem dL_law_449 : decode cL_law 449 = .ok (.aload_n 1, 1) := by decide +kernel
theorem dL_law_450 : decode cL_law 450 = .ok (.aload_n 0, 1) := by decide +kernel
theorem dL_law_451 : decode cL_law 451 = .ok (.iload_n 3, 1) := by decide +kernel
theorem dL_law_452 : decode cL_law 452 = .ok (.iconst 1, 1) := by decide +kernel
theorem dL_law_453 : decode cL_law 453 = .ok (.iadd, 1) := by decide +kernel
theorem dL_law_454 : decode cL_law 454 = .ok (.iaload, 1) := by decide +kernel
theorem dL_law_455 : decode cL_law 455 = .ok (.invokevirtual 64, 3) := by decide +kernel
theorem dL_law_458 : decode cL_law 458 = .ok (.aload_n 2, 1) := by decide +kernel
theorem dL_law_459 : decode cL_law 459 = .ok (.aload_n 0, 1) := by decide +kernel
theorem dL_law_460 : decode cL_law 460 = .ok (.iload_n 3, 1) := by decide +kernel
theorem dL_law_461 : decode cL_law 461 = .ok (.iconst 1, 1) := by decide +kernel
theorem dL_law_462 : decode cL_law 462 = .ok (.iadd, 1) := by decide +kernel
theorem dL_law_463 : decode cL_law 463 = .ok (.iaload, 1) := by decide +kernel
theorem dL_law_464 : decode cL_law 464 = .ok (.invokevirtual 67, 3) := by decide +kernel
theorem dL_law_467 : decode cL_law 467 = .ok (.if_icmp .eq 91, 3) := by decide +kernel
theorem dL_law_470 : decode cL_law 470 = .ok (.iconst 0, 1) := by decide +kernel
theorem dL_law_471 : decode cL_law 471 = .ok (.ireturn, 1) := by decide +kernel
theorem dL_law_472 : decode cL_law 472 = .ok (.aload_n 1, 1) := by decide +kernel
theorem dL_law_473 : decode cL_law 473 = .ok (.aload_n 0, 1) := by decide +kernel
theorem dL_law_474 : decode cL_law 474 = .ok (.iload_n 3, 1) := by decide +kernel
theorem dL_law_475 : decode cL_law 475 = .ok (.iconst 1, 1) := by decide +kernel
theorem dL_law_476 : decode cL_law 476 = .ok (.iadd, 1) := by decide +kernel
theorem dL_law_477 : decode cL_law 477 = .ok (.iaload, 1) := by decide +kernel
theorem dL_law_478 : decode cL_law 478 = .ok (.invokevirtual 68, 3) := by decide +kernel
theorem dL_law_481 : decode cL_law 481 = .ok (.aload_n 2, 1) := by decide +kernel
theorem dL_law_482 : decode cL_law 482 = .ok (.aload_n 0, 1) := by decide +kernel
theorem dL_law_483 : decode cL_law 483 = .ok (.iload_n 3, 1) := by decide +kernel
theorem dL_law_484 : decode cL_law 484 = .ok (.iconst 1, 1) := by decide +kernel
theorem dL_law_485 : decode cL_law 485 = .ok (.iadd, 1) := by decide +kernel
theorem dL_law_486 : decode cL_law 486 = .ok (.iaload, 1) := by decide +kernel
theorem dL_law_487 : decode cL_law 487 = .ok (.invokevirtual 71, 3) := by decide +kernel
theorem dL_law_490 : decode cL_law 490 = .ok (.if_icmp .eq 68, 3) := by decide +kernel
theorem dL_law_493 : decode cL_law 493 = .ok (.iconst 0, 1) := by decide +kernel
theorem dL_law_494 : decode cL_law 494 = .ok (.ireturn, 1) := by decide +kernel
theorem dL_law_495 : decode cL_law 495 = .ok (.aload_n 1, 1) := by decide +kernel
theorem dL_law_496 : decode cL_law 496 = .ok (.aload_n 0, 1) := by decide +kernel
theorem dL_law_497 : decode cL_law 497 = .ok (.iload_n 3, 1) := by decide +kernel
theorem dL_law_498 : decode cL_law 498 = .ok (.iconst 1, 1) := by decide +kernel
theorem dL_law_499 : decode cL_law 499 = .ok (.iadd, 1) := by decide +kernel
theorem dL_law_500 : decode cL_law 500 = .ok (.iaload, 1) := by decide +kernel
theorem dL_law_501 : decode cL_law 501 = .ok (.invokevirtual 72, 3) := by decide +kernel
theorem dL_law_504 : decode cL_law 504 = .ok (.aload_n 2, 1) := by decide +kernel
theorem dL_law_505 : decode cL_law 505 = .ok (.aload_n 0, 1) := by decide +kernel
theorem dL_law_506 : decode cL_law 506 = .ok (.iload_n 3, 1) := by decide +kernel
theorem dL_law_507 : decode cL_law 507 = .ok (.iconst 1, 1) := by decide +kernel
theorem dL_law_508 : decode cL_law 508 = .ok (.iadd, 1) := by decide +kernel
theorem dL_law_509 : decode cL_law 509 = .ok (.iaload, 1) := by decide +kernel
theorem dL_law_510 : decode cL_law 510 = .ok (.invokevirtual 76, 3) := by decide +kernel
theorem dL_law_513 : decode cL_law 513 = .ok (.lcmp, 1) := by decide +kernel
theorem dL_law_514 : decode cL_law 514 = .ok (.ifCond .eq 44, 3) := by decide +kernel
theorem dL_law_517 : decode cL_law 517 = .ok (.iconst 0, 1) := by decide +kernel
theorem dL_law_518 : decode cL_law 518 = .ok (.ireturn, 1) := by decide +kernel
theorem dL_law_519 : decode cL_law 519 = .ok (.aload_n 1, 1) := by decide +kernel
theorem dL_law_520 : decode cL_law 520 = .ok (.invokevirtual 77, 3) := by decide +kernel
theorem dL_law_523 : decode cL_law 523 = .ok (.aload_n 2, 1) := by decide +kernel
theorem dL_law_524 : decode cL_law 524 = .ok (.invokevirtual 81, 3) := by decide +kernel
theorem dL_law_527 : decode cL_law 527 = .ok (.lcmp, 1) := by decide +kernel
theorem dL_law_528 : decode cL_law 528 = .ok (.ifCond .eq 30, 3) := by decide +kernel
theorem dL_law_531 : decode cL_law 531 = .ok (.iconst 0, 1) := by decide +kernel
theorem dL_law_532 : decode cL_law 532 = .ok (.ireturn, 1) := by decide +kernel
theorem dL_law_533 : decode cL_law 533 = .ok (.aload_n 1, 1) := by decide +kernel
theorem dL_law_534 : decode cL_law 534 = .ok (.invokevirtual 82, 3) := by decide +kernel
theorem dL_law_537 : decode cL_law 537 = .ok (.aload_n 2, 1) := by decide +kernel
theorem dL_law_538 : decode cL_law 538 = .ok (.invokevirtual 85, 3) := by decide +kernel
theorem dL_law_541 : decode cL_law 541 = .ok (.lcmp, 1) := by decide +kernel
theorem dL_law_542 : decode cL_law 542 = .ok (.ifCond .eq 16, 3) := by decide +kernel
theorem dL_law_545 : decode cL_law 545 = .ok (.iconst 0, 1) := by decide +kernel
theorem dL_law_546 : decode cL_law 546 = .ok (.ireturn, 1) := by decide +kernel
theorem dL_law_547 : decode cL_law 547 = .ok (.aload_n 1, 1) := by decide +kernel
theorem dL_law_548 : decode cL_law 548 = .ok (.invokevirtual 86, 3) := by decide +kernel
theorem dL_law_551 : decode cL_law 551 = .ok (.aload_n 2, 1) := by decide +kernel
theorem dL_law_552 : decode cL_law 552 = .ok (.invokevirtual 89, 3) := by decide +kernel
theorem dL_law_555 : decode cL_law 555 = .ok (.goto 3, 3) := by decide +kernel
theorem dL_law_558 : decode cL_law 558 = .ok (.iinc 3 4, 3) := by decide +kernel
theorem dL_law_561 : decode cL_law 561 = .ok (.goto (-533), 3) := by decide +kernel
theorem dL_law_564 : decode cL_law 564 = .ok (.iconst 1, 1) := by decide +kernel
theorem dL_law_565 : decode cL_law 565 = .ok (.ireturn, 1) := by decide +kernel
end
section
/-! my own base: one list of words for all methods, contracts of one form, calls and returns in one row -/
abbrev classes : List vw_C := [(RX0, TX0, 3), (RX1, TX1, 15), (RX2, TX2, 5), (RX3, TX3, 2), (RX4, TX4, 3), (RX5, TX5, 5), (RX6, TX6, 5), (RX7, TX7, 21)]
def ta_ws : List Cond := lw_tbl.filter goodWord
theorem ta_good {w : Cond} (h : w ∈ ta_ws) : (w.onTables && w.keeps) = true ∨ ∃ ty, w = .arrayClass ty := good_of_word (List.mem_filter.mp h).2
theorem ta_tbl {w : Cond} (h : w ∈ ta_ws) : w ∈ lw_tbl := (List.mem_filter.mp h).1
theorem ta_i (i : Nat) {w : Cond} (h : lw_tbl[i]? = some w) (g : goodWord w = true) : w ∈ ta_ws := List.mem_filter.mpr ⟨List.mem_of_getElem? h, g⟩
theorem ta_all {l : List Cond} (h : l.all (fun w => decide (w ∈ lw_tbl) && goodWord w) = true) : ∀ w ∈ l, w ∈ ta_ws := by
  intro w hw
  have h1 := List.all_eq_true.mp h w hw
  simp only [Bool.and_eq_true, decide_eq_true_eq] at h1
  exact List.mem_filter.mpr h1
theorem ta_cons {c : Cond} : ∀ w ∈ ta_ws, w ∈ c :: ta_ws := fun _ h => List.mem_cons_of_mem _ h
theorem ta_gi {Ts : List Cond} (hsub : ∀ w ∈ ta_ws, w ∈ Ts) {l : List Cond} (h : ∀ w ∈ l, w ∈ ta_ws) : GoodIn Ts l := fun w hw => ⟨hsub w (h w hw), ta_good (h w hw)⟩
theorem ta_c {c : Cond} (h : c ∈ ta_ws) : ∀ w ∈ c :: ta_ws, w ∈ ta_ws := fun w hw => (List.mem_cons.mp hw).elim (fun e => e ▸ h) id
abbrev EE : Type := va_G × ClassId × ClassId × ClassId
abbrev tys_ (E : EE) : List (ClassId × FieldType) := [(E.2.1, .int), (E.2.2.1, .long), (E.2.2.2, .boolean)]
abbrev nw1 : Cond := .methodLinkNest RX1 166 yX6_makeStep RX6
abbrev nw2 : Cond := .methodLinkNest RX5 31 yX6_makeStep RX6
def KK (E : EE) (U : State) : Prop := va_K E.1 classes (tys_ E) U ∧ va_Nw nw1 U ∧ va_Nw nw2 U
theorem KK.warm {E : EE} {s U : State} (hW : s.WarmedH U.vm) (h : KK E s) : KK E U := ⟨va_K.moved hW.alike h.1, va_Nw.warmM hW h.2.1, va_Nw.warmM hW h.2.2⟩
theorem KK.calling {E : EE} {U : State} {g : JFrame} {mk : MethodId} {a : Array Value} (h : KK E U) : KK E (U.calling g mk a) := ⟨va_K.moved (u := U) (U := U.calling g mk a) (Vm.Alike.refl U.vm) h.1, va_Nw.same rfl rfl h.2.1, va_Nw.same rfl rfl h.2.2⟩
def PreW (E : EE) (ws : va_W) (sz : Nat) (U : State) : Prop := U.heap.size = sz ∧ va_P E.1 classes ws U.heap ∧ KK E U ∧ va_D (fun _ => True) ws
def PostW (E : EE) (ws' : va_W) (A : Nat → Prop) (t : State) : Prop := va_P E.1 classes ws' t.heap ∧ va_D A ws'
theorem PostW.mk' {E : EE} {ws' : va_W} {A : Nat → Prop} {t : State} {H : Heap} (ht : t.heap = H) (hP : va_P E.1 classes ws' H) (hD : va_D A ws') : PostW E ws' A t := by
  subst ht
  exact ⟨hP, hD⟩
theorem PreW.blind {E : EE} {ws : va_W} {sz : Nat} {av : List Value} : FrameBlind (va_Pc av (PreW E ws sz)) := fun a U g mk q => by
  obtain ⟨q0, q1, qP, qK, qD⟩ := q
  exact ⟨q0, q1, qP, qK.calling, qD⟩
def Mi {S : Type} (l : Launch) (E : EE) (y : MethodName) (cd : Cond) (rm : Room) (av : List Value) (ws : va_W) (post : Int32 → S → Prop) (W' : S → va_W) : Prop :=
  ∀ sz : Nat, Met l y (cd :: ta_ws) rm (va_Pc av (PreW E ws sz)) (va_Qi post (fun u t => PostW E (W' u) (va_A ws sz) t) (va_A ws sz)) rm.cells rm.slots (va_A ws sz)
def Ml {S : Type} (l : Launch) (E : EE) (y : MethodName) (cd : Cond) (rm : Room) (av : List Value) (ws : va_W) (post : Int64 → S → Prop) (W' : S → va_W) : Prop :=
  ∀ sz : Nat, Met l y (cd :: ta_ws) rm (va_Pc av (PreW E ws sz)) (va_Ql post (fun u t => PostW E (W' u) (va_A ws sz) t) (va_A ws sz)) rm.cells rm.slots (va_A ws sz)
def Mv {S : Type} (l : Launch) (E : EE) (y : MethodName) (cd : Cond) (rm : Room) (av : List Value) (ws : va_W) (post : S → Prop) (W' : S → va_W) : Prop :=
  ∀ sz : Nat, Met l y (cd :: ta_ws) rm (va_Pc av (PreW E ws sz)) (va_Qv post (fun u t => PostW E (W' u) (va_A ws sz) t) (va_A ws sz)) rm.cells rm.slots (va_A ws sz)
/-- what a method's body stands on -/
def Bd (p : Program) (l : Launch) (E : EE) (s : State) (m : MethodId) (meth : Method) (c : Code) (y : MethodName) (bytes : ByteArray) (maxL : Nat) (ret : Option FieldType) (cd : Cond) (av : List Value) : Prop :=
  p.tables.exec = Jvm.exec ∧ c.code = bytes ∧ meth.sig.returnType = ret ∧ c.maxLocals = maxL ∧ s.vm.findClass y.cls = some m.cls ∧ meth.locks = false ∧ meth.name = y.name ∧ (∀ w ∈ (cd :: ta_ws), w.before av.toArray s = true) ∧ KK E s
theorem bd_of {p : Program} {l : Launch} {E : EE} {rm : Room} {e : Env} {s : State} {m : MethodId} {args : Array Value} {below : List Frame} {meth : Method} {c : Code} {s₁ : State} {y : MethodName} {bytes : ByteArray} {maxL : Nat} {ret : Option FieldType} {av : List Value} {ws : va_W} {sz : Nat}
    (B : BodyLoose p l y (headSpec (.code y bytes maxL ret :: ta_ws) rm) bytes maxL ret e s m args below meth c s₁) (hml : c.maxLocals = maxL) (hv : va_Pc av (PreW E ws sz) args s) : Bd p l E s m meth c y bytes maxL ret (.code y bytes maxL ret) av := by
  obtain ⟨rfl, hsz, hP, hK, hD0⟩ := hv
  exact ⟨B.exec, B.bytes, B.returns, hml, findClass_of_methodNamed B.named, B.notSynchronized, (name_of_methodNamed B.named B.method).1, atoms_spec (ws := (.code y bytes maxL ret :: ta_ws)) B.pre, hK⟩
theorem Mi.ofW {S : Type} {l : Launch} {E : EE} {y : MethodName} {bytes : ByteArray} {maxL : Nat} {ret : Option FieldType} {rm : Room} {av : List Value} {ws : va_W} {post : Int32 → S → Prop} {W' : S → va_W} (hy : plainName y.cls = true) (hlen : (lg_sl av).length ≤ maxL)
    (body : ∀ (p : Program) (e : Env) (s : State) (m : MethodId) (below : List Frame) (meth : Method) (c : Code) (A : Nat → Prop) (ls : Array Slot), Bd p l E s m meth c y bytes maxL ret (.code y bytes maxL ret) av → (∀ q, s.heap.size ≤ q → A q) → va_P E.1 classes ws s.heap → va_D A ws → va_S A s.heap s.heap [] → lv_has ls maxL (lv_args 0 av) →
      W p l e rm s m av.toArray below meth c s.heap [] 0 0 (MQ below (va_Qi post (fun u t => PostW E (W' u) A t) A) av.toArray s rm.cells rm.slots A) (F0 m 0 ls [])) : Mi l E y (.code y bytes maxL ret) rm av ws post W' := by
  intro sz
  refine Met.ofW (cc := bytes) (maxL := maxL) (ret := ret) hy rfl ?_
  intro p e s m args below meth c s₁ B hml hv
  have hB := bd_of B hml hv
  obtain ⟨rfl, hsz, hP, hK, hD0⟩ := hv
  subst hsz
  rw [lg_entry_eq]
  exact body p e s m below meth c _ _ hB (fun q h => Or.inr h) hP hD0.self va_S.rf (lv_entry av hlen)
theorem Ml.ofW {S : Type} {l : Launch} {E : EE} {y : MethodName} {bytes : ByteArray} {maxL : Nat} {ret : Option FieldType} {rm : Room} {av : List Value} {ws : va_W} {post : Int64 → S → Prop} {W' : S → va_W} (hy : plainName y.cls = true) (hlen : (lg_sl av).length ≤ maxL)
    (body : ∀ (p : Program) (e : Env) (s : State) (m : MethodId) (below : List Frame) (meth : Method) (c : Code) (A : Nat → Prop) (ls : Array Slot), Bd p l E s m meth c y bytes maxL ret (.code y bytes maxL ret) av → (∀ q, s.heap.size ≤ q → A q) → va_P E.1 classes ws s.heap → va_D A ws → va_S A s.heap s.heap [] → lv_has ls maxL (lv_args 0 av) →
      W p l e rm s m av.toArray below meth c s.heap [] 0 0 (MQ below (va_Ql post (fun u t => PostW E (W' u) A t) A) av.toArray s rm.cells rm.slots A) (F0 m 0 ls [])) : Ml l E y (.code y bytes maxL ret) rm av ws post W' := by
  intro sz
  refine Met.ofW (cc := bytes) (maxL := maxL) (ret := ret) hy rfl ?_
  intro p e s m args below meth c s₁ B hml hv
  have hB := bd_of B hml hv
  obtain ⟨rfl, hsz, hP, hK, hD0⟩ := hv
  subst hsz
  rw [lg_entry_eq]
  exact body p e s m below meth c _ _ hB (fun q h => Or.inr h) hP hD0.self va_S.rf (lv_entry av hlen)
theorem Mv.ofW {S : Type} {l : Launch} {E : EE} {y : MethodName} {bytes : ByteArray} {maxL : Nat} {ret : Option FieldType} {rm : Room} {av : List Value} {ws : va_W} {post : S → Prop} {W' : S → va_W} (hy : plainName y.cls = true) (hlen : (lg_sl av).length ≤ maxL)
    (body : ∀ (p : Program) (e : Env) (s : State) (m : MethodId) (below : List Frame) (meth : Method) (c : Code) (A : Nat → Prop) (ls : Array Slot), Bd p l E s m meth c y bytes maxL ret (.code y bytes maxL ret) av → (∀ q, s.heap.size ≤ q → A q) → va_P E.1 classes ws s.heap → va_D A ws → va_S A s.heap s.heap [] → lv_has ls maxL (lv_args 0 av) →
      W p l e rm s m av.toArray below meth c s.heap [] 0 0 (MQ below (va_Qv post (fun u t => PostW E (W' u) A t) A) av.toArray s rm.cells rm.slots A) (F0 m 0 ls [])) : Mv l E y (.code y bytes maxL ret) rm av ws post W' := by
  intro sz
  refine Met.ofW (cc := bytes) (maxL := maxL) (ret := ret) hy rfl ?_
  intro p e s m args below meth c s₁ B hml hv
  have hB := bd_of B hml hv
  obtain ⟨rfl, hsz, hP, hK, hD0⟩ := hv
  subst hsz
  rw [lg_entry_eq]
  exact body p e s m below meth c _ _ hB (fun q h => Or.inr h) hP hD0.self va_S.rf (lv_entry av hlen)
section Rt
variable {p : Program} {l : Launch} {e : Env} {R : Room} {s : State} {m : MethodId} {args : Array Value} {below : List Frame} {meth : Method} {c : Code} {H : Heap} {locs : List Loc} {cells slots mc ms : Nat} {cc : ByteArray} {pc : Nat} {ls : Array Slot} {E : EE} {A : Nat → Prop} {ws : va_W} {S : Type} {W' : S → va_W}
theorem va_mapsub {ws ws' : va_W} {is : List Nat} (hs : is.map (fun i => ws[i]?) = ws'.map some) : is.filterMap (fun i => ws[i]?) = ws' := by
  have h1 : is.filterMap (fun i => ws[i]?) = (is.map (fun i => ws[i]?)).filterMap id := by
    rw [List.filterMap_map]; rfl
  rw [h1, hs, List.filterMap_map]
  show List.filterMap (fun x => some x) ws' = ws'
  exact List.filterMap_some
theorem Ri {post : Int32 → S → Prop} {v : Int32} (hexec : p.tables.exec = Jvm.exec) (hb : c.code = cc) (hr : meth.sig.returnType = some .int) (hlocks : meth.locks = false) (hP : va_P E.1 classes ws H) (hD : va_D A ws) (hS : va_S A s.heap H locs) (u : S) (is : List Nat) (hn : va_nd is = true) (hs : is.map (fun i => ws[i]?) = (W' u).map some) (hp : post v u) (hc : cells ≤ mc) (hsl : slots ≤ ms) (hdg : decode cc pc = .ok (.ireturn, 1)) :
    W p l e R s m args below meth c H locs cells slots (MQ below (va_Qi post (fun u t => PostW E (W' u) A t) A) args s mc ms A) (F0 m pc ls [.int v]) := by
  refine W.widen (k := mc) (n := ms) hc hsl ?_
  exact W.iret hexec hb hr (fun t ht hW => ⟨⟨v, u, rfl, hp, PostW.mk' ht (hP.sub is (va_mapsub hs)) (hD.sub is hn hs)⟩, hS.F ht⟩) hS.2.2 hdg hlocks
theorem Rz {post : Int32 → S → Prop} {v : Int32} (hexec : p.tables.exec = Jvm.exec) (hb : c.code = cc) (hr : meth.sig.returnType = some .boolean) (hlocks : meth.locks = false) (hv : v = 0 ∨ v = 1) (hP : va_P E.1 classes ws H) (hD : va_D A ws) (hS : va_S A s.heap H locs) (u : S) (is : List Nat) (hn : va_nd is = true) (hs : is.map (fun i => ws[i]?) = (W' u).map some) (hp : post v u) (hc : cells ≤ mc) (hsl : slots ≤ ms) (hdg : decode cc pc = .ok (.ireturn, 1)) :
    W p l e R s m args below meth c H locs cells slots (MQ below (va_Qi post (fun u t => PostW E (W' u) A t) A) args s mc ms A) (F0 m pc ls [.int v]) := by
  refine W.widen (k := mc) (n := ms) hc hsl ?_
  exact W.zret hexec hb hr (by rcases hv with rfl | rfl <;> decide) (fun t ht hW => ⟨⟨v, u, rfl, hp, PostW.mk' ht (hP.sub is (va_mapsub hs)) (hD.sub is hn hs)⟩, hS.F ht⟩) hS.2.2 hdg hlocks
theorem Rl {post : Int64 → S → Prop} {v : Int64} (hexec : p.tables.exec = Jvm.exec) (hb : c.code = cc) (hr : meth.sig.returnType = some .long) (hlocks : meth.locks = false) (hP : va_P E.1 classes ws H) (hD : va_D A ws) (hS : va_S A s.heap H locs) (u : S) (is : List Nat) (hn : va_nd is = true) (hs : is.map (fun i => ws[i]?) = (W' u).map some) (hp : post v u) (hc : cells ≤ mc) (hsl : slots ≤ ms) (hdg : decode cc pc = .ok (.lreturn, 1)) :
    W p l e R s m args below meth c H locs cells slots (MQ below (va_Ql post (fun u t => PostW E (W' u) A t) A) args s mc ms A) (F0 m pc ls [.long v]) := by
  refine W.widen (k := mc) (n := ms) hc hsl ?_
  exact W.lret hexec hb hr (fun t ht hW => ⟨⟨v, u, rfl, hp, PostW.mk' ht (hP.sub is (va_mapsub hs)) (hD.sub is hn hs)⟩, hS.F ht⟩) hS.2.2 hdg hlocks
theorem Rv {post : S → Prop} (hexec : p.tables.exec = Jvm.exec) (hb : c.code = cc) (hr : meth.sig.returnType = none) (hlocks : meth.locks = false) (hP : va_P E.1 classes ws H) (hD : va_D A ws) (hS : va_S A s.heap H locs) (u : S) (is : List Nat) (hn : va_nd is = true) (hs : is.map (fun i => ws[i]?) = (W' u).map some) (hp : post u) (hc : cells ≤ mc) (hsl : slots ≤ ms) (hdg : decode cc pc = .ok (.return_, 1)) :
    W p l e R s m args below meth c H locs cells slots (MQ below (va_Qv post (fun u t => PostW E (W' u) A t) A) args s mc ms A) (F0 m pc ls []) := by
  refine W.widen (k := mc) (n := ms) hc hsl ?_
  exact W.vret hexec hb hr (fun t ht hW => ⟨⟨u, rfl, hp, PostW.mk' ht (hP.sub is (va_mapsub hs)) (hD.sub is hn hs)⟩, hS.F ht⟩) hS.2.2 hdg hlocks
/-- a loop: an invariant, a measure that falls -/
theorem W.loop {Q : State → Prop} {σ : Type} (I : σ → Heap → List Loc → Array Slot → Prop) (μ : σ → Nat) (a0 : σ) (h0 : I a0 H locs ls)
    (step : ∀ (a : σ) (H : Heap) (locs : List Loc) (ls : Array Slot), I a H locs ls → (∀ (b : σ) (H' : Heap) (locs' : List Loc) (ls' : Array Slot), I b H' locs' ls' → μ b < μ a → W p l e R s m args below meth c H' locs' cells slots Q (F0 m pc ls' [])) → W p l e R s m args below meth c H locs cells slots Q (F0 m pc ls [])) :
    W p l e R s m args below meth c H locs cells slots Q (F0 m pc ls []) := by
  have key : ∀ (n : Nat) (a : σ) (H : Heap) (locs : List Loc) (ls : Array Slot), μ a < n → I a H locs ls → W p l e R s m args below meth c H locs cells slots Q (F0 m pc ls []) := by
    intro n
    induction n with
    | zero => intro a H locs ls h; exact absurd h (Nat.not_lt_zero _)
    | succ n ih => intro a H locs ls h hI; exact step a H locs ls hI (fun b H' locs' ls' hb' hlt => ih b H' locs' ls' (by omega) hb')
  exact key (μ a0 + 1) a0 H locs ls (Nat.lt_succ_self _) h0
end Rt
section Cl
variable {p : Program} {l : Launch} {e : Env} {R : Room} {s : State} {m : MethodId} {args : Array Value} {below : List Frame} {meth : Method} {c : Code} {H H0 : Heap} {locs : List Loc} {cells slots mc ms : Nat} {cc : ByteArray} {pc : Nat} {ls : Array Slot} {E : EE} {A : Nat → Prop} {ws wc wr : va_W} {S : Type} {W' : S → va_W} {Q : State → Prop} {rest st0 : List Value} {a : Array Value}
theorem af_i {post : Int32 → S → Prop} (hr : va_Run p l e R s m args below meth c H locs cells slots mc ms (F0 m pc ls st0) rest (va_Qi post (fun u t => PostW E (W' u) (va_A wc H.size) t) (va_A wc H.size) a) (va_A wc H.size)) (hP : va_P E.1 classes ws H) (hD : va_D A ws) (hS : va_S A H0 H locs) (hA : ∀ q, H0.size ≤ q → A q) (isC isR : List Nat) (hC : isC.map (fun i => ws[i]?) = wc.map some) (hR : isR.map (fun i => ws[i]?) = wr.map some) (hn : va_nd isR = true) (hdis : ∀ i ∈ isR, i ∉ isC)
    (kk : ∀ (r : Int32) (u : S) (H1 : Heap) (locs1 : List Loc), post r u → va_P E.1 classes (wr ++ W' u) H1 → va_D A (wr ++ W' u) → va_S A H0 H1 locs1 → W p l e R s m args below meth c H1 locs1 (cells + mc) (slots + ms) Q (F0 m (pc + 3) ls (.int r :: rest))) : W p l e R s m args below meth c H locs cells slots Q (F0 m pc ls st0) := by
  have hFc := va_free hD hS hA isC hC
  refine va_calli hr hS (fun q _ h => hFc q h) hFc (fun r u t H1 locs1 ht hvm hp hB hz hk hS1 => ?_)
  obtain ⟨hP1, hD1⟩ := hB
  rw [ht] at hP1
  obtain ⟨h1, h2⟩ := va_join hP hD isC isR hC hR hn hdis hk hFc hP1 hD1
  exact kk r u H1 locs1 hp h1 h2 hS1
theorem af_l {post : Int64 → S → Prop} (hr : va_Run p l e R s m args below meth c H locs cells slots mc ms (F0 m pc ls st0) rest (va_Ql post (fun u t => PostW E (W' u) (va_A wc H.size) t) (va_A wc H.size) a) (va_A wc H.size)) (hP : va_P E.1 classes ws H) (hD : va_D A ws) (hS : va_S A H0 H locs) (hA : ∀ q, H0.size ≤ q → A q) (isC isR : List Nat) (hC : isC.map (fun i => ws[i]?) = wc.map some) (hR : isR.map (fun i => ws[i]?) = wr.map some) (hn : va_nd isR = true) (hdis : ∀ i ∈ isR, i ∉ isC)
    (kk : ∀ (r : Int64) (u : S) (H1 : Heap) (locs1 : List Loc), post r u → va_P E.1 classes (wr ++ W' u) H1 → va_D A (wr ++ W' u) → va_S A H0 H1 locs1 → W p l e R s m args below meth c H1 locs1 (cells + mc) (slots + ms) Q (F0 m (pc + 3) ls (.long r :: rest))) : W p l e R s m args below meth c H locs cells slots Q (F0 m pc ls st0) := by
  have hFc := va_free hD hS hA isC hC
  refine va_calll hr hS (fun q _ h => hFc q h) hFc (fun r u t H1 locs1 ht hvm hp hB hz hk hS1 => ?_)
  obtain ⟨hP1, hD1⟩ := hB
  rw [ht] at hP1
  obtain ⟨h1, h2⟩ := va_join hP hD isC isR hC hR hn hdis hk hFc hP1 hD1
  exact kk r u H1 locs1 hp h1 h2 hS1
theorem af_v {post : S → Prop} (hr : va_Run p l e R s m args below meth c H locs cells slots mc ms (F0 m pc ls st0) rest (va_Qv post (fun u t => PostW E (W' u) (va_A wc H.size) t) (va_A wc H.size) a) (va_A wc H.size)) (hP : va_P E.1 classes ws H) (hD : va_D A ws) (hS : va_S A H0 H locs) (hA : ∀ q, H0.size ≤ q → A q) (isC isR : List Nat) (hC : isC.map (fun i => ws[i]?) = wc.map some) (hR : isR.map (fun i => ws[i]?) = wr.map some) (hn : va_nd isR = true) (hdis : ∀ i ∈ isR, i ∉ isC)
    (kk : ∀ (u : S) (H1 : Heap) (locs1 : List Loc), post u → va_P E.1 classes (wr ++ W' u) H1 → va_D A (wr ++ W' u) → va_S A H0 H1 locs1 → W p l e R s m args below meth c H1 locs1 (cells + mc) (slots + ms) Q (F0 m (pc + 3) ls rest)) : W p l e R s m args below meth c H locs cells slots Q (F0 m pc ls st0) := by
  have hFc := va_free hD hS hA isC hC
  refine va_callv hr hS (fun q _ h => hFc q h) hFc (fun u t H1 locs1 ht hvm hp hB hz hk hS1 => ?_)
  obtain ⟨hP1, hD1⟩ := hB
  rw [ht] at hP1
  obtain ⟨h1, h2⟩ := va_join hP hD isC isR hC hR hn hdis hk hFc hP1 hD1
  exact kk u H1 locs1 hp h1 h2 hS1
variable {y : MethodName} {bytes : ByteArray} {maxL nL n index : Nat} {ret : Option FieldType} {rm : Room} {Qc : Array Value → State → Outcome → State → Prop} {free : Addr → Prop} {Ts : List Cond} {own : String} {b ci : Nat} {As : List Value}
/-- the words of a call of an instance method -/
abbrev wqV (own : String) (index : Nat) (y : MethodName) (bytes : ByteArray) (maxL : Nat) (ret : Option FieldType) : List Cond := [.methodLink own index y, .instanceMethod y, .selects y.cls y y, .initialized y.cls, .code y bytes maxL ret]
abbrev wqS (own : String) (index : Nat) (y : MethodName) (bytes : ByteArray) (maxL : Nat) (ret : Option FieldType) : List Cond := [.methodLink own index y, .static y, .initialized y.cls, .code y bytes maxL ret]
abbrev wqI (own : String) (index : Nat) (y : MethodName) (bytes : ByteArray) (maxL : Nat) : List Cond := [.methodLink own index y, .instanceMethod y, .initialized y.cls, .code y bytes maxL none]
abbrev wqN (y : MethodName) (bytes : ByteArray) (maxL : Nat) (ret : Option FieldType) : List Cond := [.static y, .initialized y.cls, .code y bytes maxL ret]
abbrev hdW (y : MethodName) (n : Nat) : Prop := y.cls ≠ "java/lang/invoke/MethodHandle" ∧ y.cls ≠ "java/lang/invoke/VarHandle" ∧ (parseMethodDescriptor y.desc).map (fun d => d.parameters.length) = some n
theorem rn_V (Sx : CallFix p m c cc nL s args Ts own) (hsub : ∀ w ∈ ta_ws, w ∈ Ts) (hw : ∀ w ∈ wqV own index y bytes maxL ret, w ∈ ta_ws) (hd : hdW y n) (hK : KK E s)
    (hM : Met l y (.code y bytes maxL ret :: ta_ws) rm (va_Pc (.ref b :: As) (PreW E wc H.size)) Qc rm.cells rm.slots free) (hR : rm.frames + 1 ≤ R.frames ∧ 8 + (maxL + 11) + rm.locals ≤ R.locals)
    (hP : va_P E.1 classes ws H) (hD : va_D A ws) (isC : List Nat) (hC : isC.map (fun i => ws[i]?) = wc.map some) (hnC : va_nd isC = true) {T : u_T} {N : Nat} {fs : List Value} (hcl : classes[ci]? = some (y.cls, T, N)) (he : wc[0]? = some (b, .inr (ci, fs)))
    (hn : As.length = n) (hsize : ls.size = nL) (hst : st0 = As.reverse ++ .ref b :: rest) (hW : (rest.map fun v => v.category).sum ≤ 8) (hdg : decode cc pc = .ok (.invokevirtual index, 3)) (hf : cells + rm.cells ≤ R.cells ∧ slots + rm.slots ≤ R.slots) :
    va_Run p l e R s m args below meth c H locs cells slots rm.cells rm.slots (F0 m pc ls st0) rest (Qc (Value.ref b :: As).toArray) free := by
  have hPc := hP.sub isC (va_mapsub hC)
  have hDc := hD.sub isC hnC hC
  have ok : ∀ w ∈ wqV own index y bytes maxL ret, w.before args s = true := fun w h => Sx.2.2.2.2 w (hsub w (hw w h))
  refine va_runV Sx hM (C := y.cls) (bytes := bytes) (maxL := maxL) (ret := ret) (cwV n Sx.2.2.2.2 (ta_gi hsub ?_) rfl rfl rfl ⟨rfl, hd⟩ hR) ⟨PreW.blind, va_recv hK.1 hPc hcl he, fun U hU hWm => ⟨rfl, by rw [hU], by rw [hU]; exact hPc, hK.warm hWm, hDc.weaken (fun _ _ _ _ => trivial)⟩⟩ rfl hn hsize hst (lv_room hW) hdg hf
  intro w h
  rcases List.mem_append.mp h with h1 | h1
  · exact hw w (by simp only [List.mem_cons, List.not_mem_nil, or_false] at h1 ⊢; rcases h1 with h1 | h1 | h1 | h1 <;> simp [h1])
  · exact ta_c (hw _ (by simp)) w h1
theorem rn_S (Sx : CallFix p m c cc nL s args Ts own) (hsub : ∀ w ∈ ta_ws, w ∈ Ts) (hw : ∀ w ∈ wqS own index y bytes maxL ret, w ∈ ta_ws) (hd : hdW y n) (hK : KK E s)
    (hM : Met l y (.code y bytes maxL ret :: ta_ws) rm (va_Pc As (PreW E wc H.size)) Qc rm.cells rm.slots free) (hR : rm.frames + 1 ≤ R.frames ∧ 8 + (maxL + 11) + rm.locals ≤ R.locals)
    (hP : va_P E.1 classes ws H) (hD : va_D A ws) (isC : List Nat) (hC : isC.map (fun i => ws[i]?) = wc.map some) (hnC : va_nd isC = true)
    (hn : As.length = n) (hsize : ls.size = nL) (hst : st0 = As.reverse ++ rest) (hW : (rest.map fun v => v.category).sum ≤ 8) (hdg : decode cc pc = .ok (.invokestatic index, 3)) (hf : cells + rm.cells ≤ R.cells ∧ slots + rm.slots ≤ R.slots) :
    va_Run p l e R s m args below meth c H locs cells slots rm.cells rm.slots (F0 m pc ls st0) rest (Qc As.toArray) free := by
  have hPc := hP.sub isC (va_mapsub hC)
  have hDc := hD.sub isC hnC hC
  refine va_runS Sx hM (bytes := bytes) (maxL := maxL) (ret := ret) (va_cwS n Sx.2.2.2.2 (ta_gi hsub ?_) rfl rfl rfl hd hR) ⟨PreW.blind, fun U hU hWm => ⟨rfl, by rw [hU], by rw [hU]; exact hPc, hK.warm hWm, hDc.weaken (fun _ _ _ _ => trivial)⟩⟩ rfl hn hsize hst (lv_room hW) hdg hf
  intro w h
  rcases List.mem_append.mp h with h1 | h1
  · exact hw w (by simp only [List.mem_cons, List.not_mem_nil, or_false] at h1 ⊢; rcases h1 with h1 | h1 | h1 <;> simp [h1])
  · exact ta_c (hw _ (by simp)) w h1
theorem rn_I (Sx : CallFix p m c cc nL s args Ts own) (hsub : ∀ w ∈ ta_ws, w ∈ Ts) (hw : ∀ w ∈ wqI own index y bytes maxL, w ∈ ta_ws) (hd : hdW y n) (hy1 : y.name = "<init>") (hK : KK E s)
    (hM : Met l y (.code y bytes maxL none :: ta_ws) rm (va_Pc (.ref b :: As) (PreW E wc H.size)) Qc rm.cells rm.slots free) (hR : rm.frames + 1 ≤ R.frames ∧ 8 + (maxL + 11) + rm.locals ≤ R.locals)
    (hP : va_P E.1 classes ws H) (hD : va_D A ws) (isC : List Nat) (hC : isC.map (fun i => ws[i]?) = wc.map some) (hnC : va_nd isC = true)
    (hn : As.length = n) (hsize : ls.size = nL) (hst : st0 = As.reverse ++ .ref b :: rest) (hW : (rest.map fun v => v.category).sum ≤ 8) (hdg : decode cc pc = .ok (.invokespecial index, 3)) (hf : cells + rm.cells ≤ R.cells ∧ slots + rm.slots ≤ R.slots) :
    va_Run p l e R s m args below meth c H locs cells slots rm.cells rm.slots (F0 m pc ls st0) rest (Qc (Value.ref b :: As).toArray) free := by
  have hPc := hP.sub isC (va_mapsub hC)
  have hDc := hD.sub isC hnC hC
  have ok : ∀ w ∈ wqI own index y bytes maxL, w.before args s = true := fun w h => Sx.2.2.2.2 w (hsub w (hw w h))
  exact va_runI Sx hM (bytes := bytes) (maxL := maxL) (cwI n Sx.2.2.2.2 (ta_gi hsub (ta_c (hw _ (by simp)))) rfl rfl rfl (ok _ (by simp)) (ok _ (by simp)) (ok _ (by simp)) hy1 hd hR) ⟨PreW.blind, fun U hU hWm => ⟨rfl, by rw [hU], by rw [hU]; exact hPc, hK.warm hWm, hDc.weaken (fun _ _ _ _ => trivial)⟩⟩ rfl hn hsize hst (lv_room hW) hdg hf
theorem rn_N {host : String} (Sx : CallFix p m c cc nL s args Ts own) (hsub : ∀ w ∈ ta_ws, w ∈ Ts) (hw : ∀ w ∈ wqN y bytes maxL ret, w ∈ ta_ws) (hl : va_Nw (.methodLinkNest own index y host) s) (hd : hdW y n) (hK : KK E s)
    (hM : Met l y (.code y bytes maxL ret :: ta_ws) rm (va_Pc As (PreW E wc H.size)) Qc rm.cells rm.slots free) (hR : rm.frames + 1 ≤ R.frames ∧ 8 + (maxL + 11) + rm.locals ≤ R.locals)
    (hP : va_P E.1 classes ws H) (hD : va_D A ws) (isC : List Nat) (hC : isC.map (fun i => ws[i]?) = wc.map some) (hnC : va_nd isC = true)
    (hn : As.length = n) (hsize : ls.size = nL) (hst : st0 = As.reverse ++ rest) (hW : (rest.map fun v => v.category).sum ≤ 8) (hdg : decode cc pc = .ok (.invokestatic index, 3)) (hf : cells + rm.cells ≤ R.cells ∧ slots + rm.slots ≤ R.slots) :
    va_Run p l e R s m args below meth c H locs cells slots rm.cells rm.slots (F0 m pc ls st0) rest (Qc As.toArray) free := by
  have hPc := hP.sub isC (va_mapsub hC)
  have hDc := hD.sub isC hnC hC
  have ok : ∀ w ∈ wqN y bytes maxL ret, w.before args s = true := fun w h => Sx.2.2.2.2 w (hsub w (hw w h))
  exact va_runSN Sx hM (bytes := bytes) (maxL := maxL) (ret := ret) (host := host) ⟨va_cnB n Sx.2.2.2.2 (ta_gi hsub (ta_c (hw _ (by simp)))) rfl rfl rfl hl (ok _ (by simp)) hd hR, ok _ (by simp), trivial⟩ ⟨PreW.blind, fun U hU hWm => ⟨rfl, by rw [hU], by rw [hU]; exact hPc, hK.warm hWm, hDc.weaken (fun _ _ _ _ => trivial)⟩⟩ rfl hn hsize hst (lv_room hW) hdg hf
/-- a new array: its class is the one that is known -/
theorem na_i {atype : ArrayType} (hexec : p.tables.exec = Jvm.exec) (hb : c.code = cc) (harr : (Cond.arrayClass (newarray.typeOf atype)).before args s = true) (t0 : Nat) {cA : ClassId} {ty : FieldType} (hty : newarray.typeOf atype = ty) (ht : (tys_ E)[t0]? = some (cA, ty)) (hprim : ∀ (U : State) (x : ClassId), va_RA U x ty → U.vm.findClass ("[" ++ ty.toString) = some x) (hK : KK E s) (hP : va_P E.1 classes ws H) (hD : va_D A ws) (hS : va_S A H0 H locs) (hA : ∀ q, H0.size ≤ q → A q)
    {n : Int32} {N' : Nat} {a0 : vp_A} (ha : ∀ cA : ClassId, vp_cell cA a0 = arrV cA N' (fun _ => defaultValue ty)) (hn : ¬ n < 0) (hN : n.toNatClampNeg = N') (hbytes : N' * componentBytes ty ≤ 536870912) (hcells : cells + 1 ≤ R.cells) (hslots : slots + N' ≤ R.slots) (hdg : decode cc pc = .ok (.newarray atype, 2))
    (kk : ∀ (q : Nat) (H1 : Heap), va_P E.1 classes (ws ++ [(q, .inl (cA, a0))]) H1 → va_D A (ws ++ [(q, .inl (cA, a0))]) → va_S A H0 H1 locs →
      W p l e R s m args below meth c H1 locs (cells + 1) (slots + N') Q (F0 m (pc + 2) ls (.ref q :: rest))) : W p l e R s m args below meth c H locs cells slots Q (F0 m pc ls (.int n :: rest)) := by
  refine va_newa hexec hb harr hty hK.1 hP hD hS hA ha hn hN hbytes hcells hslots hdg (fun q cA1 H1 hK1 hP1 hD1 hS1 => ?_)
  have h1 := hprim s _ (hK1.2 3 (cA1, ty) rfl).2
  have h0 := hprim s _ (hK.1.2 t0 _ ht).2
  have e1 : cA1 = cA := Option.some.inj (h1.symm.trans h0)
  subst e1
  exact kk q H1 hP1 hD1 hS1
end Cl
section Ar
variable {p : Program} {l : Launch} {e : Env} {R : Room} {s : State} {m : MethodId} {args : Array Value} {below : List Frame} {meth : Method} {c : Code} {H H0 : Heap} {locs : List Loc} {cells slots : Nat} {cc : ByteArray} {pc : Nat} {ls : Array Slot} {E : EE} {A : Nat → Prop} {ws : va_W} {Q : State → Prop} {rest : List Value} {a : Nat} {n : Nat}
theorem ia_i {f : Nat → Int32} (k : Nat) (hexec : p.tables.exec = Jvm.exec) (hb : c.code = cc) (hK : KK E s) (hP : va_P E.1 classes ws H) (q0 : Nat) (ha : ws[q0]? = some (a, .inl (E.2.1, n, .inl f))) (hk : k < n) (hn : n < 2 ^ 31) (hdg : decode cc pc = .ok (.iaload, 1))
    (kk : W p l e R s m args below meth c H locs cells slots Q (F0 m (pc + 1) ls (.int (f k) :: rest))) : W p l e R s m args below meth c H locs cells slots Q (F0 m pc ls (.int (nI k) :: .ref a :: rest)) := by
  refine va_iald hexec hb hK.1 hP q0 0 ha rfl (vp_in_nI hk hn) hdg ?_
  rw [nI_clamp (by omega)]
  exact kk
theorem ia_l {f : Nat → Int64} (k : Nat) (hexec : p.tables.exec = Jvm.exec) (hb : c.code = cc) (hK : KK E s) (hP : va_P E.1 classes ws H) (q0 : Nat) (ha : ws[q0]? = some (a, .inl (E.2.2.1, n, .inr (.inl f)))) (hk : k < n) (hn : n < 2 ^ 31) (hdg : decode cc pc = .ok (.laload, 1))
    (kk : W p l e R s m args below meth c H locs cells slots Q (F0 m (pc + 1) ls (.long (f k) :: rest))) : W p l e R s m args below meth c H locs cells slots Q (F0 m pc ls (.int (nI k) :: .ref a :: rest)) := by
  refine va_lald hexec hb hK.1 hP q0 1 ha rfl (vp_in_nI hk hn) hdg ?_
  rw [nI_clamp (by omega)]
  exact kk
theorem ia_z {f : Nat → Int32} (k : Nat) (hexec : p.tables.exec = Jvm.exec) (hb : c.code = cc) (hK : KK E s) (hP : va_P E.1 classes ws H) (q0 : Nat) (ha : ws[q0]? = some (a, .inl (E.2.2.2, n, .inl f))) (hk : k < n) (hn : n < 2 ^ 31) (hdg : decode cc pc = .ok (.baload, 1))
    (kk : W p l e R s m args below meth c H locs cells slots Q (F0 m (pc + 1) ls (.int (f k) :: rest))) : W p l e R s m args below meth c H locs cells slots Q (F0 m pc ls (.int (nI k) :: .ref a :: rest)) := by
  refine va_zald hexec hb hK.1 hP q0 2 ha rfl (vp_in_nI hk hn) hdg ?_
  rw [nI_clamp (by omega)]
  exact kk
theorem as_i {f : Nat → Int32} {x : Int32} (k : Nat) (hexec : p.tables.exec = Jvm.exec) (hb : c.code = cc) (hK : KK E s) (hP : va_P E.1 classes ws H) (hD : va_D A ws) (hS : va_S A H0 H locs) (q0 : Nat) (ha : ws[q0]? = some (a, .inl (E.2.1, n, .inl f))) (hk : k < n) (hn : n < 2 ^ 31) (hdg : decode cc pc = .ok (.iastore, 1))
    (kk : ∀ (H1 : Heap) (locs1 : List Loc), va_P E.1 classes (ws.set q0 (a, .inl (E.2.1, n, .inl (upd f k x)))) H1 → va_D A (ws.set q0 (a, .inl (E.2.1, n, .inl (upd f k x)))) → va_S A H0 H1 locs1 → W p l e R s m args below meth c H1 locs1 cells slots Q (F0 m (pc + 1) ls rest)) : W p l e R s m args below meth c H locs cells slots Q (F0 m pc ls (.int x :: .int (nI k) :: .ref a :: rest)) := by
  refine va_iast hexec hb hK.1 hP hD hS q0 0 ha rfl (vp_in_nI hk hn) hdg ?_
  rw [nI_clamp (by omega)]
  exact kk
theorem as_l {f : Nat → Int64} {x : Int64} (k : Nat) (hexec : p.tables.exec = Jvm.exec) (hb : c.code = cc) (hK : KK E s) (hP : va_P E.1 classes ws H) (hD : va_D A ws) (hS : va_S A H0 H locs) (q0 : Nat) (ha : ws[q0]? = some (a, .inl (E.2.2.1, n, .inr (.inl f)))) (hk : k < n) (hn : n < 2 ^ 31) (hdg : decode cc pc = .ok (.lastore, 1))
    (kk : ∀ (H1 : Heap) (locs1 : List Loc), va_P E.1 classes (ws.set q0 (a, .inl (E.2.2.1, n, .inr (.inl (vp_updL f k x))))) H1 → va_D A (ws.set q0 (a, .inl (E.2.2.1, n, .inr (.inl (vp_updL f k x))))) → va_S A H0 H1 locs1 → W p l e R s m args below meth c H1 locs1 cells slots Q (F0 m (pc + 1) ls rest)) : W p l e R s m args below meth c H locs cells slots Q (F0 m pc ls (.long x :: .int (nI k) :: .ref a :: rest)) := by
  refine va_last hexec hb hK.1 hP hD hS q0 1 ha rfl (vp_in_nI hk hn) hdg ?_
  rw [nI_clamp (by omega)]
  exact kk
theorem nar_z {x : Int32} (h : x = 0 ∨ x = 1) : vp_nar .boolean x = x := by rcases h with rfl | rfl <;> decide
theorem as_z {f : Nat → Int32} {x : Int32} (k : Nat) (hexec : p.tables.exec = Jvm.exec) (hb : c.code = cc) (hK : KK E s) (hP : va_P E.1 classes ws H) (hD : va_D A ws) (hS : va_S A H0 H locs) (q0 : Nat) (ha : ws[q0]? = some (a, .inl (E.2.2.2, n, .inl f))) (hk : k < n) (hn : n < 2 ^ 31) (hz : x = 0 ∨ x = 1) (hdg : decode cc pc = .ok (.bastore, 1))
    (kk : ∀ (H1 : Heap) (locs1 : List Loc), va_P E.1 classes (ws.set q0 (a, .inl (E.2.2.2, n, .inl (upd f k x)))) H1 → va_D A (ws.set q0 (a, .inl (E.2.2.2, n, .inl (upd f k x)))) → va_S A H0 H1 locs1 → W p l e R s m args below meth c H1 locs1 cells slots Q (F0 m (pc + 1) ls rest)) : W p l e R s m args below meth c H locs cells slots Q (F0 m pc ls (.int x :: .int (nI k) :: .ref a :: rest)) := by
  refine va_zast hexec hb hK.1 hP hD hS q0 2 ha rfl (vp_in_nI hk hn) hdg ?_
  rw [nI_clamp (by omega), nar_z hz]
  exact kk
theorem tp_i {x y : Int32} (h : x = y) (k : W p l e R s m args below meth c H locs cells slots Q (F0 m pc ls (.int y :: rest))) : W p l e R s m args below meth c H locs cells slots Q (F0 m pc ls (.int x :: rest)) := h ▸ k
theorem tp_l {x y : Int64} (h : x = y) (k : W p l e R s m args below meth c H locs cells slots Q (F0 m pc ls (.long y :: rest))) : W p l e R s m args below meth c H locs cells slots Q (F0 m pc ls (.long x :: rest)) := h ▸ k
end Ar
end
section
/-! the tables' words, a row each -/
theorem mw_0 : (Cond.selects "StageShares$Batches" yX0_place yX0_place) ∈ ta_ws := ta_i 0 (by decide +kernel) (by decide +kernel)
theorem mw_1 : (Cond.selects "StageShares$Course" yX1_start yX1_start) ∈ ta_ws := ta_i 1 (by decide +kernel) (by decide +kernel)
theorem mw_2 : (Cond.selects "StageShares$Course" yX1_doBatch yX1_doBatch) ∈ ta_ws := ta_i 2 (by decide +kernel) (by decide +kernel)
theorem mw_3 : (Cond.selects "StageShares$Course" yX1_choosePlace yX1_choosePlace) ∈ ta_ws := ta_i 3 (by decide +kernel) (by decide +kernel)
theorem mw_4 : (Cond.selects "StageShares$Course" yX1_act yX1_act) ∈ ta_ws := ta_i 4 (by decide +kernel) (by decide +kernel)
theorem mw_5 : (Cond.selects "StageShares$Course" yX1_begin yX1_begin) ∈ ta_ws := ta_i 5 (by decide +kernel) (by decide +kernel)
theorem mw_6 : (Cond.selects "StageShares$Course" yX1_breakDown yX1_breakDown) ∈ ta_ws := ta_i 6 (by decide +kernel) (by decide +kernel)
theorem mw_7 : (Cond.selects "StageShares$Course" yX1_goOn yX1_goOn) ∈ ta_ws := ta_i 7 (by decide +kernel) (by decide +kernel)
theorem mw_8 : (Cond.selects "StageShares$Course" yX1_finish yX1_finish) ∈ ta_ws := ta_i 8 (by decide +kernel) (by decide +kernel)
theorem mw_9 : (Cond.selects "StageShares" yX6_keepOutcomes yX6_keepOutcomes) ∈ ta_ws := ta_i 9 (by decide +kernel) (by decide +kernel)
theorem mw_10 : (Cond.selects "StageSharesModel" yX7_empty yX7_empty) ∈ ta_ws := ta_i 10 (by decide +kernel) (by decide +kernel)
theorem mw_11 : (Cond.selects "StageSharesModel" yX7_isShare yX7_isShare) ∈ ta_ws := ta_i 11 (by decide +kernel) (by decide +kernel)
theorem mw_12 : (Cond.selects "StageSharesModel" yX7_arrange yX7_arrange) ∈ ta_ws := ta_i 12 (by decide +kernel) (by decide +kernel)
theorem mw_13 : (Cond.selects "StageSharesModel" yX7_failureOf yX7_failureOf) ∈ ta_ws := ta_i 13 (by decide +kernel) (by decide +kernel)
theorem mw_14 : (Cond.selects "StageSharesModel" yX7_go yX7_go) ∈ ta_ws := ta_i 14 (by decide +kernel) (by decide +kernel)
theorem mw_15 : (Cond.selects "StageSharesModel" yX7_isDone yX7_isDone) ∈ ta_ws := ta_i 15 (by decide +kernel) (by decide +kernel)
theorem mw_16 : (Cond.selects "StageSharesModel" yX7_liveCount yX7_liveCount) ∈ ta_ws := ta_i 16 (by decide +kernel) (by decide +kernel)
theorem mw_17 : (Cond.selects "StageSharesModel" yX7_liveAt yX7_liveAt) ∈ ta_ws := ta_i 17 (by decide +kernel) (by decide +kernel)
theorem mw_18 : (Cond.selects "StageSharesModel" yX7_take yX7_take) ∈ ta_ws := ta_i 18 (by decide +kernel) (by decide +kernel)
theorem mw_19 : (Cond.selects "StageSharesModel" yX7_step yX7_step) ∈ ta_ws := ta_i 19 (by decide +kernel) (by decide +kernel)
theorem mw_20 : (Cond.selects "StageSharesModel" yX7_forget yX7_forget) ∈ ta_ws := ta_i 20 (by decide +kernel) (by decide +kernel)
theorem mw_21 : (Cond.selects "StageSharesModel" yX7_resultOf yX7_resultOf) ∈ ta_ws := ta_i 21 (by decide +kernel) (by decide +kernel)
theorem mw_22 : (Cond.selects "StageSharesModel" yX7_join yX7_join) ∈ ta_ws := ta_i 22 (by decide +kernel) (by decide +kernel)
theorem mw_23 : (Cond.initialized "StageSharesLaw") ∈ ta_ws := ta_i 23 (by decide +kernel) (by decide +kernel)
theorem mw_24 : (Cond.initialized "StageShares") ∈ ta_ws := ta_i 24 (by decide +kernel) (by decide +kernel)
theorem mw_25 : (Cond.initialized "java/lang/Math") ∈ ta_ws := ta_i 25 (by decide +kernel) (by decide +kernel)
theorem mw_26 : (Cond.initialized "StageShares$Work") ∈ ta_ws := ta_i 26 (by decide +kernel) (by decide +kernel)
theorem mw_27 : (Cond.initialized "StageShares$Batches") ∈ ta_ws := ta_i 27 (by decide +kernel) (by decide +kernel)
theorem mw_28 : (Cond.initialized "StageShares$Failures") ∈ ta_ws := ta_i 28 (by decide +kernel) (by decide +kernel)
theorem mw_29 : (Cond.initialized "StageShares$Course") ∈ ta_ws := ta_i 29 (by decide +kernel) (by decide +kernel)
theorem mw_30 : (Cond.initialized "StageShares$WaitingRow") ∈ ta_ws := ta_i 30 (by decide +kernel) (by decide +kernel)
theorem mw_31 : (Cond.initialized "StageShares$Crew") ∈ ta_ws := ta_i 31 (by decide +kernel) (by decide +kernel)
theorem mw_32 : (Cond.initialized "StageSharesModel") ∈ ta_ws := ta_i 32 (by decide +kernel) (by decide +kernel)
theorem mw_33 : (Cond.initialized "java/lang/Long") ∈ ta_ws := ta_i 33 (by decide +kernel) (by decide +kernel)
theorem mw_34 : (Cond.classLink "StageSharesLaw" 7 "StageShares") ∈ ta_ws := ta_i 34 (by decide +kernel) (by decide +kernel)
theorem mw_35 : (Cond.instantiable "StageShares" 5) ∈ ta_ws := ta_i 35 (by decide +kernel) (by decide +kernel)
theorem mw_36 : (Cond.methodLink "StageSharesLaw" 15 yX6_init) ∈ ta_ws := ta_i 36 (by decide +kernel) (by decide +kernel)
theorem mw_37 : (Cond.instanceMethod yX6_init) ∈ ta_ws := ta_i 37 (by decide +kernel) (by decide +kernel)
theorem mw_38 : (Cond.code yX6_init prog_1_method_1_code 3 (Option.none : Option FieldType)) ∈ ta_ws := ta_i 38 (by decide +kernel) (by decide +kernel)
theorem mw_39 : (Cond.methodLink "StageShares" 1 (⟨"java/lang/Object", "<init>", "()V"⟩ : MethodName)) ∈ ta_ws := ta_i 39 (by decide +kernel) (by decide +kernel)
theorem mw_40 : (Cond.instanceMethod (⟨"java/lang/Object", "<init>", "()V"⟩ : MethodName)) ∈ ta_ws := ta_i 40 (by decide +kernel) (by decide +kernel)
theorem mw_41 : (Cond.code (⟨"java/lang/Object", "<init>", "()V"⟩ : MethodName) object_method_1_code 1 (Option.none : Option FieldType)) ∈ ta_ws := ta_i 41 (by decide +kernel) (by decide +kernel)
theorem mw_42 : (Cond.methodLink "StageShares" 9 yJ9_min_7cf53) ∈ ta_ws := ta_i 42 (by decide +kernel) (by decide +kernel)
theorem mw_43 : (Cond.static yJ9_min_7cf53) ∈ ta_ws := ta_i 43 (by decide +kernel) (by decide +kernel)
theorem mw_44 : (Cond.code yJ9_min_7cf53 prog_11_method_69_code 2 (Option.some FieldType.int)) ∈ ta_ws := ta_i 44 (by decide +kernel) (by decide +kernel)
theorem mw_45 : (Cond.methodLink "StageShares" 15 yJ9_max_7cf53) ∈ ta_ws := ta_i 45 (by decide +kernel) (by decide +kernel)
theorem mw_46 : (Cond.static yJ9_max_7cf53) ∈ ta_ws := ta_i 46 (by decide +kernel) (by decide +kernel)
theorem mw_47 : (Cond.code yJ9_max_7cf53 prog_11_method_65_code 2 (Option.some FieldType.int)) ∈ ta_ws := ta_i 47 (by decide +kernel) (by decide +kernel)
theorem mw_48 : (Cond.classLink "StageShares" 18 "StageShares$Work") ∈ ta_ws := ta_i 48 (by decide +kernel) (by decide +kernel)
theorem mw_49 : (Cond.instantiable "StageShares$Work" 5) ∈ ta_ws := ta_i 49 (by decide +kernel) (by decide +kernel)
theorem mw_50 : (Cond.methodLink "StageShares" 20 yX5_init) ∈ ta_ws := ta_i 50 (by decide +kernel) (by decide +kernel)
theorem mw_51 : (Cond.instanceMethod yX5_init) ∈ ta_ws := ta_i 51 (by decide +kernel) (by decide +kernel)
theorem mw_52 : (Cond.code yX5_init prog_7_method_1_code 2 (Option.none : Option FieldType)) ∈ ta_ws := ta_i 52 (by decide +kernel) (by decide +kernel)
theorem mw_53 : (Cond.methodLink "StageShares$Work" 1 (⟨"java/lang/Object", "<init>", "()V"⟩ : MethodName)) ∈ ta_ws := ta_i 53 (by decide +kernel) (by decide +kernel)
theorem mw_54 : (Cond.methodLink "StageShares$Work" 28 yX5_reset) ∈ ta_ws := ta_i 54 (by decide +kernel) (by decide +kernel)
theorem mw_55 : (Cond.instanceMethod yX5_reset) ∈ ta_ws := ta_i 55 (by decide +kernel) (by decide +kernel)
theorem mw_56 : (Cond.selects "StageShares$Work" yX5_reset yX5_reset) ∈ ta_ws := ta_i 56 (by decide +kernel) (by decide +kernel)
theorem mw_57 : (Cond.code yX5_reset prog_7_method_2_code 2 (Option.none : Option FieldType)) ∈ ta_ws := ta_i 57 (by decide +kernel) (by decide +kernel)
theorem mw_58 : (Cond.fieldLink "StageShares$Work" 7 "StageShares$Work" "count" "I") ∈ ta_ws := ta_i 58 (by decide +kernel) (by decide +kernel)
theorem mw_59 : (Cond.fieldLink "StageShares$Course" 23 "StageShares$Work" "count" "I") ∈ ta_ws := ta_i 59 (by decide +kernel) (by decide +kernel)
theorem mw_60 : (Cond.fieldLink "StageShares$Batches" 22 "StageShares$Work" "count" "I") ∈ ta_ws := ta_i 60 (by decide +kernel) (by decide +kernel)
theorem mw_61 : (Cond.fieldLink "StageShares" 108 "StageShares$Work" "count" "I") ∈ ta_ws := ta_i 61 (by decide +kernel) (by decide +kernel)
theorem mw_62 : (Cond.fieldLink "StageShares$Work" 13 "StageShares$Work" "values" "[J") ∈ ta_ws := ta_i 62 (by decide +kernel) (by decide +kernel)
theorem mw_63 : (Cond.fieldLink "StageShares" 58 "StageShares$Work" "values" "[J") ∈ ta_ws := ta_i 63 (by decide +kernel) (by decide +kernel)
theorem mw_64 : (Cond.fieldLink "StageShares$Course" 156 "StageShares$Work" "values" "[J") ∈ ta_ws := ta_i 64 (by decide +kernel) (by decide +kernel)
theorem mw_65 : (Cond.fieldLink "StageShares$Work" 17 "StageShares$Work" "stepCounts" "[I") ∈ ta_ws := ta_i 65 (by decide +kernel) (by decide +kernel)
theorem mw_66 : (Cond.fieldLink "StageShares" 61 "StageShares$Work" "stepCounts" "[I") ∈ ta_ws := ta_i 66 (by decide +kernel) (by decide +kernel)
theorem mw_67 : (Cond.fieldLink "StageShares$Course" 132 "StageShares$Work" "stepCounts" "[I") ∈ ta_ws := ta_i 67 (by decide +kernel) (by decide +kernel)
theorem mw_68 : (Cond.fieldLink "StageShares$Work" 21 "StageShares$Work" "regions" "[I") ∈ ta_ws := ta_i 68 (by decide +kernel) (by decide +kernel)
theorem mw_69 : (Cond.fieldLink "StageShares$Batches" 29 "StageShares$Work" "regions" "[I") ∈ ta_ws := ta_i 69 (by decide +kernel) (by decide +kernel)
theorem mw_70 : (Cond.fieldLink "StageShares" 65 "StageShares$Work" "regions" "[I") ∈ ta_ws := ta_i 70 (by decide +kernel) (by decide +kernel)
theorem mw_71 : (Cond.fieldLink "StageShares$Work" 24 "StageShares$Work" "leftOut" "[Z") ∈ ta_ws := ta_i 71 (by decide +kernel) (by decide +kernel)
theorem mw_72 : (Cond.fieldLink "StageShares$Batches" 25 "StageShares$Work" "leftOut" "[Z") ∈ ta_ws := ta_i 72 (by decide +kernel) (by decide +kernel)
theorem mw_73 : (Cond.fieldLink "StageShares" 68 "StageShares$Work" "leftOut" "[Z") ∈ ta_ws := ta_i 73 (by decide +kernel) (by decide +kernel)
theorem mw_74 : (Cond.fieldLink "StageShares$Course" 99 "StageShares$Work" "leftOut" "[Z") ∈ ta_ws := ta_i 74 (by decide +kernel) (by decide +kernel)
theorem mw_86 : (Cond.arrayClass FieldType.long) ∈ ta_ws := ta_i 86 (by decide +kernel) (by decide +kernel)
theorem mw_87 : (Cond.arrayClass FieldType.int) ∈ ta_ws := ta_i 87 (by decide +kernel) (by decide +kernel)
theorem mw_88 : (Cond.arrayClass FieldType.boolean) ∈ ta_ws := ta_i 88 (by decide +kernel) (by decide +kernel)
theorem mw_89 : (Cond.classLink "StageShares" 27 "StageShares$Batches") ∈ ta_ws := ta_i 89 (by decide +kernel) (by decide +kernel)
theorem mw_90 : (Cond.instantiable "StageShares$Batches" 3) ∈ ta_ws := ta_i 90 (by decide +kernel) (by decide +kernel)
theorem mw_91 : (Cond.methodLink "StageShares" 29 yX0_init) ∈ ta_ws := ta_i 91 (by decide +kernel) (by decide +kernel)
theorem mw_92 : (Cond.instanceMethod yX0_init) ∈ ta_ws := ta_i 92 (by decide +kernel) (by decide +kernel)
theorem mw_93 : (Cond.code yX0_init prog_2_method_1_code 2 (Option.none : Option FieldType)) ∈ ta_ws := ta_i 93 (by decide +kernel) (by decide +kernel)
theorem mw_94 : (Cond.methodLink "StageShares$Batches" 3 (⟨"java/lang/Object", "<init>", "()V"⟩ : MethodName)) ∈ ta_ws := ta_i 94 (by decide +kernel) (by decide +kernel)
theorem mw_95 : (Cond.fieldLink "StageShares$Batches" 9 "StageShares$Batches" "batchOf" "[I") ∈ ta_ws := ta_i 95 (by decide +kernel) (by decide +kernel)
theorem mw_96 : (Cond.fieldLink "StageShares$WaitingRow" 22 "StageShares$Batches" "batchOf" "[I") ∈ ta_ws := ta_i 96 (by decide +kernel) (by decide +kernel)
theorem mw_97 : (Cond.fieldLink "StageShares" 80 "StageShares$Batches" "batchOf" "[I") ∈ ta_ws := ta_i 97 (by decide +kernel) (by decide +kernel)
theorem mw_98 : (Cond.fieldLink "StageShares$Batches" 18 "StageShares$Batches" "count" "I") ∈ ta_ws := ta_i 98 (by decide +kernel) (by decide +kernel)
theorem mw_99 : (Cond.fieldLink "StageShares$Course" 84 "StageShares$Batches" "count" "I") ∈ ta_ws := ta_i 99 (by decide +kernel) (by decide +kernel)
theorem mw_100 : (Cond.fieldLink "StageShares" 76 "StageShares$Batches" "count" "I") ∈ ta_ws := ta_i 100 (by decide +kernel) (by decide +kernel)
theorem mw_101 : (Cond.fieldLink "StageShares$Batches" 15 "StageShares$Batches" "regions" "[I") ∈ ta_ws := ta_i 101 (by decide +kernel) (by decide +kernel)
theorem mw_109 : (Cond.classLink "StageShares" 34 "StageShares$Failures") ∈ ta_ws := ta_i 109 (by decide +kernel) (by decide +kernel)
theorem mw_110 : (Cond.instantiable "StageShares$Failures" 2) ∈ ta_ws := ta_i 110 (by decide +kernel) (by decide +kernel)
theorem mw_111 : (Cond.methodLink "StageShares" 36 yX3_init) ∈ ta_ws := ta_i 111 (by decide +kernel) (by decide +kernel)
theorem mw_112 : (Cond.instanceMethod yX3_init) ∈ ta_ws := ta_i 112 (by decide +kernel) (by decide +kernel)
theorem mw_113 : (Cond.code yX3_init prog_5_method_1_code 1 (Option.none : Option FieldType)) ∈ ta_ws := ta_i 113 (by decide +kernel) (by decide +kernel)
theorem mw_114 : (Cond.methodLink "StageShares$Failures" 3 (⟨"java/lang/Object", "<init>", "()V"⟩ : MethodName)) ∈ ta_ws := ta_i 114 (by decide +kernel) (by decide +kernel)
theorem mw_115 : (Cond.fieldLink "StageShares$Failures" 15 "StageShares$Failures" "count" "I") ∈ ta_ws := ta_i 115 (by decide +kernel) (by decide +kernel)
theorem mw_116 : (Cond.fieldLink "StageShares" 86 "StageShares$Failures" "count" "I") ∈ ta_ws := ta_i 116 (by decide +kernel) (by decide +kernel)
theorem mw_117 : (Cond.fieldLink "StageShares$Failures" 9 "StageShares$Failures" "shares" "[J") ∈ ta_ws := ta_i 117 (by decide +kernel) (by decide +kernel)
theorem mw_123 : (Cond.classLink "StageShares" 41 "StageShares$Course") ∈ ta_ws := ta_i 123 (by decide +kernel) (by decide +kernel)
theorem mw_124 : (Cond.instantiable "StageShares$Course" 15) ∈ ta_ws := ta_i 124 (by decide +kernel) (by decide +kernel)
theorem mw_125 : (Cond.methodLink "StageShares" 43 yX1_init) ∈ ta_ws := ta_i 125 (by decide +kernel) (by decide +kernel)
theorem mw_126 : (Cond.instanceMethod yX1_init) ∈ ta_ws := ta_i 126 (by decide +kernel) (by decide +kernel)
theorem mw_127 : (Cond.code yX1_init prog_3_method_1_code 4 (Option.none : Option FieldType)) ∈ ta_ws := ta_i 127 (by decide +kernel) (by decide +kernel)
theorem mw_128 : (Cond.methodLink "StageShares$Course" 3 (⟨"java/lang/Object", "<init>", "()V"⟩ : MethodName)) ∈ ta_ws := ta_i 128 (by decide +kernel) (by decide +kernel)
theorem mw_129 : (Cond.classLink "StageShares$Course" 40 "StageShares$WaitingRow") ∈ ta_ws := ta_i 129 (by decide +kernel) (by decide +kernel)
theorem mw_130 : (Cond.instantiable "StageShares$WaitingRow" 3) ∈ ta_ws := ta_i 130 (by decide +kernel) (by decide +kernel)
theorem mw_131 : (Cond.methodLink "StageShares$Course" 42 yX4_init) ∈ ta_ws := ta_i 131 (by decide +kernel) (by decide +kernel)
theorem mw_132 : (Cond.instanceMethod yX4_init) ∈ ta_ws := ta_i 132 (by decide +kernel) (by decide +kernel)
theorem mw_133 : (Cond.code yX4_init prog_6_method_1_code 2 (Option.none : Option FieldType)) ∈ ta_ws := ta_i 133 (by decide +kernel) (by decide +kernel)
theorem mw_134 : (Cond.methodLink "StageShares$WaitingRow" 3 (⟨"java/lang/Object", "<init>", "()V"⟩ : MethodName)) ∈ ta_ws := ta_i 134 (by decide +kernel) (by decide +kernel)
theorem mw_135 : (Cond.fieldLink "StageShares$WaitingRow" 9 "StageShares$WaitingRow" "row" "[I") ∈ ta_ws := ta_i 135 (by decide +kernel) (by decide +kernel)
theorem mw_136 : (Cond.fieldLink "StageShares$WaitingRow" 15 "StageShares$WaitingRow" "front" "I") ∈ ta_ws := ta_i 136 (by decide +kernel) (by decide +kernel)
theorem mw_137 : (Cond.fieldLink "StageShares$WaitingRow" 19 "StageShares$WaitingRow" "end" "I") ∈ ta_ws := ta_i 137 (by decide +kernel) (by decide +kernel)
theorem mw_145 : (Cond.classLink "StageShares$Course" 49 "StageShares$Crew") ∈ ta_ws := ta_i 145 (by decide +kernel) (by decide +kernel)
theorem mw_146 : (Cond.instantiable "StageShares$Crew" 5) ∈ ta_ws := ta_i 146 (by decide +kernel) (by decide +kernel)
theorem mw_147 : (Cond.methodLink "StageShares$Course" 51 yX2_init) ∈ ta_ws := ta_i 147 (by decide +kernel) (by decide +kernel)
theorem mw_148 : (Cond.instanceMethod yX2_init) ∈ ta_ws := ta_i 148 (by decide +kernel) (by decide +kernel)
theorem mw_149 : (Cond.code yX2_init prog_4_method_1_code 1 (Option.none : Option FieldType)) ∈ ta_ws := ta_i 149 (by decide +kernel) (by decide +kernel)
theorem mw_150 : (Cond.methodLink "StageShares$Crew" 3 (⟨"java/lang/Object", "<init>", "()V"⟩ : MethodName)) ∈ ta_ws := ta_i 150 (by decide +kernel) (by decide +kernel)
theorem mw_151 : (Cond.fieldLink "StageShares$Crew" 9 "StageShares$Crew" "shareOf" "[I") ∈ ta_ws := ta_i 151 (by decide +kernel) (by decide +kernel)
theorem mw_152 : (Cond.fieldLink "StageShares$Course" 123 "StageShares$Crew" "shareOf" "[I") ∈ ta_ws := ta_i 152 (by decide +kernel) (by decide +kernel)
theorem mw_153 : (Cond.fieldLink "StageShares$Crew" 15 "StageShares$Crew" "stepsMade" "[I") ∈ ta_ws := ta_i 153 (by decide +kernel) (by decide +kernel)
theorem mw_154 : (Cond.fieldLink "StageShares$Course" 129 "StageShares$Crew" "stepsMade" "[I") ∈ ta_ws := ta_i 154 (by decide +kernel) (by decide +kernel)
theorem mw_155 : (Cond.fieldLink "StageShares$Crew" 18 "StageShares$Crew" "made" "[J") ∈ ta_ws := ta_i 155 (by decide +kernel) (by decide +kernel)
theorem mw_156 : (Cond.fieldLink "StageShares$Course" 163 "StageShares$Crew" "made" "[J") ∈ ta_ws := ta_i 156 (by decide +kernel) (by decide +kernel)
theorem mw_157 : (Cond.fieldLink "StageShares$Crew" 25 "StageShares$Crew" "liveCount" "I") ∈ ta_ws := ta_i 157 (by decide +kernel) (by decide +kernel)
theorem mw_158 : (Cond.fieldLink "StageShares$Course" 77 "StageShares$Crew" "liveCount" "I") ∈ ta_ws := ta_i 158 (by decide +kernel) (by decide +kernel)
theorem mw_159 : (Cond.fieldLink "StageShares$Crew" 22 "StageShares$Crew" "live" "[I") ∈ ta_ws := ta_i 159 (by decide +kernel) (by decide +kernel)
theorem mw_171 : (Cond.methodLink "StageShares$Course" 56 yX1_reset) ∈ ta_ws := ta_i 171 (by decide +kernel) (by decide +kernel)
theorem mw_172 : (Cond.instanceMethod yX1_reset) ∈ ta_ws := ta_i 172 (by decide +kernel) (by decide +kernel)
theorem mw_173 : (Cond.selects "StageShares$Course" yX1_reset yX1_reset) ∈ ta_ws := ta_i 173 (by decide +kernel) (by decide +kernel)
theorem mw_174 : (Cond.code yX1_reset prog_3_method_2_code 2 (Option.none : Option FieldType)) ∈ ta_ws := ta_i 174 (by decide +kernel) (by decide +kernel)
theorem mw_175 : (Cond.methodLink "StageShares$Course" 59 yX2_gather) ∈ ta_ws := ta_i 175 (by decide +kernel) (by decide +kernel)
theorem mw_176 : (Cond.instanceMethod yX2_gather) ∈ ta_ws := ta_i 176 (by decide +kernel) (by decide +kernel)
theorem mw_177 : (Cond.selects "StageShares$Crew" yX2_gather yX2_gather) ∈ ta_ws := ta_i 177 (by decide +kernel) (by decide +kernel)
theorem mw_178 : (Cond.code yX2_gather prog_4_method_2_code 3 (Option.none : Option FieldType)) ∈ ta_ws := ta_i 178 (by decide +kernel) (by decide +kernel)
theorem mw_179 : (Cond.fieldLink "StageShares$Course" 29 "StageShares$Course" "begun" "[I") ∈ ta_ws := ta_i 179 (by decide +kernel) (by decide +kernel)
theorem mw_180 : (Cond.fieldLink "StageShares" 102 "StageShares$Course" "begun" "[I") ∈ ta_ws := ta_i 180 (by decide +kernel) (by decide +kernel)
theorem mw_181 : (Cond.fieldLink "StageShares$Course" 33 "StageShares$Course" "doers" "[I") ∈ ta_ws := ta_i 181 (by decide +kernel) (by decide +kernel)
theorem mw_182 : (Cond.fieldLink "StageShares" 105 "StageShares$Course" "doers" "[I") ∈ ta_ws := ta_i 182 (by decide +kernel) (by decide +kernel)
theorem mw_183 : (Cond.fieldLink "StageShares$Course" 36 "StageShares$Course" "outcomes" "[J") ∈ ta_ws := ta_i 183 (by decide +kernel) (by decide +kernel)
theorem mw_184 : (Cond.fieldLink "StageShares" 122 "StageShares$Course" "outcomes" "[J") ∈ ta_ws := ta_i 184 (by decide +kernel) (by decide +kernel)
theorem mw_185 : (Cond.fieldLink "StageShares$Course" 9 "StageShares$Course" "work" "LStageShares$Work;") ∈ ta_ws := ta_i 185 (by decide +kernel) (by decide +kernel)
theorem mw_186 : (Cond.fieldLink "StageShares$Course" 15 "StageShares$Course" "grouping" "LStageShares$Batches;") ∈ ta_ws := ta_i 186 (by decide +kernel) (by decide +kernel)
theorem mw_187 : (Cond.fieldLink "StageShares$Course" 19 "StageShares$Course" "failures" "LStageShares$Failures;") ∈ ta_ws := ta_i 187 (by decide +kernel) (by decide +kernel)
theorem mw_188 : (Cond.fieldLink "StageShares$Course" 45 "StageShares$Course" "waiting" "LStageShares$WaitingRow;") ∈ ta_ws := ta_i 188 (by decide +kernel) (by decide +kernel)
theorem mw_189 : (Cond.fieldLink "StageShares$Course" 52 "StageShares$Course" "crew" "LStageShares$Crew;") ∈ ta_ws := ta_i 189 (by decide +kernel) (by decide +kernel)
theorem mw_190 : (Cond.fieldLink "StageShares$Course" 91 "StageShares$Course" "x" "J") ∈ ta_ws := ta_i 190 (by decide +kernel) (by decide +kernel)
theorem mw_191 : (Cond.fieldLink "StageShares$Course" 107 "StageShares$Course" "undone" "I") ∈ ta_ws := ta_i 191 (by decide +kernel) (by decide +kernel)
theorem mw_192 : (Cond.fieldLink "StageShares$Course" 62 "StageShares$Course" "ticks" "I") ∈ ta_ws := ta_i 192 (by decide +kernel) (by decide +kernel)
theorem mw_193 : (Cond.fieldLink "StageShares$Course" 65 "StageShares$Course" "steps" "I") ∈ ta_ws := ta_i 193 (by decide +kernel) (by decide +kernel)
theorem mw_194 : (Cond.fieldLink "StageShares$Course" 68 "StageShares$Course" "failed" "I") ∈ ta_ws := ta_i 194 (by decide +kernel) (by decide +kernel)
theorem mw_195 : (Cond.fieldLink "StageShares$Course" 71 "StageShares$Course" "batchesDone" "I") ∈ ta_ws := ta_i 195 (by decide +kernel) (by decide +kernel)
theorem mw_196 : (Cond.fieldLink "StageShares$Course" 74 "StageShares$Course" "begunInAll" "I") ∈ ta_ws := ta_i 196 (by decide +kernel) (by decide +kernel)
theorem mw_228 : (Cond.fieldLink "StageShares" 23 "StageShares" "work" "LStageShares$Work;") ∈ ta_ws := ta_i 228 (by decide +kernel) (by decide +kernel)
theorem mw_229 : (Cond.fieldLink "StageShares" 30 "StageShares" "grouping" "LStageShares$Batches;") ∈ ta_ws := ta_i 229 (by decide +kernel) (by decide +kernel)
theorem mw_230 : (Cond.fieldLink "StageShares" 37 "StageShares" "failures" "LStageShares$Failures;") ∈ ta_ws := ta_i 230 (by decide +kernel) (by decide +kernel)
theorem mw_231 : (Cond.fieldLink "StageShares" 46 "StageShares" "latest" "LStageShares$Course;") ∈ ta_ws := ta_i 231 (by decide +kernel) (by decide +kernel)
theorem mw_232 : (Cond.fieldLink "StageShares" 50 "StageShares" "results" "[J") ∈ ta_ws := ta_i 232 (by decide +kernel) (by decide +kernel)
theorem mw_244 : (Cond.methodLink "StageSharesLaw" 23 yX6_value) ∈ ta_ws := ta_i 244 (by decide +kernel) (by decide +kernel)
theorem mw_245 : (Cond.instanceMethod yX6_value) ∈ ta_ws := ta_i 245 (by decide +kernel) (by decide +kernel)
theorem mw_246 : (Cond.selects "StageShares" yX6_value yX6_value) ∈ ta_ws := ta_i 246 (by decide +kernel) (by decide +kernel)
theorem mw_247 : (Cond.code yX6_value prog_1_method_2_code 4 (Option.some FieldType.int)) ∈ ta_ws := ta_i 247 (by decide +kernel) (by decide +kernel)
theorem mw_248 : (Cond.methodLink "StageShares" 54 yX5_has) ∈ ta_ws := ta_i 248 (by decide +kernel) (by decide +kernel)
theorem mw_249 : (Cond.instanceMethod yX5_has) ∈ ta_ws := ta_i 249 (by decide +kernel) (by decide +kernel)
theorem mw_250 : (Cond.selects "StageShares$Work" yX5_has yX5_has) ∈ ta_ws := ta_i 250 (by decide +kernel) (by decide +kernel)
theorem mw_251 : (Cond.code yX5_has prog_7_method_3_code 2 (Option.some FieldType.boolean)) ∈ ta_ws := ta_i 251 (by decide +kernel) (by decide +kernel)
theorem mw_252 : (Cond.methodLink "StageSharesLaw" 28 yX6_steps) ∈ ta_ws := ta_i 252 (by decide +kernel) (by decide +kernel)
theorem mw_253 : (Cond.instanceMethod yX6_steps) ∈ ta_ws := ta_i 253 (by decide +kernel) (by decide +kernel)
theorem mw_254 : (Cond.selects "StageShares" yX6_steps yX6_steps) ∈ ta_ws := ta_i 254 (by decide +kernel) (by decide +kernel)
theorem mw_255 : (Cond.code yX6_steps prog_1_method_3_code 4 (Option.some FieldType.int)) ∈ ta_ws := ta_i 255 (by decide +kernel) (by decide +kernel)
theorem mw_256 : (Cond.methodLink "StageSharesLaw" 33 yX6_touch) ∈ ta_ws := ta_i 256 (by decide +kernel) (by decide +kernel)
theorem mw_257 : (Cond.instanceMethod yX6_touch) ∈ ta_ws := ta_i 257 (by decide +kernel) (by decide +kernel)
theorem mw_258 : (Cond.selects "StageShares" yX6_touch yX6_touch) ∈ ta_ws := ta_i 258 (by decide +kernel) (by decide +kernel)
theorem mw_259 : (Cond.code yX6_touch prog_1_method_4_code 4 (Option.some FieldType.int)) ∈ ta_ws := ta_i 259 (by decide +kernel) (by decide +kernel)
theorem mw_260 : (Cond.methodLink "StageSharesLaw" 37 yX6_leave) ∈ ta_ws := ta_i 260 (by decide +kernel) (by decide +kernel)
theorem mw_261 : (Cond.instanceMethod yX6_leave) ∈ ta_ws := ta_i 261 (by decide +kernel) (by decide +kernel)
theorem mw_262 : (Cond.selects "StageShares" yX6_leave yX6_leave) ∈ ta_ws := ta_i 262 (by decide +kernel) (by decide +kernel)
theorem mw_263 : (Cond.code yX6_leave prog_1_method_5_code 3 (Option.some FieldType.int)) ∈ ta_ws := ta_i 263 (by decide +kernel) (by decide +kernel)
theorem mw_264 : (Cond.methodLink "StageSharesLaw" 42 yX6_batches) ∈ ta_ws := ta_i 264 (by decide +kernel) (by decide +kernel)
theorem mw_265 : (Cond.instanceMethod yX6_batches) ∈ ta_ws := ta_i 265 (by decide +kernel) (by decide +kernel)
theorem mw_266 : (Cond.selects "StageShares" yX6_batches yX6_batches) ∈ ta_ws := ta_i 266 (by decide +kernel) (by decide +kernel)
theorem mw_267 : (Cond.code yX6_batches prog_1_method_6_code 1 (Option.some FieldType.int)) ∈ ta_ws := ta_i 267 (by decide +kernel) (by decide +kernel)
theorem mw_268 : (Cond.methodLink "StageShares" 72 yX0_form) ∈ ta_ws := ta_i 268 (by decide +kernel) (by decide +kernel)
theorem mw_269 : (Cond.instanceMethod yX0_form) ∈ ta_ws := ta_i 269 (by decide +kernel) (by decide +kernel)
theorem mw_270 : (Cond.selects "StageShares$Batches" yX0_form yX0_form) ∈ ta_ws := ta_i 270 (by decide +kernel) (by decide +kernel)
theorem mw_271 : (Cond.code yX0_form prog_2_method_2_code 3 (Option.none : Option FieldType)) ∈ ta_ws := ta_i 271 (by decide +kernel) (by decide +kernel)
theorem mw_272 : (Cond.methodLink "StageShares$Batches" 30 yX0_place) ∈ ta_ws := ta_i 272 (by decide +kernel) (by decide +kernel)
theorem mw_274 : (Cond.instanceMethod yX0_place) ∈ ta_ws := ta_i 274 (by decide +kernel) (by decide +kernel)
theorem mw_275 : (Cond.code yX0_place prog_2_method_3_code 3 (Option.some FieldType.int)) ∈ ta_ws := ta_i 275 (by decide +kernel) (by decide +kernel)
theorem mw_276 : (Cond.methodLink "StageSharesLaw" 47 yX6_batch) ∈ ta_ws := ta_i 276 (by decide +kernel) (by decide +kernel)
theorem mw_277 : (Cond.instanceMethod yX6_batch) ∈ ta_ws := ta_i 277 (by decide +kernel) (by decide +kernel)
theorem mw_278 : (Cond.selects "StageShares" yX6_batch yX6_batch) ∈ ta_ws := ta_i 278 (by decide +kernel) (by decide +kernel)
theorem mw_279 : (Cond.code yX6_batch prog_1_method_7_code 2 (Option.some FieldType.int)) ∈ ta_ws := ta_i 279 (by decide +kernel) (by decide +kernel)
theorem mw_280 : (Cond.methodLink "StageSharesLaw" 52 yX6_fail) ∈ ta_ws := ta_i 280 (by decide +kernel) (by decide +kernel)
theorem mw_281 : (Cond.instanceMethod yX6_fail) ∈ ta_ws := ta_i 281 (by decide +kernel) (by decide +kernel)
theorem mw_282 : (Cond.selects "StageShares" yX6_fail yX6_fail) ∈ ta_ws := ta_i 282 (by decide +kernel) (by decide +kernel)
theorem mw_283 : (Cond.code yX6_fail prog_1_method_8_code 3 (Option.some FieldType.int)) ∈ ta_ws := ta_i 283 (by decide +kernel) (by decide +kernel)
theorem mw_284 : (Cond.methodLink "StageShares" 83 yX3_has) ∈ ta_ws := ta_i 284 (by decide +kernel) (by decide +kernel)
theorem mw_285 : (Cond.instanceMethod yX3_has) ∈ ta_ws := ta_i 285 (by decide +kernel) (by decide +kernel)
theorem mw_286 : (Cond.selects "StageShares$Failures" yX3_has yX3_has) ∈ ta_ws := ta_i 286 (by decide +kernel) (by decide +kernel)
theorem mw_287 : (Cond.code yX3_has prog_5_method_3_code 3 (Option.some FieldType.boolean)) ∈ ta_ws := ta_i 287 (by decide +kernel) (by decide +kernel)
theorem mw_288 : (Cond.methodLink "StageShares" 87 yX3_add) ∈ ta_ws := ta_i 288 (by decide +kernel) (by decide +kernel)
theorem mw_289 : (Cond.instanceMethod yX3_add) ∈ ta_ws := ta_i 289 (by decide +kernel) (by decide +kernel)
theorem mw_290 : (Cond.selects "StageShares$Failures" yX3_add yX3_add) ∈ ta_ws := ta_i 290 (by decide +kernel) (by decide +kernel)
theorem mw_291 : (Cond.code yX3_add prog_5_method_4_code 3 (Option.none : Option FieldType)) ∈ ta_ws := ta_i 291 (by decide +kernel) (by decide +kernel)
theorem mw_292 : (Cond.methodLink "StageSharesLaw" 56 yX6_run) ∈ ta_ws := ta_i 292 (by decide +kernel) (by decide +kernel)
theorem mw_293 : (Cond.instanceMethod yX6_run) ∈ ta_ws := ta_i 293 (by decide +kernel) (by decide +kernel)
theorem mw_294 : (Cond.selects "StageShares" yX6_run yX6_run) ∈ ta_ws := ta_i 294 (by decide +kernel) (by decide +kernel)
theorem mw_295 : (Cond.code yX6_run prog_1_method_9_code 5 (Option.some FieldType.int)) ∈ ta_ws := ta_i 295 (by decide +kernel) (by decide +kernel)
theorem mw_296 : (Cond.methodLink "StageShares" 91 yX1_goThrough) ∈ ta_ws := ta_i 296 (by decide +kernel) (by decide +kernel)
theorem mw_297 : (Cond.instanceMethod yX1_goThrough) ∈ ta_ws := ta_i 297 (by decide +kernel) (by decide +kernel)
theorem mw_298 : (Cond.selects "StageShares$Course" yX1_goThrough yX1_goThrough) ∈ ta_ws := ta_i 298 (by decide +kernel) (by decide +kernel)
theorem mw_299 : (Cond.code yX1_goThrough prog_3_method_4_code 6 (Option.some FieldType.int)) ∈ ta_ws := ta_i 299 (by decide +kernel) (by decide +kernel)
theorem mw_300 : (Cond.methodLink "StageShares$Course" 80 yX1_start) ∈ ta_ws := ta_i 300 (by decide +kernel) (by decide +kernel)
theorem mw_302 : (Cond.instanceMethod yX1_start) ∈ ta_ws := ta_i 302 (by decide +kernel) (by decide +kernel)
theorem mw_303 : (Cond.code yX1_start prog_3_method_5_code 5 (Option.none : Option FieldType)) ∈ ta_ws := ta_i 303 (by decide +kernel) (by decide +kernel)
theorem mw_304 : (Cond.methodLink "StageShares$Course" 95 yX0_form) ∈ ta_ws := ta_i 304 (by decide +kernel) (by decide +kernel)
theorem mw_305 : (Cond.methodLink "StageShares$Course" 87 yX1_doBatch) ∈ ta_ws := ta_i 305 (by decide +kernel) (by decide +kernel)
theorem mw_307 : (Cond.instanceMethod yX1_doBatch) ∈ ta_ws := ta_i 307 (by decide +kernel) (by decide +kernel)
theorem mw_308 : (Cond.code yX1_doBatch prog_3_method_6_code 2 (Option.some FieldType.int)) ∈ ta_ws := ta_i 308 (by decide +kernel) (by decide +kernel)
theorem mw_309 : (Cond.methodLink "StageShares$Course" 103 yX4_fill) ∈ ta_ws := ta_i 309 (by decide +kernel) (by decide +kernel)
theorem mw_310 : (Cond.instanceMethod yX4_fill) ∈ ta_ws := ta_i 310 (by decide +kernel) (by decide +kernel)
theorem mw_311 : (Cond.selects "StageShares$WaitingRow" yX4_fill yX4_fill) ∈ ta_ws := ta_i 311 (by decide +kernel) (by decide +kernel)
theorem mw_312 : (Cond.code yX4_fill prog_6_method_2_code 4 (Option.some FieldType.int)) ∈ ta_ws := ta_i 312 (by decide +kernel) (by decide +kernel)
theorem mw_313 : (Cond.methodLink "StageShares$Course" 110 yX1_choosePlace) ∈ ta_ws := ta_i 313 (by decide +kernel) (by decide +kernel)
theorem mw_315 : (Cond.instanceMethod yX1_choosePlace) ∈ ta_ws := ta_i 315 (by decide +kernel) (by decide +kernel)
theorem mw_316 : (Cond.code yX1_choosePlace prog_3_method_7_code 2 (Option.some FieldType.int)) ∈ ta_ws := ta_i 316 (by decide +kernel) (by decide +kernel)
theorem mw_317 : (Cond.constantLong "StageShares$Course" 116 (6364136223846793005 : Int64)) ∈ ta_ws := ta_i 317 (by decide +kernel) (by decide +kernel)
theorem mw_318 : (Cond.constantLong "StageShares$Course" 118 (1442695040888963407 : Int64)) ∈ ta_ws := ta_i 318 (by decide +kernel) (by decide +kernel)
theorem mw_319 : (Cond.methodLink "StageShares$Course" 113 yX1_act) ∈ ta_ws := ta_i 319 (by decide +kernel) (by decide +kernel)
theorem mw_321 : (Cond.instanceMethod yX1_act) ∈ ta_ws := ta_i 321 (by decide +kernel) (by decide +kernel)
theorem mw_322 : (Cond.code yX1_act prog_3_method_8_code 5 (Option.none : Option FieldType)) ∈ ta_ws := ta_i 322 (by decide +kernel) (by decide +kernel)
theorem mw_323 : (Cond.methodLink "StageShares$Course" 120 yX2_liveAt) ∈ ta_ws := ta_i 323 (by decide +kernel) (by decide +kernel)
theorem mw_324 : (Cond.instanceMethod yX2_liveAt) ∈ ta_ws := ta_i 324 (by decide +kernel) (by decide +kernel)
theorem mw_325 : (Cond.selects "StageShares$Crew" yX2_liveAt yX2_liveAt) ∈ ta_ws := ta_i 325 (by decide +kernel) (by decide +kernel)
theorem mw_326 : (Cond.code yX2_liveAt prog_4_method_3_code 2 (Option.some FieldType.int)) ∈ ta_ws := ta_i 326 (by decide +kernel) (by decide +kernel)
theorem mw_327 : (Cond.methodLink "StageShares$Course" 126 yX1_begin) ∈ ta_ws := ta_i 327 (by decide +kernel) (by decide +kernel)
theorem mw_329 : (Cond.instanceMethod yX1_begin) ∈ ta_ws := ta_i 329 (by decide +kernel) (by decide +kernel)
theorem mw_330 : (Cond.code yX1_begin prog_3_method_9_code 3 (Option.none : Option FieldType)) ∈ ta_ws := ta_i 330 (by decide +kernel) (by decide +kernel)
theorem mw_331 : (Cond.methodLink "StageShares$Course" 152 yX4_takeFirst) ∈ ta_ws := ta_i 331 (by decide +kernel) (by decide +kernel)
theorem mw_332 : (Cond.instanceMethod yX4_takeFirst) ∈ ta_ws := ta_i 332 (by decide +kernel) (by decide +kernel)
theorem mw_333 : (Cond.selects "StageShares$WaitingRow" yX4_takeFirst yX4_takeFirst) ∈ ta_ws := ta_i 333 (by decide +kernel) (by decide +kernel)
theorem mw_334 : (Cond.code yX4_takeFirst prog_6_method_3_code 2 (Option.some FieldType.int)) ∈ ta_ws := ta_i 334 (by decide +kernel) (by decide +kernel)
theorem mw_335 : (Cond.methodLink "StageShares$Course" 159 yX2_give) ∈ ta_ws := ta_i 335 (by decide +kernel) (by decide +kernel)
theorem mw_336 : (Cond.instanceMethod yX2_give) ∈ ta_ws := ta_i 336 (by decide +kernel) (by decide +kernel)
theorem mw_337 : (Cond.selects "StageShares$Crew" yX2_give yX2_give) ∈ ta_ws := ta_i 337 (by decide +kernel) (by decide +kernel)
theorem mw_338 : (Cond.code yX2_give prog_4_method_4_code 5 (Option.none : Option FieldType)) ∈ ta_ws := ta_i 338 (by decide +kernel) (by decide +kernel)
theorem mw_339 : (Cond.methodLink "StageShares$Course" 135 yX3_has) ∈ ta_ws := ta_i 339 (by decide +kernel) (by decide +kernel)
theorem mw_340 : (Cond.methodLink "StageShares$Course" 141 yX1_breakDown) ∈ ta_ws := ta_i 340 (by decide +kernel) (by decide +kernel)
theorem mw_342 : (Cond.instanceMethod yX1_breakDown) ∈ ta_ws := ta_i 342 (by decide +kernel) (by decide +kernel)
theorem mw_343 : (Cond.code yX1_breakDown prog_3_method_12_code 4 (Option.none : Option FieldType)) ∈ ta_ws := ta_i 343 (by decide +kernel) (by decide +kernel)
theorem mw_344 : (Cond.methodLink "StageShares$Course" 170 yX3_remove) ∈ ta_ws := ta_i 344 (by decide +kernel) (by decide +kernel)
theorem mw_345 : (Cond.instanceMethod yX3_remove) ∈ ta_ws := ta_i 345 (by decide +kernel) (by decide +kernel)
theorem mw_346 : (Cond.selects "StageShares$Failures" yX3_remove yX3_remove) ∈ ta_ws := ta_i 346 (by decide +kernel) (by decide +kernel)
theorem mw_347 : (Cond.code yX3_remove prog_5_method_5_code 3 (Option.none : Option FieldType)) ∈ ta_ws := ta_i 347 (by decide +kernel) (by decide +kernel)
theorem mw_348 : (Cond.constantLong "StageShares$Failures" 19 (-1 : Int64)) ∈ ta_ws := ta_i 348 (by decide +kernel) (by decide +kernel)
theorem mw_349 : (Cond.methodLink "StageShares$Course" 173 yX2_dropAt) ∈ ta_ws := ta_i 349 (by decide +kernel) (by decide +kernel)
theorem mw_350 : (Cond.instanceMethod yX2_dropAt) ∈ ta_ws := ta_i 350 (by decide +kernel) (by decide +kernel)
theorem mw_351 : (Cond.selects "StageShares$Crew" yX2_dropAt yX2_dropAt) ∈ ta_ws := ta_i 351 (by decide +kernel) (by decide +kernel)
theorem mw_352 : (Cond.code yX2_dropAt prog_4_method_5_code 3 (Option.none : Option FieldType)) ∈ ta_ws := ta_i 352 (by decide +kernel) (by decide +kernel)
theorem mw_353 : (Cond.methodLink "StageShares$Course" 176 yX4_putFirst) ∈ ta_ws := ta_i 353 (by decide +kernel) (by decide +kernel)
theorem mw_354 : (Cond.instanceMethod yX4_putFirst) ∈ ta_ws := ta_i 354 (by decide +kernel) (by decide +kernel)
theorem mw_355 : (Cond.selects "StageShares$WaitingRow" yX4_putFirst yX4_putFirst) ∈ ta_ws := ta_i 355 (by decide +kernel) (by decide +kernel)
theorem mw_356 : (Cond.code yX4_putFirst prog_6_method_4_code 2 (Option.none : Option FieldType)) ∈ ta_ws := ta_i 356 (by decide +kernel) (by decide +kernel)
theorem mw_357 : (Cond.methodLink "StageShares$Course" 145 yX1_goOn) ∈ ta_ws := ta_i 357 (by decide +kernel) (by decide +kernel)
theorem mw_359 : (Cond.instanceMethod yX1_goOn) ∈ ta_ws := ta_i 359 (by decide +kernel) (by decide +kernel)
theorem mw_360 : (Cond.code yX1_goOn prog_3_method_10_code 3 (Option.none : Option FieldType)) ∈ ta_ws := ta_i 360 (by decide +kernel) (by decide +kernel)
theorem mw_362 : (Cond.static yX6_makeStep) ∈ ta_ws := ta_i 362 (by decide +kernel) (by decide +kernel)
theorem mw_363 : (Cond.code yX6_makeStep prog_1_method_19_code 5 (Option.some FieldType.long)) ∈ ta_ws := ta_i 363 (by decide +kernel) (by decide +kernel)
theorem mw_364 : (Cond.methodLink "StageShares" 125 yJ13_rotateLeft_b2ac5) ∈ ta_ws := ta_i 364 (by decide +kernel) (by decide +kernel)
theorem mw_365 : (Cond.static yJ13_rotateLeft_b2ac5) ∈ ta_ws := ta_i 365 (by decide +kernel) (by decide +kernel)
theorem mw_366 : (Cond.code yJ13_rotateLeft_b2ac5 prog_10_method_51_code 3 (Option.some FieldType.long)) ∈ ta_ws := ta_i 366 (by decide +kernel) (by decide +kernel)
theorem mw_367 : (Cond.constantLong "StageShares" 131 (31 : Int64)) ∈ ta_ws := ta_i 367 (by decide +kernel) (by decide +kernel)
theorem mw_368 : (Cond.methodLink "StageShares$Course" 149 yX1_finish) ∈ ta_ws := ta_i 368 (by decide +kernel) (by decide +kernel)
theorem mw_370 : (Cond.instanceMethod yX1_finish) ∈ ta_ws := ta_i 370 (by decide +kernel) (by decide +kernel)
theorem mw_371 : (Cond.code yX1_finish prog_3_method_11_code 3 (Option.none : Option FieldType)) ∈ ta_ws := ta_i 371 (by decide +kernel) (by decide +kernel)
theorem mw_372 : (Cond.methodLink "StageShares" 95 yX6_keepOutcomes) ∈ ta_ws := ta_i 372 (by decide +kernel) (by decide +kernel)
theorem mw_374 : (Cond.instanceMethod yX6_keepOutcomes) ∈ ta_ws := ta_i 374 (by decide +kernel) (by decide +kernel)
theorem mw_375 : (Cond.code yX6_keepOutcomes prog_1_method_17_code 2 (Option.none : Option FieldType)) ∈ ta_ws := ta_i 375 (by decide +kernel) (by decide +kernel)
theorem mw_376 : (Cond.methodLink "StageSharesLaw" 60 yX6_told) ∈ ta_ws := ta_i 376 (by decide +kernel) (by decide +kernel)
theorem mw_377 : (Cond.instanceMethod yX6_told) ∈ ta_ws := ta_i 377 (by decide +kernel) (by decide +kernel)
theorem mw_378 : (Cond.selects "StageShares" yX6_told yX6_told) ∈ ta_ws := ta_i 378 (by decide +kernel) (by decide +kernel)
theorem mw_379 : (Cond.code yX6_told prog_1_method_10_code 2 (Option.some FieldType.int)) ∈ ta_ws := ta_i 379 (by decide +kernel) (by decide +kernel)
theorem mw_380 : (Cond.methodLink "StageShares" 98 yX1_figure) ∈ ta_ws := ta_i 380 (by decide +kernel) (by decide +kernel)
theorem mw_381 : (Cond.instanceMethod yX1_figure) ∈ ta_ws := ta_i 381 (by decide +kernel) (by decide +kernel)
theorem mw_382 : (Cond.selects "StageShares$Course" yX1_figure yX1_figure) ∈ ta_ws := ta_i 382 (by decide +kernel) (by decide +kernel)
theorem mw_383 : (Cond.code yX1_figure prog_3_method_3_code 2 (Option.some FieldType.int)) ∈ ta_ws := ta_i 383 (by decide +kernel) (by decide +kernel)
theorem mw_384 : (Cond.methodLink "StageSharesLaw" 64 yX6_times) ∈ ta_ws := ta_i 384 (by decide +kernel) (by decide +kernel)
theorem mw_385 : (Cond.instanceMethod yX6_times) ∈ ta_ws := ta_i 385 (by decide +kernel) (by decide +kernel)
theorem mw_386 : (Cond.selects "StageShares" yX6_times yX6_times) ∈ ta_ws := ta_i 386 (by decide +kernel) (by decide +kernel)
theorem mw_387 : (Cond.code yX6_times prog_1_method_11_code 2 (Option.some FieldType.int)) ∈ ta_ws := ta_i 387 (by decide +kernel) (by decide +kernel)
theorem mw_388 : (Cond.methodLink "StageSharesLaw" 68 yX6_doneBy) ∈ ta_ws := ta_i 388 (by decide +kernel) (by decide +kernel)
theorem mw_389 : (Cond.instanceMethod yX6_doneBy) ∈ ta_ws := ta_i 389 (by decide +kernel) (by decide +kernel)
theorem mw_390 : (Cond.selects "StageShares" yX6_doneBy yX6_doneBy) ∈ ta_ws := ta_i 390 (by decide +kernel) (by decide +kernel)
theorem mw_391 : (Cond.code yX6_doneBy prog_1_method_12_code 2 (Option.some FieldType.int)) ∈ ta_ws := ta_i 391 (by decide +kernel) (by decide +kernel)
theorem mw_392 : (Cond.methodLink "StageSharesLaw" 72 yX6_result) ∈ ta_ws := ta_i 392 (by decide +kernel) (by decide +kernel)
theorem mw_393 : (Cond.instanceMethod yX6_result) ∈ ta_ws := ta_i 393 (by decide +kernel) (by decide +kernel)
theorem mw_394 : (Cond.selects "StageShares" yX6_result yX6_result) ∈ ta_ws := ta_i 394 (by decide +kernel) (by decide +kernel)
theorem mw_395 : (Cond.code yX6_result prog_1_method_13_code 2 (Option.some FieldType.long)) ∈ ta_ws := ta_i 395 (by decide +kernel) (by decide +kernel)
theorem mw_396 : (Cond.methodLink "StageSharesLaw" 77 yX6_joined) ∈ ta_ws := ta_i 396 (by decide +kernel) (by decide +kernel)
theorem mw_397 : (Cond.instanceMethod yX6_joined) ∈ ta_ws := ta_i 397 (by decide +kernel) (by decide +kernel)
theorem mw_398 : (Cond.selects "StageShares" yX6_joined yX6_joined) ∈ ta_ws := ta_i 398 (by decide +kernel) (by decide +kernel)
theorem mw_399 : (Cond.code yX6_joined prog_1_method_14_code 4 (Option.some FieldType.long)) ∈ ta_ws := ta_i 399 (by decide +kernel) (by decide +kernel)
theorem mw_400 : (Cond.methodLink "StageShares" 109 yX6_joinOne) ∈ ta_ws := ta_i 400 (by decide +kernel) (by decide +kernel)
theorem mw_401 : (Cond.static yX6_joinOne) ∈ ta_ws := ta_i 401 (by decide +kernel) (by decide +kernel)
theorem mw_402 : (Cond.code yX6_joinOne prog_1_method_18_code 4 (Option.some FieldType.long)) ∈ ta_ws := ta_i 402 (by decide +kernel) (by decide +kernel)
theorem mw_403 : (Cond.methodLink "StageSharesLaw" 82 yX6_plain) ∈ ta_ws := ta_i 403 (by decide +kernel) (by decide +kernel)
theorem mw_404 : (Cond.instanceMethod yX6_plain) ∈ ta_ws := ta_i 404 (by decide +kernel) (by decide +kernel)
theorem mw_405 : (Cond.selects "StageShares" yX6_plain yX6_plain) ∈ ta_ws := ta_i 405 (by decide +kernel) (by decide +kernel)
theorem mw_406 : (Cond.code yX6_plain prog_1_method_15_code 4 (Option.some FieldType.long)) ∈ ta_ws := ta_i 406 (by decide +kernel) (by decide +kernel)
theorem mw_407 : (Cond.methodLink "StageShares" 113 yX5_madeAlone) ∈ ta_ws := ta_i 407 (by decide +kernel) (by decide +kernel)
theorem mw_408 : (Cond.instanceMethod yX5_madeAlone) ∈ ta_ws := ta_i 408 (by decide +kernel) (by decide +kernel)
theorem mw_409 : (Cond.selects "StageShares$Work" yX5_madeAlone yX5_madeAlone) ∈ ta_ws := ta_i 409 (by decide +kernel) (by decide +kernel)
theorem mw_410 : (Cond.code yX5_madeAlone prog_7_method_4_code 5 (Option.some FieldType.long)) ∈ ta_ws := ta_i 410 (by decide +kernel) (by decide +kernel)
theorem mw_412 : (Cond.methodLink "StageSharesLaw" 86 yX6_clear) ∈ ta_ws := ta_i 412 (by decide +kernel) (by decide +kernel)
theorem mw_413 : (Cond.instanceMethod yX6_clear) ∈ ta_ws := ta_i 413 (by decide +kernel) (by decide +kernel)
theorem mw_414 : (Cond.selects "StageShares" yX6_clear yX6_clear) ∈ ta_ws := ta_i 414 (by decide +kernel) (by decide +kernel)
theorem mw_415 : (Cond.code yX6_clear prog_1_method_16_code 2 (Option.none : Option FieldType)) ∈ ta_ws := ta_i 415 (by decide +kernel) (by decide +kernel)
theorem mw_416 : (Cond.methodLink "StageShares" 117 yX5_reset) ∈ ta_ws := ta_i 416 (by decide +kernel) (by decide +kernel)
theorem mw_417 : (Cond.methodLink "StageShares" 120 yX3_reset) ∈ ta_ws := ta_i 417 (by decide +kernel) (by decide +kernel)
theorem mw_418 : (Cond.instanceMethod yX3_reset) ∈ ta_ws := ta_i 418 (by decide +kernel) (by decide +kernel)
theorem mw_419 : (Cond.selects "StageShares$Failures" yX3_reset yX3_reset) ∈ ta_ws := ta_i 419 (by decide +kernel) (by decide +kernel)
theorem mw_420 : (Cond.code yX3_reset prog_5_method_2_code 2 (Option.none : Option FieldType)) ∈ ta_ws := ta_i 420 (by decide +kernel) (by decide +kernel)
theorem mw_421 : (Cond.methodLink "StageShares" 121 yX1_reset) ∈ ta_ws := ta_i 421 (by decide +kernel) (by decide +kernel)
theorem mw_422 : (Cond.methodLink "StageSharesLaw" 9 yL_cell) ∈ ta_ws := ta_i 422 (by decide +kernel) (by decide +kernel)
theorem mw_423 : (Cond.static yL_cell) ∈ ta_ws := ta_i 423 (by decide +kernel) (by decide +kernel)
theorem mw_424 : (Cond.code yL_cell method_2_code 2 (Option.some FieldType.int)) ∈ ta_ws := ta_i 424 (by decide +kernel) (by decide +kernel)
theorem mw_425 : (Cond.classLink "StageSharesLaw" 18 "StageSharesModel") ∈ ta_ws := ta_i 425 (by decide +kernel) (by decide +kernel)
theorem mw_426 : (Cond.instantiable "StageSharesModel" 21) ∈ ta_ws := ta_i 426 (by decide +kernel) (by decide +kernel)
theorem mw_427 : (Cond.methodLink "StageSharesLaw" 20 yX7_init) ∈ ta_ws := ta_i 427 (by decide +kernel) (by decide +kernel)
theorem mw_428 : (Cond.instanceMethod yX7_init) ∈ ta_ws := ta_i 428 (by decide +kernel) (by decide +kernel)
theorem mw_429 : (Cond.code yX7_init prog_9_method_1_code 2 (Option.none : Option FieldType)) ∈ ta_ws := ta_i 429 (by decide +kernel) (by decide +kernel)
theorem mw_430 : (Cond.methodLink "StageSharesModel" 1 (⟨"java/lang/Object", "<init>", "()V"⟩ : MethodName)) ∈ ta_ws := ta_i 430 (by decide +kernel) (by decide +kernel)
theorem mw_431 : (Cond.methodLink "StageSharesModel" 64 yX7_empty) ∈ ta_ws := ta_i 431 (by decide +kernel) (by decide +kernel)
theorem mw_433 : (Cond.instanceMethod yX7_empty) ∈ ta_ws := ta_i 433 (by decide +kernel) (by decide +kernel)
theorem mw_434 : (Cond.code yX7_empty prog_9_method_3_code 2 (Option.none : Option FieldType)) ∈ ta_ws := ta_i 434 (by decide +kernel) (by decide +kernel)
theorem mw_435 : (Cond.fieldLink "StageSharesModel" 67 "StageSharesModel" "code" "I") ∈ ta_ws := ta_i 435 (by decide +kernel) (by decide +kernel)
theorem mw_436 : (Cond.fieldLink "StageSharesModel" 60 "StageSharesModel" "many" "I") ∈ ta_ws := ta_i 436 (by decide +kernel) (by decide +kernel)
theorem mw_437 : (Cond.fieldLink "StageSharesModel" 7 "StageSharesModel" "values" "[J") ∈ ta_ws := ta_i 437 (by decide +kernel) (by decide +kernel)
theorem mw_438 : (Cond.fieldLink "StageSharesModel" 13 "StageSharesModel" "steps" "[I") ∈ ta_ws := ta_i 438 (by decide +kernel) (by decide +kernel)
theorem mw_439 : (Cond.fieldLink "StageSharesModel" 17 "StageSharesModel" "regions" "[I") ∈ ta_ws := ta_i 439 (by decide +kernel) (by decide +kernel)
theorem mw_440 : (Cond.fieldLink "StageSharesModel" 20 "StageSharesModel" "out" "[Z") ∈ ta_ws := ta_i 440 (by decide +kernel) (by decide +kernel)
theorem mw_441 : (Cond.fieldLink "StageSharesModel" 24 "StageSharesModel" "batchOf" "[I") ∈ ta_ws := ta_i 441 (by decide +kernel) (by decide +kernel)
theorem mw_442 : (Cond.fieldLink "StageSharesModel" 70 "StageSharesModel" "failures" "I") ∈ ta_ws := ta_i 442 (by decide +kernel) (by decide +kernel)
theorem mw_443 : (Cond.fieldLink "StageSharesModel" 27 "StageSharesModel" "failWorkers" "[I") ∈ ta_ws := ta_i 443 (by decide +kernel) (by decide +kernel)
theorem mw_444 : (Cond.fieldLink "StageSharesModel" 30 "StageSharesModel" "failShares" "[I") ∈ ta_ws := ta_i 444 (by decide +kernel) (by decide +kernel)
theorem mw_445 : (Cond.fieldLink "StageSharesModel" 33 "StageSharesModel" "results" "[J") ∈ ta_ws := ta_i 445 (by decide +kernel) (by decide +kernel)
theorem mw_446 : (Cond.fieldLink "StageSharesModel" 36 "StageSharesModel" "counts" "[I") ∈ ta_ws := ta_i 446 (by decide +kernel) (by decide +kernel)
theorem mw_447 : (Cond.fieldLink "StageSharesModel" 39 "StageSharesModel" "begun" "[I") ∈ ta_ws := ta_i 447 (by decide +kernel) (by decide +kernel)
theorem mw_448 : (Cond.fieldLink "StageSharesModel" 42 "StageSharesModel" "doers" "[I") ∈ ta_ws := ta_i 448 (by decide +kernel) (by decide +kernel)
theorem mw_449 : (Cond.fieldLink "StageSharesModel" 45 "StageSharesModel" "stands" "[I") ∈ ta_ws := ta_i 449 (by decide +kernel) (by decide +kernel)
theorem mw_450 : (Cond.fieldLink "StageSharesModel" 94 "StageSharesModel" "ahead" "I") ∈ ta_ws := ta_i 450 (by decide +kernel) (by decide +kernel)
theorem mw_451 : (Cond.fieldLink "StageSharesModel" 48 "StageSharesModel" "live" "[Z") ∈ ta_ws := ta_i 451 (by decide +kernel) (by decide +kernel)
theorem mw_452 : (Cond.fieldLink "StageSharesModel" 51 "StageSharesModel" "has" "[I") ∈ ta_ws := ta_i 452 (by decide +kernel) (by decide +kernel)
theorem mw_453 : (Cond.fieldLink "StageSharesModel" 54 "StageSharesModel" "made" "[I") ∈ ta_ws := ta_i 453 (by decide +kernel) (by decide +kernel)
theorem mw_454 : (Cond.fieldLink "StageSharesModel" 91 "StageSharesModel" "workers" "I") ∈ ta_ws := ta_i 454 (by decide +kernel) (by decide +kernel)
theorem mw_455 : (Cond.fieldLink "StageSharesModel" 57 "StageSharesModel" "before" "[I") ∈ ta_ws := ta_i 455 (by decide +kernel) (by decide +kernel)
theorem mw_499 : (Cond.methodLink "StageSharesLaw" 27 yX7_value) ∈ ta_ws := ta_i 499 (by decide +kernel) (by decide +kernel)
theorem mw_500 : (Cond.instanceMethod yX7_value) ∈ ta_ws := ta_i 500 (by decide +kernel) (by decide +kernel)
theorem mw_501 : (Cond.selects "StageSharesModel" yX7_value yX7_value) ∈ ta_ws := ta_i 501 (by decide +kernel) (by decide +kernel)
theorem mw_502 : (Cond.code yX7_value prog_9_method_5_code 4 (Option.some FieldType.int)) ∈ ta_ws := ta_i 502 (by decide +kernel) (by decide +kernel)
theorem mw_503 : (Cond.methodLink "StageSharesModel" 73 yX7_isShare) ∈ ta_ws := ta_i 503 (by decide +kernel) (by decide +kernel)
theorem mw_505 : (Cond.instanceMethod yX7_isShare) ∈ ta_ws := ta_i 505 (by decide +kernel) (by decide +kernel)
theorem mw_506 : (Cond.code yX7_isShare prog_9_method_4_code 2 (Option.some FieldType.boolean)) ∈ ta_ws := ta_i 506 (by decide +kernel) (by decide +kernel)
theorem mw_507 : (Cond.methodLink "StageSharesLaw" 32 yX7_steps) ∈ ta_ws := ta_i 507 (by decide +kernel) (by decide +kernel)
theorem mw_508 : (Cond.instanceMethod yX7_steps) ∈ ta_ws := ta_i 508 (by decide +kernel) (by decide +kernel)
theorem mw_509 : (Cond.selects "StageSharesModel" yX7_steps yX7_steps) ∈ ta_ws := ta_i 509 (by decide +kernel) (by decide +kernel)
theorem mw_510 : (Cond.code yX7_steps prog_9_method_6_code 4 (Option.some FieldType.int)) ∈ ta_ws := ta_i 510 (by decide +kernel) (by decide +kernel)
theorem mw_511 : (Cond.methodLink "StageSharesLaw" 36 yX7_touch) ∈ ta_ws := ta_i 511 (by decide +kernel) (by decide +kernel)
theorem mw_512 : (Cond.instanceMethod yX7_touch) ∈ ta_ws := ta_i 512 (by decide +kernel) (by decide +kernel)
theorem mw_513 : (Cond.selects "StageSharesModel" yX7_touch yX7_touch) ∈ ta_ws := ta_i 513 (by decide +kernel) (by decide +kernel)
theorem mw_514 : (Cond.code yX7_touch prog_9_method_7_code 4 (Option.some FieldType.int)) ∈ ta_ws := ta_i 514 (by decide +kernel) (by decide +kernel)
theorem mw_515 : (Cond.methodLink "StageSharesLaw" 41 yX7_leave) ∈ ta_ws := ta_i 515 (by decide +kernel) (by decide +kernel)
theorem mw_516 : (Cond.instanceMethod yX7_leave) ∈ ta_ws := ta_i 516 (by decide +kernel) (by decide +kernel)
theorem mw_517 : (Cond.selects "StageSharesModel" yX7_leave yX7_leave) ∈ ta_ws := ta_i 517 (by decide +kernel) (by decide +kernel)
theorem mw_518 : (Cond.code yX7_leave prog_9_method_8_code 4 (Option.some FieldType.int)) ∈ ta_ws := ta_i 518 (by decide +kernel) (by decide +kernel)
theorem mw_519 : (Cond.methodLink "StageSharesLaw" 46 yX7_batches) ∈ ta_ws := ta_i 519 (by decide +kernel) (by decide +kernel)
theorem mw_520 : (Cond.instanceMethod yX7_batches) ∈ ta_ws := ta_i 520 (by decide +kernel) (by decide +kernel)
theorem mw_521 : (Cond.selects "StageSharesModel" yX7_batches yX7_batches) ∈ ta_ws := ta_i 521 (by decide +kernel) (by decide +kernel)
theorem mw_522 : (Cond.code yX7_batches prog_9_method_10_code 1 (Option.some FieldType.int)) ∈ ta_ws := ta_i 522 (by decide +kernel) (by decide +kernel)
theorem mw_523 : (Cond.methodLink "StageSharesModel" 77 yX7_arrange) ∈ ta_ws := ta_i 523 (by decide +kernel) (by decide +kernel)
theorem mw_525 : (Cond.instanceMethod yX7_arrange) ∈ ta_ws := ta_i 525 (by decide +kernel) (by decide +kernel)
theorem mw_526 : (Cond.code yX7_arrange prog_9_method_9_code 6 (Option.some FieldType.int)) ∈ ta_ws := ta_i 526 (by decide +kernel) (by decide +kernel)
theorem mw_527 : (Cond.methodLink "StageSharesLaw" 51 yX7_batch) ∈ ta_ws := ta_i 527 (by decide +kernel) (by decide +kernel)
theorem mw_528 : (Cond.instanceMethod yX7_batch) ∈ ta_ws := ta_i 528 (by decide +kernel) (by decide +kernel)
theorem mw_529 : (Cond.selects "StageSharesModel" yX7_batch yX7_batch) ∈ ta_ws := ta_i 529 (by decide +kernel) (by decide +kernel)
theorem mw_530 : (Cond.code yX7_batch prog_9_method_11_code 2 (Option.some FieldType.int)) ∈ ta_ws := ta_i 530 (by decide +kernel) (by decide +kernel)
theorem mw_531 : (Cond.methodLink "StageSharesLaw" 55 yX7_fail) ∈ ta_ws := ta_i 531 (by decide +kernel) (by decide +kernel)
theorem mw_532 : (Cond.instanceMethod yX7_fail) ∈ ta_ws := ta_i 532 (by decide +kernel) (by decide +kernel)
theorem mw_533 : (Cond.selects "StageSharesModel" yX7_fail yX7_fail) ∈ ta_ws := ta_i 533 (by decide +kernel) (by decide +kernel)
theorem mw_534 : (Cond.code yX7_fail prog_9_method_13_code 3 (Option.some FieldType.int)) ∈ ta_ws := ta_i 534 (by decide +kernel) (by decide +kernel)
theorem mw_535 : (Cond.methodLink "StageSharesModel" 81 yX7_failureOf) ∈ ta_ws := ta_i 535 (by decide +kernel) (by decide +kernel)
theorem mw_537 : (Cond.instanceMethod yX7_failureOf) ∈ ta_ws := ta_i 537 (by decide +kernel) (by decide +kernel)
theorem mw_538 : (Cond.code yX7_failureOf prog_9_method_12_code 4 (Option.some FieldType.int)) ∈ ta_ws := ta_i 538 (by decide +kernel) (by decide +kernel)
theorem mw_539 : (Cond.methodLink "StageSharesLaw" 59 yX7_run) ∈ ta_ws := ta_i 539 (by decide +kernel) (by decide +kernel)
theorem mw_540 : (Cond.instanceMethod yX7_run) ∈ ta_ws := ta_i 540 (by decide +kernel) (by decide +kernel)
theorem mw_541 : (Cond.selects "StageSharesModel" yX7_run yX7_run) ∈ ta_ws := ta_i 541 (by decide +kernel) (by decide +kernel)
theorem mw_542 : (Cond.code yX7_run prog_9_method_22_code 7 (Option.some FieldType.int)) ∈ ta_ws := ta_i 542 (by decide +kernel) (by decide +kernel)
theorem mw_543 : (Cond.methodLink "StageSharesModel" 101 yX7_go) ∈ ta_ws := ta_i 543 (by decide +kernel) (by decide +kernel)
theorem mw_545 : (Cond.instanceMethod yX7_go) ∈ ta_ws := ta_i 545 (by decide +kernel) (by decide +kernel)
theorem mw_546 : (Cond.code yX7_go prog_9_method_23_code 9 (Option.some FieldType.int)) ∈ ta_ws := ta_i 546 (by decide +kernel) (by decide +kernel)
theorem mw_547 : (Cond.methodLink "StageSharesModel" 112 yX7_isDone) ∈ ta_ws := ta_i 547 (by decide +kernel) (by decide +kernel)
theorem mw_549 : (Cond.instanceMethod yX7_isDone) ∈ ta_ws := ta_i 549 (by decide +kernel) (by decide +kernel)
theorem mw_550 : (Cond.code yX7_isDone prog_9_method_21_code 4 (Option.some FieldType.boolean)) ∈ ta_ws := ta_i 550 (by decide +kernel) (by decide +kernel)
theorem mw_551 : (Cond.methodLink "StageSharesModel" 105 yX7_liveCount) ∈ ta_ws := ta_i 551 (by decide +kernel) (by decide +kernel)
theorem mw_553 : (Cond.instanceMethod yX7_liveCount) ∈ ta_ws := ta_i 553 (by decide +kernel) (by decide +kernel)
theorem mw_554 : (Cond.code yX7_liveCount prog_9_method_17_code 3 (Option.some FieldType.int)) ∈ ta_ws := ta_i 554 (by decide +kernel) (by decide +kernel)
theorem mw_555 : (Cond.constantLong "StageSharesModel" 115 (6364136223846793005 : Int64)) ∈ ta_ws := ta_i 555 (by decide +kernel) (by decide +kernel)
theorem mw_556 : (Cond.constantLong "StageSharesModel" 117 (1442695040888963407 : Int64)) ∈ ta_ws := ta_i 556 (by decide +kernel) (by decide +kernel)
theorem mw_557 : (Cond.methodLink "StageSharesModel" 119 yX7_liveAt) ∈ ta_ws := ta_i 557 (by decide +kernel) (by decide +kernel)
theorem mw_559 : (Cond.instanceMethod yX7_liveAt) ∈ ta_ws := ta_i 559 (by decide +kernel) (by decide +kernel)
theorem mw_560 : (Cond.code yX7_liveAt prog_9_method_18_code 6 (Option.some FieldType.int)) ∈ ta_ws := ta_i 560 (by decide +kernel) (by decide +kernel)
theorem mw_561 : (Cond.methodLink "StageSharesModel" 123 yX7_take) ∈ ta_ws := ta_i 561 (by decide +kernel) (by decide +kernel)
theorem mw_563 : (Cond.instanceMethod yX7_take) ∈ ta_ws := ta_i 563 (by decide +kernel) (by decide +kernel)
theorem mw_564 : (Cond.code yX7_take prog_9_method_19_code 4 (Option.none : Option FieldType)) ∈ ta_ws := ta_i 564 (by decide +kernel) (by decide +kernel)
theorem mw_565 : (Cond.methodLink "StageSharesModel" 126 yX7_step) ∈ ta_ws := ta_i 565 (by decide +kernel) (by decide +kernel)
theorem mw_567 : (Cond.instanceMethod yX7_step) ∈ ta_ws := ta_i 567 (by decide +kernel) (by decide +kernel)
theorem mw_568 : (Cond.code yX7_step prog_9_method_20_code 4 (Option.none : Option FieldType)) ∈ ta_ws := ta_i 568 (by decide +kernel) (by decide +kernel)
theorem mw_569 : (Cond.methodLink "StageSharesModel" 97 yX7_forget) ∈ ta_ws := ta_i 569 (by decide +kernel) (by decide +kernel)
theorem mw_571 : (Cond.instanceMethod yX7_forget) ∈ ta_ws := ta_i 571 (by decide +kernel) (by decide +kernel)
theorem mw_572 : (Cond.code yX7_forget prog_9_method_14_code 3 (Option.none : Option FieldType)) ∈ ta_ws := ta_i 572 (by decide +kernel) (by decide +kernel)
theorem mw_573 : (Cond.methodLink "StageSharesModel" 108 yX7_resultOf) ∈ ta_ws := ta_i 573 (by decide +kernel) (by decide +kernel)
theorem mw_575 : (Cond.instanceMethod yX7_resultOf) ∈ ta_ws := ta_i 575 (by decide +kernel) (by decide +kernel)
theorem mw_576 : (Cond.code yX7_resultOf prog_9_method_16_code 5 (Option.some FieldType.long)) ∈ ta_ws := ta_i 576 (by decide +kernel) (by decide +kernel)
theorem mw_577 : (Cond.methodLink "StageSharesModel" 85 yX7_turned) ∈ ta_ws := ta_i 577 (by decide +kernel) (by decide +kernel)
theorem mw_578 : (Cond.static yX7_turned) ∈ ta_ws := ta_i 578 (by decide +kernel) (by decide +kernel)
theorem mw_579 : (Cond.code yX7_turned prog_9_method_15_code 3 (Option.some FieldType.long)) ∈ ta_ws := ta_i 579 (by decide +kernel) (by decide +kernel)
theorem mw_580 : (Cond.constantLong "StageSharesModel" 89 (31 : Int64)) ∈ ta_ws := ta_i 580 (by decide +kernel) (by decide +kernel)
theorem mw_581 : (Cond.methodLink "StageSharesLaw" 63 yX7_told) ∈ ta_ws := ta_i 581 (by decide +kernel) (by decide +kernel)
theorem mw_582 : (Cond.instanceMethod yX7_told) ∈ ta_ws := ta_i 582 (by decide +kernel) (by decide +kernel)
theorem mw_583 : (Cond.selects "StageSharesModel" yX7_told yX7_told) ∈ ta_ws := ta_i 583 (by decide +kernel) (by decide +kernel)
theorem mw_584 : (Cond.code yX7_told prog_9_method_24_code 2 (Option.some FieldType.int)) ∈ ta_ws := ta_i 584 (by decide +kernel) (by decide +kernel)
theorem mw_585 : (Cond.methodLink "StageSharesLaw" 67 yX7_times) ∈ ta_ws := ta_i 585 (by decide +kernel) (by decide +kernel)
theorem mw_586 : (Cond.instanceMethod yX7_times) ∈ ta_ws := ta_i 586 (by decide +kernel) (by decide +kernel)
theorem mw_587 : (Cond.selects "StageSharesModel" yX7_times yX7_times) ∈ ta_ws := ta_i 587 (by decide +kernel) (by decide +kernel)
theorem mw_588 : (Cond.code yX7_times prog_9_method_25_code 2 (Option.some FieldType.int)) ∈ ta_ws := ta_i 588 (by decide +kernel) (by decide +kernel)
theorem mw_589 : (Cond.methodLink "StageSharesLaw" 71 yX7_doneBy) ∈ ta_ws := ta_i 589 (by decide +kernel) (by decide +kernel)
theorem mw_590 : (Cond.instanceMethod yX7_doneBy) ∈ ta_ws := ta_i 590 (by decide +kernel) (by decide +kernel)
theorem mw_591 : (Cond.selects "StageSharesModel" yX7_doneBy yX7_doneBy) ∈ ta_ws := ta_i 591 (by decide +kernel) (by decide +kernel)
theorem mw_592 : (Cond.code yX7_doneBy prog_9_method_26_code 2 (Option.some FieldType.int)) ∈ ta_ws := ta_i 592 (by decide +kernel) (by decide +kernel)
theorem mw_593 : (Cond.methodLink "StageSharesLaw" 76 yX7_result) ∈ ta_ws := ta_i 593 (by decide +kernel) (by decide +kernel)
theorem mw_594 : (Cond.instanceMethod yX7_result) ∈ ta_ws := ta_i 594 (by decide +kernel) (by decide +kernel)
theorem mw_595 : (Cond.selects "StageSharesModel" yX7_result yX7_result) ∈ ta_ws := ta_i 595 (by decide +kernel) (by decide +kernel)
theorem mw_596 : (Cond.code yX7_result prog_9_method_27_code 2 (Option.some FieldType.long)) ∈ ta_ws := ta_i 596 (by decide +kernel) (by decide +kernel)
theorem mw_597 : (Cond.methodLink "StageSharesLaw" 81 yX7_joined) ∈ ta_ws := ta_i 597 (by decide +kernel) (by decide +kernel)
theorem mw_598 : (Cond.instanceMethod yX7_joined) ∈ ta_ws := ta_i 598 (by decide +kernel) (by decide +kernel)
theorem mw_599 : (Cond.selects "StageSharesModel" yX7_joined yX7_joined) ∈ ta_ws := ta_i 599 (by decide +kernel) (by decide +kernel)
theorem mw_600 : (Cond.code yX7_joined prog_9_method_29_code 1 (Option.some FieldType.long)) ∈ ta_ws := ta_i 600 (by decide +kernel) (by decide +kernel)
theorem mw_601 : (Cond.methodLink "StageSharesModel" 129 yX7_join) ∈ ta_ws := ta_i 601 (by decide +kernel) (by decide +kernel)
theorem mw_603 : (Cond.instanceMethod yX7_join) ∈ ta_ws := ta_i 603 (by decide +kernel) (by decide +kernel)
theorem mw_604 : (Cond.code yX7_join prog_9_method_28_code 5 (Option.some FieldType.long)) ∈ ta_ws := ta_i 604 (by decide +kernel) (by decide +kernel)
theorem mw_605 : (Cond.methodLink "StageSharesLaw" 85 yX7_plain) ∈ ta_ws := ta_i 605 (by decide +kernel) (by decide +kernel)
theorem mw_606 : (Cond.instanceMethod yX7_plain) ∈ ta_ws := ta_i 606 (by decide +kernel) (by decide +kernel)
theorem mw_607 : (Cond.selects "StageSharesModel" yX7_plain yX7_plain) ∈ ta_ws := ta_i 607 (by decide +kernel) (by decide +kernel)
theorem mw_608 : (Cond.code yX7_plain prog_9_method_30_code 1 (Option.some FieldType.long)) ∈ ta_ws := ta_i 608 (by decide +kernel) (by decide +kernel)
theorem mw_609 : (Cond.methodLink "StageSharesLaw" 89 yX7_clear) ∈ ta_ws := ta_i 609 (by decide +kernel) (by decide +kernel)
theorem mw_610 : (Cond.instanceMethod yX7_clear) ∈ ta_ws := ta_i 610 (by decide +kernel) (by decide +kernel)
theorem mw_611 : (Cond.selects "StageSharesModel" yX7_clear yX7_clear) ∈ ta_ws := ta_i 611 (by decide +kernel) (by decide +kernel)
theorem mw_612 : (Cond.code yX7_clear prog_9_method_31_code 1 (Option.none : Option FieldType)) ∈ ta_ws := ta_i 612 (by decide +kernel) (by decide +kernel)
theorem mw_613 : (Cond.constantLong "StageSharesLaw" 21 (4294967295 : Int64)) ∈ ta_ws := ta_i 613 (by decide +kernel) (by decide +kernel)
theorem ux_X0 : ∀ w ∈ u_ws RX0 TX0 3, w ∈ ta_ws := ta_all (by decide +kernel)
theorem ux_X0' {cd : Cond} : ∀ w ∈ u_ws RX0 TX0 3, w ∈ cd :: ta_ws := fun w h => ta_cons w (ux_X0 w h)
theorem nw_X0 : ∀ j, j < 3 → defaultValue (tyX0 j) = vp_V [.null, .int 0, .null] j := by decide +kernel
theorem ux_X1 : ∀ w ∈ u_ws RX1 TX1 15, w ∈ ta_ws := ta_all (by decide +kernel)
theorem ux_X1' {cd : Cond} : ∀ w ∈ u_ws RX1 TX1 15, w ∈ cd :: ta_ws := fun w h => ta_cons w (ux_X1 w h)
theorem nw_X1 : ∀ j, j < 15 → defaultValue (tyX1 j) = vp_V [.null, .null, .null, .null, .null, .null, .null, .null, .long 0, .int 0, .int 0, .int 0, .int 0, .int 0, .int 0] j := by decide +kernel
theorem ux_X2 : ∀ w ∈ u_ws RX2 TX2 5, w ∈ ta_ws := ta_all (by decide +kernel)
theorem ux_X2' {cd : Cond} : ∀ w ∈ u_ws RX2 TX2 5, w ∈ cd :: ta_ws := fun w h => ta_cons w (ux_X2 w h)
theorem nw_X2 : ∀ j, j < 5 → defaultValue (tyX2 j) = vp_V [.null, .null, .null, .int 0, .null] j := by decide +kernel
theorem ux_X3 : ∀ w ∈ u_ws RX3 TX3 2, w ∈ ta_ws := ta_all (by decide +kernel)
theorem ux_X3' {cd : Cond} : ∀ w ∈ u_ws RX3 TX3 2, w ∈ cd :: ta_ws := fun w h => ta_cons w (ux_X3 w h)
theorem nw_X3 : ∀ j, j < 2 → defaultValue (tyX3 j) = vp_V [.int 0, .null] j := by decide +kernel
theorem ux_X4 : ∀ w ∈ u_ws RX4 TX4 3, w ∈ ta_ws := ta_all (by decide +kernel)
theorem ux_X4' {cd : Cond} : ∀ w ∈ u_ws RX4 TX4 3, w ∈ cd :: ta_ws := fun w h => ta_cons w (ux_X4 w h)
theorem nw_X4 : ∀ j, j < 3 → defaultValue (tyX4 j) = vp_V [.null, .int 0, .int 0] j := by decide +kernel
theorem ux_X5 : ∀ w ∈ u_ws RX5 TX5 5, w ∈ ta_ws := ta_all (by decide +kernel)
theorem ux_X5' {cd : Cond} : ∀ w ∈ u_ws RX5 TX5 5, w ∈ cd :: ta_ws := fun w h => ta_cons w (ux_X5 w h)
theorem nw_X5 : ∀ j, j < 5 → defaultValue (tyX5 j) = vp_V [.int 0, .null, .null, .null, .null] j := by decide +kernel
theorem ux_X6 : ∀ w ∈ u_ws RX6 TX6 5, w ∈ ta_ws := ta_all (by decide +kernel)
theorem ux_X6' {cd : Cond} : ∀ w ∈ u_ws RX6 TX6 5, w ∈ cd :: ta_ws := fun w h => ta_cons w (ux_X6 w h)
theorem nw_X6 : ∀ j, j < 5 → defaultValue (tyX6 j) = vp_V [.null, .null, .null, .null, .null] j := by decide +kernel
theorem ux_X7 : ∀ w ∈ u_ws RX7 TX7 21, w ∈ ta_ws := ta_all (by decide +kernel)
theorem ux_X7' {cd : Cond} : ∀ w ∈ u_ws RX7 TX7 21, w ∈ cd :: ta_ws := fun w h => ta_cons w (ux_X7 w h)
theorem nw_X7 : ∀ j, j < 21 → defaultValue (tyX7 j) = vp_V [.int 0, .int 0, .null, .null, .null, .null, .null, .int 0, .null, .null, .null, .null, .null, .null, .null, .int 0, .null, .null, .null, .int 0, .null] j := by decide +kernel
theorem wq_L_15 : ∀ w ∈ wqI RL 15 yX6_init cX6_init 3, w ∈ ta_ws := List.forall_mem_cons.mpr ⟨mw_36, List.forall_mem_cons.mpr ⟨mw_37, List.forall_mem_cons.mpr ⟨mw_24, List.forall_mem_cons.mpr ⟨mw_38, fun _ h => absurd h List.not_mem_nil⟩⟩⟩⟩
theorem wq_X6_20 : ∀ w ∈ wqI RX6 20 yX5_init cX5_init 2, w ∈ ta_ws := List.forall_mem_cons.mpr ⟨mw_50, List.forall_mem_cons.mpr ⟨mw_51, List.forall_mem_cons.mpr ⟨mw_26, List.forall_mem_cons.mpr ⟨mw_52, fun _ h => absurd h List.not_mem_nil⟩⟩⟩⟩
theorem wq_X5_28 : ∀ w ∈ wqV RX5 28 yX5_reset cX5_reset 2 none, w ∈ ta_ws := List.forall_mem_cons.mpr ⟨mw_54, List.forall_mem_cons.mpr ⟨mw_55, List.forall_mem_cons.mpr ⟨mw_56, List.forall_mem_cons.mpr ⟨mw_26, List.forall_mem_cons.mpr ⟨mw_57, fun _ h => absurd h List.not_mem_nil⟩⟩⟩⟩⟩
theorem wq_X6_29 : ∀ w ∈ wqI RX6 29 yX0_init cX0_init 2, w ∈ ta_ws := List.forall_mem_cons.mpr ⟨mw_91, List.forall_mem_cons.mpr ⟨mw_92, List.forall_mem_cons.mpr ⟨mw_27, List.forall_mem_cons.mpr ⟨mw_93, fun _ h => absurd h List.not_mem_nil⟩⟩⟩⟩
theorem wq_X6_36 : ∀ w ∈ wqI RX6 36 yX3_init cX3_init 1, w ∈ ta_ws := List.forall_mem_cons.mpr ⟨mw_111, List.forall_mem_cons.mpr ⟨mw_112, List.forall_mem_cons.mpr ⟨mw_28, List.forall_mem_cons.mpr ⟨mw_113, fun _ h => absurd h List.not_mem_nil⟩⟩⟩⟩
theorem wq_X6_43 : ∀ w ∈ wqI RX6 43 yX1_init cX1_init 4, w ∈ ta_ws := List.forall_mem_cons.mpr ⟨mw_125, List.forall_mem_cons.mpr ⟨mw_126, List.forall_mem_cons.mpr ⟨mw_29, List.forall_mem_cons.mpr ⟨mw_127, fun _ h => absurd h List.not_mem_nil⟩⟩⟩⟩
theorem wq_X1_42 : ∀ w ∈ wqI RX1 42 yX4_init cX4_init 2, w ∈ ta_ws := List.forall_mem_cons.mpr ⟨mw_131, List.forall_mem_cons.mpr ⟨mw_132, List.forall_mem_cons.mpr ⟨mw_30, List.forall_mem_cons.mpr ⟨mw_133, fun _ h => absurd h List.not_mem_nil⟩⟩⟩⟩
theorem wq_X1_51 : ∀ w ∈ wqI RX1 51 yX2_init cX2_init 1, w ∈ ta_ws := List.forall_mem_cons.mpr ⟨mw_147, List.forall_mem_cons.mpr ⟨mw_148, List.forall_mem_cons.mpr ⟨mw_31, List.forall_mem_cons.mpr ⟨mw_149, fun _ h => absurd h List.not_mem_nil⟩⟩⟩⟩
theorem wq_X1_56 : ∀ w ∈ wqV RX1 56 yX1_reset cX1_reset 2 none, w ∈ ta_ws := List.forall_mem_cons.mpr ⟨mw_171, List.forall_mem_cons.mpr ⟨mw_172, List.forall_mem_cons.mpr ⟨mw_173, List.forall_mem_cons.mpr ⟨mw_29, List.forall_mem_cons.mpr ⟨mw_174, fun _ h => absurd h List.not_mem_nil⟩⟩⟩⟩⟩
theorem wq_X1_59 : ∀ w ∈ wqV RX1 59 yX2_gather cX2_gather 3 none, w ∈ ta_ws := List.forall_mem_cons.mpr ⟨mw_175, List.forall_mem_cons.mpr ⟨mw_176, List.forall_mem_cons.mpr ⟨mw_177, List.forall_mem_cons.mpr ⟨mw_31, List.forall_mem_cons.mpr ⟨mw_178, fun _ h => absurd h List.not_mem_nil⟩⟩⟩⟩⟩
theorem wq_L_23 : ∀ w ∈ wqV RL 23 yX6_value cX6_value 4 (some .int), w ∈ ta_ws := List.forall_mem_cons.mpr ⟨mw_244, List.forall_mem_cons.mpr ⟨mw_245, List.forall_mem_cons.mpr ⟨mw_246, List.forall_mem_cons.mpr ⟨mw_24, List.forall_mem_cons.mpr ⟨mw_247, fun _ h => absurd h List.not_mem_nil⟩⟩⟩⟩⟩
theorem wq_X6_54 : ∀ w ∈ wqV RX6 54 yX5_has cX5_has 2 (some .boolean), w ∈ ta_ws := List.forall_mem_cons.mpr ⟨mw_248, List.forall_mem_cons.mpr ⟨mw_249, List.forall_mem_cons.mpr ⟨mw_250, List.forall_mem_cons.mpr ⟨mw_26, List.forall_mem_cons.mpr ⟨mw_251, fun _ h => absurd h List.not_mem_nil⟩⟩⟩⟩⟩
theorem wq_L_28 : ∀ w ∈ wqV RL 28 yX6_steps cX6_steps 4 (some .int), w ∈ ta_ws := List.forall_mem_cons.mpr ⟨mw_252, List.forall_mem_cons.mpr ⟨mw_253, List.forall_mem_cons.mpr ⟨mw_254, List.forall_mem_cons.mpr ⟨mw_24, List.forall_mem_cons.mpr ⟨mw_255, fun _ h => absurd h List.not_mem_nil⟩⟩⟩⟩⟩
theorem wq_L_33 : ∀ w ∈ wqV RL 33 yX6_touch cX6_touch 4 (some .int), w ∈ ta_ws := List.forall_mem_cons.mpr ⟨mw_256, List.forall_mem_cons.mpr ⟨mw_257, List.forall_mem_cons.mpr ⟨mw_258, List.forall_mem_cons.mpr ⟨mw_24, List.forall_mem_cons.mpr ⟨mw_259, fun _ h => absurd h List.not_mem_nil⟩⟩⟩⟩⟩
theorem wq_L_37 : ∀ w ∈ wqV RL 37 yX6_leave cX6_leave 3 (some .int), w ∈ ta_ws := List.forall_mem_cons.mpr ⟨mw_260, List.forall_mem_cons.mpr ⟨mw_261, List.forall_mem_cons.mpr ⟨mw_262, List.forall_mem_cons.mpr ⟨mw_24, List.forall_mem_cons.mpr ⟨mw_263, fun _ h => absurd h List.not_mem_nil⟩⟩⟩⟩⟩
theorem wq_L_42 : ∀ w ∈ wqV RL 42 yX6_batches cX6_batches 1 (some .int), w ∈ ta_ws := List.forall_mem_cons.mpr ⟨mw_264, List.forall_mem_cons.mpr ⟨mw_265, List.forall_mem_cons.mpr ⟨mw_266, List.forall_mem_cons.mpr ⟨mw_24, List.forall_mem_cons.mpr ⟨mw_267, fun _ h => absurd h List.not_mem_nil⟩⟩⟩⟩⟩
theorem wq_X6_72 : ∀ w ∈ wqV RX6 72 yX0_form cX0_form 3 none, w ∈ ta_ws := List.forall_mem_cons.mpr ⟨mw_268, List.forall_mem_cons.mpr ⟨mw_269, List.forall_mem_cons.mpr ⟨mw_270, List.forall_mem_cons.mpr ⟨mw_27, List.forall_mem_cons.mpr ⟨mw_271, fun _ h => absurd h List.not_mem_nil⟩⟩⟩⟩⟩
theorem wq_X0_30 : ∀ w ∈ wqV RX0 30 yX0_place cX0_place 3 (some .int), w ∈ ta_ws := List.forall_mem_cons.mpr ⟨mw_272, List.forall_mem_cons.mpr ⟨mw_274, List.forall_mem_cons.mpr ⟨mw_0, List.forall_mem_cons.mpr ⟨mw_27, List.forall_mem_cons.mpr ⟨mw_275, fun _ h => absurd h List.not_mem_nil⟩⟩⟩⟩⟩
theorem wq_L_47 : ∀ w ∈ wqV RL 47 yX6_batch cX6_batch 2 (some .int), w ∈ ta_ws := List.forall_mem_cons.mpr ⟨mw_276, List.forall_mem_cons.mpr ⟨mw_277, List.forall_mem_cons.mpr ⟨mw_278, List.forall_mem_cons.mpr ⟨mw_24, List.forall_mem_cons.mpr ⟨mw_279, fun _ h => absurd h List.not_mem_nil⟩⟩⟩⟩⟩
theorem wq_L_52 : ∀ w ∈ wqV RL 52 yX6_fail cX6_fail 3 (some .int), w ∈ ta_ws := List.forall_mem_cons.mpr ⟨mw_280, List.forall_mem_cons.mpr ⟨mw_281, List.forall_mem_cons.mpr ⟨mw_282, List.forall_mem_cons.mpr ⟨mw_24, List.forall_mem_cons.mpr ⟨mw_283, fun _ h => absurd h List.not_mem_nil⟩⟩⟩⟩⟩
theorem wq_X6_83 : ∀ w ∈ wqV RX6 83 yX3_has cX3_has 3 (some .boolean), w ∈ ta_ws := List.forall_mem_cons.mpr ⟨mw_284, List.forall_mem_cons.mpr ⟨mw_285, List.forall_mem_cons.mpr ⟨mw_286, List.forall_mem_cons.mpr ⟨mw_28, List.forall_mem_cons.mpr ⟨mw_287, fun _ h => absurd h List.not_mem_nil⟩⟩⟩⟩⟩
theorem wq_X6_87 : ∀ w ∈ wqV RX6 87 yX3_add cX3_add 3 none, w ∈ ta_ws := List.forall_mem_cons.mpr ⟨mw_288, List.forall_mem_cons.mpr ⟨mw_289, List.forall_mem_cons.mpr ⟨mw_290, List.forall_mem_cons.mpr ⟨mw_28, List.forall_mem_cons.mpr ⟨mw_291, fun _ h => absurd h List.not_mem_nil⟩⟩⟩⟩⟩
theorem wq_L_56 : ∀ w ∈ wqV RL 56 yX6_run cX6_run 5 (some .int), w ∈ ta_ws := List.forall_mem_cons.mpr ⟨mw_292, List.forall_mem_cons.mpr ⟨mw_293, List.forall_mem_cons.mpr ⟨mw_294, List.forall_mem_cons.mpr ⟨mw_24, List.forall_mem_cons.mpr ⟨mw_295, fun _ h => absurd h List.not_mem_nil⟩⟩⟩⟩⟩
theorem wq_X6_91 : ∀ w ∈ wqV RX6 91 yX1_goThrough cX1_goThrough 6 (some .int), w ∈ ta_ws := List.forall_mem_cons.mpr ⟨mw_296, List.forall_mem_cons.mpr ⟨mw_297, List.forall_mem_cons.mpr ⟨mw_298, List.forall_mem_cons.mpr ⟨mw_29, List.forall_mem_cons.mpr ⟨mw_299, fun _ h => absurd h List.not_mem_nil⟩⟩⟩⟩⟩
theorem wq_X1_80 : ∀ w ∈ wqV RX1 80 yX1_start cX1_start 5 none, w ∈ ta_ws := List.forall_mem_cons.mpr ⟨mw_300, List.forall_mem_cons.mpr ⟨mw_302, List.forall_mem_cons.mpr ⟨mw_1, List.forall_mem_cons.mpr ⟨mw_29, List.forall_mem_cons.mpr ⟨mw_303, fun _ h => absurd h List.not_mem_nil⟩⟩⟩⟩⟩
theorem wq_X1_95 : ∀ w ∈ wqV RX1 95 yX0_form cX0_form 3 none, w ∈ ta_ws := List.forall_mem_cons.mpr ⟨mw_304, List.forall_mem_cons.mpr ⟨mw_269, List.forall_mem_cons.mpr ⟨mw_270, List.forall_mem_cons.mpr ⟨mw_27, List.forall_mem_cons.mpr ⟨mw_271, fun _ h => absurd h List.not_mem_nil⟩⟩⟩⟩⟩
theorem wq_X1_87 : ∀ w ∈ wqV RX1 87 yX1_doBatch cX1_doBatch 2 (some .int), w ∈ ta_ws := List.forall_mem_cons.mpr ⟨mw_305, List.forall_mem_cons.mpr ⟨mw_307, List.forall_mem_cons.mpr ⟨mw_2, List.forall_mem_cons.mpr ⟨mw_29, List.forall_mem_cons.mpr ⟨mw_308, fun _ h => absurd h List.not_mem_nil⟩⟩⟩⟩⟩
theorem wq_X1_103 : ∀ w ∈ wqV RX1 103 yX4_fill cX4_fill 4 (some .int), w ∈ ta_ws := List.forall_mem_cons.mpr ⟨mw_309, List.forall_mem_cons.mpr ⟨mw_310, List.forall_mem_cons.mpr ⟨mw_311, List.forall_mem_cons.mpr ⟨mw_30, List.forall_mem_cons.mpr ⟨mw_312, fun _ h => absurd h List.not_mem_nil⟩⟩⟩⟩⟩
theorem wq_X1_110 : ∀ w ∈ wqV RX1 110 yX1_choosePlace cX1_choosePlace 2 (some .int), w ∈ ta_ws := List.forall_mem_cons.mpr ⟨mw_313, List.forall_mem_cons.mpr ⟨mw_315, List.forall_mem_cons.mpr ⟨mw_3, List.forall_mem_cons.mpr ⟨mw_29, List.forall_mem_cons.mpr ⟨mw_316, fun _ h => absurd h List.not_mem_nil⟩⟩⟩⟩⟩
theorem wq_X1_113 : ∀ w ∈ wqV RX1 113 yX1_act cX1_act 5 none, w ∈ ta_ws := List.forall_mem_cons.mpr ⟨mw_319, List.forall_mem_cons.mpr ⟨mw_321, List.forall_mem_cons.mpr ⟨mw_4, List.forall_mem_cons.mpr ⟨mw_29, List.forall_mem_cons.mpr ⟨mw_322, fun _ h => absurd h List.not_mem_nil⟩⟩⟩⟩⟩
theorem wq_X1_120 : ∀ w ∈ wqV RX1 120 yX2_liveAt cX2_liveAt 2 (some .int), w ∈ ta_ws := List.forall_mem_cons.mpr ⟨mw_323, List.forall_mem_cons.mpr ⟨mw_324, List.forall_mem_cons.mpr ⟨mw_325, List.forall_mem_cons.mpr ⟨mw_31, List.forall_mem_cons.mpr ⟨mw_326, fun _ h => absurd h List.not_mem_nil⟩⟩⟩⟩⟩
theorem wq_X1_126 : ∀ w ∈ wqV RX1 126 yX1_begin cX1_begin 3 none, w ∈ ta_ws := List.forall_mem_cons.mpr ⟨mw_327, List.forall_mem_cons.mpr ⟨mw_329, List.forall_mem_cons.mpr ⟨mw_5, List.forall_mem_cons.mpr ⟨mw_29, List.forall_mem_cons.mpr ⟨mw_330, fun _ h => absurd h List.not_mem_nil⟩⟩⟩⟩⟩
theorem wq_X1_152 : ∀ w ∈ wqV RX1 152 yX4_takeFirst cX4_takeFirst 2 (some .int), w ∈ ta_ws := List.forall_mem_cons.mpr ⟨mw_331, List.forall_mem_cons.mpr ⟨mw_332, List.forall_mem_cons.mpr ⟨mw_333, List.forall_mem_cons.mpr ⟨mw_30, List.forall_mem_cons.mpr ⟨mw_334, fun _ h => absurd h List.not_mem_nil⟩⟩⟩⟩⟩
theorem wq_X1_159 : ∀ w ∈ wqV RX1 159 yX2_give cX2_give 5 none, w ∈ ta_ws := List.forall_mem_cons.mpr ⟨mw_335, List.forall_mem_cons.mpr ⟨mw_336, List.forall_mem_cons.mpr ⟨mw_337, List.forall_mem_cons.mpr ⟨mw_31, List.forall_mem_cons.mpr ⟨mw_338, fun _ h => absurd h List.not_mem_nil⟩⟩⟩⟩⟩
theorem wq_X1_135 : ∀ w ∈ wqV RX1 135 yX3_has cX3_has 3 (some .boolean), w ∈ ta_ws := List.forall_mem_cons.mpr ⟨mw_339, List.forall_mem_cons.mpr ⟨mw_285, List.forall_mem_cons.mpr ⟨mw_286, List.forall_mem_cons.mpr ⟨mw_28, List.forall_mem_cons.mpr ⟨mw_287, fun _ h => absurd h List.not_mem_nil⟩⟩⟩⟩⟩
theorem wq_X1_141 : ∀ w ∈ wqV RX1 141 yX1_breakDown cX1_breakDown 4 none, w ∈ ta_ws := List.forall_mem_cons.mpr ⟨mw_340, List.forall_mem_cons.mpr ⟨mw_342, List.forall_mem_cons.mpr ⟨mw_6, List.forall_mem_cons.mpr ⟨mw_29, List.forall_mem_cons.mpr ⟨mw_343, fun _ h => absurd h List.not_mem_nil⟩⟩⟩⟩⟩
theorem wq_X1_170 : ∀ w ∈ wqV RX1 170 yX3_remove cX3_remove 3 none, w ∈ ta_ws := List.forall_mem_cons.mpr ⟨mw_344, List.forall_mem_cons.mpr ⟨mw_345, List.forall_mem_cons.mpr ⟨mw_346, List.forall_mem_cons.mpr ⟨mw_28, List.forall_mem_cons.mpr ⟨mw_347, fun _ h => absurd h List.not_mem_nil⟩⟩⟩⟩⟩
theorem wq_X1_173 : ∀ w ∈ wqV RX1 173 yX2_dropAt cX2_dropAt 3 none, w ∈ ta_ws := List.forall_mem_cons.mpr ⟨mw_349, List.forall_mem_cons.mpr ⟨mw_350, List.forall_mem_cons.mpr ⟨mw_351, List.forall_mem_cons.mpr ⟨mw_31, List.forall_mem_cons.mpr ⟨mw_352, fun _ h => absurd h List.not_mem_nil⟩⟩⟩⟩⟩
theorem wq_X1_176 : ∀ w ∈ wqV RX1 176 yX4_putFirst cX4_putFirst 2 none, w ∈ ta_ws := List.forall_mem_cons.mpr ⟨mw_353, List.forall_mem_cons.mpr ⟨mw_354, List.forall_mem_cons.mpr ⟨mw_355, List.forall_mem_cons.mpr ⟨mw_30, List.forall_mem_cons.mpr ⟨mw_356, fun _ h => absurd h List.not_mem_nil⟩⟩⟩⟩⟩
theorem wq_X1_145 : ∀ w ∈ wqV RX1 145 yX1_goOn cX1_goOn 3 none, w ∈ ta_ws := List.forall_mem_cons.mpr ⟨mw_357, List.forall_mem_cons.mpr ⟨mw_359, List.forall_mem_cons.mpr ⟨mw_7, List.forall_mem_cons.mpr ⟨mw_29, List.forall_mem_cons.mpr ⟨mw_360, fun _ h => absurd h List.not_mem_nil⟩⟩⟩⟩⟩
theorem wq_X6_125 : ∀ w ∈ wqS RX6 125 yJ13_rotateLeft_b2ac5 cJ13_rotateLeft_b2ac5 3 (some .long), w ∈ ta_ws := List.forall_mem_cons.mpr ⟨mw_364, List.forall_mem_cons.mpr ⟨mw_365, List.forall_mem_cons.mpr ⟨mw_33, List.forall_mem_cons.mpr ⟨mw_366, fun _ h => absurd h List.not_mem_nil⟩⟩⟩⟩
theorem wq_X1_149 : ∀ w ∈ wqV RX1 149 yX1_finish cX1_finish 3 none, w ∈ ta_ws := List.forall_mem_cons.mpr ⟨mw_368, List.forall_mem_cons.mpr ⟨mw_370, List.forall_mem_cons.mpr ⟨mw_8, List.forall_mem_cons.mpr ⟨mw_29, List.forall_mem_cons.mpr ⟨mw_371, fun _ h => absurd h List.not_mem_nil⟩⟩⟩⟩⟩
theorem wq_X6_95 : ∀ w ∈ wqV RX6 95 yX6_keepOutcomes cX6_keepOutcomes 2 none, w ∈ ta_ws := List.forall_mem_cons.mpr ⟨mw_372, List.forall_mem_cons.mpr ⟨mw_374, List.forall_mem_cons.mpr ⟨mw_9, List.forall_mem_cons.mpr ⟨mw_24, List.forall_mem_cons.mpr ⟨mw_375, fun _ h => absurd h List.not_mem_nil⟩⟩⟩⟩⟩
theorem wq_L_60 : ∀ w ∈ wqV RL 60 yX6_told cX6_told 2 (some .int), w ∈ ta_ws := List.forall_mem_cons.mpr ⟨mw_376, List.forall_mem_cons.mpr ⟨mw_377, List.forall_mem_cons.mpr ⟨mw_378, List.forall_mem_cons.mpr ⟨mw_24, List.forall_mem_cons.mpr ⟨mw_379, fun _ h => absurd h List.not_mem_nil⟩⟩⟩⟩⟩
theorem wq_X6_98 : ∀ w ∈ wqV RX6 98 yX1_figure cX1_figure 2 (some .int), w ∈ ta_ws := List.forall_mem_cons.mpr ⟨mw_380, List.forall_mem_cons.mpr ⟨mw_381, List.forall_mem_cons.mpr ⟨mw_382, List.forall_mem_cons.mpr ⟨mw_29, List.forall_mem_cons.mpr ⟨mw_383, fun _ h => absurd h List.not_mem_nil⟩⟩⟩⟩⟩
theorem wq_L_64 : ∀ w ∈ wqV RL 64 yX6_times cX6_times 2 (some .int), w ∈ ta_ws := List.forall_mem_cons.mpr ⟨mw_384, List.forall_mem_cons.mpr ⟨mw_385, List.forall_mem_cons.mpr ⟨mw_386, List.forall_mem_cons.mpr ⟨mw_24, List.forall_mem_cons.mpr ⟨mw_387, fun _ h => absurd h List.not_mem_nil⟩⟩⟩⟩⟩
theorem wq_L_68 : ∀ w ∈ wqV RL 68 yX6_doneBy cX6_doneBy 2 (some .int), w ∈ ta_ws := List.forall_mem_cons.mpr ⟨mw_388, List.forall_mem_cons.mpr ⟨mw_389, List.forall_mem_cons.mpr ⟨mw_390, List.forall_mem_cons.mpr ⟨mw_24, List.forall_mem_cons.mpr ⟨mw_391, fun _ h => absurd h List.not_mem_nil⟩⟩⟩⟩⟩
theorem wq_L_72 : ∀ w ∈ wqV RL 72 yX6_result cX6_result 2 (some .long), w ∈ ta_ws := List.forall_mem_cons.mpr ⟨mw_392, List.forall_mem_cons.mpr ⟨mw_393, List.forall_mem_cons.mpr ⟨mw_394, List.forall_mem_cons.mpr ⟨mw_24, List.forall_mem_cons.mpr ⟨mw_395, fun _ h => absurd h List.not_mem_nil⟩⟩⟩⟩⟩
theorem wq_L_77 : ∀ w ∈ wqV RL 77 yX6_joined cX6_joined 4 (some .long), w ∈ ta_ws := List.forall_mem_cons.mpr ⟨mw_396, List.forall_mem_cons.mpr ⟨mw_397, List.forall_mem_cons.mpr ⟨mw_398, List.forall_mem_cons.mpr ⟨mw_24, List.forall_mem_cons.mpr ⟨mw_399, fun _ h => absurd h List.not_mem_nil⟩⟩⟩⟩⟩
theorem wq_X6_109 : ∀ w ∈ wqS RX6 109 yX6_joinOne cX6_joinOne 4 (some .long), w ∈ ta_ws := List.forall_mem_cons.mpr ⟨mw_400, List.forall_mem_cons.mpr ⟨mw_401, List.forall_mem_cons.mpr ⟨mw_24, List.forall_mem_cons.mpr ⟨mw_402, fun _ h => absurd h List.not_mem_nil⟩⟩⟩⟩
theorem wq_L_82 : ∀ w ∈ wqV RL 82 yX6_plain cX6_plain 4 (some .long), w ∈ ta_ws := List.forall_mem_cons.mpr ⟨mw_403, List.forall_mem_cons.mpr ⟨mw_404, List.forall_mem_cons.mpr ⟨mw_405, List.forall_mem_cons.mpr ⟨mw_24, List.forall_mem_cons.mpr ⟨mw_406, fun _ h => absurd h List.not_mem_nil⟩⟩⟩⟩⟩
theorem wq_X6_113 : ∀ w ∈ wqV RX6 113 yX5_madeAlone cX5_madeAlone 5 (some .long), w ∈ ta_ws := List.forall_mem_cons.mpr ⟨mw_407, List.forall_mem_cons.mpr ⟨mw_408, List.forall_mem_cons.mpr ⟨mw_409, List.forall_mem_cons.mpr ⟨mw_26, List.forall_mem_cons.mpr ⟨mw_410, fun _ h => absurd h List.not_mem_nil⟩⟩⟩⟩⟩
theorem wq_L_86 : ∀ w ∈ wqV RL 86 yX6_clear cX6_clear 2 none, w ∈ ta_ws := List.forall_mem_cons.mpr ⟨mw_412, List.forall_mem_cons.mpr ⟨mw_413, List.forall_mem_cons.mpr ⟨mw_414, List.forall_mem_cons.mpr ⟨mw_24, List.forall_mem_cons.mpr ⟨mw_415, fun _ h => absurd h List.not_mem_nil⟩⟩⟩⟩⟩
theorem wq_X6_117 : ∀ w ∈ wqV RX6 117 yX5_reset cX5_reset 2 none, w ∈ ta_ws := List.forall_mem_cons.mpr ⟨mw_416, List.forall_mem_cons.mpr ⟨mw_55, List.forall_mem_cons.mpr ⟨mw_56, List.forall_mem_cons.mpr ⟨mw_26, List.forall_mem_cons.mpr ⟨mw_57, fun _ h => absurd h List.not_mem_nil⟩⟩⟩⟩⟩
theorem wq_X6_120 : ∀ w ∈ wqV RX6 120 yX3_reset cX3_reset 2 none, w ∈ ta_ws := List.forall_mem_cons.mpr ⟨mw_417, List.forall_mem_cons.mpr ⟨mw_418, List.forall_mem_cons.mpr ⟨mw_419, List.forall_mem_cons.mpr ⟨mw_28, List.forall_mem_cons.mpr ⟨mw_420, fun _ h => absurd h List.not_mem_nil⟩⟩⟩⟩⟩
theorem wq_X6_121 : ∀ w ∈ wqV RX6 121 yX1_reset cX1_reset 2 none, w ∈ ta_ws := List.forall_mem_cons.mpr ⟨mw_421, List.forall_mem_cons.mpr ⟨mw_172, List.forall_mem_cons.mpr ⟨mw_173, List.forall_mem_cons.mpr ⟨mw_29, List.forall_mem_cons.mpr ⟨mw_174, fun _ h => absurd h List.not_mem_nil⟩⟩⟩⟩⟩
theorem wq_L_9 : ∀ w ∈ wqS RL 9 yL_cell cL_cell 2 (some .int), w ∈ ta_ws := List.forall_mem_cons.mpr ⟨mw_422, List.forall_mem_cons.mpr ⟨mw_423, List.forall_mem_cons.mpr ⟨mw_23, List.forall_mem_cons.mpr ⟨mw_424, fun _ h => absurd h List.not_mem_nil⟩⟩⟩⟩
theorem wq_L_20 : ∀ w ∈ wqI RL 20 yX7_init cX7_init 2, w ∈ ta_ws := List.forall_mem_cons.mpr ⟨mw_427, List.forall_mem_cons.mpr ⟨mw_428, List.forall_mem_cons.mpr ⟨mw_32, List.forall_mem_cons.mpr ⟨mw_429, fun _ h => absurd h List.not_mem_nil⟩⟩⟩⟩
theorem wq_X7_64 : ∀ w ∈ wqV RX7 64 yX7_empty cX7_empty 2 none, w ∈ ta_ws := List.forall_mem_cons.mpr ⟨mw_431, List.forall_mem_cons.mpr ⟨mw_433, List.forall_mem_cons.mpr ⟨mw_10, List.forall_mem_cons.mpr ⟨mw_32, List.forall_mem_cons.mpr ⟨mw_434, fun _ h => absurd h List.not_mem_nil⟩⟩⟩⟩⟩
theorem wq_L_27 : ∀ w ∈ wqV RL 27 yX7_value cX7_value 4 (some .int), w ∈ ta_ws := List.forall_mem_cons.mpr ⟨mw_499, List.forall_mem_cons.mpr ⟨mw_500, List.forall_mem_cons.mpr ⟨mw_501, List.forall_mem_cons.mpr ⟨mw_32, List.forall_mem_cons.mpr ⟨mw_502, fun _ h => absurd h List.not_mem_nil⟩⟩⟩⟩⟩
theorem wq_X7_73 : ∀ w ∈ wqV RX7 73 yX7_isShare cX7_isShare 2 (some .boolean), w ∈ ta_ws := List.forall_mem_cons.mpr ⟨mw_503, List.forall_mem_cons.mpr ⟨mw_505, List.forall_mem_cons.mpr ⟨mw_11, List.forall_mem_cons.mpr ⟨mw_32, List.forall_mem_cons.mpr ⟨mw_506, fun _ h => absurd h List.not_mem_nil⟩⟩⟩⟩⟩
theorem wq_L_32 : ∀ w ∈ wqV RL 32 yX7_steps cX7_steps 4 (some .int), w ∈ ta_ws := List.forall_mem_cons.mpr ⟨mw_507, List.forall_mem_cons.mpr ⟨mw_508, List.forall_mem_cons.mpr ⟨mw_509, List.forall_mem_cons.mpr ⟨mw_32, List.forall_mem_cons.mpr ⟨mw_510, fun _ h => absurd h List.not_mem_nil⟩⟩⟩⟩⟩
theorem wq_L_36 : ∀ w ∈ wqV RL 36 yX7_touch cX7_touch 4 (some .int), w ∈ ta_ws := List.forall_mem_cons.mpr ⟨mw_511, List.forall_mem_cons.mpr ⟨mw_512, List.forall_mem_cons.mpr ⟨mw_513, List.forall_mem_cons.mpr ⟨mw_32, List.forall_mem_cons.mpr ⟨mw_514, fun _ h => absurd h List.not_mem_nil⟩⟩⟩⟩⟩
theorem wq_L_41 : ∀ w ∈ wqV RL 41 yX7_leave cX7_leave 4 (some .int), w ∈ ta_ws := List.forall_mem_cons.mpr ⟨mw_515, List.forall_mem_cons.mpr ⟨mw_516, List.forall_mem_cons.mpr ⟨mw_517, List.forall_mem_cons.mpr ⟨mw_32, List.forall_mem_cons.mpr ⟨mw_518, fun _ h => absurd h List.not_mem_nil⟩⟩⟩⟩⟩
theorem wq_L_46 : ∀ w ∈ wqV RL 46 yX7_batches cX7_batches 1 (some .int), w ∈ ta_ws := List.forall_mem_cons.mpr ⟨mw_519, List.forall_mem_cons.mpr ⟨mw_520, List.forall_mem_cons.mpr ⟨mw_521, List.forall_mem_cons.mpr ⟨mw_32, List.forall_mem_cons.mpr ⟨mw_522, fun _ h => absurd h List.not_mem_nil⟩⟩⟩⟩⟩
theorem wq_X7_77 : ∀ w ∈ wqV RX7 77 yX7_arrange cX7_arrange 6 (some .int), w ∈ ta_ws := List.forall_mem_cons.mpr ⟨mw_523, List.forall_mem_cons.mpr ⟨mw_525, List.forall_mem_cons.mpr ⟨mw_12, List.forall_mem_cons.mpr ⟨mw_32, List.forall_mem_cons.mpr ⟨mw_526, fun _ h => absurd h List.not_mem_nil⟩⟩⟩⟩⟩
theorem wq_L_51 : ∀ w ∈ wqV RL 51 yX7_batch cX7_batch 2 (some .int), w ∈ ta_ws := List.forall_mem_cons.mpr ⟨mw_527, List.forall_mem_cons.mpr ⟨mw_528, List.forall_mem_cons.mpr ⟨mw_529, List.forall_mem_cons.mpr ⟨mw_32, List.forall_mem_cons.mpr ⟨mw_530, fun _ h => absurd h List.not_mem_nil⟩⟩⟩⟩⟩
theorem wq_L_55 : ∀ w ∈ wqV RL 55 yX7_fail cX7_fail 3 (some .int), w ∈ ta_ws := List.forall_mem_cons.mpr ⟨mw_531, List.forall_mem_cons.mpr ⟨mw_532, List.forall_mem_cons.mpr ⟨mw_533, List.forall_mem_cons.mpr ⟨mw_32, List.forall_mem_cons.mpr ⟨mw_534, fun _ h => absurd h List.not_mem_nil⟩⟩⟩⟩⟩
theorem wq_X7_81 : ∀ w ∈ wqV RX7 81 yX7_failureOf cX7_failureOf 4 (some .int), w ∈ ta_ws := List.forall_mem_cons.mpr ⟨mw_535, List.forall_mem_cons.mpr ⟨mw_537, List.forall_mem_cons.mpr ⟨mw_13, List.forall_mem_cons.mpr ⟨mw_32, List.forall_mem_cons.mpr ⟨mw_538, fun _ h => absurd h List.not_mem_nil⟩⟩⟩⟩⟩
theorem wq_L_59 : ∀ w ∈ wqV RL 59 yX7_run cX7_run 7 (some .int), w ∈ ta_ws := List.forall_mem_cons.mpr ⟨mw_539, List.forall_mem_cons.mpr ⟨mw_540, List.forall_mem_cons.mpr ⟨mw_541, List.forall_mem_cons.mpr ⟨mw_32, List.forall_mem_cons.mpr ⟨mw_542, fun _ h => absurd h List.not_mem_nil⟩⟩⟩⟩⟩
theorem wq_X7_101 : ∀ w ∈ wqV RX7 101 yX7_go cX7_go 9 (some .int), w ∈ ta_ws := List.forall_mem_cons.mpr ⟨mw_543, List.forall_mem_cons.mpr ⟨mw_545, List.forall_mem_cons.mpr ⟨mw_14, List.forall_mem_cons.mpr ⟨mw_32, List.forall_mem_cons.mpr ⟨mw_546, fun _ h => absurd h List.not_mem_nil⟩⟩⟩⟩⟩
theorem wq_X7_112 : ∀ w ∈ wqV RX7 112 yX7_isDone cX7_isDone 4 (some .boolean), w ∈ ta_ws := List.forall_mem_cons.mpr ⟨mw_547, List.forall_mem_cons.mpr ⟨mw_549, List.forall_mem_cons.mpr ⟨mw_15, List.forall_mem_cons.mpr ⟨mw_32, List.forall_mem_cons.mpr ⟨mw_550, fun _ h => absurd h List.not_mem_nil⟩⟩⟩⟩⟩
theorem wq_X7_105 : ∀ w ∈ wqV RX7 105 yX7_liveCount cX7_liveCount 3 (some .int), w ∈ ta_ws := List.forall_mem_cons.mpr ⟨mw_551, List.forall_mem_cons.mpr ⟨mw_553, List.forall_mem_cons.mpr ⟨mw_16, List.forall_mem_cons.mpr ⟨mw_32, List.forall_mem_cons.mpr ⟨mw_554, fun _ h => absurd h List.not_mem_nil⟩⟩⟩⟩⟩
theorem wq_X7_119 : ∀ w ∈ wqV RX7 119 yX7_liveAt cX7_liveAt 6 (some .int), w ∈ ta_ws := List.forall_mem_cons.mpr ⟨mw_557, List.forall_mem_cons.mpr ⟨mw_559, List.forall_mem_cons.mpr ⟨mw_17, List.forall_mem_cons.mpr ⟨mw_32, List.forall_mem_cons.mpr ⟨mw_560, fun _ h => absurd h List.not_mem_nil⟩⟩⟩⟩⟩
theorem wq_X7_123 : ∀ w ∈ wqV RX7 123 yX7_take cX7_take 4 none, w ∈ ta_ws := List.forall_mem_cons.mpr ⟨mw_561, List.forall_mem_cons.mpr ⟨mw_563, List.forall_mem_cons.mpr ⟨mw_18, List.forall_mem_cons.mpr ⟨mw_32, List.forall_mem_cons.mpr ⟨mw_564, fun _ h => absurd h List.not_mem_nil⟩⟩⟩⟩⟩
theorem wq_X7_126 : ∀ w ∈ wqV RX7 126 yX7_step cX7_step 4 none, w ∈ ta_ws := List.forall_mem_cons.mpr ⟨mw_565, List.forall_mem_cons.mpr ⟨mw_567, List.forall_mem_cons.mpr ⟨mw_19, List.forall_mem_cons.mpr ⟨mw_32, List.forall_mem_cons.mpr ⟨mw_568, fun _ h => absurd h List.not_mem_nil⟩⟩⟩⟩⟩
theorem wq_X7_97 : ∀ w ∈ wqV RX7 97 yX7_forget cX7_forget 3 none, w ∈ ta_ws := List.forall_mem_cons.mpr ⟨mw_569, List.forall_mem_cons.mpr ⟨mw_571, List.forall_mem_cons.mpr ⟨mw_20, List.forall_mem_cons.mpr ⟨mw_32, List.forall_mem_cons.mpr ⟨mw_572, fun _ h => absurd h List.not_mem_nil⟩⟩⟩⟩⟩
theorem wq_X7_108 : ∀ w ∈ wqV RX7 108 yX7_resultOf cX7_resultOf 5 (some .long), w ∈ ta_ws := List.forall_mem_cons.mpr ⟨mw_573, List.forall_mem_cons.mpr ⟨mw_575, List.forall_mem_cons.mpr ⟨mw_21, List.forall_mem_cons.mpr ⟨mw_32, List.forall_mem_cons.mpr ⟨mw_576, fun _ h => absurd h List.not_mem_nil⟩⟩⟩⟩⟩
theorem wq_X7_85 : ∀ w ∈ wqS RX7 85 yX7_turned cX7_turned 3 (some .long), w ∈ ta_ws := List.forall_mem_cons.mpr ⟨mw_577, List.forall_mem_cons.mpr ⟨mw_578, List.forall_mem_cons.mpr ⟨mw_32, List.forall_mem_cons.mpr ⟨mw_579, fun _ h => absurd h List.not_mem_nil⟩⟩⟩⟩
theorem wq_L_63 : ∀ w ∈ wqV RL 63 yX7_told cX7_told 2 (some .int), w ∈ ta_ws := List.forall_mem_cons.mpr ⟨mw_581, List.forall_mem_cons.mpr ⟨mw_582, List.forall_mem_cons.mpr ⟨mw_583, List.forall_mem_cons.mpr ⟨mw_32, List.forall_mem_cons.mpr ⟨mw_584, fun _ h => absurd h List.not_mem_nil⟩⟩⟩⟩⟩
theorem wq_L_67 : ∀ w ∈ wqV RL 67 yX7_times cX7_times 2 (some .int), w ∈ ta_ws := List.forall_mem_cons.mpr ⟨mw_585, List.forall_mem_cons.mpr ⟨mw_586, List.forall_mem_cons.mpr ⟨mw_587, List.forall_mem_cons.mpr ⟨mw_32, List.forall_mem_cons.mpr ⟨mw_588, fun _ h => absurd h List.not_mem_nil⟩⟩⟩⟩⟩
theorem wq_L_71 : ∀ w ∈ wqV RL 71 yX7_doneBy cX7_doneBy 2 (some .int), w ∈ ta_ws := List.forall_mem_cons.mpr ⟨mw_589, List.forall_mem_cons.mpr ⟨mw_590, List.forall_mem_cons.mpr ⟨mw_591, List.forall_mem_cons.mpr ⟨mw_32, List.forall_mem_cons.mpr ⟨mw_592, fun _ h => absurd h List.not_mem_nil⟩⟩⟩⟩⟩
theorem wq_L_76 : ∀ w ∈ wqV RL 76 yX7_result cX7_result 2 (some .long), w ∈ ta_ws := List.forall_mem_cons.mpr ⟨mw_593, List.forall_mem_cons.mpr ⟨mw_594, List.forall_mem_cons.mpr ⟨mw_595, List.forall_mem_cons.mpr ⟨mw_32, List.forall_mem_cons.mpr ⟨mw_596, fun _ h => absurd h List.not_mem_nil⟩⟩⟩⟩⟩
theorem wq_L_81 : ∀ w ∈ wqV RL 81 yX7_joined cX7_joined 1 (some .long), w ∈ ta_ws := List.forall_mem_cons.mpr ⟨mw_597, List.forall_mem_cons.mpr ⟨mw_598, List.forall_mem_cons.mpr ⟨mw_599, List.forall_mem_cons.mpr ⟨mw_32, List.forall_mem_cons.mpr ⟨mw_600, fun _ h => absurd h List.not_mem_nil⟩⟩⟩⟩⟩
theorem wq_X7_129 : ∀ w ∈ wqV RX7 129 yX7_join cX7_join 5 (some .long), w ∈ ta_ws := List.forall_mem_cons.mpr ⟨mw_601, List.forall_mem_cons.mpr ⟨mw_603, List.forall_mem_cons.mpr ⟨mw_22, List.forall_mem_cons.mpr ⟨mw_32, List.forall_mem_cons.mpr ⟨mw_604, fun _ h => absurd h List.not_mem_nil⟩⟩⟩⟩⟩
theorem wq_L_85 : ∀ w ∈ wqV RL 85 yX7_plain cX7_plain 1 (some .long), w ∈ ta_ws := List.forall_mem_cons.mpr ⟨mw_605, List.forall_mem_cons.mpr ⟨mw_606, List.forall_mem_cons.mpr ⟨mw_607, List.forall_mem_cons.mpr ⟨mw_32, List.forall_mem_cons.mpr ⟨mw_608, fun _ h => absurd h List.not_mem_nil⟩⟩⟩⟩⟩
theorem wq_L_89 : ∀ w ∈ wqV RL 89 yX7_clear cX7_clear 1 none, w ∈ ta_ws := List.forall_mem_cons.mpr ⟨mw_609, List.forall_mem_cons.mpr ⟨mw_610, List.forall_mem_cons.mpr ⟨mw_611, List.forall_mem_cons.mpr ⟨mw_32, List.forall_mem_cons.mpr ⟨mw_612, fun _ h => absurd h List.not_mem_nil⟩⟩⟩⟩⟩
theorem wq_X1_166 : ∀ w ∈ wqN yX6_makeStep cX6_makeStep 5 (some .long), w ∈ ta_ws := List.forall_mem_cons.mpr ⟨mw_362, List.forall_mem_cons.mpr ⟨mw_24, List.forall_mem_cons.mpr ⟨mw_363, fun _ h => absurd h List.not_mem_nil⟩⟩⟩
theorem wq_X5_31 : ∀ w ∈ wqN yX6_makeStep cX6_makeStep 5 (some .long), w ∈ ta_ws := List.forall_mem_cons.mpr ⟨mw_362, List.forall_mem_cons.mpr ⟨mw_24, List.forall_mem_cons.mpr ⟨mw_363, fun _ h => absurd h List.not_mem_nil⟩⟩⟩
end
section
theorem arrV_cg {cI : ClassId} {N : Nat} {f g : Nat → Value} (h : ∀ j, j < N → f j = g j) : arrV cI N f = arrV cI N g := by
  unfold arrV
  congr 1
  congr 1
  funext j
  exact h j.val j.isLt
theorem cg_w {D : va_G} {cl : List vw_C} {A : Nat → Prop} {ws : va_W} {H : Heap} {a q0 : Nat} {cA : ClassId} {x y : vp_A} (hP : va_P D cl ws H) (hD : va_D A ws) (ha : ws[q0]? = some (a, .inl (cA, x))) (he : vp_cell cA x = vp_cell cA y) : va_P D cl (ws.set q0 (a, .inl (cA, y))) H ∧ va_D A (ws.set q0 (a, .inl (cA, y))) := by
  refine ⟨hP.set hD ha ?_ (fun _ _ => rfl), hD.set ha⟩
  have h1 := hP q0 _ ha
  show H[a]? = some (vp_cell cA y)
  rw [← he]
  exact h1
theorem cg_i {D : va_G} {cl : List vw_C} {A : Nat → Prop} {ws : va_W} {H : Heap} {a n : Nat} {cA : ClassId} {f g : Nat → Int32} (hP : va_P D cl ws H) (hD : va_D A ws) (q0 : Nat) (ha : ws[q0]? = some (a, .inl (cA, n, .inl f))) (h : ∀ j, j < n → f j = g j) : va_P D cl (ws.set q0 (a, .inl (cA, n, .inl g))) H ∧ va_D A (ws.set q0 (a, .inl (cA, n, .inl g))) :=
  cg_w hP hD ha (by rw [vp_cell_i, vp_cell_i]; exact arrV_cg (fun j hj => by rw [h j hj]))
theorem cg_l {D : va_G} {cl : List vw_C} {A : Nat → Prop} {ws : va_W} {H : Heap} {a n : Nat} {cA : ClassId} {f g : Nat → Int64} (hP : va_P D cl ws H) (hD : va_D A ws) (q0 : Nat) (ha : ws[q0]? = some (a, .inl (cA, n, .inr (.inl f)))) (h : ∀ j, j < n → f j = g j) : va_P D cl (ws.set q0 (a, .inl (cA, n, .inr (.inl g)))) H ∧ va_D A (ws.set q0 (a, .inl (cA, n, .inr (.inl g)))) :=
  cg_w hP hD ha (by rw [vp_cell_l, vp_cell_l]; exact arrV_cg (fun j hj => by rw [h j hj]))
theorem fl_i {f : Nat → Int32} {i : Nat} {x : Int32} (h : ∀ j, j < i → f j = x) : ∀ j, j < i + 1 → upd f i x j = x := by
  intro j hj
  unfold upd
  split
  · rfl
  · exact h j (by omega)
theorem fl_l {f : Nat → Int64} {i : Nat} {x : Int64} (h : ∀ j, j < i → f j = x) : ∀ j, j < i + 1 → vp_updL f i x j = x := by
  intro j hj
  unfold vp_updL
  split
  · rfl
  · exact h j (by omega)
def rotl (x : Int64) (d : Int32) : Int64 := (x <<< (d.toInt64 &&& 63)) ||| (x.toUInt64 >>> ((-d).toInt64.toUInt64 &&& Int64.toUInt64 63)).toInt64
def mkst (a v : Int64) (k : Int32) : Int64 := (rotl a 7 ^^^ v) * 31 + k.toInt64
def jn1 (j r : Int64) : Int64 := rotl j 5 ^^^ r
/-- what k steps make of a share of value v -/
def stpF (v : Int64) : Nat → Int64
  | 0 => v
  | k + 1 => mkst (stpF v k) v (nI k)
def hasS (n : Nat) (x : Int32) : Int32 := if x < 0 ∨ nI n ≤ x then 0 else 1
theorem ne_omega {a b : Nat} (h : ¬ a = b) : a ≠ b := h
end
section
/-! pure rows: batches -/
theorem neg1_ne {b : Nat} (h : b < 2 ^ 31) : ¬ (-1 : Int32) = nI b := fun e => by
  have h1 := congrArg Int32.toInt e
  rw [nI_toInt h] at h1
  have h2 : (-1 : Int32).toInt = -1 := by decide
  rw [h2] at h1
  omega
theorem i_oa (a b x : Int32) : (a ||| b) &&& x = 0 ↔ a &&& x = 0 ∧ b &&& x = 0 := by
  have e : (a ||| b) &&& x = (a &&& x) ||| (b &&& x) := by
    apply Int32.toBitVec_inj.mp
    simp only [Int32.toBitVec_and, Int32.toBitVec_or]
    ext i
    simp only [BitVec.getElem_and, BitVec.getElem_or]
    cases a.toBitVec[i] <;> cases b.toBitVec[i] <;> cases x.toBitVec[i] <;> rfl
  rw [e, Int32.or_eq_zero_iff]
def IsBat (n : Nat) (lo reg bo : Nat → Int32) : Prop := ∀ s, s < n → (¬ lo s = 0 ∧ bo s = -1) ∨ (lo s = 0 ∧ ∃ b, b ≤ s ∧ bo s = nI b ∧ (∀ t, t < s → bo t = nI b → reg t &&& reg s = 0) ∧ ∀ b', b' < b → ∃ t, t < s ∧ bo t = nI b' ∧ ¬ reg t &&& reg s = 0)
def IsCnt (n : Nat) (bo : Nat → Int32) (c : Nat) : Prop := (∀ s b, s < n → b < 2 ^ 31 → bo s = nI b → b < c) ∧ (∀ b, b < c → ∃ s, s < n ∧ bo s = nI b)
def RgOk (i c : Nat) (bo reg rg : Nat → Int32) : Prop := ∀ b, b < c → ∀ x, (rg b &&& x = 0 ↔ ∀ t, t < i → bo t = nI b → reg t &&& x = 0)
theorem pl_ex (rg : Nat → Int32) (t : Int32) : ∀ c : Nat, (∃ b, b < c ∧ (∀ j, j < b → ¬ rg j &&& t = 0) ∧ rg b &&& t = 0) ∨ (∀ j, j < c → ¬ rg j &&& t = 0) := by
  intro c
  induction c with
  | zero => exact Or.inr (fun j h => absurd h (Nat.not_lt_zero j))
  | succ c ih =>
    rcases ih with ⟨b, h1, h2, h3⟩ | h
    · exact Or.inl ⟨b, by omega, h2, h3⟩
    · by_cases hc : rg c &&& t = 0
      · exact Or.inl ⟨c, by omega, h, hc⟩
      · refine Or.inr (fun j hj => ?_)
        rcases Nat.lt_or_ge j c with q | q
        · exact h j q
        · have e : j = c := by omega
          rw [e]; exact hc
theorem bat_keep {i n : Nat} {lo reg bo : Nat → Int32} {x : Int32} (h : IsBat i lo reg bo) : ∀ s, s < i → (¬ lo s = 0 ∧ upd bo i x s = -1) ∨ (lo s = 0 ∧ ∃ b, b ≤ s ∧ upd bo i x s = nI b ∧ (∀ t, t < s → upd bo i x t = nI b → reg t &&& reg s = 0) ∧ ∀ b', b' < b → ∃ t, t < s ∧ upd bo i x t = nI b' ∧ ¬ reg t &&& reg s = 0) := by
  intro s hs
  have hk : ∀ t, t < i → upd bo i x t = bo t := fun t ht => pk_un (by omega)
  rw [hk s hs]
  rcases h s hs with h1 | ⟨h1, b, h2, h3, h4, h5⟩
  · exact Or.inl h1
  · refine Or.inr ⟨h1, b, h2, h3, fun t ht e => h4 t ht (by rw [← hk t (by omega)]; exact e), fun b' hb' => ?_⟩
    obtain ⟨t, q1, q2, q3⟩ := h5 b' hb'
    exact ⟨t, q1, by rw [hk t (by omega)]; exact q2, q3⟩
theorem bat_left {i c : Nat} {lo reg bo rg : Nat → Int32} (hi : i < 2 ^ 31) (hlo : ¬ lo i = 0) (h1 : IsBat i lo reg bo) (h2 : IsCnt i bo c) (h3 : c ≤ i) (h4 : RgOk i c bo reg rg) :
    IsBat (i + 1) lo reg (upd bo i (-1)) ∧ IsCnt (i + 1) (upd bo i (-1)) c ∧ RgOk (i + 1) c (upd bo i (-1)) reg rg := by
  have hk : ∀ t, t < i → upd bo i (-1) t = bo t := fun t ht => pk_un (by omega)
  refine ⟨fun s hs => ?_, ⟨fun s b hs hb e => ?_, fun b hb => ?_⟩, fun b hb x => ?_⟩
  · rcases Nat.lt_or_ge s i with q | q
    · exact bat_keep (n := i) h1 s q
    · obtain rfl : s = i := by omega
      exact Or.inl ⟨hlo, pk_us⟩
  · rcases Nat.lt_or_ge s i with q | q
    · exact h2.1 s b q hb (by rw [← hk s q]; exact e)
    · obtain rfl : s = i := by omega
      rw [pk_us] at e
      exact absurd e (neg1_ne hb)
  · obtain ⟨s, q1, q2⟩ := h2.2 b hb
    exact ⟨s, by omega, by rw [hk s q1]; exact q2⟩
  · rw [h4 b hb x]
    constructor
    · intro h t ht e
      rcases Nat.lt_or_ge t i with q | q
      · exact h t q (by rw [← hk t q]; exact e)
      · obtain rfl : t = i := by omega
        rw [pk_us] at e
        exact absurd e (neg1_ne (by omega))
    · intro h t ht e
      exact h t (by omega) (by rw [hk t ht]; exact e)
theorem bat_old {i c b : Nat} {lo reg bo rg : Nat → Int32} (hi : i < 2 ^ 31) (hlo : lo i = 0) (h1 : IsBat i lo reg bo) (h2 : IsCnt i bo c) (h3 : c ≤ i) (h4 : RgOk i c bo reg rg) (hb : b < c) (g1 : ∀ j, j < b → ¬ rg j &&& reg i = 0) (g2 : rg b &&& reg i = 0) :
    IsBat (i + 1) lo reg (upd bo i (nI b)) ∧ IsCnt (i + 1) (upd bo i (nI b)) c ∧ RgOk (i + 1) c (upd bo i (nI b)) reg (upd rg b (rg b ||| reg i)) := by
  have hk : ∀ t, t < i → upd bo i (nI b) t = bo t := fun t ht => pk_un (by omega)
  refine ⟨fun s hs => ?_, ⟨fun s b1 hs hb1 e => ?_, fun b1 hb1 => ?_⟩, fun b1 hb1 x => ?_⟩
  · rcases Nat.lt_or_ge s i with q | q
    · exact bat_keep (n := i) h1 s q
    · obtain rfl : s = i := by omega
      refine Or.inr ⟨hlo, b, by omega, pk_us, fun t ht e => (h4 b hb _).mp g2 t ht (by rw [← hk t ht]; exact e), fun b' hb' => ?_⟩
      have hne := g1 b' hb'
      rw [h4 b' (by omega)] at hne
      obtain ⟨t, ht⟩ := Classical.not_forall.mp hne
      obtain ⟨ht1, ht2⟩ := Classical.not_imp.mp ht
      obtain ⟨ht3, ht4⟩ := Classical.not_imp.mp ht2
      exact ⟨t, ht1, by rw [hk t ht1]; exact ht3, ht4⟩
  · rcases Nat.lt_or_ge s i with q | q
    · exact h2.1 s b1 q hb1 (by rw [← hk s q]; exact e)
    · obtain rfl : s = i := by omega
      rw [pk_us] at e
      have := (nI_eq (by omega) hb1).mp e
      omega
  · obtain ⟨s, q1, q2⟩ := h2.2 b1 hb1
    exact ⟨s, by omega, by rw [hk s q1]; exact q2⟩
  · by_cases hbb : b1 = b
    · subst hbb
      rw [pk_us, i_oa, h4 b1 hb x]
      constructor
      · intro h t ht e
        rcases Nat.lt_or_ge t i with q | q
        · exact h.1 t q (by rw [← hk t q]; exact e)
        · obtain rfl : t = i := by omega
          exact h.2
      · intro h
        exact ⟨fun t ht e => h t (by omega) (by rw [hk t ht]; exact e), h i (by omega) pk_us⟩
    · rw [pk_un hbb, h4 b1 hb1 x]
      constructor
      · intro h t ht e
        rcases Nat.lt_or_ge t i with q | q
        · exact h t q (by rw [← hk t q]; exact e)
        · obtain rfl : t = i := by omega
          rw [pk_us] at e
          exact absurd ((nI_eq (by omega) (by omega)).mp e).symm hbb
      · intro h t ht e
        exact h t (by omega) (by rw [hk t ht]; exact e)
theorem bat_new {i c : Nat} {lo reg bo rg : Nat → Int32} (hi : i < 2 ^ 31) (hlo : lo i = 0) (h1 : IsBat i lo reg bo) (h2 : IsCnt i bo c) (h3 : c ≤ i) (h4 : RgOk i c bo reg rg) (g1 : ∀ j, j < c → ¬ rg j &&& reg i = 0) :
    IsBat (i + 1) lo reg (upd bo i (nI c)) ∧ IsCnt (i + 1) (upd bo i (nI c)) (c + 1) ∧ RgOk (i + 1) (c + 1) (upd bo i (nI c)) reg (upd rg c (reg i)) := by
  have hk : ∀ t, t < i → upd bo i (nI c) t = bo t := fun t ht => pk_un (by omega)
  have hno : ∀ t, t < i → ¬ bo t = nI c := fun t ht e => Nat.lt_irrefl c (h2.1 t c ht (by omega) e)
  refine ⟨fun s hs => ?_, ⟨fun s b1 hs hb1 e => ?_, fun b1 hb1 => ?_⟩, fun b1 hb1 x => ?_⟩
  · rcases Nat.lt_or_ge s i with q | q
    · exact bat_keep (n := i) h1 s q
    · obtain rfl : s = i := by omega
      refine Or.inr ⟨hlo, c, by omega, pk_us, fun t ht e => absurd (by rw [← hk t ht]; exact e) (hno t ht), fun b' hb' => ?_⟩
      have hne := g1 b' hb'
      rw [h4 b' (by omega)] at hne
      obtain ⟨t, ht⟩ := Classical.not_forall.mp hne
      obtain ⟨ht1, ht2⟩ := Classical.not_imp.mp ht
      obtain ⟨ht3, ht4⟩ := Classical.not_imp.mp ht2
      exact ⟨t, ht1, by rw [hk t ht1]; exact ht3, ht4⟩
  · rcases Nat.lt_or_ge s i with q | q
    · have := h2.1 s b1 q hb1 (by rw [← hk s q]; exact e)
      omega
    · obtain rfl : s = i := by omega
      rw [pk_us] at e
      have := (nI_eq (by omega) hb1).mp e
      omega
  · rcases Nat.lt_or_ge b1 c with q | q
    · obtain ⟨s, q1, q2⟩ := h2.2 b1 q
      exact ⟨s, by omega, by rw [hk s q1]; exact q2⟩
    · obtain rfl : b1 = c := by omega
      exact ⟨i, by omega, pk_us⟩
  · by_cases hbb : b1 = c
    · subst hbb
      rw [pk_us]
      constructor
      · intro h t ht e
        rcases Nat.lt_or_ge t i with q | q
        · exact absurd (by rw [← hk t q]; exact e) (hno t q)
        · obtain rfl : t = i := by omega
          exact h
      · intro h
        exact h i (by omega) pk_us
    · rw [pk_un hbb, h4 b1 (by omega) x]
      constructor
      · intro h t ht e
        rcases Nat.lt_or_ge t i with q | q
        · exact h t q (by rw [← hk t q]; exact e)
        · obtain rfl : t = i := by omega
          rw [pk_us] at e
          exact absurd ((nI_eq (by omega) (by omega)).mp e).symm hbb
      · intro h t ht e
        exact h t (by omega) (by rw [hk t ht]; exact e)
theorem bat_0 {lo reg bo : Nat → Int32} : IsBat 0 lo reg bo := fun s h => absurd h (Nat.not_lt_zero s)
theorem cnt_0 {bo : Nat → Int32} : IsCnt 0 bo 0 := ⟨fun s _ h => absurd h (Nat.not_lt_zero s), fun b h => absurd h (Nat.not_lt_zero b)⟩
theorem rg_0 {bo reg rg : Nat → Int32} {i : Nat} : RgOk i 0 bo reg rg := fun b h => absurd h (Nat.not_lt_zero b)
/-- the batches are what the regions and who is left out make them -/
theorem bat_uniq {n : Nat} {lo reg lo' reg' bo bo' : Nat → Int32} (hn : n < 2 ^ 31) (hl : ∀ s, s < n → (lo s = 0 ↔ lo' s = 0)) (hg : ∀ s, s < n → reg s = reg' s) (h : IsBat n lo reg bo) (h' : IsBat n lo' reg' bo') : ∀ s, s < n → bo s = bo' s := by
  intro s
  induction s using Nat.strongRecOn with
  | _ s ih =>
    intro hs
    rcases h s hs with ⟨q1, q2⟩ | ⟨q1, b, q2, q3, q4, q5⟩ <;> rcases h' s hs with ⟨r1, r2⟩ | ⟨r1, b', r2, r3, r4, r5⟩
    · rw [q2, r2]
    · exact absurd ((hl s hs).mpr r1) q1
    · exact absurd ((hl s hs).mp q1) r1
    · have e : b = b' := by
        rcases Nat.lt_trichotomy b b' with z | z | z
        · obtain ⟨t, t1, t2, t3⟩ := r5 b z
          rw [← hg t (by omega), ← hg s hs] at t3
          exact absurd (q4 t t1 (by rw [ih t t1 (by omega)]; exact t2)) t3
        · exact z
        · obtain ⟨t, t1, t2, t3⟩ := q5 b' z
          rw [hg t (by omega), hg s hs] at t3
          exact absurd (r4 t t1 (by rw [← ih t t1 (by omega)]; exact t2)) t3
      rw [q3, r3, e]
theorem cnt_uniq {n c c' : Nat} {bo bo' : Nat → Int32} (hc : c < 2 ^ 31) (hc' : c' < 2 ^ 31) (he : ∀ s, s < n → bo s = bo' s) (h : IsCnt n bo c) (h' : IsCnt n bo' c') : c = c' := by
  rcases Nat.lt_trichotomy c c' with z | z | z
  · obtain ⟨s, s1, s2⟩ := h'.2 c z
    exact absurd (h.1 s c s1 hc (by rw [he s s1]; exact s2)) (Nat.lt_irrefl c)
  · exact z
  · obtain ⟨s, s1, s2⟩ := h.2 c' z
    exact absurd (h'.1 s c' s1 hc' (by rw [← he s s1]; exact s2)) (Nat.lt_irrefl c')
end
section
/-! pure rows: masks, rows of waiting shares -/
def bitm (t : Int32) : Int64 := (1 : Int64) <<< (t.toInt64 &&& 63)
def fhas (v : Int64) (t : Int32) : Int32 := if v &&& bitm t = 0 then 0 else 1
theorem lg_cmp_0 {a b : Int64} : lg_cmp a b = 0 ↔ a = b := lg_cmp_eq a b
def memB (bo : Nat → Int32) (b : Int32) (i : Nat) : List Nat := (List.range i).filter (fun s => decide (bo s = b))
theorem memB_0 {bo : Nat → Int32} {b : Int32} : memB bo b 0 = [] := rfl
theorem memB_in {bo : Nat → Int32} {b : Int32} {i : Nat} (h : bo i = b) : memB bo b (i + 1) = memB bo b i ++ [i] := by
  unfold memB
  rw [List.range_succ, List.filter_append]
  simp [h]
theorem memB_out {bo : Nat → Int32} {b : Int32} {i : Nat} (h : ¬ bo i = b) : memB bo b (i + 1) = memB bo b i := by
  unfold memB
  rw [List.range_succ, List.filter_append]
  simp [h]
theorem memB_le {bo : Nat → Int32} {b : Int32} (i : Nat) : (memB bo b i).length ≤ i := by
  unfold memB
  exact Nat.le_trans (List.length_filter_le _ _) (by simp)
def RowIs (row : Nat → Int32) (f : Nat) (q : List Nat) : Prop := ∀ i s, q[i]? = some s → row (f + i) = nI s
theorem row_nil {row : Nat → Int32} {f : Nat} : RowIs row f [] := fun i s h => by simp at h
theorem row_snoc {row : Nat → Int32} {q : List Nat} {x : Nat} (h : RowIs row 0 q) : RowIs (upd row q.length (nI x)) 0 (q ++ [x]) := by
  intro i s hi
  rw [Nat.zero_add]
  by_cases hq : i < q.length
  · rw [List.getElem?_append_left hq] at hi
    have := h i s hi
    rw [Nat.zero_add] at this
    rw [pk_un (by omega), this]
  · rw [List.getElem?_append_right (by omega)] at hi
    have hz : i - q.length < 1 := (List.getElem?_eq_some_iff.mp hi).1
    have e : i = q.length := by omega
    subst e
    simp at hi
    rw [pk_us, hi]
theorem row_tail {row : Nat → Int32} {f x : Nat} {q : List Nat} (h : RowIs row f (x :: q)) : row f = nI x ∧ RowIs row (f + 1) q := by
  refine ⟨h 0 x rfl, fun i s hi => ?_⟩
  have := h (i + 1) s (by simpa using hi)
  rw [show f + (i + 1) = f + 1 + i by omega] at this
  exact this
theorem row_cons {row : Nat → Int32} {f x : Nat} {q : List Nat} (h : RowIs row (f + 1) q) : RowIs (upd row f (nI x)) f (x :: q) := by
  intro i s hi
  cases i with
  | zero => simp at hi; rw [Nat.add_zero, pk_us, hi]
  | succ i =>
    simp at hi
    rw [pk_un (by omega), show f + (i + 1) = f + 1 + i by omega]
    exact h i s hi
end
section
-- rows of the family wb_ pasted from kit/laws/BITS.to-paste
theorem wb_tb (n : Nat) : (lN n).toBitVec = BitVec.ofNat 64 n := rfl
theorem wb_inj {a b : Int64} (h : a.toBitVec = b.toBitVec) : a = b := Int64.toBitVec_inj.mp h
theorem wb_tn {n : Nat} (h : n < 2 ^ 64) : (lN n).toBitVec.toNat = n := by rw [wb_tb, BitVec.toNat_ofNat, Nat.mod_eq_of_lt h]
theorem wb_of (x : Int64) : ∃ n, n < 2 ^ 64 ∧ x = lN n := ⟨x.toBitVec.toNat, x.toBitVec.isLt, wb_inj (by rw [wb_tb]; simp)⟩
theorem wb_of32 (x : Int32) : ∃ n, n < 2 ^ 32 ∧ x = nI n := ⟨x.toBitVec.toNat, x.toBitVec.isLt, Int32.toBitVec_inj.mp (by show _ = BitVec.ofNat 32 _; simp)⟩
theorem wb_c : ∀ k, k < 64 → ((nI k).toInt64 &&& 63) = lN k := by decide +kernel
theorem wb_cu : ∀ k, k < 64 → ((nI k).toInt64.toUInt64 &&& Int64.toUInt64 63) = UInt64.ofNat k := by decide +kernel
theorem wb_sm : ∀ k, k < 64 → (BitVec.ofNat 64 k).smod 64 = BitVec.ofNat 64 k := by decide +kernel
theorem wb_pw {a b : Nat} (h : a ≤ b) : 2 ^ b = 2 ^ a * 2 ^ (b - a) := by rw [← Nat.pow_add]; congr 1; omega
theorem wb_lt2 {a b : Nat} (h : a < b) : 2 ^ a < 2 ^ b := Nat.pow_lt_pow_right (by decide) h
theorem wb_mod (n : Nat) : lN n = lN (n % 2 ^ 64) := wb_inj (by rw [wb_tb, wb_tb]; apply BitVec.eq_of_toNat_eq; rw [BitVec.toNat_ofNat, BitVec.toNat_ofNat, Nat.mod_mod])
theorem wb_shr {n k : Nat} (hn : n < 2 ^ 64) (hk : k < 64) : ((lN n).toUInt64 >>> ((nI k).toInt64.toUInt64 &&& Int64.toUInt64 63)).toInt64 = lN (n / 2 ^ k) := by
  rw [wb_cu k hk]
  apply wb_inj
  apply BitVec.eq_of_toNat_eq
  show ((lN n).toUInt64 >>> UInt64.ofNat k).toNat = (BitVec.ofNat 64 _).toNat
  have h1 : (UInt64.ofNat k).toNat = k := by
    show (BitVec.ofNat 64 k).toNat = k
    rw [BitVec.toNat_ofNat, Nat.mod_eq_of_lt (by omega)]
  have h2 : (lN n).toUInt64.toNat = n := wb_tn hn
  rw [UInt64.toNat_shiftRight, h1, h2, Nat.mod_eq_of_lt hk, Nat.shiftRight_eq_div_pow, BitVec.toNat_ofNat, Nat.mod_eq_of_lt (Nat.lt_of_le_of_lt (Nat.div_le_self _ _) hn)]
def nxtX (x : Int64) : Int64 := x * 6364136223846793005 + 1442695040888963407
def pickN (x : Int64) (c : Nat) : Nat := (x.toBitVec.toNat / 2 ^ 33) % c
theorem pick_sh (x : Int64) : (x.toUInt64 >>> ((33 : Int32).toInt64.toUInt64 &&& Int64.toUInt64 63)).toInt64 = lN (x.toBitVec.toNat / 2 ^ 33) := by
  obtain ⟨n, hn, rfl⟩ := wb_of x
  rw [wb_tn hn]
  exact wb_shr (k := 33) hn (by decide)
theorem pick_l (x : Int64) {c : Nat} (h0 : 0 < c) (hc : c < 2 ^ 31) : (x.toUInt64 >>> ((33 : Int32).toInt64.toUInt64 &&& Int64.toUInt64 63)).toInt64 - (x.toUInt64 >>> ((33 : Int32).toInt64.toUInt64 &&& Int64.toUInt64 63)).toInt64 / (nI c).toInt64 * (nI c).toInt64 = lN (pickN x c) := by
  rw [pick_sh, nI_l hc]
  have h1 : x.toBitVec.toNat / 2 ^ 33 < 2 ^ 63 := by
    have := x.toBitVec.isLt
    omega
  exact pk_lRem h1 h0 (by omega)
theorem pick_lt (x : Int64) {c : Nat} (h0 : 0 < c) : pickN x c < c := Nat.mod_lt _ h0
theorem nIl_ne {c : Nat} (h0 : 0 < c) (hc : c < 2 ^ 31) : ¬ (nI c).toInt64 = 0 := by
  rw [nI_l hc]
  intro h
  have := (lN_eq hc (show (0 : Nat) < 2 ^ 31 by decide)).mp h
  omega
def figS (x tk sp fd lc bd ba : Int32) : Int32 := if x = 0 then tk else if x = 1 then sp else if x = 2 then fd else if x = 3 then lc else if x = 4 then bd else if x = 5 then ba else -3
theorem fig_out {x : Int32} (h0 : ¬ x = 0) (h1 : ¬ x = 1) (h2 : ¬ x = 2) (h3 : ¬ x = 3) (h4 : ¬ x = 4) (h5 : ¬ x = 5) : x.toInt < 0 ∨ 5 < x.toInt := by
  have g0 := lv_neT h0 (a := 0) (by decide)
  have g1 := lv_neT h1 (a := 1) (by decide)
  have g2 := lv_neT h2 (a := 2) (by decide)
  have g3 := lv_neT h3 (a := 3) (by decide)
  have g4 := lv_neT h4 (a := 4) (by decide)
  have g5 := lv_neT h5 (a := 5) (by decide)
  omega
end
section
set_option maxHeartbeats 4000000 in
set_option maxRecDepth 100000 in
theorem c_rot (l : Launch) (E : EE) (x : Int64) (d : Int32)  : Ml (S := Unit) l E yJ13_rotateLeft_b2ac5 (.code yJ13_rotateLeft_b2ac5 cJ13_rotateLeft_b2ac5 3 (some .long)) ({ frames := 0, cells := 0, slots := 0, locals := 0 }) [.long x, .int d] [] (fun (ans : Int64) (_ : Unit) => ans = rotl x d) (fun u : Unit => []) := by
  refine Ml.ofW (by decide) (Nat.le_of_ble_eq_true rfl) ?_
  intro pM eM sM mM bM meM cM AM ls hB hA hP hD hS hl
  obtain ⟨hx, hb, hr, hml, hown, hlocks, hnm, hts, hK⟩ := hB
  have hl : lv_has ls 3 [(0, .long x), (2, .int d)] := hl
  refine lv_lload_n hx hb dJ13_rotateLeft_b2ac5_0 rfl (lv_at hl 0 rfl) ?_
  refine lv_iload_n hx hb dJ13_rotateLeft_b2ac5_1 rfl (lv_at hl 1 rfl) ?_
  refine lv_lshl hx hb dJ13_rotateLeft_b2ac5_2 rfl ?_
  refine lv_lload_n hx hb dJ13_rotateLeft_b2ac5_3 rfl (lv_at hl 0 rfl) ?_
  refine lv_iload_n hx hb dJ13_rotateLeft_b2ac5_4 rfl (lv_at hl 1 rfl) ?_
  refine lv_ineg hx hb dJ13_rotateLeft_b2ac5_5 ?_
  refine lv_lushr hx hb dJ13_rotateLeft_b2ac5_6 rfl ?_
  refine lv_lor hx hb dJ13_rotateLeft_b2ac5_7 ?_
  exact Rl hx hb hr hlocks hP hD hS () [] rfl rfl (rfl) (Nat.le_of_ble_eq_true rfl) (Nat.le_of_ble_eq_true rfl) dJ13_rotateLeft_b2ac5_8

set_option maxHeartbeats 4000000 in
set_option maxRecDepth 100000 in
theorem c_jn1 (l : Launch) (E : EE) (j : Int64) (r : Int64)  : Ml (S := Unit) l E yX6_joinOne (.code yX6_joinOne cX6_joinOne 4 (some .long)) ({ frames := 1, cells := 0, slots := 0, locals := 22 }) [.long j, .long r] [] (fun (ans : Int64) (_ : Unit) => ans = jn1 j r) (fun u : Unit => []) := by
  refine Ml.ofW (by decide) (Nat.le_of_ble_eq_true rfl) ?_
  intro pM eM sM mM bM meM cM AM ls hB hA hP hD hS hl
  obtain ⟨hx, hb, hr, hml, hown, hlocks, hnm, hts, hK⟩ := hB
  have hl : lv_has ls 4 [(0, .long j), (2, .long r)] := hl
  refine lv_lload_n hx hb dX6_joinOne_0 rfl (lv_at hl 0 rfl) ?_
  refine lv_iconst (v := 5) hx hb dX6_joinOne_1 (by decide) ?_
  refine af_l (wc := []) (wr := []) (rn_S (As := [.long j, .int 5]) (rest := []) (n := 2) ⟨hx, hb, hml, hown, hts⟩ ta_cons wq_X6_125 (by decide +kernel) hK (c_rot l E j 5  _) ⟨Nat.le_of_ble_eq_true rfl, Nat.le_of_ble_eq_true rfl⟩ hP hD [] rfl rfl rfl hl.1 rfl (Nat.le_of_ble_eq_true rfl) dX6_joinOne_2 ⟨Nat.le_of_ble_eq_true rfl, Nat.le_of_ble_eq_true rfl⟩) hP hD hS hA [] [] rfl rfl rfl (by decide) (fun r_2 u_2 H locs hwC hP hD hS => ?_)
  subst hwC
  have hP : va_P E.1 classes [] H := hP
  have hD : va_D AM [] := hD
  refine lv_lload_n hx hb dX6_joinOne_5 rfl (lv_at hl 1 rfl) ?_
  refine lv_lxor hx hb dX6_joinOne_6 ?_
  exact Rl hx hb hr hlocks hP hD hS () [] rfl rfl (rfl) (Nat.le_of_ble_eq_true rfl) (Nat.le_of_ble_eq_true rfl) dX6_joinOne_7

set_option maxHeartbeats 4000000 in
set_option maxRecDepth 100000 in
theorem c_mkst (l : Launch) (E : EE) (a : Int64) (v : Int64) (k : Int32)  : Ml (S := Unit) l E yX6_makeStep (.code yX6_makeStep cX6_makeStep 5 (some .long)) ({ frames := 1, cells := 0, slots := 0, locals := 22 }) [.long a, .long v, .int k] [] (fun (ans : Int64) (_ : Unit) => ans = mkst a v k) (fun u : Unit => []) := by
  refine Ml.ofW (by decide) (Nat.le_of_ble_eq_true rfl) ?_
  intro pM eM sM mM bM meM cM AM ls hB hA hP hD hS hl
  obtain ⟨hx, hb, hr, hml, hown, hlocks, hnm, hts, hK⟩ := hB
  have hl : lv_has ls 5 [(0, .long a), (2, .long v), (4, .int k)] := hl
  refine lv_lload_n hx hb dX6_makeStep_0 rfl (lv_at hl 0 rfl) ?_
  refine lv_bipush (v := 7) hx hb dX6_makeStep_1 (by decide) ?_
  refine af_l (wc := []) (wr := []) (rn_S (As := [.long a, .int 7]) (rest := []) (n := 2) ⟨hx, hb, hml, hown, hts⟩ ta_cons wq_X6_125 (by decide +kernel) hK (c_rot l E a 7  _) ⟨Nat.le_of_ble_eq_true rfl, Nat.le_of_ble_eq_true rfl⟩ hP hD [] rfl rfl rfl hl.1 rfl (Nat.le_of_ble_eq_true rfl) dX6_makeStep_3 ⟨Nat.le_of_ble_eq_true rfl, Nat.le_of_ble_eq_true rfl⟩) hP hD hS hA [] [] rfl rfl rfl (by decide) (fun r_3 u_3 H locs hwC hP hD hS => ?_)
  subst hwC
  have hP : va_P E.1 classes [] H := hP
  have hD : va_D AM [] := hD
  refine lv_lload_n hx hb dX6_makeStep_6 rfl (lv_at hl 1 rfl) ?_
  refine lv_lxor hx hb dX6_makeStep_7 ?_
  refine lv_ldc2 (own := RX6) (v := 31) hx hb hown (hts _ (ta_cons _ mw_367)) dX6_makeStep_8 ?_
  refine lv_lmul hx hb dX6_makeStep_11 ?_
  refine lv_iload hx hb dX6_makeStep_12 (lv_at hl 2 rfl) ?_
  refine lv_i2l hx hb dX6_makeStep_14 rfl ?_
  refine lv_ladd hx hb dX6_makeStep_15 ?_
  exact Rl hx hb hr hlocks hP hD hS () [] rfl rfl (rfl) (Nat.le_of_ble_eq_true rfl) (Nat.le_of_ble_eq_true rfl) dX6_makeStep_16

set_option maxHeartbeats 4000000 in
set_option maxRecDepth 100000 in
theorem c_has (l : Launch) (E : EE) (n : Nat) (hw : Nat) (hv : Nat) (hs : Nat) (hg : Nat) (ho : Nat) (x : Int32)  : Mi (S := Unit) l E yX5_has (.code yX5_has cX5_has 2 (some .boolean)) ({ frames := 0, cells := 0, slots := 0, locals := 0 }) [.ref hw, .int x] [(hw, .inr (5, [.int (nI n), .ref hv, .ref hs, .ref hg, .ref ho]))] (fun (ans : Int32) (_ : Unit) => ans = hasS n x) (fun u : Unit => [(hw, .inr (5, [.int (nI n), .ref hv, .ref hs, .ref hg, .ref ho]))]) := by
  refine Mi.ofW (by decide) (Nat.le_of_ble_eq_true rfl) ?_
  intro pM eM sM mM bM meM cM AM ls hB hA hP hD hS hl
  obtain ⟨hx, hb, hr, hml, hown, hlocks, hnm, hts, hK⟩ := hB
  have hl : lv_has ls 2 [(0, .ref hw), (1, .int x)] := hl
  refine lv_iload_n hx hb dX5_has_0 rfl (lv_at hl 1 rfl) ?_
  refine lv_if_lt (tgt := 16) hx hb dX5_has_1 (by decide) (fun c_1 => ?_) (fun c_1 => ?_)
  · refine lv_iconst (v := 0) hx hb dX5_has_16 (by decide) ?_
    exact Rz hx hb hr hlocks (Or.inl rfl) hP hD hS () [0] rfl rfl ((if_pos (Or.inl c_1)).symm) (Nat.le_of_ble_eq_true rfl) (Nat.le_of_ble_eq_true rfl) dX5_has_17
  · refine lv_iload_n hx hb dX5_has_4 rfl (lv_at hl 1 rfl) ?_
    refine lv_aload_n hx hb dX5_has_5 rfl (lv_at hl 0 rfl) ?_
    refine va_get (D := E.1) (ci := 5) (v := .int (nI n)) (C := RX5) (T := TX5) (N := 5) hx hb hts ux_X5' hown hK.1 hP 0 rfl rfl 0 (by decide) (hts _ (ta_cons _ mw_58)) (fun _ h9 => h9) rfl dX5_has_6 ?_
    refine lv_icmp_ge (tgt := 16) hx hb dX5_has_9 (by decide) (fun c_9 => ?_) (fun c_9 => ?_)
    · refine lv_iconst (v := 0) hx hb dX5_has_16 (by decide) ?_
      exact Rz hx hb hr hlocks (Or.inl rfl) hP hD hS () [0] rfl rfl ((if_pos (Or.inr c_9)).symm) (Nat.le_of_ble_eq_true rfl) (Nat.le_of_ble_eq_true rfl) dX5_has_17
    · refine lv_iconst (v := 1) hx hb dX5_has_12 (by decide) ?_
      refine lv_goto (tgt := 17) hx hb dX5_has_13 (by decide) ?_
      exact Rz hx hb hr hlocks (Or.inr rfl) hP hD hS () [0] rfl rfl ((if_neg (fun h => h.elim c_1 c_9)).symm) (Nat.le_of_ble_eq_true rfl) (Nat.le_of_ble_eq_true rfl) dX5_has_17

set_option maxHeartbeats 4000000 in
set_option maxRecDepth 100000 in
theorem c_Work_reset (l : Launch) (E : EE) (n : Nat) (hw : Nat) (hv : Nat) (hs : Nat) (hg : Nat) (ho : Nat) (vals : Nat → Int64) (stp : Nat → Int32) (reg : Nat → Int32) (lo : Nat → Int32) (hn : n < 2 ^ 31) : Mv (S := Unit) l E yX5_reset (.code yX5_reset cX5_reset 2 none) ({ frames := 0, cells := 0, slots := 0, locals := 0 }) [.ref hw] [(hw, .inr (5, [.int (nI n), .ref hv, .ref hs, .ref hg, .ref ho])), (hv, .inl (E.2.2.1, n, .inr (.inl vals))), (hs, .inl (E.2.1, n, .inl stp)), (hg, .inl (E.2.1, n, .inl reg)), (ho, .inl (E.2.2.2, n, .inl lo))] (fun _ : Unit => True) (fun u : Unit => [(hw, .inr (5, [.int (nI n), .ref hv, .ref hs, .ref hg, .ref ho])), (hv, .inl (E.2.2.1, n, .inr (.inl (fun _ => 0)))), (hs, .inl (E.2.1, n, .inl (fun _ => 1))), (hg, .inl (E.2.1, n, .inl (fun _ => 0))), (ho, .inl (E.2.2.2, n, .inl (fun _ => 0)))]) := by
  refine Mv.ofW (by decide) (Nat.le_of_ble_eq_true rfl) ?_
  intro pM eM sM mM bM meM cM AM ls hB hA hP hD hS hl
  obtain ⟨hx, hb, hr, hml, hown, hlocks, hnm, hts, hK⟩ := hB
  have hl : lv_has ls 2 [(0, .ref hw)] := hl
  refine lv_iconst (v := 0) hx hb dX5_reset_0 (by decide) ?_
  refine lv_istore_n (lv' := [(1, .int 0), (0, .ref hw)]) hx hb dX5_reset_1 rfl hl (by decide) rfl (fun ls hl => ?_)
  refine W.loop (σ := (Nat) × (Nat → Int64) × (Nat → Int32) × (Nat → Int32) × (Nat → Int32)) (fun a H locs ls => match a with | (i, v, t, g, o) => va_P E.1 classes [(hw, .inr (5, [.int (nI n), .ref hv, .ref hs, .ref hg, .ref ho])), (hv, .inl (E.2.2.1, n, .inr (.inl v))), (hs, .inl (E.2.1, n, .inl t)), (hg, .inl (E.2.1, n, .inl g)), (ho, .inl (E.2.2.2, n, .inl o))] H ∧ va_D AM [(hw, .inr (5, [.int (nI n), .ref hv, .ref hs, .ref hg, .ref ho])), (hv, .inl (E.2.2.1, n, .inr (.inl v))), (hs, .inl (E.2.1, n, .inl t)), (hg, .inl (E.2.1, n, .inl g)), (ho, .inl (E.2.2.2, n, .inl o))] ∧ va_S AM sM.heap H locs ∧ lv_has ls 2 [(1, .int (nI i)), (0, .ref hw)] ∧ (i ≤ n) ∧ (∀ j, j < i → v j = 0) ∧ (∀ j, j < i → t j = 1) ∧ (∀ j, j < i → g j = 0) ∧ (∀ j, j < i → o j = 0)) (fun a => match a with | (i, v, t, g, o) => n - i) (0, vals, stp, reg, lo) ⟨hP.sub [0, 1, 2, 3, 4] rfl, hD.sub [0, 1, 2, 3, 4] (by decide) rfl, hS, lv_sub hl [0, 1] rfl, Nat.zero_le _, fun j h => absurd h (Nat.not_lt_zero j), fun j h => absurd h (Nat.not_lt_zero j), fun j h => absurd h (Nat.not_lt_zero j), fun j h => absurd h (Nat.not_lt_zero j)⟩ ?_
  intro a H locs ls hI ih2
  obtain ⟨i, v, t, g, o⟩ := a
  obtain ⟨hP, hD, hS, hl, hi, p1, p2, p3, p4⟩ := hI
  have hP : va_P E.1 classes [(hw, .inr (5, [.int (nI n), .ref hv, .ref hs, .ref hg, .ref ho])), (hv, .inl (E.2.2.1, n, .inr (.inl v))), (hs, .inl (E.2.1, n, .inl t)), (hg, .inl (E.2.1, n, .inl g)), (ho, .inl (E.2.2.2, n, .inl o))] H := hP
  have hD : va_D AM [(hw, .inr (5, [.int (nI n), .ref hv, .ref hs, .ref hg, .ref ho])), (hv, .inl (E.2.2.1, n, .inr (.inl v))), (hs, .inl (E.2.1, n, .inl t)), (hg, .inl (E.2.1, n, .inl g)), (ho, .inl (E.2.2.2, n, .inl o))] := hD
  have hl : lv_has ls 2 [(1, .int (nI i)), (0, .ref hw)] := hl
  have hi : i ≤ n := hi
  have p1 : ∀ j, j < i → v j = 0 := p1
  have p2 : ∀ j, j < i → t j = 1 := p2
  have p3 : ∀ j, j < i → g j = 0 := p3
  have p4 : ∀ j, j < i → o j = 0 := p4
  refine lv_iload_n hx hb dX5_reset_2 rfl (lv_at hl 0 rfl) ?_
  refine lv_aload_n hx hb dX5_reset_3 rfl (lv_at hl 1 rfl) ?_
  refine va_get (D := E.1) (ci := 5) (v := .int (nI n)) (C := RX5) (T := TX5) (N := 5) hx hb hts ux_X5' hown hK.1 hP 0 rfl rfl 0 (by decide) (hts _ (ta_cons _ mw_58)) (fun _ h9 => h9) rfl dX5_reset_4 ?_
  refine lv_icmp_ge (tgt := 44) hx hb dX5_reset_7 (by decide) (fun c_7 => ?_) (fun c_7 => ?_)
  · have c_7 : n ≤ i := (nI_leI (by omega) (by omega)).mp c_7
    have e9 : i = n := by omega
    rw [e9] at p1 p2 p3 p4
    obtain ⟨hP, hD⟩ := cg_l (g := fun _ => 0) hP hD 1 rfl (p1)
    have hP : va_P E.1 classes [(hw, .inr (5, [.int (nI n), .ref hv, .ref hs, .ref hg, .ref ho])), (hv, .inl (E.2.2.1, n, .inr (.inl (fun _ => 0)))), (hs, .inl (E.2.1, n, .inl t)), (hg, .inl (E.2.1, n, .inl g)), (ho, .inl (E.2.2.2, n, .inl o))] H := hP
    have hD : va_D AM [(hw, .inr (5, [.int (nI n), .ref hv, .ref hs, .ref hg, .ref ho])), (hv, .inl (E.2.2.1, n, .inr (.inl (fun _ => 0)))), (hs, .inl (E.2.1, n, .inl t)), (hg, .inl (E.2.1, n, .inl g)), (ho, .inl (E.2.2.2, n, .inl o))] := hD
    obtain ⟨hP, hD⟩ := cg_i (g := fun _ => 1) hP hD 2 rfl (p2)
    have hP : va_P E.1 classes [(hw, .inr (5, [.int (nI n), .ref hv, .ref hs, .ref hg, .ref ho])), (hv, .inl (E.2.2.1, n, .inr (.inl (fun _ => 0)))), (hs, .inl (E.2.1, n, .inl (fun _ => 1))), (hg, .inl (E.2.1, n, .inl g)), (ho, .inl (E.2.2.2, n, .inl o))] H := hP
    have hD : va_D AM [(hw, .inr (5, [.int (nI n), .ref hv, .ref hs, .ref hg, .ref ho])), (hv, .inl (E.2.2.1, n, .inr (.inl (fun _ => 0)))), (hs, .inl (E.2.1, n, .inl (fun _ => 1))), (hg, .inl (E.2.1, n, .inl g)), (ho, .inl (E.2.2.2, n, .inl o))] := hD
    obtain ⟨hP, hD⟩ := cg_i (g := fun _ => 0) hP hD 3 rfl (p3)
    have hP : va_P E.1 classes [(hw, .inr (5, [.int (nI n), .ref hv, .ref hs, .ref hg, .ref ho])), (hv, .inl (E.2.2.1, n, .inr (.inl (fun _ => 0)))), (hs, .inl (E.2.1, n, .inl (fun _ => 1))), (hg, .inl (E.2.1, n, .inl (fun _ => 0))), (ho, .inl (E.2.2.2, n, .inl o))] H := hP
    have hD : va_D AM [(hw, .inr (5, [.int (nI n), .ref hv, .ref hs, .ref hg, .ref ho])), (hv, .inl (E.2.2.1, n, .inr (.inl (fun _ => 0)))), (hs, .inl (E.2.1, n, .inl (fun _ => 1))), (hg, .inl (E.2.1, n, .inl (fun _ => 0))), (ho, .inl (E.2.2.2, n, .inl o))] := hD
    obtain ⟨hP, hD⟩ := cg_i (g := fun _ => 0) hP hD 4 rfl (p4)
    have hP : va_P E.1 classes [(hw, .inr (5, [.int (nI n), .ref hv, .ref hs, .ref hg, .ref ho])), (hv, .inl (E.2.2.1, n, .inr (.inl (fun _ => 0)))), (hs, .inl (E.2.1, n, .inl (fun _ => 1))), (hg, .inl (E.2.1, n, .inl (fun _ => 0))), (ho, .inl (E.2.2.2, n, .inl (fun _ => 0)))] H := hP
    have hD : va_D AM [(hw, .inr (5, [.int (nI n), .ref hv, .ref hs, .ref hg, .ref ho])), (hv, .inl (E.2.2.1, n, .inr (.inl (fun _ => 0)))), (hs, .inl (E.2.1, n, .inl (fun _ => 1))), (hg, .inl (E.2.1, n, .inl (fun _ => 0))), (ho, .inl (E.2.2.2, n, .inl (fun _ => 0)))] := hD
    exact Rv hx hb hr hlocks hP hD hS () [0, 1, 2, 3, 4] rfl rfl (trivial) (Nat.le_of_ble_eq_true rfl) (Nat.le_of_ble_eq_true rfl) dX5_reset_44
  · have c_7 : i < n := by
      rcases Nat.lt_or_ge i n with q | q
      · exact q
      · exact absurd ((nI_leI (by omega) (by omega)).mpr q) c_7
    refine lv_aload_n hx hb dX5_reset_10 rfl (lv_at hl 1 rfl) ?_
    refine va_get (D := E.1) (ci := 5) (v := .ref hv) (C := RX5) (T := TX5) (N := 5) hx hb hts ux_X5' hown hK.1 hP 0 rfl rfl 1 (by decide) (hts _ (ta_cons _ mw_62)) (fun _ h9 => h9) rfl dX5_reset_11 ?_
    refine lv_iload_n hx hb dX5_reset_14 rfl (lv_at hl 0 rfl) ?_
    refine lv_lconst (v := 0) hx hb dX5_reset_15 (by decide) ?_
    refine as_l i hx hb hK hP hD hS 1 rfl (by first | assumption | omega) (by omega) dX5_reset_16 (fun H locs hP hD hS => ?_)
    have hP : va_P E.1 classes [(hw, .inr (5, [.int (nI n), .ref hv, .ref hs, .ref hg, .ref ho])), (hv, .inl (E.2.2.1, n, .inr (.inl (vp_updL v i (0 : Int64))))), (hs, .inl (E.2.1, n, .inl t)), (hg, .inl (E.2.1, n, .inl g)), (ho, .inl (E.2.2.2, n, .inl o))] H := hP
    have hD : va_D AM [(hw, .inr (5, [.int (nI n), .ref hv, .ref hs, .ref hg, .ref ho])), (hv, .inl (E.2.2.1, n, .inr (.inl (vp_updL v i (0 : Int64))))), (hs, .inl (E.2.1, n, .inl t)), (hg, .inl (E.2.1, n, .inl g)), (ho, .inl (E.2.2.2, n, .inl o))] := hD
    refine lv_aload_n hx hb dX5_reset_17 rfl (lv_at hl 1 rfl) ?_
    refine va_get (D := E.1) (ci := 5) (v := .ref hs) (C := RX5) (T := TX5) (N := 5) hx hb hts ux_X5' hown hK.1 hP 0 rfl rfl 2 (by decide) (hts _ (ta_cons _ mw_65)) (fun _ h9 => h9) rfl dX5_reset_18 ?_
    refine lv_iload_n hx hb dX5_reset_21 rfl (lv_at hl 0 rfl) ?_
    refine lv_iconst (v := 1) hx hb dX5_reset_22 (by decide) ?_
    refine as_i i hx hb hK hP hD hS 2 rfl (by first | assumption | omega) (by omega) dX5_reset_23 (fun H locs hP hD hS => ?_)
    have hP : va_P E.1 classes [(hw, .inr (5, [.int (nI n), .ref hv, .ref hs, .ref hg, .ref ho])), (hv, .inl (E.2.2.1, n, .inr (.inl (vp_updL v i (0 : Int64))))), (hs, .inl (E.2.1, n, .inl (upd t i 1))), (hg, .inl (E.2.1, n, .inl g)), (ho, .inl (E.2.2.2, n, .inl o))] H := hP
    have hD : va_D AM [(hw, .inr (5, [.int (nI n), .ref hv, .ref hs, .ref hg, .ref ho])), (hv, .inl (E.2.2.1, n, .inr (.inl (vp_updL v i (0 : Int64))))), (hs, .inl (E.2.1, n, .inl (upd t i 1))), (hg, .inl (E.2.1, n, .inl g)), (ho, .inl (E.2.2.2, n, .inl o))] := hD
    refine lv_aload_n hx hb dX5_reset_24 rfl (lv_at hl 1 rfl) ?_
    refine va_get (D := E.1) (ci := 5) (v := .ref hg) (C := RX5) (T := TX5) (N := 5) hx hb hts ux_X5' hown hK.1 hP 0 rfl rfl 3 (by decide) (hts _ (ta_cons _ mw_68)) (fun _ h9 => h9) rfl dX5_reset_25 ?_
    refine lv_iload_n hx hb dX5_reset_28 rfl (lv_at hl 0 rfl) ?_
    refine lv_iconst (v := 0) hx hb dX5_reset_29 (by decide) ?_
    refine as_i i hx hb hK hP hD hS 3 rfl (by first | assumption | omega) (by omega) dX5_reset_30 (fun H locs hP hD hS => ?_)
    have hP : va_P E.1 classes [(hw, .inr (5, [.int (nI n), .ref hv, .ref hs, .ref hg, .ref ho])), (hv, .inl (E.2.2.1, n, .inr (.inl (vp_updL v i (0 : Int64))))), (hs, .inl (E.2.1, n, .inl (upd t i 1))), (hg, .inl (E.2.1, n, .inl (upd g i 0))), (ho, .inl (E.2.2.2, n, .inl o))] H := hP
    have hD : va_D AM [(hw, .inr (5, [.int (nI n), .ref hv, .ref hs, .ref hg, .ref ho])), (hv, .inl (E.2.2.1, n, .inr (.inl (vp_updL v i (0 : Int64))))), (hs, .inl (E.2.1, n, .inl (upd t i 1))), (hg, .inl (E.2.1, n, .inl (upd g i 0))), (ho, .inl (E.2.2.2, n, .inl o))] := hD
    refine lv_aload_n hx hb dX5_reset_31 rfl (lv_at hl 1 rfl) ?_
    refine va_get (D := E.1) (ci := 5) (v := .ref ho) (C := RX5) (T := TX5) (N := 5) hx hb hts ux_X5' hown hK.1 hP 0 rfl rfl 4 (by decide) (hts _ (ta_cons _ mw_71)) (fun _ h9 => h9) rfl dX5_reset_32 ?_
    refine lv_iload_n hx hb dX5_reset_35 rfl (lv_at hl 0 rfl) ?_
    refine lv_iconst (v := 0) hx hb dX5_reset_36 (by decide) ?_
    refine as_z i hx hb hK hP hD hS 4 rfl (by first | assumption | omega) (by omega) (Or.inl rfl) dX5_reset_37 (fun H locs hP hD hS => ?_)
    have hP : va_P E.1 classes [(hw, .inr (5, [.int (nI n), .ref hv, .ref hs, .ref hg, .ref ho])), (hv, .inl (E.2.2.1, n, .inr (.inl (vp_updL v i (0 : Int64))))), (hs, .inl (E.2.1, n, .inl (upd t i 1))), (hg, .inl (E.2.1, n, .inl (upd g i 0))), (ho, .inl (E.2.2.2, n, .inl (upd o i 0)))] H := hP
    have hD : va_D AM [(hw, .inr (5, [.int (nI n), .ref hv, .ref hs, .ref hg, .ref ho])), (hv, .inl (E.2.2.1, n, .inr (.inl (vp_updL v i (0 : Int64))))), (hs, .inl (E.2.1, n, .inl (upd t i 1))), (hg, .inl (E.2.1, n, .inl (upd g i 0))), (ho, .inl (E.2.2.2, n, .inl (upd o i 0)))] := hD
    refine lv_iinc (v := nI (i + 1)) (lv' := [(1, .int (nI (i + 1))), (0, .ref hw)]) hx hb dX5_reset_38 hl (k := 0) rfl (nI_1 i) (by decide) rfl (fun ls hl => ?_)
    refine lv_goto (tgt := 2) hx hb dX5_reset_41 (by decide) ?_
    exact ih2 (i + 1, vp_updL v i 0, upd t i 1, upd g i 0, upd o i 0) _ _ _ ⟨hP.sub [0, 1, 2, 3, 4] rfl, hD.sub [0, 1, 2, 3, 4] (by decide) rfl, hS, lv_sub hl [0, 1] rfl, c_7, fl_l p1, fl_i p2, fl_i p3, fl_i p4⟩ (by show n - (i + 1) < n - i; omega)
end
section
set_option maxHeartbeats 4000000 in
set_option maxRecDepth 100000 in
theorem c_madeAlone (l : Launch) (E : EE) (n : Nat) (hw : Nat) (hv : Nat) (hs : Nat) (hg : Nat) (ho : Nat) (vals : Nat → Int64) (stp : Nat → Int32) (reg : Nat → Int32) (lo : Nat → Int32) (k : Nat) (q : Nat) (hn : n < 2 ^ 31) (hk : k < n) (hq : q < 2 ^ 31) (hst : stp k = nI q) : Ml (S := Unit) l E yX5_madeAlone (.code yX5_madeAlone cX5_madeAlone 5 (some .long)) ({ frames := 2, cells := 0, slots := 0, locals := 46 }) [.ref hw, .int (nI k)] [(hw, .inr (5, [.int (nI n), .ref hv, .ref hs, .ref hg, .ref ho])), (hv, .inl (E.2.2.1, n, .inr (.inl vals))), (hs, .inl (E.2.1, n, .inl stp)), (hg, .inl (E.2.1, n, .inl reg)), (ho, .inl (E.2.2.2, n, .inl lo))] (fun (ans : Int64) (_ : Unit) => ans = stpF (vals k) q) (fun u : Unit => [(hw, .inr (5, [.int (nI n), .ref hv, .ref hs, .ref hg, .ref ho])), (hv, .inl (E.2.2.1, n, .inr (.inl vals))), (hs, .inl (E.2.1, n, .inl stp)), (hg, .inl (E.2.1, n, .inl reg)), (ho, .inl (E.2.2.2, n, .inl lo))]) := by
  refine Ml.ofW (by decide) (Nat.le_of_ble_eq_true rfl) ?_
  intro pM eM sM mM bM meM cM AM ls hB hA hP hD hS hl
  obtain ⟨hx, hb, hr, hml, hown, hlocks, hnm, hts, hK⟩ := hB
  have hl : lv_has ls 5 [(0, .ref hw), (1, .int (nI k))] := hl
  refine lv_aload_n hx hb dX5_madeAlone_0 rfl (lv_at hl 0 rfl) ?_
  refine va_get (D := E.1) (ci := 5) (v := .ref hv) (C := RX5) (T := TX5) (N := 5) hx hb hts ux_X5' hown hK.1 hP 0 rfl rfl 1 (by decide) (hts _ (ta_cons _ mw_62)) (fun _ h9 => h9) rfl dX5_madeAlone_1 ?_
  refine lv_iload_n hx hb dX5_madeAlone_4 rfl (lv_at hl 1 rfl) ?_
  refine ia_l k hx hb hK hP 1 rfl (by first | assumption | omega) (by omega) dX5_madeAlone_5 ?_
  refine lv_lstore_n (lv' := [(2, .long (vals k)), (0, .ref hw), (1, .int (nI k))]) hx hb dX5_madeAlone_6 rfl hl (by decide) rfl (fun ls hl => ?_)
  refine lv_iconst (v := 0) hx hb dX5_madeAlone_7 (by decide) ?_
  refine lv_istore (lv' := [(4, .int 0), (2, .long (vals k)), (0, .ref hw), (1, .int (nI k))]) hx hb dX5_madeAlone_8 hl (by decide) rfl (fun ls hl => ?_)
  refine W.loop (σ := (Nat) × (Int64)) (fun a H locs ls => match a with | (i, a) => va_P E.1 classes [(hw, .inr (5, [.int (nI n), .ref hv, .ref hs, .ref hg, .ref ho])), (hv, .inl (E.2.2.1, n, .inr (.inl vals))), (hs, .inl (E.2.1, n, .inl stp)), (hg, .inl (E.2.1, n, .inl reg)), (ho, .inl (E.2.2.2, n, .inl lo))] H ∧ va_D AM [(hw, .inr (5, [.int (nI n), .ref hv, .ref hs, .ref hg, .ref ho])), (hv, .inl (E.2.2.1, n, .inr (.inl vals))), (hs, .inl (E.2.1, n, .inl stp)), (hg, .inl (E.2.1, n, .inl reg)), (ho, .inl (E.2.2.2, n, .inl lo))] ∧ va_S AM sM.heap H locs ∧ lv_has ls 5 [(4, .int (nI i)), (2, .long a), (0, .ref hw), (1, .int (nI k))] ∧ (i ≤ q) ∧ (a = stpF (vals k) i)) (fun a => match a with | (i, a) => q - i) (0, vals k) ⟨hP.sub [0, 1, 2, 3, 4] rfl, hD.sub [0, 1, 2, 3, 4] (by decide) rfl, hS, lv_sub hl [0, 1, 2, 3] rfl, Nat.zero_le _, rfl⟩ ?_
  intro a H locs ls hI ih10
  obtain ⟨i, a⟩ := a
  obtain ⟨hP, hD, hS, hl, hi, ha⟩ := hI
  have hP : va_P E.1 classes [(hw, .inr (5, [.int (nI n), .ref hv, .ref hs, .ref hg, .ref ho])), (hv, .inl (E.2.2.1, n, .inr (.inl vals))), (hs, .inl (E.2.1, n, .inl stp)), (hg, .inl (E.2.1, n, .inl reg)), (ho, .inl (E.2.2.2, n, .inl lo))] H := hP
  have hD : va_D AM [(hw, .inr (5, [.int (nI n), .ref hv, .ref hs, .ref hg, .ref ho])), (hv, .inl (E.2.2.1, n, .inr (.inl vals))), (hs, .inl (E.2.1, n, .inl stp)), (hg, .inl (E.2.1, n, .inl reg)), (ho, .inl (E.2.2.2, n, .inl lo))] := hD
  have hl : lv_has ls 5 [(4, .int (nI i)), (2, .long a), (0, .ref hw), (1, .int (nI k))] := hl
  have hi : i ≤ q := hi
  have ha : a = stpF (vals k) i := ha
  refine lv_iload hx hb dX5_madeAlone_10 (lv_at hl 0 rfl) ?_
  refine lv_aload_n hx hb dX5_madeAlone_12 rfl (lv_at hl 2 rfl) ?_
  refine va_get (D := E.1) (ci := 5) (v := .ref hs) (C := RX5) (T := TX5) (N := 5) hx hb hts ux_X5' hown hK.1 hP 0 rfl rfl 2 (by decide) (hts _ (ta_cons _ mw_65)) (fun _ h9 => h9) rfl dX5_madeAlone_13 ?_
  refine lv_iload_n hx hb dX5_madeAlone_16 rfl (lv_at hl 3 rfl) ?_
  refine ia_i k hx hb hK hP 2 rfl (by first | assumption | omega) (by omega) dX5_madeAlone_17 ?_
  refine tp_i (y := nI q) (hst) ?_
  refine lv_icmp_ge (tgt := 40) hx hb dX5_madeAlone_18 (by decide) (fun c_18 => ?_) (fun c_18 => ?_)
  · have c_18 : q ≤ i := (nI_leI (by omega) (by omega)).mp c_18
    have e9 : i = q := by omega
    rw [e9] at ha
    refine lv_lload_n hx hb dX5_madeAlone_40 rfl (lv_at hl 1 rfl) ?_
    exact Rl hx hb hr hlocks hP hD hS () [0, 1, 2, 3, 4] rfl rfl (ha) (Nat.le_of_ble_eq_true rfl) (Nat.le_of_ble_eq_true rfl) dX5_madeAlone_41
  · have c_18 : i < q := by
      rcases Nat.lt_or_ge i q with q | q
      · exact q
      · exact absurd ((nI_leI (by omega) (by omega)).mpr q) c_18
    refine lv_lload_n hx hb dX5_madeAlone_21 rfl (lv_at hl 1 rfl) ?_
    refine lv_aload_n hx hb dX5_madeAlone_22 rfl (lv_at hl 2 rfl) ?_
    refine va_get (D := E.1) (ci := 5) (v := .ref hv) (C := RX5) (T := TX5) (N := 5) hx hb hts ux_X5' hown hK.1 hP 0 rfl rfl 1 (by decide) (hts _ (ta_cons _ mw_62)) (fun _ h9 => h9) rfl dX5_madeAlone_23 ?_
    refine lv_iload_n hx hb dX5_madeAlone_26 rfl (lv_at hl 3 rfl) ?_
    refine ia_l k hx hb hK hP 1 rfl (by first | assumption | omega) (by omega) dX5_madeAlone_27 ?_
    refine lv_iload hx hb dX5_madeAlone_28 (lv_at hl 0 rfl) ?_
    refine af_l (wc := []) (wr := [(hw, .inr (5, [.int (nI n), .ref hv, .ref hs, .ref hg, .ref ho])), (hv, .inl (E.2.2.1, n, .inr (.inl vals))), (hs, .inl (E.2.1, n, .inl stp)), (hg, .inl (E.2.1, n, .inl reg)), (ho, .inl (E.2.2.2, n, .inl lo))]) (rn_N (host := RX6) (As := [.long a, .long (vals k), .int (nI i)]) (rest := []) (n := 3) ⟨hx, hb, hml, hown, hts⟩ ta_cons wq_X5_31 hK.2.2 (by decide +kernel) hK (c_mkst l E a (vals k) (nI i)  _) ⟨Nat.le_of_ble_eq_true rfl, Nat.le_of_ble_eq_true rfl⟩ hP hD [] rfl rfl rfl hl.1 rfl (Nat.le_of_ble_eq_true rfl) dX5_madeAlone_30 ⟨Nat.le_of_ble_eq_true rfl, Nat.le_of_ble_eq_true rfl⟩) hP hD hS hA [] [0, 1, 2, 3, 4] rfl rfl rfl (by decide) (fun r_30 u_30 H locs hwC hP hD hS => ?_)
    subst hwC
    have hP : va_P E.1 classes [(hw, .inr (5, [.int (nI n), .ref hv, .ref hs, .ref hg, .ref ho])), (hv, .inl (E.2.2.1, n, .inr (.inl vals))), (hs, .inl (E.2.1, n, .inl stp)), (hg, .inl (E.2.1, n, .inl reg)), (ho, .inl (E.2.2.2, n, .inl lo))] H := hP
    have hD : va_D AM [(hw, .inr (5, [.int (nI n), .ref hv, .ref hs, .ref hg, .ref ho])), (hv, .inl (E.2.2.1, n, .inr (.inl vals))), (hs, .inl (E.2.1, n, .inl stp)), (hg, .inl (E.2.1, n, .inl reg)), (ho, .inl (E.2.2.2, n, .inl lo))] := hD
    refine lv_lstore_n (lv' := [(2, .long (mkst a (vals k) (nI i))), (4, .int (nI i)), (0, .ref hw), (1, .int (nI k))]) hx hb dX5_madeAlone_33 rfl hl (by decide) rfl (fun ls hl => ?_)
    refine lv_iinc (v := nI (i + 1)) (lv' := [(4, .int (nI (i + 1))), (2, .long (mkst a (vals k) (nI i))), (0, .ref hw), (1, .int (nI k))]) hx hb dX5_madeAlone_34 hl (k := 1) rfl (nI_1 i) (by decide) rfl (fun ls hl => ?_)
    refine lv_goto (tgt := 10) hx hb dX5_madeAlone_37 (by decide) ?_
    exact ih10 (i + 1, mkst a (vals k) (nI i)) _ _ _ ⟨hP.sub [0, 1, 2, 3, 4] rfl, hD.sub [0, 1, 2, 3, 4] (by decide) rfl, hS, lv_sub hl [0, 1, 2, 3] rfl, c_18, by rw [ha]; rfl⟩ (by show q - (i + 1) < q - i; omega)

set_option maxHeartbeats 4000000 in
set_option maxRecDepth 100000 in
theorem c_place_old (l : Launch) (E : EE) (n : Nat) (hgr : Nat) (hbo : Nat) (hrg : Nat) (c : Nat) (b : Nat) (rg : Nat → Int32) (t : Int32) (hn : n < 2 ^ 31) (hc : c ≤ n) (hbc : b < c) (g1 : ∀ j, j < b → ¬ rg j &&& t = 0) (g2 : rg b &&& t = 0) : Mi (S := Unit) l E yX0_place (.code yX0_place cX0_place 3 (some .int)) ({ frames := 0, cells := 0, slots := 0, locals := 0 }) [.ref hgr, .int t] [(hgr, .inr (0, [.ref hbo, .int (nI c), .ref hrg])), (hrg, .inl (E.2.1, n, .inl rg))] (fun (ans : Int32) (_ : Unit) => ans = nI b) (fun u : Unit => [(hgr, .inr (0, [.ref hbo, .int (nI c), .ref hrg])), (hrg, .inl (E.2.1, n, .inl (upd rg b (rg b ||| t))))]) := by
  refine Mi.ofW (by decide) (Nat.le_of_ble_eq_true rfl) ?_
  intro pM eM sM mM bM meM cM AM ls hB hA hP hD hS hl
  obtain ⟨hx, hb, hr, hml, hown, hlocks, hnm, hts, hK⟩ := hB
  have hl : lv_has ls 3 [(0, .ref hgr), (1, .int t)] := hl
  refine lv_iconst (v := 0) hx hb dX0_place_0 (by decide) ?_
  refine lv_istore_n (lv' := [(2, .int 0), (0, .ref hgr), (1, .int t)]) hx hb dX0_place_1 rfl hl (by decide) rfl (fun ls hl => ?_)
  refine W.loop (σ := (Nat)) (fun a H locs ls => match a with | i => va_P E.1 classes [(hgr, .inr (0, [.ref hbo, .int (nI c), .ref hrg])), (hrg, .inl (E.2.1, n, .inl rg))] H ∧ va_D AM [(hgr, .inr (0, [.ref hbo, .int (nI c), .ref hrg])), (hrg, .inl (E.2.1, n, .inl rg))] ∧ va_S AM sM.heap H locs ∧ lv_has ls 3 [(2, .int (nI i)), (0, .ref hgr), (1, .int t)] ∧ (i ≤ b)) (fun a => match a with | i => c - i) (0) ⟨hP.sub [0, 1] rfl, hD.sub [0, 1] (by decide) rfl, hS, lv_sub hl [0, 1, 2] rfl, Nat.zero_le _⟩ ?_
  intro a H locs ls hI ih2
  obtain ⟨i, rfl⟩ : ∃ z, z = a := ⟨_, rfl⟩
  obtain ⟨hP, hD, hS, hl, hi⟩ := hI
  have hP : va_P E.1 classes [(hgr, .inr (0, [.ref hbo, .int (nI c), .ref hrg])), (hrg, .inl (E.2.1, n, .inl rg))] H := hP
  have hD : va_D AM [(hgr, .inr (0, [.ref hbo, .int (nI c), .ref hrg])), (hrg, .inl (E.2.1, n, .inl rg))] := hD
  have hl : lv_has ls 3 [(2, .int (nI i)), (0, .ref hgr), (1, .int t)] := hl
  have hi : i ≤ b := hi
  refine lv_iload_n hx hb dX0_place_2 rfl (lv_at hl 0 rfl) ?_
  refine lv_aload_n hx hb dX0_place_3 rfl (lv_at hl 1 rfl) ?_
  refine va_get (D := E.1) (ci := 0) (v := .int (nI c)) (C := RX0) (T := TX0) (N := 3) hx hb hts ux_X0' hown hK.1 hP 0 rfl rfl 1 (by decide) (hts _ (ta_cons _ mw_98)) (fun _ h9 => h9) rfl dX0_place_4 ?_
  refine lv_icmp_ge (tgt := 27) hx hb dX0_place_7 (by decide) (fun c_7 => ?_) (fun c_7 => ?_)
  · have c_7 : c ≤ i := (nI_leI (by omega) (by omega)).mp c_7
    exact absurd c_7 (by omega)
  · have c_7 : i < c := by
      rcases Nat.lt_or_ge i c with q | q
      · exact q
      · exact absurd ((nI_leI (by omega) (by omega)).mpr q) c_7
    refine lv_aload_n hx hb dX0_place_10 rfl (lv_at hl 1 rfl) ?_
    refine va_get (D := E.1) (ci := 0) (v := .ref hrg) (C := RX0) (T := TX0) (N := 3) hx hb hts ux_X0' hown hK.1 hP 0 rfl rfl 2 (by decide) (hts _ (ta_cons _ mw_101)) (fun _ h9 => h9) rfl dX0_place_11 ?_
    refine lv_iload_n hx hb dX0_place_14 rfl (lv_at hl 0 rfl) ?_
    refine ia_i i hx hb hK hP 1 rfl (by first | assumption | omega) (by omega) dX0_place_15 ?_
    refine lv_iload_n hx hb dX0_place_16 rfl (lv_at hl 2 rfl) ?_
    refine lv_iand hx hb dX0_place_17 ?_
    refine lv_if_eq (tgt := 27) hx hb dX0_place_18 (by decide) (fun c_18 => ?_) (fun c_18 => ?_)
    · have e9 : i = b := by
        rcases Nat.lt_or_ge i b with q | q
        · exact absurd c_18 (g1 i q)
        · omega
      rw [e9] at hl
      refine lv_iload_n hx hb dX0_place_27 rfl (lv_at hl 0 rfl) ?_
      refine lv_aload_n hx hb dX0_place_28 rfl (lv_at hl 1 rfl) ?_
      refine va_get (D := E.1) (ci := 0) (v := .int (nI c)) (C := RX0) (T := TX0) (N := 3) hx hb hts ux_X0' hown hK.1 hP 0 rfl rfl 1 (by decide) (hts _ (ta_cons _ mw_98)) (fun _ h9 => h9) rfl dX0_place_29 ?_
      refine lv_icmp_ne (tgt := 52) hx hb dX0_place_32 (by decide) (fun c_32 => ?_) (fun c_32 => ?_)
      · refine lv_aload_n hx hb dX0_place_52 rfl (lv_at hl 1 rfl) ?_
        refine va_get (D := E.1) (ci := 0) (v := .ref hrg) (C := RX0) (T := TX0) (N := 3) hx hb hts ux_X0' hown hK.1 hP 0 rfl rfl 2 (by decide) (hts _ (ta_cons _ mw_101)) (fun _ h9 => h9) rfl dX0_place_53 ?_
        refine lv_iload_n hx hb dX0_place_56 rfl (lv_at hl 0 rfl) ?_
        refine lv_dup2_11 hx hb dX0_place_57 rfl rfl ?_
        refine ia_i b hx hb hK hP 1 rfl (by first | assumption | omega) (by omega) dX0_place_58 ?_
        refine lv_iload_n hx hb dX0_place_59 rfl (lv_at hl 2 rfl) ?_
        refine lv_ior hx hb dX0_place_60 ?_
        refine as_i b hx hb hK hP hD hS 1 rfl (by first | assumption | omega) (by omega) dX0_place_61 (fun H locs hP hD hS => ?_)
        have hP : va_P E.1 classes [(hgr, .inr (0, [.ref hbo, .int (nI c), .ref hrg])), (hrg, .inl (E.2.1, n, .inl (upd rg b ((rg b) ||| t))))] H := hP
        have hD : va_D AM [(hgr, .inr (0, [.ref hbo, .int (nI c), .ref hrg])), (hrg, .inl (E.2.1, n, .inl (upd rg b ((rg b) ||| t))))] := hD
        refine lv_iload_n hx hb dX0_place_62 rfl (lv_at hl 0 rfl) ?_
        exact Ri hx hb hr hlocks hP hD hS () [0, 1] rfl rfl (rfl) (Nat.le_of_ble_eq_true rfl) (Nat.le_of_ble_eq_true rfl) dX0_place_63
      · exact absurd ((nI_eq (by omega) (by omega)).mp c_32) (by omega)
    · have e9 : i ≠ b := fun h => c_18 (by rw [h]; exact g2)
      refine lv_iinc (v := nI (i + 1)) (lv' := [(2, .int (nI (i + 1))), (0, .ref hgr), (1, .int t)]) hx hb dX0_place_21 hl (k := 0) rfl (nI_1 i) (by decide) rfl (fun ls hl => ?_)
      refine lv_goto (tgt := 2) hx hb dX0_place_24 (by decide) ?_
      exact ih2 (i + 1) _ _ _ ⟨hP.sub [0, 1] rfl, hD.sub [0, 1] (by decide) rfl, hS, lv_sub hl [0, 1, 2] rfl, by omega⟩ (by show c - (i + 1) < c - i; omega)

set_option maxHeartbeats 4000000 in
set_option maxRecDepth 100000 in
theorem c_place_new (l : Launch) (E : EE) (n : Nat) (hgr : Nat) (hbo : Nat) (hrg : Nat) (c : Nat) (rg : Nat → Int32) (t : Int32) (hn : n < 2 ^ 31) (hc : c < n) (g1 : ∀ j, j < c → ¬ rg j &&& t = 0) : Mi (S := Unit) l E yX0_place (.code yX0_place cX0_place 3 (some .int)) ({ frames := 0, cells := 0, slots := 0, locals := 0 }) [.ref hgr, .int t] [(hgr, .inr (0, [.ref hbo, .int (nI c), .ref hrg])), (hrg, .inl (E.2.1, n, .inl rg))] (fun (ans : Int32) (_ : Unit) => ans = nI c) (fun u : Unit => [(hgr, .inr (0, [.ref hbo, .int (nI (c + 1)), .ref hrg])), (hrg, .inl (E.2.1, n, .inl (upd rg c t)))]) := by
  refine Mi.ofW (by decide) (Nat.le_of_ble_eq_true rfl) ?_
  intro pM eM sM mM bM meM cM AM ls hB hA hP hD hS hl
  obtain ⟨hx, hb, hr, hml, hown, hlocks, hnm, hts, hK⟩ := hB
  have hl : lv_has ls 3 [(0, .ref hgr), (1, .int t)] := hl
  refine lv_iconst (v := 0) hx hb dX0_place_0 (by decide) ?_
  refine lv_istore_n (lv' := [(2, .int 0), (0, .ref hgr), (1, .int t)]) hx hb dX0_place_1 rfl hl (by decide) rfl (fun ls hl => ?_)
  refine W.loop (σ := (Nat)) (fun a H locs ls => match a with | i => va_P E.1 classes [(hgr, .inr (0, [.ref hbo, .int (nI c), .ref hrg])), (hrg, .inl (E.2.1, n, .inl rg))] H ∧ va_D AM [(hgr, .inr (0, [.ref hbo, .int (nI c), .ref hrg])), (hrg, .inl (E.2.1, n, .inl rg))] ∧ va_S AM sM.heap H locs ∧ lv_has ls 3 [(2, .int (nI i)), (0, .ref hgr), (1, .int t)] ∧ (i ≤ c)) (fun a => match a with | i => c - i) (0) ⟨hP.sub [0, 1] rfl, hD.sub [0, 1] (by decide) rfl, hS, lv_sub hl [0, 1, 2] rfl, Nat.zero_le _⟩ ?_
  intro a H locs ls hI ih2
  obtain ⟨i, rfl⟩ : ∃ z, z = a := ⟨_, rfl⟩
  obtain ⟨hP, hD, hS, hl, hi⟩ := hI
  have hP : va_P E.1 classes [(hgr, .inr (0, [.ref hbo, .int (nI c), .ref hrg])), (hrg, .inl (E.2.1, n, .inl rg))] H := hP
  have hD : va_D AM [(hgr, .inr (0, [.ref hbo, .int (nI c), .ref hrg])), (hrg, .inl (E.2.1, n, .inl rg))] := hD
  have hl : lv_has ls 3 [(2, .int (nI i)), (0, .ref hgr), (1, .int t)] := hl
  have hi : i ≤ c := hi
  refine lv_iload_n hx hb dX0_place_2 rfl (lv_at hl 0 rfl) ?_
  refine lv_aload_n hx hb dX0_place_3 rfl (lv_at hl 1 rfl) ?_
  refine va_get (D := E.1) (ci := 0) (v := .int (nI c)) (C := RX0) (T := TX0) (N := 3) hx hb hts ux_X0' hown hK.1 hP 0 rfl rfl 1 (by decide) (hts _ (ta_cons _ mw_98)) (fun _ h9 => h9) rfl dX0_place_4 ?_
  refine lv_icmp_ge (tgt := 27) hx hb dX0_place_7 (by decide) (fun c_7 => ?_) (fun c_7 => ?_)
  · have c_7 : c ≤ i := (nI_leI (by omega) (by omega)).mp c_7
    have e9 : i = c := by omega
    rw [e9] at hl
    refine lv_iload_n hx hb dX0_place_27 rfl (lv_at hl 0 rfl) ?_
    refine lv_aload_n hx hb dX0_place_28 rfl (lv_at hl 1 rfl) ?_
    refine va_get (D := E.1) (ci := 0) (v := .int (nI c)) (C := RX0) (T := TX0) (N := 3) hx hb hts ux_X0' hown hK.1 hP 0 rfl rfl 1 (by decide) (hts _ (ta_cons _ mw_98)) (fun _ h9 => h9) rfl dX0_place_29 ?_
    refine lv_icmp_ne (tgt := 52) hx hb dX0_place_32 (by decide) (fun c_32 => ?_) (fun c_32 => ?_)
    · exact absurd rfl c_32
    · refine lv_aload_n hx hb dX0_place_35 rfl (lv_at hl 1 rfl) ?_
      refine va_get (D := E.1) (ci := 0) (v := .ref hrg) (C := RX0) (T := TX0) (N := 3) hx hb hts ux_X0' hown hK.1 hP 0 rfl rfl 2 (by decide) (hts _ (ta_cons _ mw_101)) (fun _ h9 => h9) rfl dX0_place_36 ?_
      refine lv_iload_n hx hb dX0_place_39 rfl (lv_at hl 0 rfl) ?_
      refine lv_iconst (v := 0) hx hb dX0_place_40 (by decide) ?_
      refine as_i c hx hb hK hP hD hS 1 rfl (by first | assumption | omega) (by omega) dX0_place_41 (fun H locs hP hD hS => ?_)
      have hP : va_P E.1 classes [(hgr, .inr (0, [.ref hbo, .int (nI c), .ref hrg])), (hrg, .inl (E.2.1, n, .inl (upd rg c 0)))] H := hP
      have hD : va_D AM [(hgr, .inr (0, [.ref hbo, .int (nI c), .ref hrg])), (hrg, .inl (E.2.1, n, .inl (upd rg c 0)))] := hD
      refine lv_aload_n hx hb dX0_place_42 rfl (lv_at hl 1 rfl) ?_
      refine lv_dup hx hb dX0_place_43 rfl ?_
      refine va_get (D := E.1) (ci := 0) (v := .int (nI c)) (C := RX0) (T := TX0) (N := 3) hx hb hts ux_X0' hown hK.1 hP 0 rfl rfl 1 (by decide) (hts _ (ta_cons _ mw_98)) (fun _ h9 => h9) rfl dX0_place_44 ?_
      refine lv_iconst (v := 1) hx hb dX0_place_47 (by decide) ?_
      refine lv_iadd hx hb dX0_place_48 ?_
      refine tp_i (y := nI (c + 1)) (nI_1 c) ?_
      refine va_put (D := E.1) (ci := 0) (v := .int (nI (c + 1))) (ty := .int) (C := RX0) (T := TX0) (N := 3) hx hb hts ux_X0' tyX0 tyX0_ok nmX0 hown hK.1 hP hD hS 0 rfl rfl 1 (by decide) (hts _ (ta_cons _ mw_98)) (fun _ h9 => h9) rfl (by decide +kernel) rfl rfl (Nat.le_of_ble_eq_true rfl) dX0_place_49 (fun H locs hP hD hS => ?_)
      have hP : va_P E.1 classes [(hgr, .inr (0, [.ref hbo, .int (nI (c + 1)), .ref hrg])), (hrg, .inl (E.2.1, n, .inl (upd rg c 0)))] H := hP
      have hD : va_D AM [(hgr, .inr (0, [.ref hbo, .int (nI (c + 1)), .ref hrg])), (hrg, .inl (E.2.1, n, .inl (upd rg c 0)))] := hD
      refine lv_aload_n hx hb dX0_place_52 rfl (lv_at hl 1 rfl) ?_
      refine va_get (D := E.1) (ci := 0) (v := .ref hrg) (C := RX0) (T := TX0) (N := 3) hx hb hts ux_X0' hown hK.1 hP 0 rfl rfl 2 (by decide) (hts _ (ta_cons _ mw_101)) (fun _ h9 => h9) rfl dX0_place_53 ?_
      refine lv_iload_n hx hb dX0_place_56 rfl (lv_at hl 0 rfl) ?_
      refine lv_dup2_11 hx hb dX0_place_57 rfl rfl ?_
      refine ia_i c hx hb hK hP 1 rfl (by first | assumption | omega) (by omega) dX0_place_58 ?_
      refine lv_iload_n hx hb dX0_place_59 rfl (lv_at hl 2 rfl) ?_
      refine lv_ior hx hb dX0_place_60 ?_
      refine as_i c hx hb hK hP hD hS 1 rfl (by first | assumption | omega) (by omega) dX0_place_61 (fun H locs hP hD hS => ?_)
      have hP : va_P E.1 classes [(hgr, .inr (0, [.ref hbo, .int (nI (c + 1)), .ref hrg])), (hrg, .inl (E.2.1, n, .inl (upd (upd rg c 0) c (((upd rg c 0) c) ||| t))))] H := hP
      have hD : va_D AM [(hgr, .inr (0, [.ref hbo, .int (nI (c + 1)), .ref hrg])), (hrg, .inl (E.2.1, n, .inl (upd (upd rg c 0) c (((upd rg c 0) c) ||| t))))] := hD
      refine lv_iload_n hx hb dX0_place_62 rfl (lv_at hl 0 rfl) ?_
      obtain ⟨hP, hD⟩ := cg_i (g := upd rg c t) hP hD 1 rfl (fun j hj => by
          unfold upd
          by_cases q : j = c
          · simp [q]
          · simp [q])
      have hP : va_P E.1 classes [(hgr, .inr (0, [.ref hbo, .int (nI (c + 1)), .ref hrg])), (hrg, .inl (E.2.1, n, .inl (upd rg c t)))] H := hP
      have hD : va_D AM [(hgr, .inr (0, [.ref hbo, .int (nI (c + 1)), .ref hrg])), (hrg, .inl (E.2.1, n, .inl (upd rg c t)))] := hD
      exact Ri hx hb hr hlocks hP hD hS () [0, 1] rfl rfl (rfl) (Nat.le_of_ble_eq_true rfl) (Nat.le_of_ble_eq_true rfl) dX0_place_63
  · have c_7 : i < c := by
      rcases Nat.lt_or_ge i c with q | q
      · exact q
      · exact absurd ((nI_leI (by omega) (by omega)).mpr q) c_7
    refine lv_aload_n hx hb dX0_place_10 rfl (lv_at hl 1 rfl) ?_
    refine va_get (D := E.1) (ci := 0) (v := .ref hrg) (C := RX0) (T := TX0) (N := 3) hx hb hts ux_X0' hown hK.1 hP 0 rfl rfl 2 (by decide) (hts _ (ta_cons _ mw_101)) (fun _ h9 => h9) rfl dX0_place_11 ?_
    refine lv_iload_n hx hb dX0_place_14 rfl (lv_at hl 0 rfl) ?_
    refine ia_i i hx hb hK hP 1 rfl (by first | assumption | omega) (by omega) dX0_place_15 ?_
    refine lv_iload_n hx hb dX0_place_16 rfl (lv_at hl 2 rfl) ?_
    refine lv_iand hx hb dX0_place_17 ?_
    refine lv_if_eq (tgt := 27) hx hb dX0_place_18 (by decide) (fun c_18 => ?_) (fun c_18 => ?_)
    · exact absurd c_18 (g1 i c_7)
    · refine lv_iinc (v := nI (i + 1)) (lv' := [(2, .int (nI (i + 1))), (0, .ref hgr), (1, .int t)]) hx hb dX0_place_21 hl (k := 0) rfl (nI_1 i) (by decide) rfl (fun ls hl => ?_)
      refine lv_goto (tgt := 2) hx hb dX0_place_24 (by decide) ?_
      exact ih2 (i + 1) _ _ _ ⟨hP.sub [0, 1] rfl, hD.sub [0, 1] (by decide) rfl, hS, lv_sub hl [0, 1, 2] rfl, by omega⟩ (by show c - (i + 1) < c - i; omega)

set_option maxHeartbeats 4000000 in
set_option maxRecDepth 100000 in
theorem c_form (l : Launch) (E : EE) (n : Nat) (hw : Nat) (hv : Nat) (hs : Nat) (hg : Nat) (ho : Nat) (vals : Nat → Int64) (stp : Nat → Int32) (reg : Nat → Int32) (lo : Nat → Int32) (hgr : Nat) (hbo : Nat) (hrg : Nat) (bo : Nat → Int32) (rg : Nat → Int32) (cnt : Int32) (hn : n < 2 ^ 31) : Mv (S := (Nat → Int32) × (Nat → Int32) × Nat) l E yX0_form (.code yX0_form cX0_form 3 none) ({ frames := 1, cells := 0, slots := 0, locals := 22 }) [.ref hgr, .ref hw] [(hgr, .inr (0, [.ref hbo, .int cnt, .ref hrg])), (hbo, .inl (E.2.1, n, .inl bo)), (hrg, .inl (E.2.1, n, .inl rg)), (hw, .inr (5, [.int (nI n), .ref hv, .ref hs, .ref hg, .ref ho])), (hv, .inl (E.2.2.1, n, .inr (.inl vals))), (hs, .inl (E.2.1, n, .inl stp)), (hg, .inl (E.2.1, n, .inl reg)), (ho, .inl (E.2.2.2, n, .inl lo))] (fun u : (Nat → Int32) × (Nat → Int32) × Nat => IsBat n lo reg u.1 ∧ IsCnt n u.1 u.2.2 ∧ u.2.2 ≤ n) (fun u : (Nat → Int32) × (Nat → Int32) × Nat => [(hgr, .inr (0, [.ref hbo, .int (nI u.2.2), .ref hrg])), (hbo, .inl (E.2.1, n, .inl u.1)), (hrg, .inl (E.2.1, n, .inl u.2.1)), (hw, .inr (5, [.int (nI n), .ref hv, .ref hs, .ref hg, .ref ho])), (hv, .inl (E.2.2.1, n, .inr (.inl vals))), (hs, .inl (E.2.1, n, .inl stp)), (hg, .inl (E.2.1, n, .inl reg)), (ho, .inl (E.2.2.2, n, .inl lo))]) := by
  refine Mv.ofW (by decide) (Nat.le_of_ble_eq_true rfl) ?_
  intro pM eM sM mM bM meM cM AM ls hB hA hP hD hS hl
  obtain ⟨hx, hb, hr, hml, hown, hlocks, hnm, hts, hK⟩ := hB
  have hl : lv_has ls 3 [(0, .ref hgr), (1, .ref hw)] := hl
  refine lv_aload_n hx hb dX0_form_0 rfl (lv_at hl 0 rfl) ?_
  refine lv_iconst (v := 0) hx hb dX0_form_1 (by decide) ?_
  refine va_put (D := E.1) (ci := 0) (v := .int 0) (ty := .int) (C := RX0) (T := TX0) (N := 3) hx hb hts ux_X0' tyX0 tyX0_ok nmX0 hown hK.1 hP hD hS 0 rfl rfl 1 (by decide) (hts _ (ta_cons _ mw_98)) (fun _ h9 => h9) rfl (by decide +kernel) rfl rfl (Nat.le_of_ble_eq_true rfl) dX0_form_2 (fun H locs hP hD hS => ?_)
  have hP : va_P E.1 classes [(hgr, .inr (0, [.ref hbo, .int 0, .ref hrg])), (hbo, .inl (E.2.1, n, .inl bo)), (hrg, .inl (E.2.1, n, .inl rg)), (hw, .inr (5, [.int (nI n), .ref hv, .ref hs, .ref hg, .ref ho])), (hv, .inl (E.2.2.1, n, .inr (.inl vals))), (hs, .inl (E.2.1, n, .inl stp)), (hg, .inl (E.2.1, n, .inl reg)), (ho, .inl (E.2.2.2, n, .inl lo))] H := hP
  have hD : va_D AM [(hgr, .inr (0, [.ref hbo, .int 0, .ref hrg])), (hbo, .inl (E.2.1, n, .inl bo)), (hrg, .inl (E.2.1, n, .inl rg)), (hw, .inr (5, [.int (nI n), .ref hv, .ref hs, .ref hg, .ref ho])), (hv, .inl (E.2.2.1, n, .inr (.inl vals))), (hs, .inl (E.2.1, n, .inl stp)), (hg, .inl (E.2.1, n, .inl reg)), (ho, .inl (E.2.2.2, n, .inl lo))] := hD
  refine lv_iconst (v := 0) hx hb dX0_form_5 (by decide) ?_
  refine lv_istore_n (lv' := [(2, .int 0), (0, .ref hgr), (1, .ref hw)]) hx hb dX0_form_6 rfl hl (by decide) rfl (fun ls hl => ?_)
  refine W.loop (σ := (Nat) × (Nat) × (Nat → Int32) × (Nat → Int32)) (fun a H locs ls => match a with | (i, c, o, g) => va_P E.1 classes [(hgr, .inr (0, [.ref hbo, .int (nI c), .ref hrg])), (hbo, .inl (E.2.1, n, .inl o)), (hrg, .inl (E.2.1, n, .inl g)), (hw, .inr (5, [.int (nI n), .ref hv, .ref hs, .ref hg, .ref ho])), (hv, .inl (E.2.2.1, n, .inr (.inl vals))), (hs, .inl (E.2.1, n, .inl stp)), (hg, .inl (E.2.1, n, .inl reg)), (ho, .inl (E.2.2.2, n, .inl lo))] H ∧ va_D AM [(hgr, .inr (0, [.ref hbo, .int (nI c), .ref hrg])), (hbo, .inl (E.2.1, n, .inl o)), (hrg, .inl (E.2.1, n, .inl g)), (hw, .inr (5, [.int (nI n), .ref hv, .ref hs, .ref hg, .ref ho])), (hv, .inl (E.2.2.1, n, .inr (.inl vals))), (hs, .inl (E.2.1, n, .inl stp)), (hg, .inl (E.2.1, n, .inl reg)), (ho, .inl (E.2.2.2, n, .inl lo))] ∧ va_S AM sM.heap H locs ∧ lv_has ls 3 [(2, .int (nI i)), (0, .ref hgr), (1, .ref hw)] ∧ (i ≤ n) ∧ (c ≤ i) ∧ (IsBat i lo reg o) ∧ (IsCnt i o c) ∧ (RgOk i c o reg g)) (fun a => match a with | (i, c, o, g) => n - i) (0, 0, bo, rg) ⟨hP.sub [0, 1, 2, 3, 4, 5, 6, 7] rfl, hD.sub [0, 1, 2, 3, 4, 5, 6, 7] (by decide) rfl, hS, lv_sub hl [0, 1, 2] rfl, Nat.zero_le _, Nat.le_refl _, bat_0, cnt_0, rg_0⟩ ?_
  intro a H locs ls hI ih7
  obtain ⟨i, c, o, g⟩ := a
  obtain ⟨hP, hD, hS, hl, hi, hc, h1, h2, h4⟩ := hI
  have hP : va_P E.1 classes [(hgr, .inr (0, [.ref hbo, .int (nI c), .ref hrg])), (hbo, .inl (E.2.1, n, .inl o)), (hrg, .inl (E.2.1, n, .inl g)), (hw, .inr (5, [.int (nI n), .ref hv, .ref hs, .ref hg, .ref ho])), (hv, .inl (E.2.2.1, n, .inr (.inl vals))), (hs, .inl (E.2.1, n, .inl stp)), (hg, .inl (E.2.1, n, .inl reg)), (ho, .inl (E.2.2.2, n, .inl lo))] H := hP
  have hD : va_D AM [(hgr, .inr (0, [.ref hbo, .int (nI c), .ref hrg])), (hbo, .inl (E.2.1, n, .inl o)), (hrg, .inl (E.2.1, n, .inl g)), (hw, .inr (5, [.int (nI n), .ref hv, .ref hs, .ref hg, .ref ho])), (hv, .inl (E.2.2.1, n, .inr (.inl vals))), (hs, .inl (E.2.1, n, .inl stp)), (hg, .inl (E.2.1, n, .inl reg)), (ho, .inl (E.2.2.2, n, .inl lo))] := hD
  have hl : lv_has ls 3 [(2, .int (nI i)), (0, .ref hgr), (1, .ref hw)] := hl
  have hi : i ≤ n := hi
  have hc : c ≤ i := hc
  have h1 : IsBat i lo reg o := h1
  have h2 : IsCnt i o c := h2
  have h4 : RgOk i c o reg g := h4
  refine lv_iload_n hx hb dX0_form_7 rfl (lv_at hl 0 rfl) ?_
  refine lv_aload_n hx hb dX0_form_8 rfl (lv_at hl 2 rfl) ?_
  refine va_get (D := E.1) (ci := 5) (v := .int (nI n)) (C := RX5) (T := TX5) (N := 5) hx hb hts ux_X5' hown hK.1 hP 3 rfl rfl 0 (by decide) (hts _ (ta_cons _ mw_60)) (fun _ h9 => h9) rfl dX0_form_9 ?_
  refine lv_icmp_ge (tgt := 50) hx hb dX0_form_12 (by decide) (fun c_12 => ?_) (fun c_12 => ?_)
  · have c_12 : n ≤ i := (nI_leI (by omega) (by omega)).mp c_12
    have e9 : i = n := by omega
    rw [e9] at h1 h2 h4
    exact Rv hx hb hr hlocks hP hD hS (o, g, c) [0, 1, 2, 3, 4, 5, 6, 7] rfl rfl (⟨h1, h2, by show c ≤ n; omega⟩) (Nat.le_of_ble_eq_true rfl) (Nat.le_of_ble_eq_true rfl) dX0_form_50
  · have c_12 : i < n := by
      rcases Nat.lt_or_ge i n with q | q
      · exact q
      · exact absurd ((nI_leI (by omega) (by omega)).mpr q) c_12
    refine lv_aload_n hx hb dX0_form_15 rfl (lv_at hl 1 rfl) ?_
    refine va_get (D := E.1) (ci := 0) (v := .ref hbo) (C := RX0) (T := TX0) (N := 3) hx hb hts ux_X0' hown hK.1 hP 0 rfl rfl 0 (by decide) (hts _ (ta_cons _ mw_95)) (fun _ h9 => h9) rfl dX0_form_16 ?_
    refine lv_iload_n hx hb dX0_form_19 rfl (lv_at hl 0 rfl) ?_
    refine lv_aload_n hx hb dX0_form_20 rfl (lv_at hl 2 rfl) ?_
    refine va_get (D := E.1) (ci := 5) (v := .ref ho) (C := RX5) (T := TX5) (N := 5) hx hb hts ux_X5' hown hK.1 hP 3 rfl rfl 4 (by decide) (hts _ (ta_cons _ mw_72)) (fun _ h9 => h9) rfl dX0_form_21 ?_
    refine lv_iload_n hx hb dX0_form_24 rfl (lv_at hl 0 rfl) ?_
    refine ia_z i hx hb hK hP 7 rfl (by first | assumption | omega) (by omega) dX0_form_25 ?_
    refine lv_if_eq (tgt := 33) hx hb dX0_form_26 (by decide) (fun c_26 => ?_) (fun c_26 => ?_)
    · refine lv_aload_n hx hb dX0_form_33 rfl (lv_at hl 1 rfl) ?_
      refine lv_aload_n hx hb dX0_form_34 rfl (lv_at hl 2 rfl) ?_
      refine va_get (D := E.1) (ci := 5) (v := .ref hg) (C := RX5) (T := TX5) (N := 5) hx hb hts ux_X5' hown hK.1 hP 3 rfl rfl 3 (by decide) (hts _ (ta_cons _ mw_69)) (fun _ h9 => h9) rfl dX0_form_35 ?_
      refine lv_iload_n hx hb dX0_form_38 rfl (lv_at hl 0 rfl) ?_
      refine ia_i i hx hb hK hP 6 rfl (by first | assumption | omega) (by omega) dX0_form_39 ?_
      rcases pl_ex g (reg i) c with ⟨b, hbc, g1, g2⟩ | g1
      · have z1 := bat_old (by omega) c_26 h1 h2 hc h4 hbc g1 g2
        refine af_i (wc := [(hgr, .inr (0, [.ref hbo, .int (nI c), .ref hrg])), (hrg, .inl (E.2.1, n, .inl g))]) (wr := [(hbo, .inl (E.2.1, n, .inl o)), (hw, .inr (5, [.int (nI n), .ref hv, .ref hs, .ref hg, .ref ho])), (hv, .inl (E.2.2.1, n, .inr (.inl vals))), (hs, .inl (E.2.1, n, .inl stp)), (hg, .inl (E.2.1, n, .inl reg)), (ho, .inl (E.2.2.2, n, .inl lo))]) (rn_V (b := hgr) (ci := 0) (As := [.int (reg i)]) (rest := [.int (nI i), .ref hbo]) (n := 1) ⟨hx, hb, hml, hown, hts⟩ ta_cons wq_X0_30 (by decide +kernel) hK (c_place_old l E n hgr hbo hrg c b g (reg i) (hn) (by omega) (hbc) (g1) (g2) _) ⟨Nat.le_of_ble_eq_true rfl, Nat.le_of_ble_eq_true rfl⟩ hP hD [0, 2] rfl rfl rfl rfl rfl hl.1 rfl (Nat.le_of_ble_eq_true rfl) dX0_form_40 ⟨Nat.le_of_ble_eq_true rfl, Nat.le_of_ble_eq_true rfl⟩) hP hD hS hA [0, 2] [1, 3, 4, 5, 6, 7] rfl rfl rfl (by decide) (fun r_40 u_40 H locs hwC hP hD hS => ?_)
        subst hwC
        have hP : va_P E.1 classes [(hbo, .inl (E.2.1, n, .inl o)), (hw, .inr (5, [.int (nI n), .ref hv, .ref hs, .ref hg, .ref ho])), (hv, .inl (E.2.2.1, n, .inr (.inl vals))), (hs, .inl (E.2.1, n, .inl stp)), (hg, .inl (E.2.1, n, .inl reg)), (ho, .inl (E.2.2.2, n, .inl lo)), (hgr, .inr (0, [.ref hbo, .int (nI c), .ref hrg])), (hrg, .inl (E.2.1, n, .inl (upd g b (g b ||| (reg i)))))] H := hP
        have hD : va_D AM [(hbo, .inl (E.2.1, n, .inl o)), (hw, .inr (5, [.int (nI n), .ref hv, .ref hs, .ref hg, .ref ho])), (hv, .inl (E.2.2.1, n, .inr (.inl vals))), (hs, .inl (E.2.1, n, .inl stp)), (hg, .inl (E.2.1, n, .inl reg)), (ho, .inl (E.2.2.2, n, .inl lo)), (hgr, .inr (0, [.ref hbo, .int (nI c), .ref hrg])), (hrg, .inl (E.2.1, n, .inl (upd g b (g b ||| (reg i)))))] := hD
        refine as_i i hx hb hK hP hD hS 0 rfl (by first | assumption | omega) (by omega) dX0_form_43 (fun H locs hP hD hS => ?_)
        have hP : va_P E.1 classes [(hbo, .inl (E.2.1, n, .inl (upd o i (nI b)))), (hw, .inr (5, [.int (nI n), .ref hv, .ref hs, .ref hg, .ref ho])), (hv, .inl (E.2.2.1, n, .inr (.inl vals))), (hs, .inl (E.2.1, n, .inl stp)), (hg, .inl (E.2.1, n, .inl reg)), (ho, .inl (E.2.2.2, n, .inl lo)), (hgr, .inr (0, [.ref hbo, .int (nI c), .ref hrg])), (hrg, .inl (E.2.1, n, .inl (upd g b (g b ||| (reg i)))))] H := hP
        have hD : va_D AM [(hbo, .inl (E.2.1, n, .inl (upd o i (nI b)))), (hw, .inr (5, [.int (nI n), .ref hv, .ref hs, .ref hg, .ref ho])), (hv, .inl (E.2.2.1, n, .inr (.inl vals))), (hs, .inl (E.2.1, n, .inl stp)), (hg, .inl (E.2.1, n, .inl reg)), (ho, .inl (E.2.2.2, n, .inl lo)), (hgr, .inr (0, [.ref hbo, .int (nI c), .ref hrg])), (hrg, .inl (E.2.1, n, .inl (upd g b (g b ||| (reg i)))))] := hD
        refine lv_iinc (v := nI (i + 1)) (lv' := [(2, .int (nI (i + 1))), (0, .ref hgr), (1, .ref hw)]) hx hb dX0_form_44 hl (k := 0) rfl (nI_1 i) (by decide) rfl (fun ls hl => ?_)
        refine lv_goto (tgt := 7) hx hb dX0_form_47 (by decide) ?_
        exact ih7 (i + 1, c, upd o i (nI b), upd g b (g b ||| reg i)) _ _ _ ⟨hP.sub [6, 0, 7, 1, 2, 3, 4, 5] rfl, hD.sub [6, 0, 7, 1, 2, 3, 4, 5] (by decide) rfl, hS, lv_sub hl [0, 1, 2] rfl, by omega, by omega, z1.1, z1.2.1, z1.2.2⟩ (by show n - (i + 1) < n - i; omega)
      · have z1 := bat_new (by omega) c_26 h1 h2 hc h4 g1
        refine af_i (wc := [(hgr, .inr (0, [.ref hbo, .int (nI c), .ref hrg])), (hrg, .inl (E.2.1, n, .inl g))]) (wr := [(hbo, .inl (E.2.1, n, .inl o)), (hw, .inr (5, [.int (nI n), .ref hv, .ref hs, .ref hg, .ref ho])), (hv, .inl (E.2.2.1, n, .inr (.inl vals))), (hs, .inl (E.2.1, n, .inl stp)), (hg, .inl (E.2.1, n, .inl reg)), (ho, .inl (E.2.2.2, n, .inl lo))]) (rn_V (b := hgr) (ci := 0) (As := [.int (reg i)]) (rest := [.int (nI i), .ref hbo]) (n := 1) ⟨hx, hb, hml, hown, hts⟩ ta_cons wq_X0_30 (by decide +kernel) hK (c_place_new l E n hgr hbo hrg c g (reg i) (hn) (by omega) (g1) _) ⟨Nat.le_of_ble_eq_true rfl, Nat.le_of_ble_eq_true rfl⟩ hP hD [0, 2] rfl rfl rfl rfl rfl hl.1 rfl (Nat.le_of_ble_eq_true rfl) dX0_form_40 ⟨Nat.le_of_ble_eq_true rfl, Nat.le_of_ble_eq_true rfl⟩) hP hD hS hA [0, 2] [1, 3, 4, 5, 6, 7] rfl rfl rfl (by decide) (fun r_40 u_40 H locs hwC hP hD hS => ?_)
        subst hwC
        have hP : va_P E.1 classes [(hbo, .inl (E.2.1, n, .inl o)), (hw, .inr (5, [.int (nI n), .ref hv, .ref hs, .ref hg, .ref ho])), (hv, .inl (E.2.2.1, n, .inr (.inl vals))), (hs, .inl (E.2.1, n, .inl stp)), (hg, .inl (E.2.1, n, .inl reg)), (ho, .inl (E.2.2.2, n, .inl lo)), (hgr, .inr (0, [.ref hbo, .int (nI (c + 1)), .ref hrg])), (hrg, .inl (E.2.1, n, .inl (upd g c (reg i))))] H := hP
        have hD : va_D AM [(hbo, .inl (E.2.1, n, .inl o)), (hw, .inr (5, [.int (nI n), .ref hv, .ref hs, .ref hg, .ref ho])), (hv, .inl (E.2.2.1, n, .inr (.inl vals))), (hs, .inl (E.2.1, n, .inl stp)), (hg, .inl (E.2.1, n, .inl reg)), (ho, .inl (E.2.2.2, n, .inl lo)), (hgr, .inr (0, [.ref hbo, .int (nI (c + 1)), .ref hrg])), (hrg, .inl (E.2.1, n, .inl (upd g c (reg i))))] := hD
        refine as_i i hx hb hK hP hD hS 0 rfl (by first | assumption | omega) (by omega) dX0_form_43 (fun H locs hP hD hS => ?_)
        have hP : va_P E.1 classes [(hbo, .inl (E.2.1, n, .inl (upd o i (nI c)))), (hw, .inr (5, [.int (nI n), .ref hv, .ref hs, .ref hg, .ref ho])), (hv, .inl (E.2.2.1, n, .inr (.inl vals))), (hs, .inl (E.2.1, n, .inl stp)), (hg, .inl (E.2.1, n, .inl reg)), (ho, .inl (E.2.2.2, n, .inl lo)), (hgr, .inr (0, [.ref hbo, .int (nI (c + 1)), .ref hrg])), (hrg, .inl (E.2.1, n, .inl (upd g c (reg i))))] H := hP
        have hD : va_D AM [(hbo, .inl (E.2.1, n, .inl (upd o i (nI c)))), (hw, .inr (5, [.int (nI n), .ref hv, .ref hs, .ref hg, .ref ho])), (hv, .inl (E.2.2.1, n, .inr (.inl vals))), (hs, .inl (E.2.1, n, .inl stp)), (hg, .inl (E.2.1, n, .inl reg)), (ho, .inl (E.2.2.2, n, .inl lo)), (hgr, .inr (0, [.ref hbo, .int (nI (c + 1)), .ref hrg])), (hrg, .inl (E.2.1, n, .inl (upd g c (reg i))))] := hD
        refine lv_iinc (v := nI (i + 1)) (lv' := [(2, .int (nI (i + 1))), (0, .ref hgr), (1, .ref hw)]) hx hb dX0_form_44 hl (k := 0) rfl (nI_1 i) (by decide) rfl (fun ls hl => ?_)
        refine lv_goto (tgt := 7) hx hb dX0_form_47 (by decide) ?_
        exact ih7 (i + 1, c + 1, upd o i (nI c), upd g c (reg i)) _ _ _ ⟨hP.sub [6, 0, 7, 1, 2, 3, 4, 5] rfl, hD.sub [6, 0, 7, 1, 2, 3, 4, 5] (by decide) rfl, hS, lv_sub hl [0, 1, 2] rfl, by omega, by omega, z1.1, z1.2.1, z1.2.2⟩ (by show n - (i + 1) < n - i; omega)
    · have z1 := bat_left (by omega) c_26 h1 h2 hc h4
      refine lv_iconst (v := (-1)) hx hb dX0_form_29 (by decide) ?_
      refine lv_goto (tgt := 43) hx hb dX0_form_30 (by decide) ?_
      refine as_i i hx hb hK hP hD hS 1 rfl (by first | assumption | omega) (by omega) dX0_form_43 (fun H locs hP hD hS => ?_)
      have hP : va_P E.1 classes [(hgr, .inr (0, [.ref hbo, .int (nI c), .ref hrg])), (hbo, .inl (E.2.1, n, .inl (upd o i (-1)))), (hrg, .inl (E.2.1, n, .inl g)), (hw, .inr (5, [.int (nI n), .ref hv, .ref hs, .ref hg, .ref ho])), (hv, .inl (E.2.2.1, n, .inr (.inl vals))), (hs, .inl (E.2.1, n, .inl stp)), (hg, .inl (E.2.1, n, .inl reg)), (ho, .inl (E.2.2.2, n, .inl lo))] H := hP
      have hD : va_D AM [(hgr, .inr (0, [.ref hbo, .int (nI c), .ref hrg])), (hbo, .inl (E.2.1, n, .inl (upd o i (-1)))), (hrg, .inl (E.2.1, n, .inl g)), (hw, .inr (5, [.int (nI n), .ref hv, .ref hs, .ref hg, .ref ho])), (hv, .inl (E.2.2.1, n, .inr (.inl vals))), (hs, .inl (E.2.1, n, .inl stp)), (hg, .inl (E.2.1, n, .inl reg)), (ho, .inl (E.2.2.2, n, .inl lo))] := hD
      refine lv_iinc (v := nI (i + 1)) (lv' := [(2, .int (nI (i + 1))), (0, .ref hgr), (1, .ref hw)]) hx hb dX0_form_44 hl (k := 0) rfl (nI_1 i) (by decide) rfl (fun ls hl => ?_)
      refine lv_goto (tgt := 7) hx hb dX0_form_47 (by decide) ?_
      exact ih7 (i + 1, c, upd o i (-1), g) _ _ _ ⟨hP.sub [0, 1, 2, 3, 4, 5, 6, 7] rfl, hD.sub [0, 1, 2, 3, 4, 5, 6, 7] (by decide) rfl, hS, lv_sub hl [0, 1, 2] rfl, by omega, by omega, z1.1, z1.2.1, z1.2.2⟩ (by show n - (i + 1) < n - i; omega)
end
section
set_option maxHeartbeats 4000000 in
set_option maxRecDepth 100000 in
theorem c_fhas (l : Launch) (E : EE) (hfl : Nat) (hfs : Nat) (fc : Int32) (fs : Nat → Int64) (w : Nat) (t : Int32) (hw16 : w < 16) : Mi (S := Unit) l E yX3_has (.code yX3_has cX3_has 3 (some .boolean)) ({ frames := 0, cells := 0, slots := 0, locals := 0 }) [.ref hfl, .int (nI w), .int t] [(hfl, .inr (3, [.int fc, .ref hfs])), (hfs, .inl (E.2.2.1, 16, .inr (.inl fs)))] (fun (ans : Int32) (_ : Unit) => ans = fhas (fs w) t) (fun u : Unit => [(hfl, .inr (3, [.int fc, .ref hfs])), (hfs, .inl (E.2.2.1, 16, .inr (.inl fs)))]) := by
  refine Mi.ofW (by decide) (Nat.le_of_ble_eq_true rfl) ?_
  intro pM eM sM mM bM meM cM AM ls hB hA hP hD hS hl
  obtain ⟨hx, hb, hr, hml, hown, hlocks, hnm, hts, hK⟩ := hB
  have hl : lv_has ls 3 [(0, .ref hfl), (1, .int (nI w)), (2, .int t)] := hl
  refine lv_aload_n hx hb dX3_has_0 rfl (lv_at hl 0 rfl) ?_
  refine va_get (D := E.1) (ci := 3) (v := .ref hfs) (C := RX3) (T := TX3) (N := 2) hx hb hts ux_X3' hown hK.1 hP 0 rfl rfl 1 (by decide) (hts _ (ta_cons _ mw_117)) (fun _ h9 => h9) rfl dX3_has_1 ?_
  refine lv_iload_n hx hb dX3_has_4 rfl (lv_at hl 1 rfl) ?_
  refine ia_l w hx hb hK hP 1 rfl (by first | assumption | omega) (by decide) dX3_has_5 ?_
  refine lv_lconst (v := 1) hx hb dX3_has_6 (by decide) ?_
  refine lv_iload_n hx hb dX3_has_7 rfl (lv_at hl 2 rfl) ?_
  refine lv_lshl hx hb dX3_has_8 rfl ?_
  refine lv_land hx hb dX3_has_9 ?_
  refine lv_lconst (v := 0) hx hb dX3_has_10 (by decide) ?_
  refine W.lcmp hx hb dX3_has_11 ?_
  refine lv_if_eq (tgt := 19) hx hb dX3_has_12 (by decide) (fun c_12 => ?_) (fun c_12 => ?_)
  · refine lv_iconst (v := 0) hx hb dX3_has_19 (by decide) ?_
    exact Rz hx hb hr hlocks (Or.inl rfl) hP hD hS () [0, 1] rfl rfl ((if_pos (lg_cmp_0.mp c_12)).symm) (Nat.le_of_ble_eq_true rfl) (Nat.le_of_ble_eq_true rfl) dX3_has_20
  · refine lv_iconst (v := 1) hx hb dX3_has_15 (by decide) ?_
    refine lv_goto (tgt := 20) hx hb dX3_has_16 (by decide) ?_
    exact Rz hx hb hr hlocks (Or.inr rfl) hP hD hS () [0, 1] rfl rfl ((if_neg (fun h => c_12 (lg_cmp_0.mpr h))).symm) (Nat.le_of_ble_eq_true rfl) (Nat.le_of_ble_eq_true rfl) dX3_has_20

set_option maxHeartbeats 4000000 in
set_option maxRecDepth 100000 in
theorem c_fadd (l : Launch) (E : EE) (hfl : Nat) (hfs : Nat) (fc : Int32) (fs : Nat → Int64) (w : Nat) (t : Int32) (hw16 : w < 16) : Mv (S := Unit) l E yX3_add (.code yX3_add cX3_add 3 none) ({ frames := 0, cells := 0, slots := 0, locals := 0 }) [.ref hfl, .int (nI w), .int t] [(hfl, .inr (3, [.int fc, .ref hfs])), (hfs, .inl (E.2.2.1, 16, .inr (.inl fs)))] (fun _ : Unit => True) (fun u : Unit => [(hfl, .inr (3, [.int (fc + 1), .ref hfs])), (hfs, .inl (E.2.2.1, 16, .inr (.inl (vp_updL fs w (fs w ||| bitm t)))))]) := by
  refine Mv.ofW (by decide) (Nat.le_of_ble_eq_true rfl) ?_
  intro pM eM sM mM bM meM cM AM ls hB hA hP hD hS hl
  obtain ⟨hx, hb, hr, hml, hown, hlocks, hnm, hts, hK⟩ := hB
  have hl : lv_has ls 3 [(0, .ref hfl), (1, .int (nI w)), (2, .int t)] := hl
  refine lv_aload_n hx hb dX3_add_0 rfl (lv_at hl 0 rfl) ?_
  refine va_get (D := E.1) (ci := 3) (v := .ref hfs) (C := RX3) (T := TX3) (N := 2) hx hb hts ux_X3' hown hK.1 hP 0 rfl rfl 1 (by decide) (hts _ (ta_cons _ mw_117)) (fun _ h9 => h9) rfl dX3_add_1 ?_
  refine lv_iload_n hx hb dX3_add_4 rfl (lv_at hl 1 rfl) ?_
  refine lv_dup2_11 hx hb dX3_add_5 rfl rfl ?_
  refine ia_l w hx hb hK hP 1 rfl (by first | assumption | omega) (by decide) dX3_add_6 ?_
  refine lv_lconst (v := 1) hx hb dX3_add_7 (by decide) ?_
  refine lv_iload_n hx hb dX3_add_8 rfl (lv_at hl 2 rfl) ?_
  refine lv_lshl hx hb dX3_add_9 rfl ?_
  refine lv_lor hx hb dX3_add_10 ?_
  refine as_l w hx hb hK hP hD hS 1 rfl (by first | assumption | omega) (by decide) dX3_add_11 (fun H locs hP hD hS => ?_)
  have hP : va_P E.1 classes [(hfl, .inr (3, [.int fc, .ref hfs])), (hfs, .inl (E.2.2.1, 16, .inr (.inl (vp_updL fs w ((fs w) ||| ((1 : Int64) <<< (t.toInt64 &&& 63)))))))] H := hP
  have hD : va_D AM [(hfl, .inr (3, [.int fc, .ref hfs])), (hfs, .inl (E.2.2.1, 16, .inr (.inl (vp_updL fs w ((fs w) ||| ((1 : Int64) <<< (t.toInt64 &&& 63)))))))] := hD
  refine lv_aload_n hx hb dX3_add_12 rfl (lv_at hl 0 rfl) ?_
  refine lv_dup hx hb dX3_add_13 rfl ?_
  refine va_get (D := E.1) (ci := 3) (v := .int fc) (C := RX3) (T := TX3) (N := 2) hx hb hts ux_X3' hown hK.1 hP 0 rfl rfl 0 (by decide) (hts _ (ta_cons _ mw_115)) (fun _ h9 => h9) rfl dX3_add_14 ?_
  refine lv_iconst (v := 1) hx hb dX3_add_17 (by decide) ?_
  refine lv_iadd hx hb dX3_add_18 ?_
  refine va_put (D := E.1) (ci := 3) (v := .int (fc + 1)) (ty := .int) (C := RX3) (T := TX3) (N := 2) hx hb hts ux_X3' tyX3 tyX3_ok nmX3 hown hK.1 hP hD hS 0 rfl rfl 0 (by decide) (hts _ (ta_cons _ mw_115)) (fun _ h9 => h9) rfl (by decide +kernel) rfl rfl (Nat.le_of_ble_eq_true rfl) dX3_add_19 (fun H locs hP hD hS => ?_)
  have hP : va_P E.1 classes [(hfl, .inr (3, [.int (fc + 1), .ref hfs])), (hfs, .inl (E.2.2.1, 16, .inr (.inl (vp_updL fs w ((fs w) ||| ((1 : Int64) <<< (t.toInt64 &&& 63)))))))] H := hP
  have hD : va_D AM [(hfl, .inr (3, [.int (fc + 1), .ref hfs])), (hfs, .inl (E.2.2.1, 16, .inr (.inl (vp_updL fs w ((fs w) ||| ((1 : Int64) <<< (t.toInt64 &&& 63)))))))] := hD
  exact Rv hx hb hr hlocks hP hD hS () [0, 1] rfl rfl (trivial) (Nat.le_of_ble_eq_true rfl) (Nat.le_of_ble_eq_true rfl) dX3_add_22

set_option maxHeartbeats 4000000 in
set_option maxRecDepth 100000 in
theorem c_frem (l : Launch) (E : EE) (hfl : Nat) (hfs : Nat) (fc : Int32) (fs : Nat → Int64) (w : Nat) (t : Int32) (hw16 : w < 16) : Mv (S := Unit) l E yX3_remove (.code yX3_remove cX3_remove 3 none) ({ frames := 0, cells := 0, slots := 0, locals := 0 }) [.ref hfl, .int (nI w), .int t] [(hfl, .inr (3, [.int fc, .ref hfs])), (hfs, .inl (E.2.2.1, 16, .inr (.inl fs)))] (fun _ : Unit => True) (fun u : Unit => [(hfl, .inr (3, [.int (fc - 1), .ref hfs])), (hfs, .inl (E.2.2.1, 16, .inr (.inl (vp_updL fs w (fs w &&& (bitm t ^^^ (-1)))))))]) := by
  refine Mv.ofW (by decide) (Nat.le_of_ble_eq_true rfl) ?_
  intro pM eM sM mM bM meM cM AM ls hB hA hP hD hS hl
  obtain ⟨hx, hb, hr, hml, hown, hlocks, hnm, hts, hK⟩ := hB
  have hl : lv_has ls 3 [(0, .ref hfl), (1, .int (nI w)), (2, .int t)] := hl
  refine lv_aload_n hx hb dX3_remove_0 rfl (lv_at hl 0 rfl) ?_
  refine va_get (D := E.1) (ci := 3) (v := .ref hfs) (C := RX3) (T := TX3) (N := 2) hx hb hts ux_X3' hown hK.1 hP 0 rfl rfl 1 (by decide) (hts _ (ta_cons _ mw_117)) (fun _ h9 => h9) rfl dX3_remove_1 ?_
  refine lv_iload_n hx hb dX3_remove_4 rfl (lv_at hl 1 rfl) ?_
  refine lv_dup2_11 hx hb dX3_remove_5 rfl rfl ?_
  refine ia_l w hx hb hK hP 1 rfl (by first | assumption | omega) (by decide) dX3_remove_6 ?_
  refine lv_lconst (v := 1) hx hb dX3_remove_7 (by decide) ?_
  refine lv_iload_n hx hb dX3_remove_8 rfl (lv_at hl 2 rfl) ?_
  refine lv_lshl hx hb dX3_remove_9 rfl ?_
  refine lv_ldc2 (own := RX3) (v := -1) hx hb hown (hts _ (ta_cons _ mw_348)) dX3_remove_10 ?_
  refine lv_lxor hx hb dX3_remove_13 ?_
  refine lv_land hx hb dX3_remove_14 ?_
  refine as_l w hx hb hK hP hD hS 1 rfl (by first | assumption | omega) (by decide) dX3_remove_15 (fun H locs hP hD hS => ?_)
  have hP : va_P E.1 classes [(hfl, .inr (3, [.int fc, .ref hfs])), (hfs, .inl (E.2.2.1, 16, .inr (.inl (vp_updL fs w ((fs w) &&& (((1 : Int64) <<< (t.toInt64 &&& 63)) ^^^ (-1 : Int64)))))))] H := hP
  have hD : va_D AM [(hfl, .inr (3, [.int fc, .ref hfs])), (hfs, .inl (E.2.2.1, 16, .inr (.inl (vp_updL fs w ((fs w) &&& (((1 : Int64) <<< (t.toInt64 &&& 63)) ^^^ (-1 : Int64)))))))] := hD
  refine lv_aload_n hx hb dX3_remove_16 rfl (lv_at hl 0 rfl) ?_
  refine lv_dup hx hb dX3_remove_17 rfl ?_
  refine va_get (D := E.1) (ci := 3) (v := .int fc) (C := RX3) (T := TX3) (N := 2) hx hb hts ux_X3' hown hK.1 hP 0 rfl rfl 0 (by decide) (hts _ (ta_cons _ mw_115)) (fun _ h9 => h9) rfl dX3_remove_18 ?_
  refine lv_iconst (v := 1) hx hb dX3_remove_21 (by decide) ?_
  refine lv_isub hx hb dX3_remove_22 ?_
  refine va_put (D := E.1) (ci := 3) (v := .int (fc - 1)) (ty := .int) (C := RX3) (T := TX3) (N := 2) hx hb hts ux_X3' tyX3 tyX3_ok nmX3 hown hK.1 hP hD hS 0 rfl rfl 0 (by decide) (hts _ (ta_cons _ mw_115)) (fun _ h9 => h9) rfl (by decide +kernel) rfl rfl (Nat.le_of_ble_eq_true rfl) dX3_remove_23 (fun H locs hP hD hS => ?_)
  have hP : va_P E.1 classes [(hfl, .inr (3, [.int (fc - 1), .ref hfs])), (hfs, .inl (E.2.2.1, 16, .inr (.inl (vp_updL fs w ((fs w) &&& (((1 : Int64) <<< (t.toInt64 &&& 63)) ^^^ (-1 : Int64)))))))] H := hP
  have hD : va_D AM [(hfl, .inr (3, [.int (fc - 1), .ref hfs])), (hfs, .inl (E.2.2.1, 16, .inr (.inl (vp_updL fs w ((fs w) &&& (((1 : Int64) <<< (t.toInt64 &&& 63)) ^^^ (-1 : Int64)))))))] := hD
  exact Rv hx hb hr hlocks hP hD hS () [0, 1] rfl rfl (trivial) (Nat.le_of_ble_eq_true rfl) (Nat.le_of_ble_eq_true rfl) dX3_remove_26

set_option maxHeartbeats 4000000 in
set_option maxRecDepth 100000 in
theorem c_fres (l : Launch) (E : EE) (hfl : Nat) (hfs : Nat) (fc : Int32) (fs : Nat → Int64)  : Mv (S := Unit) l E yX3_reset (.code yX3_reset cX3_reset 2 none) ({ frames := 0, cells := 0, slots := 0, locals := 0 }) [.ref hfl] [(hfl, .inr (3, [.int fc, .ref hfs])), (hfs, .inl (E.2.2.1, 16, .inr (.inl fs)))] (fun _ : Unit => True) (fun u : Unit => [(hfl, .inr (3, [.int 0, .ref hfs])), (hfs, .inl (E.2.2.1, 16, .inr (.inl (fun _ => 0))))]) := by
  refine Mv.ofW (by decide) (Nat.le_of_ble_eq_true rfl) ?_
  intro pM eM sM mM bM meM cM AM ls hB hA hP hD hS hl
  obtain ⟨hx, hb, hr, hml, hown, hlocks, hnm, hts, hK⟩ := hB
  have hl : lv_has ls 2 [(0, .ref hfl)] := hl
  refine lv_aload_n hx hb dX3_reset_0 rfl (lv_at hl 0 rfl) ?_
  refine lv_iconst (v := 0) hx hb dX3_reset_1 (by decide) ?_
  refine va_put (D := E.1) (ci := 3) (v := .int 0) (ty := .int) (C := RX3) (T := TX3) (N := 2) hx hb hts ux_X3' tyX3 tyX3_ok nmX3 hown hK.1 hP hD hS 0 rfl rfl 0 (by decide) (hts _ (ta_cons _ mw_115)) (fun _ h9 => h9) rfl (by decide +kernel) rfl rfl (Nat.le_of_ble_eq_true rfl) dX3_reset_2 (fun H locs hP hD hS => ?_)
  have hP : va_P E.1 classes [(hfl, .inr (3, [.int 0, .ref hfs])), (hfs, .inl (E.2.2.1, 16, .inr (.inl fs)))] H := hP
  have hD : va_D AM [(hfl, .inr (3, [.int 0, .ref hfs])), (hfs, .inl (E.2.2.1, 16, .inr (.inl fs)))] := hD
  refine lv_iconst (v := 0) hx hb dX3_reset_5 (by decide) ?_
  refine lv_istore_n (lv' := [(1, .int 0), (0, .ref hfl)]) hx hb dX3_reset_6 rfl hl (by decide) rfl (fun ls hl => ?_)
  refine W.loop (σ := (Nat) × (Nat → Int64)) (fun a H locs ls => match a with | (i, v) => va_P E.1 classes [(hfl, .inr (3, [.int 0, .ref hfs])), (hfs, .inl (E.2.2.1, 16, .inr (.inl v)))] H ∧ va_D AM [(hfl, .inr (3, [.int 0, .ref hfs])), (hfs, .inl (E.2.2.1, 16, .inr (.inl v)))] ∧ va_S AM sM.heap H locs ∧ lv_has ls 2 [(1, .int (nI i)), (0, .ref hfl)] ∧ (i ≤ 16) ∧ (∀ j, j < i → v j = 0)) (fun a => match a with | (i, v) => 16 - i) (0, fs) ⟨hP.sub [0, 1] rfl, hD.sub [0, 1] (by decide) rfl, hS, lv_sub hl [0, 1] rfl, Nat.zero_le _, fun j h => absurd h (Nat.not_lt_zero j)⟩ ?_
  intro a H locs ls hI ih7
  obtain ⟨i, v⟩ := a
  obtain ⟨hP, hD, hS, hl, hi, p1⟩ := hI
  have hP : va_P E.1 classes [(hfl, .inr (3, [.int 0, .ref hfs])), (hfs, .inl (E.2.2.1, 16, .inr (.inl v)))] H := hP
  have hD : va_D AM [(hfl, .inr (3, [.int 0, .ref hfs])), (hfs, .inl (E.2.2.1, 16, .inr (.inl v)))] := hD
  have hl : lv_has ls 2 [(1, .int (nI i)), (0, .ref hfl)] := hl
  have hi : i ≤ 16 := hi
  have p1 : ∀ j, j < i → v j = 0 := p1
  refine lv_iload_n hx hb dX3_reset_7 rfl (lv_at hl 0 rfl) ?_
  refine lv_bipush (v := 16) hx hb dX3_reset_8 (by decide) ?_
  refine lv_icmp_ge (tgt := 26) hx hb dX3_reset_10 (by decide) (fun c_10 => ?_) (fun c_10 => ?_)
  · have c_10 : 16 ≤ i := (nI_leI (by omega) (by omega)).mp c_10
    have e9 : i = 16 := by omega
    rw [e9] at p1
    obtain ⟨hP, hD⟩ := cg_l (g := fun _ => 0) hP hD 1 rfl (p1)
    have hP : va_P E.1 classes [(hfl, .inr (3, [.int 0, .ref hfs])), (hfs, .inl (E.2.2.1, 16, .inr (.inl (fun _ => 0))))] H := hP
    have hD : va_D AM [(hfl, .inr (3, [.int 0, .ref hfs])), (hfs, .inl (E.2.2.1, 16, .inr (.inl (fun _ => 0))))] := hD
    exact Rv hx hb hr hlocks hP hD hS () [0, 1] rfl rfl (trivial) (Nat.le_of_ble_eq_true rfl) (Nat.le_of_ble_eq_true rfl) dX3_reset_26
  · have c_10 : i < 16 := by
      rcases Nat.lt_or_ge i 16 with q | q
      · exact q
      · exact absurd ((nI_leI (by omega) (by omega)).mpr q) c_10
    refine lv_aload_n hx hb dX3_reset_13 rfl (lv_at hl 1 rfl) ?_
    refine va_get (D := E.1) (ci := 3) (v := .ref hfs) (C := RX3) (T := TX3) (N := 2) hx hb hts ux_X3' hown hK.1 hP 0 rfl rfl 1 (by decide) (hts _ (ta_cons _ mw_117)) (fun _ h9 => h9) rfl dX3_reset_14 ?_
    refine lv_iload_n hx hb dX3_reset_17 rfl (lv_at hl 0 rfl) ?_
    refine lv_lconst (v := 0) hx hb dX3_reset_18 (by decide) ?_
    refine as_l i hx hb hK hP hD hS 1 rfl (by first | assumption | omega) (by decide) dX3_reset_19 (fun H locs hP hD hS => ?_)
    have hP : va_P E.1 classes [(hfl, .inr (3, [.int 0, .ref hfs])), (hfs, .inl (E.2.2.1, 16, .inr (.inl (vp_updL v i (0 : Int64)))))] H := hP
    have hD : va_D AM [(hfl, .inr (3, [.int 0, .ref hfs])), (hfs, .inl (E.2.2.1, 16, .inr (.inl (vp_updL v i (0 : Int64)))))] := hD
    refine lv_iinc (v := nI (i + 1)) (lv' := [(1, .int (nI (i + 1))), (0, .ref hfl)]) hx hb dX3_reset_20 hl (k := 0) rfl (nI_1 i) (by decide) rfl (fun ls hl => ?_)
    refine lv_goto (tgt := 7) hx hb dX3_reset_23 (by decide) ?_
    exact ih7 (i + 1, vp_updL v i 0) _ _ _ ⟨hP.sub [0, 1] rfl, hD.sub [0, 1] (by decide) rfl, hS, lv_sub hl [0, 1] rfl, by omega, fl_l p1⟩ (by show 16 - (i + 1) < 16 - i; omega)

set_option maxHeartbeats 4000000 in
set_option maxRecDepth 100000 in
theorem c_fill (l : Launch) (E : EE) (n : Nat) (hwt : Nat) (hrw : Nat) (hgr : Nat) (hbo : Nat) (hrg : Nat) (fr : Int32) (en : Int32) (cnt : Int32) (b : Int32) (rw : Nat → Int32) (bo : Nat → Int32) (hn : n < 2 ^ 31) : Mi (S := Nat → Int32) l E yX4_fill (.code yX4_fill cX4_fill 4 (some .int)) ({ frames := 0, cells := 0, slots := 0, locals := 0 }) [.ref hwt, .ref hgr, .int b] [(hwt, .inr (4, [.ref hrw, .int fr, .int en])), (hrw, .inl (E.2.1, n, .inl rw)), (hgr, .inr (0, [.ref hbo, .int cnt, .ref hrg])), (hbo, .inl (E.2.1, n, .inl bo))] (fun (ans : Int32) (u : Nat → Int32) => ans = nI (memB bo b n).length ∧ RowIs u 0 (memB bo b n)) (fun u : Nat → Int32 => [(hwt, .inr (4, [.ref hrw, .int 0, .int (nI (memB bo b n).length)])), (hrw, .inl (E.2.1, n, .inl u)), (hgr, .inr (0, [.ref hbo, .int cnt, .ref hrg])), (hbo, .inl (E.2.1, n, .inl bo))]) := by
  refine Mi.ofW (by decide) (Nat.le_of_ble_eq_true rfl) ?_
  intro pM eM sM mM bM meM cM AM ls hB hA hP hD hS hl
  obtain ⟨hx, hb, hr, hml, hown, hlocks, hnm, hts, hK⟩ := hB
  have hl : lv_has ls 4 [(0, .ref hwt), (1, .ref hgr), (2, .int b)] := hl
  refine lv_aload_n hx hb dX4_fill_0 rfl (lv_at hl 0 rfl) ?_
  refine lv_iconst (v := 0) hx hb dX4_fill_1 (by decide) ?_
  refine va_put (D := E.1) (ci := 4) (v := .int 0) (ty := .int) (C := RX4) (T := TX4) (N := 3) hx hb hts ux_X4' tyX4 tyX4_ok nmX4 hown hK.1 hP hD hS 0 rfl rfl 1 (by decide) (hts _ (ta_cons _ mw_136)) (fun _ h9 => h9) rfl (by decide +kernel) rfl rfl (Nat.le_of_ble_eq_true rfl) dX4_fill_2 (fun H locs hP hD hS => ?_)
  have hP : va_P E.1 classes [(hwt, .inr (4, [.ref hrw, .int 0, .int en])), (hrw, .inl (E.2.1, n, .inl rw)), (hgr, .inr (0, [.ref hbo, .int cnt, .ref hrg])), (hbo, .inl (E.2.1, n, .inl bo))] H := hP
  have hD : va_D AM [(hwt, .inr (4, [.ref hrw, .int 0, .int en])), (hrw, .inl (E.2.1, n, .inl rw)), (hgr, .inr (0, [.ref hbo, .int cnt, .ref hrg])), (hbo, .inl (E.2.1, n, .inl bo))] := hD
  refine lv_aload_n hx hb dX4_fill_5 rfl (lv_at hl 0 rfl) ?_
  refine lv_iconst (v := 0) hx hb dX4_fill_6 (by decide) ?_
  refine va_put (D := E.1) (ci := 4) (v := .int 0) (ty := .int) (C := RX4) (T := TX4) (N := 3) hx hb hts ux_X4' tyX4 tyX4_ok nmX4 hown hK.1 hP hD hS 0 rfl rfl 2 (by decide) (hts _ (ta_cons _ mw_137)) (fun _ h9 => h9) rfl (by decide +kernel) rfl rfl (Nat.le_of_ble_eq_true rfl) dX4_fill_7 (fun H locs hP hD hS => ?_)
  have hP : va_P E.1 classes [(hwt, .inr (4, [.ref hrw, .int 0, .int 0])), (hrw, .inl (E.2.1, n, .inl rw)), (hgr, .inr (0, [.ref hbo, .int cnt, .ref hrg])), (hbo, .inl (E.2.1, n, .inl bo))] H := hP
  have hD : va_D AM [(hwt, .inr (4, [.ref hrw, .int 0, .int 0])), (hrw, .inl (E.2.1, n, .inl rw)), (hgr, .inr (0, [.ref hbo, .int cnt, .ref hrg])), (hbo, .inl (E.2.1, n, .inl bo))] := hD
  refine lv_iconst (v := 0) hx hb dX4_fill_10 (by decide) ?_
  refine lv_istore_n (lv' := [(3, .int 0), (0, .ref hwt), (1, .ref hgr), (2, .int b)]) hx hb dX4_fill_11 rfl hl (by decide) rfl (fun ls hl => ?_)
  refine W.loop (σ := (Nat) × (Nat → Int32)) (fun a H locs ls => match a with | (i, g) => va_P E.1 classes [(hwt, .inr (4, [.ref hrw, .int 0, .int (nI (memB bo b i).length)])), (hrw, .inl (E.2.1, n, .inl g)), (hgr, .inr (0, [.ref hbo, .int cnt, .ref hrg])), (hbo, .inl (E.2.1, n, .inl bo))] H ∧ va_D AM [(hwt, .inr (4, [.ref hrw, .int 0, .int (nI (memB bo b i).length)])), (hrw, .inl (E.2.1, n, .inl g)), (hgr, .inr (0, [.ref hbo, .int cnt, .ref hrg])), (hbo, .inl (E.2.1, n, .inl bo))] ∧ va_S AM sM.heap H locs ∧ lv_has ls 4 [(3, .int (nI i)), (0, .ref hwt), (1, .ref hgr), (2, .int b)] ∧ (i ≤ n) ∧ (RowIs g 0 (memB bo b i))) (fun a => match a with | (i, g) => n - i) (0, rw) ⟨hP.sub [0, 1, 2, 3] rfl, hD.sub [0, 1, 2, 3] (by decide) rfl, hS, lv_sub hl [0, 1, 2, 3] rfl, Nat.zero_le _, row_nil⟩ ?_
  intro a H locs ls hI ih12
  obtain ⟨i, g⟩ := a
  obtain ⟨hP, hD, hS, hl, hi, p1⟩ := hI
  have hP : va_P E.1 classes [(hwt, .inr (4, [.ref hrw, .int 0, .int (nI (memB bo b i).length)])), (hrw, .inl (E.2.1, n, .inl g)), (hgr, .inr (0, [.ref hbo, .int cnt, .ref hrg])), (hbo, .inl (E.2.1, n, .inl bo))] H := hP
  have hD : va_D AM [(hwt, .inr (4, [.ref hrw, .int 0, .int (nI (memB bo b i).length)])), (hrw, .inl (E.2.1, n, .inl g)), (hgr, .inr (0, [.ref hbo, .int cnt, .ref hrg])), (hbo, .inl (E.2.1, n, .inl bo))] := hD
  have hl : lv_has ls 4 [(3, .int (nI i)), (0, .ref hwt), (1, .ref hgr), (2, .int b)] := hl
  have hi : i ≤ n := hi
  have p1 : RowIs g 0 (memB bo b i) := p1
  refine lv_iload_n hx hb dX4_fill_12 rfl (lv_at hl 0 rfl) ?_
  refine lv_aload_n hx hb dX4_fill_13 rfl (lv_at hl 1 rfl) ?_
  refine va_get (D := E.1) (ci := 4) (v := .ref hrw) (C := RX4) (T := TX4) (N := 3) hx hb hts ux_X4' hown hK.1 hP 0 rfl rfl 0 (by decide) (hts _ (ta_cons _ mw_135)) (fun _ h9 => h9) rfl dX4_fill_14 ?_
  refine va_alen (v := nI n) hx hb hK.1 hP 1 0 rfl rfl rfl dX4_fill_17 ?_
  refine lv_icmp_ge (tgt := 57) hx hb dX4_fill_18 (by decide) (fun c_18 => ?_) (fun c_18 => ?_)
  · have c_18 : n ≤ i := (nI_leI (by omega) (by omega)).mp c_18
    have e9 : i = n := by omega
    subst e9
    refine lv_aload_n hx hb dX4_fill_57 rfl (lv_at hl 1 rfl) ?_
    refine va_get (D := E.1) (ci := 4) (v := .int (nI (memB bo b i).length)) (C := RX4) (T := TX4) (N := 3) hx hb hts ux_X4' hown hK.1 hP 0 rfl rfl 2 (by decide) (hts _ (ta_cons _ mw_137)) (fun _ h9 => h9) rfl dX4_fill_58 ?_
    exact Ri hx hb hr hlocks hP hD hS g [0, 1, 2, 3] rfl rfl (⟨rfl, p1⟩) (Nat.le_of_ble_eq_true rfl) (Nat.le_of_ble_eq_true rfl) dX4_fill_61
  · have c_18 : i < n := by
      rcases Nat.lt_or_ge i n with q | q
      · exact q
      · exact absurd ((nI_leI (by omega) (by omega)).mpr q) c_18
    refine lv_aload_n hx hb dX4_fill_21 rfl (lv_at hl 2 rfl) ?_
    refine va_get (D := E.1) (ci := 0) (v := .ref hbo) (C := RX0) (T := TX0) (N := 3) hx hb hts ux_X0' hown hK.1 hP 2 rfl rfl 0 (by decide) (hts _ (ta_cons _ mw_96)) (fun _ h9 => h9) rfl dX4_fill_22 ?_
    refine lv_iload_n hx hb dX4_fill_25 rfl (lv_at hl 0 rfl) ?_
    refine ia_i i hx hb hK hP 3 rfl (by first | assumption | omega) (by omega) dX4_fill_26 ?_
    refine lv_iload_n hx hb dX4_fill_27 rfl (lv_at hl 3 rfl) ?_
    refine lv_icmp_ne (tgt := 51) hx hb dX4_fill_28 (by decide) (fun c_28 => ?_) (fun c_28 => ?_)
    · have e8 := memB_out c_28
      rw [← e8] at hP hD
      refine lv_iinc (v := nI (i + 1)) (lv' := [(3, .int (nI (i + 1))), (0, .ref hwt), (1, .ref hgr), (2, .int b)]) hx hb dX4_fill_51 hl (k := 0) rfl (nI_1 i) (by decide) rfl (fun ls hl => ?_)
      refine lv_goto (tgt := 12) hx hb dX4_fill_54 (by decide) ?_
      exact ih12 (i + 1, g) _ _ _ ⟨hP.sub [0, 1, 2, 3] rfl, hD.sub [0, 1, 2, 3] (by decide) rfl, hS, lv_sub hl [0, 1, 2, 3] rfl, by omega, by rw [e8]; exact p1⟩ (by show n - (i + 1) < n - i; omega)
    · have e8 := memB_in c_28
      have e7 := memB_le (bo := bo) (b := b) i
      refine lv_aload_n hx hb dX4_fill_31 rfl (lv_at hl 1 rfl) ?_
      refine va_get (D := E.1) (ci := 4) (v := .ref hrw) (C := RX4) (T := TX4) (N := 3) hx hb hts ux_X4' hown hK.1 hP 0 rfl rfl 0 (by decide) (hts _ (ta_cons _ mw_135)) (fun _ h9 => h9) rfl dX4_fill_32 ?_
      refine lv_aload_n hx hb dX4_fill_35 rfl (lv_at hl 1 rfl) ?_
      refine va_get (D := E.1) (ci := 4) (v := .int (nI (memB bo b i).length)) (C := RX4) (T := TX4) (N := 3) hx hb hts ux_X4' hown hK.1 hP 0 rfl rfl 2 (by decide) (hts _ (ta_cons _ mw_137)) (fun _ h9 => h9) rfl dX4_fill_36 ?_
      refine lv_iload_n hx hb dX4_fill_39 rfl (lv_at hl 0 rfl) ?_
      refine as_i ((memB bo b i).length) hx hb hK hP hD hS 1 rfl (by omega) (by omega) dX4_fill_40 (fun H locs hP hD hS => ?_)
      have hP : va_P E.1 classes [(hwt, .inr (4, [.ref hrw, .int 0, .int (nI (memB bo b i).length)])), (hrw, .inl (E.2.1, n, .inl (upd g ((memB bo b i).length) (nI i)))), (hgr, .inr (0, [.ref hbo, .int cnt, .ref hrg])), (hbo, .inl (E.2.1, n, .inl bo))] H := hP
      have hD : va_D AM [(hwt, .inr (4, [.ref hrw, .int 0, .int (nI (memB bo b i).length)])), (hrw, .inl (E.2.1, n, .inl (upd g ((memB bo b i).length) (nI i)))), (hgr, .inr (0, [.ref hbo, .int cnt, .ref hrg])), (hbo, .inl (E.2.1, n, .inl bo))] := hD
      refine lv_aload_n hx hb dX4_fill_41 rfl (lv_at hl 1 rfl) ?_
      refine lv_dup hx hb dX4_fill_42 rfl ?_
      refine va_get (D := E.1) (ci := 4) (v := .int (nI (memB bo b i).length)) (C := RX4) (T := TX4) (N := 3) hx hb hts ux_X4' hown hK.1 hP 0 rfl rfl 2 (by decide) (hts _ (ta_cons _ mw_137)) (fun _ h9 => h9) rfl dX4_fill_43 ?_
      refine lv_iconst (v := 1) hx hb dX4_fill_46 (by decide) ?_
      refine lv_iadd hx hb dX4_fill_47 ?_
      refine tp_i (y := nI (memB bo b (i + 1)).length) (by rw [e8, List.length_append]; exact nI_1 _) ?_
      refine va_put (D := E.1) (ci := 4) (v := .int (nI (memB bo b (i + 1)).length)) (ty := .int) (C := RX4) (T := TX4) (N := 3) hx hb hts ux_X4' tyX4 tyX4_ok nmX4 hown hK.1 hP hD hS 0 rfl rfl 2 (by decide) (hts _ (ta_cons _ mw_137)) (fun _ h9 => h9) rfl (by decide +kernel) rfl rfl (Nat.le_of_ble_eq_true rfl) dX4_fill_48 (fun H locs hP hD hS => ?_)
      have hP : va_P E.1 classes [(hwt, .inr (4, [.ref hrw, .int 0, .int (nI (memB bo b (i + 1)).length)])), (hrw, .inl (E.2.1, n, .inl (upd g ((memB bo b i).length) (nI i)))), (hgr, .inr (0, [.ref hbo, .int cnt, .ref hrg])), (hbo, .inl (E.2.1, n, .inl bo))] H := hP
      have hD : va_D AM [(hwt, .inr (4, [.ref hrw, .int 0, .int (nI (memB bo b (i + 1)).length)])), (hrw, .inl (E.2.1, n, .inl (upd g ((memB bo b i).length) (nI i)))), (hgr, .inr (0, [.ref hbo, .int cnt, .ref hrg])), (hbo, .inl (E.2.1, n, .inl bo))] := hD
      refine lv_iinc (v := nI (i + 1)) (lv' := [(3, .int (nI (i + 1))), (0, .ref hwt), (1, .ref hgr), (2, .int b)]) hx hb dX4_fill_51 hl (k := 0) rfl (nI_1 i) (by decide) rfl (fun ls hl => ?_)
      refine lv_goto (tgt := 12) hx hb dX4_fill_54 (by decide) ?_
      exact ih12 (i + 1, upd g (memB bo b i).length (nI i)) _ _ _ ⟨hP.sub [0, 1, 2, 3] rfl, hD.sub [0, 1, 2, 3] (by decide) rfl, hS, lv_sub hl [0, 1, 2, 3] rfl, by omega, by rw [e8]; exact row_snoc p1⟩ (by show n - (i + 1) < n - i; omega)

set_option maxHeartbeats 4000000 in
set_option maxRecDepth 100000 in
theorem c_take0 (l : Launch) (E : EE) (n : Nat) (hwt : Nat) (hrw : Nat) (f : Nat) (g : Nat) (rw : Nat → Int32) (hf : f < 2 ^ 31) (hg : g ≤ f) : Mi (S := Unit) l E yX4_takeFirst (.code yX4_takeFirst cX4_takeFirst 2 (some .int)) ({ frames := 0, cells := 0, slots := 0, locals := 0 }) [.ref hwt] [(hwt, .inr (4, [.ref hrw, .int (nI f), .int (nI g)])), (hrw, .inl (E.2.1, n, .inl rw))] (fun (ans : Int32) (_ : Unit) => ans = (-1)) (fun u : Unit => [(hwt, .inr (4, [.ref hrw, .int (nI f), .int (nI g)])), (hrw, .inl (E.2.1, n, .inl rw))]) := by
  refine Mi.ofW (by decide) (Nat.le_of_ble_eq_true rfl) ?_
  intro pM eM sM mM bM meM cM AM ls hB hA hP hD hS hl
  obtain ⟨hx, hb, hr, hml, hown, hlocks, hnm, hts, hK⟩ := hB
  have hl : lv_has ls 2 [(0, .ref hwt)] := hl
  refine lv_aload_n hx hb dX4_takeFirst_0 rfl (lv_at hl 0 rfl) ?_
  refine va_get (D := E.1) (ci := 4) (v := .int (nI f)) (C := RX4) (T := TX4) (N := 3) hx hb hts ux_X4' hown hK.1 hP 0 rfl rfl 1 (by decide) (hts _ (ta_cons _ mw_136)) (fun _ h9 => h9) rfl dX4_takeFirst_1 ?_
  refine lv_aload_n hx hb dX4_takeFirst_4 rfl (lv_at hl 0 rfl) ?_
  refine va_get (D := E.1) (ci := 4) (v := .int (nI g)) (C := RX4) (T := TX4) (N := 3) hx hb hts ux_X4' hown hK.1 hP 0 rfl rfl 2 (by decide) (hts _ (ta_cons _ mw_137)) (fun _ h9 => h9) rfl dX4_takeFirst_5 ?_
  refine lv_icmp_lt (tgt := 13) hx hb dX4_takeFirst_8 (by decide) (fun c_8 => ?_) (fun c_8 => ?_)
  · exact absurd ((nI_ltI (by omega) (by omega)).mp c_8) (by omega)
  · refine lv_iconst (v := (-1)) hx hb dX4_takeFirst_11 (by decide) ?_
    exact Ri hx hb hr hlocks hP hD hS () [0, 1] rfl rfl (rfl) (Nat.le_of_ble_eq_true rfl) (Nat.le_of_ble_eq_true rfl) dX4_takeFirst_12

set_option maxHeartbeats 4000000 in
set_option maxRecDepth 100000 in
theorem c_take1 (l : Launch) (E : EE) (n : Nat) (hwt : Nat) (hrw : Nat) (f : Nat) (g : Nat) (rw : Nat → Int32) (hn : n < 2 ^ 31) (hf : f < g) (hg : g ≤ n) : Mi (S := Unit) l E yX4_takeFirst (.code yX4_takeFirst cX4_takeFirst 2 (some .int)) ({ frames := 0, cells := 0, slots := 0, locals := 0 }) [.ref hwt] [(hwt, .inr (4, [.ref hrw, .int (nI f), .int (nI g)])), (hrw, .inl (E.2.1, n, .inl rw))] (fun (ans : Int32) (_ : Unit) => ans = rw f) (fun u : Unit => [(hwt, .inr (4, [.ref hrw, .int (nI (f + 1)), .int (nI g)])), (hrw, .inl (E.2.1, n, .inl rw))]) := by
  refine Mi.ofW (by decide) (Nat.le_of_ble_eq_true rfl) ?_
  intro pM eM sM mM bM meM cM AM ls hB hA hP hD hS hl
  obtain ⟨hx, hb, hr, hml, hown, hlocks, hnm, hts, hK⟩ := hB
  have hl : lv_has ls 2 [(0, .ref hwt)] := hl
  refine lv_aload_n hx hb dX4_takeFirst_0 rfl (lv_at hl 0 rfl) ?_
  refine va_get (D := E.1) (ci := 4) (v := .int (nI f)) (C := RX4) (T := TX4) (N := 3) hx hb hts ux_X4' hown hK.1 hP 0 rfl rfl 1 (by decide) (hts _ (ta_cons _ mw_136)) (fun _ h9 => h9) rfl dX4_takeFirst_1 ?_
  refine lv_aload_n hx hb dX4_takeFirst_4 rfl (lv_at hl 0 rfl) ?_
  refine va_get (D := E.1) (ci := 4) (v := .int (nI g)) (C := RX4) (T := TX4) (N := 3) hx hb hts ux_X4' hown hK.1 hP 0 rfl rfl 2 (by decide) (hts _ (ta_cons _ mw_137)) (fun _ h9 => h9) rfl dX4_takeFirst_5 ?_
  refine lv_icmp_lt (tgt := 13) hx hb dX4_takeFirst_8 (by decide) (fun c_8 => ?_) (fun c_8 => ?_)
  · refine lv_aload_n hx hb dX4_takeFirst_13 rfl (lv_at hl 0 rfl) ?_
    refine va_get (D := E.1) (ci := 4) (v := .ref hrw) (C := RX4) (T := TX4) (N := 3) hx hb hts ux_X4' hown hK.1 hP 0 rfl rfl 0 (by decide) (hts _ (ta_cons _ mw_135)) (fun _ h9 => h9) rfl dX4_takeFirst_14 ?_
    refine lv_aload_n hx hb dX4_takeFirst_17 rfl (lv_at hl 0 rfl) ?_
    refine va_get (D := E.1) (ci := 4) (v := .int (nI f)) (C := RX4) (T := TX4) (N := 3) hx hb hts ux_X4' hown hK.1 hP 0 rfl rfl 1 (by decide) (hts _ (ta_cons _ mw_136)) (fun _ h9 => h9) rfl dX4_takeFirst_18 ?_
    refine ia_i f hx hb hK hP 1 rfl (by first | assumption | omega) (by omega) dX4_takeFirst_21 ?_
    refine lv_istore_n (lv' := [(1, .int (rw f)), (0, .ref hwt)]) hx hb dX4_takeFirst_22 rfl hl (by decide) rfl (fun ls hl => ?_)
    refine lv_aload_n hx hb dX4_takeFirst_23 rfl (lv_at hl 1 rfl) ?_
    refine lv_dup hx hb dX4_takeFirst_24 rfl ?_
    refine va_get (D := E.1) (ci := 4) (v := .int (nI f)) (C := RX4) (T := TX4) (N := 3) hx hb hts ux_X4' hown hK.1 hP 0 rfl rfl 1 (by decide) (hts _ (ta_cons _ mw_136)) (fun _ h9 => h9) rfl dX4_takeFirst_25 ?_
    refine lv_iconst (v := 1) hx hb dX4_takeFirst_28 (by decide) ?_
    refine lv_iadd hx hb dX4_takeFirst_29 ?_
    refine tp_i (y := nI (f + 1)) (nI_1 f) ?_
    refine va_put (D := E.1) (ci := 4) (v := .int (nI (f + 1))) (ty := .int) (C := RX4) (T := TX4) (N := 3) hx hb hts ux_X4' tyX4 tyX4_ok nmX4 hown hK.1 hP hD hS 0 rfl rfl 1 (by decide) (hts _ (ta_cons _ mw_136)) (fun _ h9 => h9) rfl (by decide +kernel) rfl rfl (Nat.le_of_ble_eq_true rfl) dX4_takeFirst_30 (fun H locs hP hD hS => ?_)
    have hP : va_P E.1 classes [(hwt, .inr (4, [.ref hrw, .int (nI (f + 1)), .int (nI g)])), (hrw, .inl (E.2.1, n, .inl rw))] H := hP
    have hD : va_D AM [(hwt, .inr (4, [.ref hrw, .int (nI (f + 1)), .int (nI g)])), (hrw, .inl (E.2.1, n, .inl rw))] := hD
    refine lv_iload_n hx hb dX4_takeFirst_33 rfl (lv_at hl 0 rfl) ?_
    exact Ri hx hb hr hlocks hP hD hS () [0, 1] rfl rfl (rfl) (Nat.le_of_ble_eq_true rfl) (Nat.le_of_ble_eq_true rfl) dX4_takeFirst_34
  · exact absurd ((nI_ltI (by omega) (by omega)).mpr hf) c_8

set_option maxHeartbeats 4000000 in
set_option maxRecDepth 100000 in
theorem c_put1 (l : Launch) (E : EE) (n : Nat) (hwt : Nat) (hrw : Nat) (f : Nat) (en : Int32) (x : Int32) (rw : Nat → Int32) (hn : n < 2 ^ 31) (hf : f < n) : Mv (S := Unit) l E yX4_putFirst (.code yX4_putFirst cX4_putFirst 2 none) ({ frames := 0, cells := 0, slots := 0, locals := 0 }) [.ref hwt, .int x] [(hwt, .inr (4, [.ref hrw, .int (nI (f + 1)), .int en])), (hrw, .inl (E.2.1, n, .inl rw))] (fun _ : Unit => True) (fun u : Unit => [(hwt, .inr (4, [.ref hrw, .int (nI f), .int en])), (hrw, .inl (E.2.1, n, .inl (upd rw f x)))]) := by
  refine Mv.ofW (by decide) (Nat.le_of_ble_eq_true rfl) ?_
  intro pM eM sM mM bM meM cM AM ls hB hA hP hD hS hl
  obtain ⟨hx, hb, hr, hml, hown, hlocks, hnm, hts, hK⟩ := hB
  have hl : lv_has ls 2 [(0, .ref hwt), (1, .int x)] := hl
  refine lv_aload_n hx hb dX4_putFirst_0 rfl (lv_at hl 0 rfl) ?_
  refine va_get (D := E.1) (ci := 4) (v := .int (nI (f + 1))) (C := RX4) (T := TX4) (N := 3) hx hb hts ux_X4' hown hK.1 hP 0 rfl rfl 1 (by decide) (hts _ (ta_cons _ mw_136)) (fun _ h9 => h9) rfl dX4_putFirst_1 ?_
  refine lv_if_le (tgt := 27) hx hb dX4_putFirst_4 (by decide) (fun c_4 => ?_) (fun c_4 => ?_)
  · exact absurd c_4 (nI_nle (by omega) (by omega))
  · refine lv_aload_n hx hb dX4_putFirst_7 rfl (lv_at hl 0 rfl) ?_
    refine lv_dup hx hb dX4_putFirst_8 rfl ?_
    refine va_get (D := E.1) (ci := 4) (v := .int (nI (f + 1))) (C := RX4) (T := TX4) (N := 3) hx hb hts ux_X4' hown hK.1 hP 0 rfl rfl 1 (by decide) (hts _ (ta_cons _ mw_136)) (fun _ h9 => h9) rfl dX4_putFirst_9 ?_
    refine lv_iconst (v := 1) hx hb dX4_putFirst_12 (by decide) ?_
    refine lv_isub hx hb dX4_putFirst_13 ?_
    refine tp_i (y := nI f) (nI_pred f) ?_
    refine va_put (D := E.1) (ci := 4) (v := .int (nI f)) (ty := .int) (C := RX4) (T := TX4) (N := 3) hx hb hts ux_X4' tyX4 tyX4_ok nmX4 hown hK.1 hP hD hS 0 rfl rfl 1 (by decide) (hts _ (ta_cons _ mw_136)) (fun _ h9 => h9) rfl (by decide +kernel) rfl rfl (Nat.le_of_ble_eq_true rfl) dX4_putFirst_14 (fun H locs hP hD hS => ?_)
    have hP : va_P E.1 classes [(hwt, .inr (4, [.ref hrw, .int (nI f), .int en])), (hrw, .inl (E.2.1, n, .inl rw))] H := hP
    have hD : va_D AM [(hwt, .inr (4, [.ref hrw, .int (nI f), .int en])), (hrw, .inl (E.2.1, n, .inl rw))] := hD
    refine lv_aload_n hx hb dX4_putFirst_17 rfl (lv_at hl 0 rfl) ?_
    refine va_get (D := E.1) (ci := 4) (v := .ref hrw) (C := RX4) (T := TX4) (N := 3) hx hb hts ux_X4' hown hK.1 hP 0 rfl rfl 0 (by decide) (hts _ (ta_cons _ mw_135)) (fun _ h9 => h9) rfl dX4_putFirst_18 ?_
    refine lv_aload_n hx hb dX4_putFirst_21 rfl (lv_at hl 0 rfl) ?_
    refine va_get (D := E.1) (ci := 4) (v := .int (nI f)) (C := RX4) (T := TX4) (N := 3) hx hb hts ux_X4' hown hK.1 hP 0 rfl rfl 1 (by decide) (hts _ (ta_cons _ mw_136)) (fun _ h9 => h9) rfl dX4_putFirst_22 ?_
    refine lv_iload_n hx hb dX4_putFirst_25 rfl (lv_at hl 1 rfl) ?_
    refine as_i f hx hb hK hP hD hS 1 rfl (by first | assumption | omega) (by omega) dX4_putFirst_26 (fun H locs hP hD hS => ?_)
    have hP : va_P E.1 classes [(hwt, .inr (4, [.ref hrw, .int (nI f), .int en])), (hrw, .inl (E.2.1, n, .inl (upd rw f x)))] H := hP
    have hD : va_D AM [(hwt, .inr (4, [.ref hrw, .int (nI f), .int en])), (hrw, .inl (E.2.1, n, .inl (upd rw f x)))] := hD
    exact Rv hx hb hr hlocks hP hD hS () [0, 1] rfl rfl (trivial) (Nat.le_of_ble_eq_true rfl) (Nat.le_of_ble_eq_true rfl) dX4_putFirst_27

set_option maxHeartbeats 4000000 in
set_option maxRecDepth 100000 in
theorem c_gather (l : Launch) (E : EE) (hcr : Nat) (hso : Nat) (hsm : Nat) (hmd : Nat) (hlv : Nat) (lc : Int32) (so : Nat → Int32) (sm : Nat → Int32) (lv : Nat → Int32) (md : Nat → Int64) (w : Nat) (hw16 : w ≤ 16) : Mv (S := (Nat → Int32) × (Nat → Int32)) l E yX2_gather (.code yX2_gather cX2_gather 3 none) ({ frames := 0, cells := 0, slots := 0, locals := 0 }) [.ref hcr, .int (nI w)] [(hcr, .inr (2, [.ref hso, .ref hsm, .ref hmd, .int lc, .ref hlv])), (hso, .inl (E.2.1, 16, .inl so)), (hsm, .inl (E.2.1, 16, .inl sm)), (hmd, .inl (E.2.2.1, 16, .inr (.inl md))), (hlv, .inl (E.2.1, 16, .inl lv))] (fun u : (Nat → Int32) × (Nat → Int32) => ∀ j, j < w → u.1 j = -1 ∧ u.2 j = nI j) (fun u : (Nat → Int32) × (Nat → Int32) => [(hcr, .inr (2, [.ref hso, .ref hsm, .ref hmd, .int (nI w), .ref hlv])), (hso, .inl (E.2.1, 16, .inl u.1)), (hsm, .inl (E.2.1, 16, .inl sm)), (hmd, .inl (E.2.2.1, 16, .inr (.inl md))), (hlv, .inl (E.2.1, 16, .inl u.2))]) := by
  refine Mv.ofW (by decide) (Nat.le_of_ble_eq_true rfl) ?_
  intro pM eM sM mM bM meM cM AM ls hB hA hP hD hS hl
  obtain ⟨hx, hb, hr, hml, hown, hlocks, hnm, hts, hK⟩ := hB
  have hl : lv_has ls 3 [(0, .ref hcr), (1, .int (nI w))] := hl
  refine lv_aload_n hx hb dX2_gather_0 rfl (lv_at hl 0 rfl) ?_
  refine lv_iload_n hx hb dX2_gather_1 rfl (lv_at hl 1 rfl) ?_
  refine va_put (D := E.1) (ci := 2) (v := .int (nI w)) (ty := .int) (C := RX2) (T := TX2) (N := 5) hx hb hts ux_X2' tyX2 tyX2_ok nmX2 hown hK.1 hP hD hS 0 rfl rfl 3 (by decide) (hts _ (ta_cons _ mw_157)) (fun _ h9 => h9) rfl (by decide +kernel) rfl rfl (Nat.le_of_ble_eq_true rfl) dX2_gather_2 (fun H locs hP hD hS => ?_)
  have hP : va_P E.1 classes [(hcr, .inr (2, [.ref hso, .ref hsm, .ref hmd, .int (nI w), .ref hlv])), (hso, .inl (E.2.1, 16, .inl so)), (hsm, .inl (E.2.1, 16, .inl sm)), (hmd, .inl (E.2.2.1, 16, .inr (.inl md))), (hlv, .inl (E.2.1, 16, .inl lv))] H := hP
  have hD : va_D AM [(hcr, .inr (2, [.ref hso, .ref hsm, .ref hmd, .int (nI w), .ref hlv])), (hso, .inl (E.2.1, 16, .inl so)), (hsm, .inl (E.2.1, 16, .inl sm)), (hmd, .inl (E.2.2.1, 16, .inr (.inl md))), (hlv, .inl (E.2.1, 16, .inl lv))] := hD
  refine lv_iconst (v := 0) hx hb dX2_gather_5 (by decide) ?_
  refine lv_istore_n (lv' := [(2, .int 0), (0, .ref hcr), (1, .int (nI w))]) hx hb dX2_gather_6 rfl hl (by decide) rfl (fun ls hl => ?_)
  refine W.loop (σ := (Nat) × (Nat → Int32) × (Nat → Int32)) (fun a H locs ls => match a with | (i, a, b) => va_P E.1 classes [(hcr, .inr (2, [.ref hso, .ref hsm, .ref hmd, .int (nI w), .ref hlv])), (hso, .inl (E.2.1, 16, .inl a)), (hsm, .inl (E.2.1, 16, .inl sm)), (hmd, .inl (E.2.2.1, 16, .inr (.inl md))), (hlv, .inl (E.2.1, 16, .inl b))] H ∧ va_D AM [(hcr, .inr (2, [.ref hso, .ref hsm, .ref hmd, .int (nI w), .ref hlv])), (hso, .inl (E.2.1, 16, .inl a)), (hsm, .inl (E.2.1, 16, .inl sm)), (hmd, .inl (E.2.2.1, 16, .inr (.inl md))), (hlv, .inl (E.2.1, 16, .inl b))] ∧ va_S AM sM.heap H locs ∧ lv_has ls 3 [(2, .int (nI i)), (0, .ref hcr), (1, .int (nI w))] ∧ (i ≤ w) ∧ (∀ j, j < i → a j = -1 ∧ b j = nI j)) (fun a => match a with | (i, a, b) => w - i) (0, so, lv) ⟨hP.sub [0, 1, 2, 3, 4] rfl, hD.sub [0, 1, 2, 3, 4] (by decide) rfl, hS, lv_sub hl [0, 1, 2] rfl, Nat.zero_le _, fun j h => absurd h (Nat.not_lt_zero j)⟩ ?_
  intro a H locs ls hI ih7
  obtain ⟨i, a, b⟩ := a
  obtain ⟨hP, hD, hS, hl, hi, p1⟩ := hI
  have hP : va_P E.1 classes [(hcr, .inr (2, [.ref hso, .ref hsm, .ref hmd, .int (nI w), .ref hlv])), (hso, .inl (E.2.1, 16, .inl a)), (hsm, .inl (E.2.1, 16, .inl sm)), (hmd, .inl (E.2.2.1, 16, .inr (.inl md))), (hlv, .inl (E.2.1, 16, .inl b))] H := hP
  have hD : va_D AM [(hcr, .inr (2, [.ref hso, .ref hsm, .ref hmd, .int (nI w), .ref hlv])), (hso, .inl (E.2.1, 16, .inl a)), (hsm, .inl (E.2.1, 16, .inl sm)), (hmd, .inl (E.2.2.1, 16, .inr (.inl md))), (hlv, .inl (E.2.1, 16, .inl b))] := hD
  have hl : lv_has ls 3 [(2, .int (nI i)), (0, .ref hcr), (1, .int (nI w))] := hl
  have hi : i ≤ w := hi
  have p1 : ∀ j, j < i → a j = -1 ∧ b j = nI j := p1
  refine lv_iload_n hx hb dX2_gather_7 rfl (lv_at hl 0 rfl) ?_
  refine lv_iload_n hx hb dX2_gather_8 rfl (lv_at hl 2 rfl) ?_
  refine lv_icmp_ge (tgt := 32) hx hb dX2_gather_9 (by decide) (fun c_9 => ?_) (fun c_9 => ?_)
  · have c_9 : w ≤ i := (nI_leI (by omega) (by omega)).mp c_9
    have e9 : i = w := by omega
    rw [e9] at p1
    exact Rv hx hb hr hlocks hP hD hS (a, b) [0, 1, 2, 3, 4] rfl rfl (p1) (Nat.le_of_ble_eq_true rfl) (Nat.le_of_ble_eq_true rfl) dX2_gather_32
  · have c_9 : i < w := by
      rcases Nat.lt_or_ge i w with q | q
      · exact q
      · exact absurd ((nI_leI (by omega) (by omega)).mpr q) c_9
    refine lv_aload_n hx hb dX2_gather_12 rfl (lv_at hl 1 rfl) ?_
    refine va_get (D := E.1) (ci := 2) (v := .ref hlv) (C := RX2) (T := TX2) (N := 5) hx hb hts ux_X2' hown hK.1 hP 0 rfl rfl 4 (by decide) (hts _ (ta_cons _ mw_159)) (fun _ h9 => h9) rfl dX2_gather_13 ?_
    refine lv_iload_n hx hb dX2_gather_16 rfl (lv_at hl 0 rfl) ?_
    refine lv_iload_n hx hb dX2_gather_17 rfl (lv_at hl 0 rfl) ?_
    refine as_i i hx hb hK hP hD hS 4 rfl (by first | assumption | omega) (by decide) dX2_gather_18 (fun H locs hP hD hS => ?_)
    have hP : va_P E.1 classes [(hcr, .inr (2, [.ref hso, .ref hsm, .ref hmd, .int (nI w), .ref hlv])), (hso, .inl (E.2.1, 16, .inl a)), (hsm, .inl (E.2.1, 16, .inl sm)), (hmd, .inl (E.2.2.1, 16, .inr (.inl md))), (hlv, .inl (E.2.1, 16, .inl (upd b i (nI i))))] H := hP
    have hD : va_D AM [(hcr, .inr (2, [.ref hso, .ref hsm, .ref hmd, .int (nI w), .ref hlv])), (hso, .inl (E.2.1, 16, .inl a)), (hsm, .inl (E.2.1, 16, .inl sm)), (hmd, .inl (E.2.2.1, 16, .inr (.inl md))), (hlv, .inl (E.2.1, 16, .inl (upd b i (nI i))))] := hD
    refine lv_aload_n hx hb dX2_gather_19 rfl (lv_at hl 1 rfl) ?_
    refine va_get (D := E.1) (ci := 2) (v := .ref hso) (C := RX2) (T := TX2) (N := 5) hx hb hts ux_X2' hown hK.1 hP 0 rfl rfl 0 (by decide) (hts _ (ta_cons _ mw_151)) (fun _ h9 => h9) rfl dX2_gather_20 ?_
    refine lv_iload_n hx hb dX2_gather_23 rfl (lv_at hl 0 rfl) ?_
    refine lv_iconst (v := (-1)) hx hb dX2_gather_24 (by decide) ?_
    refine as_i i hx hb hK hP hD hS 1 rfl (by first | assumption | omega) (by decide) dX2_gather_25 (fun H locs hP hD hS => ?_)
    have hP : va_P E.1 classes [(hcr, .inr (2, [.ref hso, .ref hsm, .ref hmd, .int (nI w), .ref hlv])), (hso, .inl (E.2.1, 16, .inl (upd a i (-1)))), (hsm, .inl (E.2.1, 16, .inl sm)), (hmd, .inl (E.2.2.1, 16, .inr (.inl md))), (hlv, .inl (E.2.1, 16, .inl (upd b i (nI i))))] H := hP
    have hD : va_D AM [(hcr, .inr (2, [.ref hso, .ref hsm, .ref hmd, .int (nI w), .ref hlv])), (hso, .inl (E.2.1, 16, .inl (upd a i (-1)))), (hsm, .inl (E.2.1, 16, .inl sm)), (hmd, .inl (E.2.2.1, 16, .inr (.inl md))), (hlv, .inl (E.2.1, 16, .inl (upd b i (nI i))))] := hD
    refine lv_iinc (v := nI (i + 1)) (lv' := [(2, .int (nI (i + 1))), (0, .ref hcr), (1, .int (nI w))]) hx hb dX2_gather_26 hl (k := 0) rfl (nI_1 i) (by decide) rfl (fun ls hl => ?_)
    refine lv_goto (tgt := 7) hx hb dX2_gather_29 (by decide) ?_
    exact ih7 (i + 1, upd a i (-1), upd b i (nI i)) _ _ _ ⟨hP.sub [0, 1, 2, 3, 4] rfl, hD.sub [0, 1, 2, 3, 4] (by decide) rfl, hS, lv_sub hl [0, 1, 2] rfl, by omega, fun j hj => by
        by_cases q : j = i
        · subst q; exact ⟨pk_us, pk_us⟩
        · rw [pk_un q, pk_un q]; exact p1 j (by omega)⟩ (by show w - (i + 1) < w - i; omega)

set_option maxHeartbeats 4000000 in
set_option maxRecDepth 100000 in
theorem c_liveAt (l : Launch) (E : EE) (hcr : Nat) (hso : Nat) (hsm : Nat) (hmd : Nat) (hlv : Nat) (lc : Int32) (so : Nat → Int32) (sm : Nat → Int32) (lv : Nat → Int32) (md : Nat → Int64) (k : Nat) (hk : k < 16) : Mi (S := Unit) l E yX2_liveAt (.code yX2_liveAt cX2_liveAt 2 (some .int)) ({ frames := 0, cells := 0, slots := 0, locals := 0 }) [.ref hcr, .int (nI k)] [(hcr, .inr (2, [.ref hso, .ref hsm, .ref hmd, .int lc, .ref hlv])), (hso, .inl (E.2.1, 16, .inl so)), (hsm, .inl (E.2.1, 16, .inl sm)), (hmd, .inl (E.2.2.1, 16, .inr (.inl md))), (hlv, .inl (E.2.1, 16, .inl lv))] (fun (ans : Int32) (_ : Unit) => ans = lv k) (fun u : Unit => [(hcr, .inr (2, [.ref hso, .ref hsm, .ref hmd, .int lc, .ref hlv])), (hso, .inl (E.2.1, 16, .inl so)), (hsm, .inl (E.2.1, 16, .inl sm)), (hmd, .inl (E.2.2.1, 16, .inr (.inl md))), (hlv, .inl (E.2.1, 16, .inl lv))]) := by
  refine Mi.ofW (by decide) (Nat.le_of_ble_eq_true rfl) ?_
  intro pM eM sM mM bM meM cM AM ls hB hA hP hD hS hl
  obtain ⟨hx, hb, hr, hml, hown, hlocks, hnm, hts, hK⟩ := hB
  have hl : lv_has ls 2 [(0, .ref hcr), (1, .int (nI k))] := hl
  refine lv_aload_n hx hb dX2_liveAt_0 rfl (lv_at hl 0 rfl) ?_
  refine va_get (D := E.1) (ci := 2) (v := .ref hlv) (C := RX2) (T := TX2) (N := 5) hx hb hts ux_X2' hown hK.1 hP 0 rfl rfl 4 (by decide) (hts _ (ta_cons _ mw_159)) (fun _ h9 => h9) rfl dX2_liveAt_1 ?_
  refine lv_iload_n hx hb dX2_liveAt_4 rfl (lv_at hl 1 rfl) ?_
  refine ia_i k hx hb hK hP 4 rfl (by first | assumption | omega) (by decide) dX2_liveAt_5 ?_
  exact Ri hx hb hr hlocks hP hD hS () [0, 1, 2, 3, 4] rfl rfl (rfl) (Nat.le_of_ble_eq_true rfl) (Nat.le_of_ble_eq_true rfl) dX2_liveAt_6

set_option maxHeartbeats 4000000 in
set_option maxRecDepth 100000 in
theorem c_give (l : Launch) (E : EE) (hcr : Nat) (hso : Nat) (hsm : Nat) (hmd : Nat) (hlv : Nat) (lc : Int32) (so : Nat → Int32) (sm : Nat → Int32) (lv : Nat → Int32) (md : Nat → Int64) (w : Nat) (x : Int32) (v : Int64) (hw16 : w < 16) : Mv (S := Unit) l E yX2_give (.code yX2_give cX2_give 5 none) ({ frames := 0, cells := 0, slots := 0, locals := 0 }) [.ref hcr, .int (nI w), .int x, .long v] [(hcr, .inr (2, [.ref hso, .ref hsm, .ref hmd, .int lc, .ref hlv])), (hso, .inl (E.2.1, 16, .inl so)), (hsm, .inl (E.2.1, 16, .inl sm)), (hmd, .inl (E.2.2.1, 16, .inr (.inl md))), (hlv, .inl (E.2.1, 16, .inl lv))] (fun _ : Unit => True) (fun u : Unit => [(hcr, .inr (2, [.ref hso, .ref hsm, .ref hmd, .int lc, .ref hlv])), (hso, .inl (E.2.1, 16, .inl (upd so w x))), (hsm, .inl (E.2.1, 16, .inl (upd sm w 0))), (hmd, .inl (E.2.2.1, 16, .inr (.inl (vp_updL md w v)))), (hlv, .inl (E.2.1, 16, .inl lv))]) := by
  refine Mv.ofW (by decide) (Nat.le_of_ble_eq_true rfl) ?_
  intro pM eM sM mM bM meM cM AM ls hB hA hP hD hS hl
  obtain ⟨hx, hb, hr, hml, hown, hlocks, hnm, hts, hK⟩ := hB
  have hl : lv_has ls 5 [(0, .ref hcr), (1, .int (nI w)), (2, .int x), (3, .long v)] := hl
  refine lv_aload_n hx hb dX2_give_0 rfl (lv_at hl 0 rfl) ?_
  refine va_get (D := E.1) (ci := 2) (v := .ref hso) (C := RX2) (T := TX2) (N := 5) hx hb hts ux_X2' hown hK.1 hP 0 rfl rfl 0 (by decide) (hts _ (ta_cons _ mw_151)) (fun _ h9 => h9) rfl dX2_give_1 ?_
  refine lv_iload_n hx hb dX2_give_4 rfl (lv_at hl 1 rfl) ?_
  refine lv_iload_n hx hb dX2_give_5 rfl (lv_at hl 2 rfl) ?_
  refine as_i w hx hb hK hP hD hS 1 rfl (by first | assumption | omega) (by decide) dX2_give_6 (fun H locs hP hD hS => ?_)
  have hP : va_P E.1 classes [(hcr, .inr (2, [.ref hso, .ref hsm, .ref hmd, .int lc, .ref hlv])), (hso, .inl (E.2.1, 16, .inl (upd so w x))), (hsm, .inl (E.2.1, 16, .inl sm)), (hmd, .inl (E.2.2.1, 16, .inr (.inl md))), (hlv, .inl (E.2.1, 16, .inl lv))] H := hP
  have hD : va_D AM [(hcr, .inr (2, [.ref hso, .ref hsm, .ref hmd, .int lc, .ref hlv])), (hso, .inl (E.2.1, 16, .inl (upd so w x))), (hsm, .inl (E.2.1, 16, .inl sm)), (hmd, .inl (E.2.2.1, 16, .inr (.inl md))), (hlv, .inl (E.2.1, 16, .inl lv))] := hD
  refine lv_aload_n hx hb dX2_give_7 rfl (lv_at hl 0 rfl) ?_
  refine va_get (D := E.1) (ci := 2) (v := .ref hsm) (C := RX2) (T := TX2) (N := 5) hx hb hts ux_X2' hown hK.1 hP 0 rfl rfl 1 (by decide) (hts _ (ta_cons _ mw_153)) (fun _ h9 => h9) rfl dX2_give_8 ?_
  refine lv_iload_n hx hb dX2_give_11 rfl (lv_at hl 1 rfl) ?_
  refine lv_iconst (v := 0) hx hb dX2_give_12 (by decide) ?_
  refine as_i w hx hb hK hP hD hS 2 rfl (by first | assumption | omega) (by decide) dX2_give_13 (fun H locs hP hD hS => ?_)
  have hP : va_P E.1 classes [(hcr, .inr (2, [.ref hso, .ref hsm, .ref hmd, .int lc, .ref hlv])), (hso, .inl (E.2.1, 16, .inl (upd so w x))), (hsm, .inl (E.2.1, 16, .inl (upd sm w 0))), (hmd, .inl (E.2.2.1, 16, .inr (.inl md))), (hlv, .inl (E.2.1, 16, .inl lv))] H := hP
  have hD : va_D AM [(hcr, .inr (2, [.ref hso, .ref hsm, .ref hmd, .int lc, .ref hlv])), (hso, .inl (E.2.1, 16, .inl (upd so w x))), (hsm, .inl (E.2.1, 16, .inl (upd sm w 0))), (hmd, .inl (E.2.2.1, 16, .inr (.inl md))), (hlv, .inl (E.2.1, 16, .inl lv))] := hD
  refine lv_aload_n hx hb dX2_give_14 rfl (lv_at hl 0 rfl) ?_
  refine va_get (D := E.1) (ci := 2) (v := .ref hmd) (C := RX2) (T := TX2) (N := 5) hx hb hts ux_X2' hown hK.1 hP 0 rfl rfl 2 (by decide) (hts _ (ta_cons _ mw_155)) (fun _ h9 => h9) rfl dX2_give_15 ?_
  refine lv_iload_n hx hb dX2_give_18 rfl (lv_at hl 1 rfl) ?_
  refine lv_lload_n hx hb dX2_give_19 rfl (lv_at hl 3 rfl) ?_
  refine as_l w hx hb hK hP hD hS 3 rfl (by first | assumption | omega) (by decide) dX2_give_20 (fun H locs hP hD hS => ?_)
  have hP : va_P E.1 classes [(hcr, .inr (2, [.ref hso, .ref hsm, .ref hmd, .int lc, .ref hlv])), (hso, .inl (E.2.1, 16, .inl (upd so w x))), (hsm, .inl (E.2.1, 16, .inl (upd sm w 0))), (hmd, .inl (E.2.2.1, 16, .inr (.inl (vp_updL md w v)))), (hlv, .inl (E.2.1, 16, .inl lv))] H := hP
  have hD : va_D AM [(hcr, .inr (2, [.ref hso, .ref hsm, .ref hmd, .int lc, .ref hlv])), (hso, .inl (E.2.1, 16, .inl (upd so w x))), (hsm, .inl (E.2.1, 16, .inl (upd sm w 0))), (hmd, .inl (E.2.2.1, 16, .inr (.inl (vp_updL md w v)))), (hlv, .inl (E.2.1, 16, .inl lv))] := hD
  exact Rv hx hb hr hlocks hP hD hS () [0, 1, 2, 3, 4] rfl rfl (trivial) (Nat.le_of_ble_eq_true rfl) (Nat.le_of_ble_eq_true rfl) dX2_give_21

set_option maxHeartbeats 4000000 in
set_option maxRecDepth 100000 in
theorem c_drop (l : Launch) (E : EE) (hcr : Nat) (hso : Nat) (hsm : Nat) (hmd : Nat) (hlv : Nat) (so : Nat → Int32) (sm : Nat → Int32) (lv : Nat → Int32) (md : Nat → Int64) (k : Nat) (L : Nat) (hk : k ≤ L) (hL : L < 16) : Mv (S := Nat → Int32) l E yX2_dropAt (.code yX2_dropAt cX2_dropAt 3 none) ({ frames := 0, cells := 0, slots := 0, locals := 0 }) [.ref hcr, .int (nI k)] [(hcr, .inr (2, [.ref hso, .ref hsm, .ref hmd, .int (nI (L + 1)), .ref hlv])), (hso, .inl (E.2.1, 16, .inl so)), (hsm, .inl (E.2.1, 16, .inl sm)), (hmd, .inl (E.2.2.1, 16, .inr (.inl md))), (hlv, .inl (E.2.1, 16, .inl lv))] (fun u : Nat → Int32 => (∀ j, j < k → u j = lv j) ∧ ∀ j, k ≤ j → j < L → u j = lv (j + 1)) (fun u : Nat → Int32 => [(hcr, .inr (2, [.ref hso, .ref hsm, .ref hmd, .int (nI L), .ref hlv])), (hso, .inl (E.2.1, 16, .inl so)), (hsm, .inl (E.2.1, 16, .inl sm)), (hmd, .inl (E.2.2.1, 16, .inr (.inl md))), (hlv, .inl (E.2.1, 16, .inl u))]) := by
  refine Mv.ofW (by decide) (Nat.le_of_ble_eq_true rfl) ?_
  intro pM eM sM mM bM meM cM AM ls hB hA hP hD hS hl
  obtain ⟨hx, hb, hr, hml, hown, hlocks, hnm, hts, hK⟩ := hB
  have hl : lv_has ls 3 [(0, .ref hcr), (1, .int (nI k))] := hl
  refine lv_aload_n hx hb dX2_dropAt_0 rfl (lv_at hl 0 rfl) ?_
  refine lv_dup hx hb dX2_dropAt_1 rfl ?_
  refine va_get (D := E.1) (ci := 2) (v := .int (nI (L + 1))) (C := RX2) (T := TX2) (N := 5) hx hb hts ux_X2' hown hK.1 hP 0 rfl rfl 3 (by decide) (hts _ (ta_cons _ mw_157)) (fun _ h9 => h9) rfl dX2_dropAt_2 ?_
  refine lv_iconst (v := 1) hx hb dX2_dropAt_5 (by decide) ?_
  refine lv_isub hx hb dX2_dropAt_6 ?_
  refine tp_i (y := nI L) (nI_pred L) ?_
  refine va_put (D := E.1) (ci := 2) (v := .int (nI L)) (ty := .int) (C := RX2) (T := TX2) (N := 5) hx hb hts ux_X2' tyX2 tyX2_ok nmX2 hown hK.1 hP hD hS 0 rfl rfl 3 (by decide) (hts _ (ta_cons _ mw_157)) (fun _ h9 => h9) rfl (by decide +kernel) rfl rfl (Nat.le_of_ble_eq_true rfl) dX2_dropAt_7 (fun H locs hP hD hS => ?_)
  have hP : va_P E.1 classes [(hcr, .inr (2, [.ref hso, .ref hsm, .ref hmd, .int (nI L), .ref hlv])), (hso, .inl (E.2.1, 16, .inl so)), (hsm, .inl (E.2.1, 16, .inl sm)), (hmd, .inl (E.2.2.1, 16, .inr (.inl md))), (hlv, .inl (E.2.1, 16, .inl lv))] H := hP
  have hD : va_D AM [(hcr, .inr (2, [.ref hso, .ref hsm, .ref hmd, .int (nI L), .ref hlv])), (hso, .inl (E.2.1, 16, .inl so)), (hsm, .inl (E.2.1, 16, .inl sm)), (hmd, .inl (E.2.2.1, 16, .inr (.inl md))), (hlv, .inl (E.2.1, 16, .inl lv))] := hD
  refine lv_iload_n hx hb dX2_dropAt_10 rfl (lv_at hl 1 rfl) ?_
  refine lv_istore_n (lv' := [(2, .int (nI k)), (0, .ref hcr), (1, .int (nI k))]) hx hb dX2_dropAt_11 rfl hl (by decide) rfl (fun ls hl => ?_)
  refine W.loop (σ := (Nat) × (Nat → Int32)) (fun a H locs ls => match a with | (i, g) => va_P E.1 classes [(hcr, .inr (2, [.ref hso, .ref hsm, .ref hmd, .int (nI L), .ref hlv])), (hso, .inl (E.2.1, 16, .inl so)), (hsm, .inl (E.2.1, 16, .inl sm)), (hmd, .inl (E.2.2.1, 16, .inr (.inl md))), (hlv, .inl (E.2.1, 16, .inl g))] H ∧ va_D AM [(hcr, .inr (2, [.ref hso, .ref hsm, .ref hmd, .int (nI L), .ref hlv])), (hso, .inl (E.2.1, 16, .inl so)), (hsm, .inl (E.2.1, 16, .inl sm)), (hmd, .inl (E.2.2.1, 16, .inr (.inl md))), (hlv, .inl (E.2.1, 16, .inl g))] ∧ va_S AM sM.heap H locs ∧ lv_has ls 3 [(2, .int (nI i)), (0, .ref hcr), (1, .int (nI k))] ∧ (k ≤ i ∧ i ≤ L) ∧ (∀ j, j < k → g j = lv j) ∧ (∀ j, k ≤ j → j < i → g j = lv (j + 1)) ∧ (∀ j, i ≤ j → g j = lv j)) (fun a => match a with | (i, g) => L - i) (k, lv) ⟨hP.sub [0, 1, 2, 3, 4] rfl, hD.sub [0, 1, 2, 3, 4] (by decide) rfl, hS, lv_sub hl [0, 1, 2] rfl, ⟨Nat.le_refl _, hk⟩, fun j _ => rfl, fun j h1 h2 => absurd h2 (by omega), fun j _ => rfl⟩ ?_
  intro a H locs ls hI ih12
  obtain ⟨i, g⟩ := a
  obtain ⟨hP, hD, hS, hl, hi, p1, p2, p3⟩ := hI
  have hP : va_P E.1 classes [(hcr, .inr (2, [.ref hso, .ref hsm, .ref hmd, .int (nI L), .ref hlv])), (hso, .inl (E.2.1, 16, .inl so)), (hsm, .inl (E.2.1, 16, .inl sm)), (hmd, .inl (E.2.2.1, 16, .inr (.inl md))), (hlv, .inl (E.2.1, 16, .inl g))] H := hP
  have hD : va_D AM [(hcr, .inr (2, [.ref hso, .ref hsm, .ref hmd, .int (nI L), .ref hlv])), (hso, .inl (E.2.1, 16, .inl so)), (hsm, .inl (E.2.1, 16, .inl sm)), (hmd, .inl (E.2.2.1, 16, .inr (.inl md))), (hlv, .inl (E.2.1, 16, .inl g))] := hD
  have hl : lv_has ls 3 [(2, .int (nI i)), (0, .ref hcr), (1, .int (nI k))] := hl
  have hi : k ≤ i ∧ i ≤ L := hi
  have p1 : ∀ j, j < k → g j = lv j := p1
  have p2 : ∀ j, k ≤ j → j < i → g j = lv (j + 1) := p2
  have p3 : ∀ j, i ≤ j → g j = lv j := p3
  refine lv_iload_n hx hb dX2_dropAt_12 rfl (lv_at hl 0 rfl) ?_
  refine lv_aload_n hx hb dX2_dropAt_13 rfl (lv_at hl 1 rfl) ?_
  refine va_get (D := E.1) (ci := 2) (v := .int (nI L)) (C := RX2) (T := TX2) (N := 5) hx hb hts ux_X2' hown hK.1 hP 0 rfl rfl 3 (by decide) (hts _ (ta_cons _ mw_157)) (fun _ h9 => h9) rfl dX2_dropAt_14 ?_
  refine lv_icmp_ge (tgt := 40) hx hb dX2_dropAt_17 (by decide) (fun c_17 => ?_) (fun c_17 => ?_)
  · have c_17 : L ≤ i := (nI_leI (by omega) (by omega)).mp c_17
    have e9 : i = L := by omega
    rw [e9] at p2
    exact Rv hx hb hr hlocks hP hD hS g [0, 1, 2, 3, 4] rfl rfl (⟨p1, p2⟩) (Nat.le_of_ble_eq_true rfl) (Nat.le_of_ble_eq_true rfl) dX2_dropAt_40
  · have c_17 : i < L := by
      rcases Nat.lt_or_ge i L with q | q
      · exact q
      · exact absurd ((nI_leI (by omega) (by omega)).mpr q) c_17
    refine lv_aload_n hx hb dX2_dropAt_20 rfl (lv_at hl 1 rfl) ?_
    refine va_get (D := E.1) (ci := 2) (v := .ref hlv) (C := RX2) (T := TX2) (N := 5) hx hb hts ux_X2' hown hK.1 hP 0 rfl rfl 4 (by decide) (hts _ (ta_cons _ mw_159)) (fun _ h9 => h9) rfl dX2_dropAt_21 ?_
    refine lv_iload_n hx hb dX2_dropAt_24 rfl (lv_at hl 0 rfl) ?_
    refine lv_aload_n hx hb dX2_dropAt_25 rfl (lv_at hl 1 rfl) ?_
    refine va_get (D := E.1) (ci := 2) (v := .ref hlv) (C := RX2) (T := TX2) (N := 5) hx hb hts ux_X2' hown hK.1 hP 0 rfl rfl 4 (by decide) (hts _ (ta_cons _ mw_159)) (fun _ h9 => h9) rfl dX2_dropAt_26 ?_
    refine lv_iload_n hx hb dX2_dropAt_29 rfl (lv_at hl 0 rfl) ?_
    refine lv_iconst (v := 1) hx hb dX2_dropAt_30 (by decide) ?_
    refine lv_iadd hx hb dX2_dropAt_31 ?_
    refine tp_i (y := nI (i + 1)) (nI_1 i) ?_
    refine ia_i (i + 1) hx hb hK hP 4 rfl (by first | assumption | omega) (by decide) dX2_dropAt_32 ?_
    refine as_i i hx hb hK hP hD hS 4 rfl (by first | assumption | omega) (by decide) dX2_dropAt_33 (fun H locs hP hD hS => ?_)
    have hP : va_P E.1 classes [(hcr, .inr (2, [.ref hso, .ref hsm, .ref hmd, .int (nI L), .ref hlv])), (hso, .inl (E.2.1, 16, .inl so)), (hsm, .inl (E.2.1, 16, .inl sm)), (hmd, .inl (E.2.2.1, 16, .inr (.inl md))), (hlv, .inl (E.2.1, 16, .inl (upd g i (g (i + 1)))))] H := hP
    have hD : va_D AM [(hcr, .inr (2, [.ref hso, .ref hsm, .ref hmd, .int (nI L), .ref hlv])), (hso, .inl (E.2.1, 16, .inl so)), (hsm, .inl (E.2.1, 16, .inl sm)), (hmd, .inl (E.2.2.1, 16, .inr (.inl md))), (hlv, .inl (E.2.1, 16, .inl (upd g i (g (i + 1)))))] := hD
    refine lv_iinc (v := nI (i + 1)) (lv' := [(2, .int (nI (i + 1))), (0, .ref hcr), (1, .int (nI k))]) hx hb dX2_dropAt_34 hl (k := 0) rfl (nI_1 i) (by decide) rfl (fun ls hl => ?_)
    refine lv_goto (tgt := 12) hx hb dX2_dropAt_37 (by decide) ?_
    exact ih12 (i + 1, upd g i (g (i + 1))) _ _ _ ⟨hP.sub [0, 1, 2, 3, 4] rfl, hD.sub [0, 1, 2, 3, 4] (by decide) rfl, hS, lv_sub hl [0, 1, 2] rfl, by omega, fun j hj => by rw [pk_un (by omega)]; exact p1 j hj, fun j h1 h2 => by
        by_cases q : j = i
        · subst q; rw [pk_us]; exact p3 _ (by omega)
        · rw [pk_un q]; exact p2 j h1 (by omega), fun j hj => by rw [pk_un (by omega)]; exact p3 j (by omega)⟩ (by show L - (i + 1) < L - i; omega)
end
section
set_option maxHeartbeats 4000000 in
set_option maxRecDepth 100000 in
theorem c_gather0 (l : Launch) (E : EE) (hcr : Nat) (hso : Nat) (hsm : Nat) (hmd : Nat) (hlv : Nat) (lc : Int32) (so : Nat → Int32) (sm : Nat → Int32) (lv : Nat → Int32) (md : Nat → Int64)  : Mv (S := Unit) l E yX2_gather (.code yX2_gather cX2_gather 3 none) ({ frames := 0, cells := 0, slots := 0, locals := 0 }) [.ref hcr, .int 0] [(hcr, .inr (2, [.ref hso, .ref hsm, .ref hmd, .int lc, .ref hlv])), (hso, .inl (E.2.1, 16, .inl so)), (hsm, .inl (E.2.1, 16, .inl sm)), (hmd, .inl (E.2.2.1, 16, .inr (.inl md))), (hlv, .inl (E.2.1, 16, .inl lv))] (fun _ : Unit => True) (fun u : Unit => [(hcr, .inr (2, [.ref hso, .ref hsm, .ref hmd, .int 0, .ref hlv])), (hso, .inl (E.2.1, 16, .inl so)), (hsm, .inl (E.2.1, 16, .inl sm)), (hmd, .inl (E.2.2.1, 16, .inr (.inl md))), (hlv, .inl (E.2.1, 16, .inl lv))]) := by
  refine Mv.ofW (by decide) (Nat.le_of_ble_eq_true rfl) ?_
  intro pM eM sM mM bM meM cM AM ls hB hA hP hD hS hl
  obtain ⟨hx, hb, hr, hml, hown, hlocks, hnm, hts, hK⟩ := hB
  have hl : lv_has ls 3 [(0, .ref hcr), (1, .int 0)] := hl
  refine lv_aload_n hx hb dX2_gather_0 rfl (lv_at hl 0 rfl) ?_
  refine lv_iload_n hx hb dX2_gather_1 rfl (lv_at hl 1 rfl) ?_
  refine va_put (D := E.1) (ci := 2) (v := .int 0) (ty := .int) (C := RX2) (T := TX2) (N := 5) hx hb hts ux_X2' tyX2 tyX2_ok nmX2 hown hK.1 hP hD hS 0 rfl rfl 3 (by decide) (hts _ (ta_cons _ mw_157)) (fun _ h9 => h9) rfl (by decide +kernel) rfl rfl (Nat.le_of_ble_eq_true rfl) dX2_gather_2 (fun H locs hP hD hS => ?_)
  have hP : va_P E.1 classes [(hcr, .inr (2, [.ref hso, .ref hsm, .ref hmd, .int 0, .ref hlv])), (hso, .inl (E.2.1, 16, .inl so)), (hsm, .inl (E.2.1, 16, .inl sm)), (hmd, .inl (E.2.2.1, 16, .inr (.inl md))), (hlv, .inl (E.2.1, 16, .inl lv))] H := hP
  have hD : va_D AM [(hcr, .inr (2, [.ref hso, .ref hsm, .ref hmd, .int 0, .ref hlv])), (hso, .inl (E.2.1, 16, .inl so)), (hsm, .inl (E.2.1, 16, .inl sm)), (hmd, .inl (E.2.2.1, 16, .inr (.inl md))), (hlv, .inl (E.2.1, 16, .inl lv))] := hD
  refine lv_iconst (v := 0) hx hb dX2_gather_5 (by decide) ?_
  refine lv_istore_n (lv' := [(2, .int 0), (0, .ref hcr), (1, .int 0)]) hx hb dX2_gather_6 rfl hl (by decide) rfl (fun ls hl => ?_)
  refine lv_iload_n hx hb dX2_gather_7 rfl (lv_at hl 0 rfl) ?_
  refine lv_iload_n hx hb dX2_gather_8 rfl (lv_at hl 2 rfl) ?_
  refine lv_icmp_ge (tgt := 32) hx hb dX2_gather_9 (by decide) (fun c_9 => ?_) (fun c_9 => ?_)
  · exact Rv hx hb hr hlocks hP hD hS () [0, 1, 2, 3, 4] rfl rfl (trivial) (Nat.le_of_ble_eq_true rfl) (Nat.le_of_ble_eq_true rfl) dX2_gather_32
  · exact absurd (Int32.le_refl 0) c_9

set_option maxHeartbeats 4000000 in
set_option maxRecDepth 100000 in
theorem c_Course_reset (l : Launch) (E : EE) (h : Nat → Nat) (n : Nat) (bg : Nat → Int32) (dr : Nat → Int32) (oc : Nat → Int64) (x : Int64) (und : Int32) (tk : Int32) (sp : Int32) (fd : Int32) (bd : Int32) (ba : Int32) (bo : Nat → Int32) (rg : Nat → Int32) (cnt : Int32) (fc : Int32) (fs : Nat → Int64) (rw : Nat → Int32) (fr : Int32) (en : Int32) (lc : Int32) (so : Nat → Int32) (sm : Nat → Int32) (lv : Nat → Int32) (md : Nat → Int64) (vals : Nat → Int64) (stp : Nat → Int32) (reg : Nat → Int32) (lo : Nat → Int32) (hn : n < 2 ^ 31) : Mv (S := Unit) l E yX1_reset (.code yX1_reset cX1_reset 2 none) ({ frames := 1, cells := 0, slots := 0, locals := 22 }) [.ref (h 0)] [(h 0, .inr (1, [.ref (h 1), .ref (h 2), .ref (h 3), .ref (h 4), .ref (h 9), .ref (h 12), .ref (h 14), .ref (h 16), .long x, .int und, .int tk, .int sp, .int fd, .int bd, .int ba])), (h 1, .inl (E.2.1, n, .inl bg)), (h 2, .inl (E.2.1, n, .inl dr)), (h 3, .inl (E.2.2.1, n, .inr (.inl oc))), (h 4, .inr (5, [.int (nI n), .ref (h 5), .ref (h 6), .ref (h 7), .ref (h 8)])), (h 5, .inl (E.2.2.1, n, .inr (.inl vals))), (h 6, .inl (E.2.1, n, .inl stp)), (h 7, .inl (E.2.1, n, .inl reg)), (h 8, .inl (E.2.2.2, n, .inl lo)), (h 9, .inr (0, [.ref (h 10), .int cnt, .ref (h 11)])), (h 10, .inl (E.2.1, n, .inl bo)), (h 11, .inl (E.2.1, n, .inl rg)), (h 12, .inr (3, [.int fc, .ref (h 13)])), (h 13, .inl (E.2.2.1, 16, .inr (.inl fs))), (h 14, .inr (4, [.ref (h 15), .int fr, .int en])), (h 15, .inl (E.2.1, n, .inl rw)), (h 16, .inr (2, [.ref (h 17), .ref (h 18), .ref (h 19), .int lc, .ref (h 20)])), (h 17, .inl (E.2.1, 16, .inl so)), (h 18, .inl (E.2.1, 16, .inl sm)), (h 19, .inl (E.2.2.1, 16, .inr (.inl md))), (h 20, .inl (E.2.1, 16, .inl lv))] (fun _ : Unit => True) (fun u : Unit => [(h 0, .inr (1, [.ref (h 1), .ref (h 2), .ref (h 3), .ref (h 4), .ref (h 9), .ref (h 12), .ref (h 14), .ref (h 16), .long x, .int und, .int 0, .int 0, .int 0, .int 0, .int 0])), (h 1, .inl (E.2.1, n, .inl (fun _ => -1))), (h 2, .inl (E.2.1, n, .inl (fun _ => -1))), (h 3, .inl (E.2.2.1, n, .inr (.inl oc))), (h 4, .inr (5, [.int (nI n), .ref (h 5), .ref (h 6), .ref (h 7), .ref (h 8)])), (h 5, .inl (E.2.2.1, n, .inr (.inl vals))), (h 6, .inl (E.2.1, n, .inl stp)), (h 7, .inl (E.2.1, n, .inl reg)), (h 8, .inl (E.2.2.2, n, .inl lo)), (h 9, .inr (0, [.ref (h 10), .int cnt, .ref (h 11)])), (h 10, .inl (E.2.1, n, .inl bo)), (h 11, .inl (E.2.1, n, .inl rg)), (h 12, .inr (3, [.int fc, .ref (h 13)])), (h 13, .inl (E.2.2.1, 16, .inr (.inl fs))), (h 14, .inr (4, [.ref (h 15), .int fr, .int en])), (h 15, .inl (E.2.1, n, .inl rw)), (h 16, .inr (2, [.ref (h 17), .ref (h 18), .ref (h 19), .int 0, .ref (h 20)])), (h 17, .inl (E.2.1, 16, .inl so)), (h 18, .inl (E.2.1, 16, .inl sm)), (h 19, .inl (E.2.2.1, 16, .inr (.inl md))), (h 20, .inl (E.2.1, 16, .inl lv))]) := by
  refine Mv.ofW (by decide) (Nat.le_of_ble_eq_true rfl) ?_
  intro pM eM sM mM bM meM cM AM ls hB hA hP hD hS hl
  obtain ⟨hx, hb, hr, hml, hown, hlocks, hnm, hts, hK⟩ := hB
  have hl : lv_has ls 2 [(0, .ref (h 0))] := hl
  refine lv_aload_n hx hb dX1_reset_0 rfl (lv_at hl 0 rfl) ?_
  refine va_get (D := E.1) (ci := 1) (v := .ref (h 16)) (C := RX1) (T := TX1) (N := 15) hx hb hts ux_X1' hown hK.1 hP 0 rfl rfl 7 (by decide) (hts _ (ta_cons _ mw_189)) (fun _ h9 => h9) rfl dX1_reset_1 ?_
  refine lv_iconst (v := 0) hx hb dX1_reset_4 (by decide) ?_
  refine af_v (wc := [(h 16, .inr (2, [.ref (h 17), .ref (h 18), .ref (h 19), .int lc, .ref (h 20)])), (h 17, .inl (E.2.1, 16, .inl so)), (h 18, .inl (E.2.1, 16, .inl sm)), (h 19, .inl (E.2.2.1, 16, .inr (.inl md))), (h 20, .inl (E.2.1, 16, .inl lv))]) (wr := [(h 0, .inr (1, [.ref (h 1), .ref (h 2), .ref (h 3), .ref (h 4), .ref (h 9), .ref (h 12), .ref (h 14), .ref (h 16), .long x, .int und, .int tk, .int sp, .int fd, .int bd, .int ba])), (h 1, .inl (E.2.1, n, .inl bg)), (h 2, .inl (E.2.1, n, .inl dr)), (h 3, .inl (E.2.2.1, n, .inr (.inl oc))), (h 4, .inr (5, [.int (nI n), .ref (h 5), .ref (h 6), .ref (h 7), .ref (h 8)])), (h 5, .inl (E.2.2.1, n, .inr (.inl vals))), (h 6, .inl (E.2.1, n, .inl stp)), (h 7, .inl (E.2.1, n, .inl reg)), (h 8, .inl (E.2.2.2, n, .inl lo)), (h 9, .inr (0, [.ref (h 10), .int cnt, .ref (h 11)])), (h 10, .inl (E.2.1, n, .inl bo)), (h 11, .inl (E.2.1, n, .inl rg)), (h 12, .inr (3, [.int fc, .ref (h 13)])), (h 13, .inl (E.2.2.1, 16, .inr (.inl fs))), (h 14, .inr (4, [.ref (h 15), .int fr, .int en])), (h 15, .inl (E.2.1, n, .inl rw))]) (rn_V (b := h 16) (ci := 2) (As := [.int 0]) (rest := []) (n := 1) ⟨hx, hb, hml, hown, hts⟩ ta_cons wq_X1_59 (by decide +kernel) hK (c_gather0 l E (h 16) (h 17) (h 18) (h 19) (h 20) lc so sm lv md  _) ⟨Nat.le_of_ble_eq_true rfl, Nat.le_of_ble_eq_true rfl⟩ hP hD [16, 17, 18, 19, 20] rfl rfl rfl rfl rfl hl.1 rfl (Nat.le_of_ble_eq_true rfl) dX1_reset_5 ⟨Nat.le_of_ble_eq_true rfl, Nat.le_of_ble_eq_true rfl⟩) hP hD hS hA [16, 17, 18, 19, 20] [0, 1, 2, 3, 4, 5, 6, 7, 8, 9, 10, 11, 12, 13, 14, 15] rfl rfl rfl (by decide) (fun u_5 H locs hwC hP hD hS => ?_)
  have hP : va_P E.1 classes [(h 0, .inr (1, [.ref (h 1), .ref (h 2), .ref (h 3), .ref (h 4), .ref (h 9), .ref (h 12), .ref (h 14), .ref (h 16), .long x, .int und, .int tk, .int sp, .int fd, .int bd, .int ba])), (h 1, .inl (E.2.1, n, .inl bg)), (h 2, .inl (E.2.1, n, .inl dr)), (h 3, .inl (E.2.2.1, n, .inr (.inl oc))), (h 4, .inr (5, [.int (nI n), .ref (h 5), .ref (h 6), .ref (h 7), .ref (h 8)])), (h 5, .inl (E.2.2.1, n, .inr (.inl vals))), (h 6, .inl (E.2.1, n, .inl stp)), (h 7, .inl (E.2.1, n, .inl reg)), (h 8, .inl (E.2.2.2, n, .inl lo)), (h 9, .inr (0, [.ref (h 10), .int cnt, .ref (h 11)])), (h 10, .inl (E.2.1, n, .inl bo)), (h 11, .inl (E.2.1, n, .inl rg)), (h 12, .inr (3, [.int fc, .ref (h 13)])), (h 13, .inl (E.2.2.1, 16, .inr (.inl fs))), (h 14, .inr (4, [.ref (h 15), .int fr, .int en])), (h 15, .inl (E.2.1, n, .inl rw)), (h 16, .inr (2, [.ref (h 17), .ref (h 18), .ref (h 19), .int 0, .ref (h 20)])), (h 17, .inl (E.2.1, 16, .inl so)), (h 18, .inl (E.2.1, 16, .inl sm)), (h 19, .inl (E.2.2.1, 16, .inr (.inl md))), (h 20, .inl (E.2.1, 16, .inl lv))] H := hP
  have hD : va_D AM [(h 0, .inr (1, [.ref (h 1), .ref (h 2), .ref (h 3), .ref (h 4), .ref (h 9), .ref (h 12), .ref (h 14), .ref (h 16), .long x, .int und, .int tk, .int sp, .int fd, .int bd, .int ba])), (h 1, .inl (E.2.1, n, .inl bg)), (h 2, .inl (E.2.1, n, .inl dr)), (h 3, .inl (E.2.2.1, n, .inr (.inl oc))), (h 4, .inr (5, [.int (nI n), .ref (h 5), .ref (h 6), .ref (h 7), .ref (h 8)])), (h 5, .inl (E.2.2.1, n, .inr (.inl vals))), (h 6, .inl (E.2.1, n, .inl stp)), (h 7, .inl (E.2.1, n, .inl reg)), (h 8, .inl (E.2.2.2, n, .inl lo)), (h 9, .inr (0, [.ref (h 10), .int cnt, .ref (h 11)])), (h 10, .inl (E.2.1, n, .inl bo)), (h 11, .inl (E.2.1, n, .inl rg)), (h 12, .inr (3, [.int fc, .ref (h 13)])), (h 13, .inl (E.2.2.1, 16, .inr (.inl fs))), (h 14, .inr (4, [.ref (h 15), .int fr, .int en])), (h 15, .inl (E.2.1, n, .inl rw)), (h 16, .inr (2, [.ref (h 17), .ref (h 18), .ref (h 19), .int 0, .ref (h 20)])), (h 17, .inl (E.2.1, 16, .inl so)), (h 18, .inl (E.2.1, 16, .inl sm)), (h 19, .inl (E.2.2.1, 16, .inr (.inl md))), (h 20, .inl (E.2.1, 16, .inl lv))] := hD
  refine lv_aload_n hx hb dX1_reset_8 rfl (lv_at hl 0 rfl) ?_
  refine lv_iconst (v := 0) hx hb dX1_reset_9 (by decide) ?_
  refine va_put (D := E.1) (ci := 1) (v := .int 0) (ty := .int) (C := RX1) (T := TX1) (N := 15) hx hb hts ux_X1' tyX1 tyX1_ok nmX1 hown hK.1 hP hD hS 0 rfl rfl 10 (by decide) (hts _ (ta_cons _ mw_192)) (fun _ h9 => h9) rfl (by decide +kernel) rfl rfl (Nat.le_of_ble_eq_true rfl) dX1_reset_10 (fun H locs hP hD hS => ?_)
  have hP : va_P E.1 classes [(h 0, .inr (1, [.ref (h 1), .ref (h 2), .ref (h 3), .ref (h 4), .ref (h 9), .ref (h 12), .ref (h 14), .ref (h 16), .long x, .int und, .int 0, .int sp, .int fd, .int bd, .int ba])), (h 1, .inl (E.2.1, n, .inl bg)), (h 2, .inl (E.2.1, n, .inl dr)), (h 3, .inl (E.2.2.1, n, .inr (.inl oc))), (h 4, .inr (5, [.int (nI n), .ref (h 5), .ref (h 6), .ref (h 7), .ref (h 8)])), (h 5, .inl (E.2.2.1, n, .inr (.inl vals))), (h 6, .inl (E.2.1, n, .inl stp)), (h 7, .inl (E.2.1, n, .inl reg)), (h 8, .inl (E.2.2.2, n, .inl lo)), (h 9, .inr (0, [.ref (h 10), .int cnt, .ref (h 11)])), (h 10, .inl (E.2.1, n, .inl bo)), (h 11, .inl (E.2.1, n, .inl rg)), (h 12, .inr (3, [.int fc, .ref (h 13)])), (h 13, .inl (E.2.2.1, 16, .inr (.inl fs))), (h 14, .inr (4, [.ref (h 15), .int fr, .int en])), (h 15, .inl (E.2.1, n, .inl rw)), (h 16, .inr (2, [.ref (h 17), .ref (h 18), .ref (h 19), .int 0, .ref (h 20)])), (h 17, .inl (E.2.1, 16, .inl so)), (h 18, .inl (E.2.1, 16, .inl sm)), (h 19, .inl (E.2.2.1, 16, .inr (.inl md))), (h 20, .inl (E.2.1, 16, .inl lv))] H := hP
  have hD : va_D AM [(h 0, .inr (1, [.ref (h 1), .ref (h 2), .ref (h 3), .ref (h 4), .ref (h 9), .ref (h 12), .ref (h 14), .ref (h 16), .long x, .int und, .int 0, .int sp, .int fd, .int bd, .int ba])), (h 1, .inl (E.2.1, n, .inl bg)), (h 2, .inl (E.2.1, n, .inl dr)), (h 3, .inl (E.2.2.1, n, .inr (.inl oc))), (h 4, .inr (5, [.int (nI n), .ref (h 5), .ref (h 6), .ref (h 7), .ref (h 8)])), (h 5, .inl (E.2.2.1, n, .inr (.inl vals))), (h 6, .inl (E.2.1, n, .inl stp)), (h 7, .inl (E.2.1, n, .inl reg)), (h 8, .inl (E.2.2.2, n, .inl lo)), (h 9, .inr (0, [.ref (h 10), .int cnt, .ref (h 11)])), (h 10, .inl (E.2.1, n, .inl bo)), (h 11, .inl (E.2.1, n, .inl rg)), (h 12, .inr (3, [.int fc, .ref (h 13)])), (h 13, .inl (E.2.2.1, 16, .inr (.inl fs))), (h 14, .inr (4, [.ref (h 15), .int fr, .int en])), (h 15, .inl (E.2.1, n, .inl rw)), (h 16, .inr (2, [.ref (h 17), .ref (h 18), .ref (h 19), .int 0, .ref (h 20)])), (h 17, .inl (E.2.1, 16, .inl so)), (h 18, .inl (E.2.1, 16, .inl sm)), (h 19, .inl (E.2.2.1, 16, .inr (.inl md))), (h 20, .inl (E.2.1, 16, .inl lv))] := hD
  refine lv_aload_n hx hb dX1_reset_13 rfl (lv_at hl 0 rfl) ?_
  refine lv_iconst (v := 0) hx hb dX1_reset_14 (by decide) ?_
  refine va_put (D := E.1) (ci := 1) (v := .int 0) (ty := .int) (C := RX1) (T := TX1) (N := 15) hx hb hts ux_X1' tyX1 tyX1_ok nmX1 hown hK.1 hP hD hS 0 rfl rfl 11 (by decide) (hts _ (ta_cons _ mw_193)) (fun _ h9 => h9) rfl (by decide +kernel) rfl rfl (Nat.le_of_ble_eq_true rfl) dX1_reset_15 (fun H locs hP hD hS => ?_)
  have hP : va_P E.1 classes [(h 0, .inr (1, [.ref (h 1), .ref (h 2), .ref (h 3), .ref (h 4), .ref (h 9), .ref (h 12), .ref (h 14), .ref (h 16), .long x, .int und, .int 0, .int 0, .int fd, .int bd, .int ba])), (h 1, .inl (E.2.1, n, .inl bg)), (h 2, .inl (E.2.1, n, .inl dr)), (h 3, .inl (E.2.2.1, n, .inr (.inl oc))), (h 4, .inr (5, [.int (nI n), .ref (h 5), .ref (h 6), .ref (h 7), .ref (h 8)])), (h 5, .inl (E.2.2.1, n, .inr (.inl vals))), (h 6, .inl (E.2.1, n, .inl stp)), (h 7, .inl (E.2.1, n, .inl reg)), (h 8, .inl (E.2.2.2, n, .inl lo)), (h 9, .inr (0, [.ref (h 10), .int cnt, .ref (h 11)])), (h 10, .inl (E.2.1, n, .inl bo)), (h 11, .inl (E.2.1, n, .inl rg)), (h 12, .inr (3, [.int fc, .ref (h 13)])), (h 13, .inl (E.2.2.1, 16, .inr (.inl fs))), (h 14, .inr (4, [.ref (h 15), .int fr, .int en])), (h 15, .inl (E.2.1, n, .inl rw)), (h 16, .inr (2, [.ref (h 17), .ref (h 18), .ref (h 19), .int 0, .ref (h 20)])), (h 17, .inl (E.2.1, 16, .inl so)), (h 18, .inl (E.2.1, 16, .inl sm)), (h 19, .inl (E.2.2.1, 16, .inr (.inl md))), (h 20, .inl (E.2.1, 16, .inl lv))] H := hP
  have hD : va_D AM [(h 0, .inr (1, [.ref (h 1), .ref (h 2), .ref (h 3), .ref (h 4), .ref (h 9), .ref (h 12), .ref (h 14), .ref (h 16), .long x, .int und, .int 0, .int 0, .int fd, .int bd, .int ba])), (h 1, .inl (E.2.1, n, .inl bg)), (h 2, .inl (E.2.1, n, .inl dr)), (h 3, .inl (E.2.2.1, n, .inr (.inl oc))), (h 4, .inr (5, [.int (nI n), .ref (h 5), .ref (h 6), .ref (h 7), .ref (h 8)])), (h 5, .inl (E.2.2.1, n, .inr (.inl vals))), (h 6, .inl (E.2.1, n, .inl stp)), (h 7, .inl (E.2.1, n, .inl reg)), (h 8, .inl (E.2.2.2, n, .inl lo)), (h 9, .inr (0, [.ref (h 10), .int cnt, .ref (h 11)])), (h 10, .inl (E.2.1, n, .inl bo)), (h 11, .inl (E.2.1, n, .inl rg)), (h 12, .inr (3, [.int fc, .ref (h 13)])), (h 13, .inl (E.2.2.1, 16, .inr (.inl fs))), (h 14, .inr (4, [.ref (h 15), .int fr, .int en])), (h 15, .inl (E.2.1, n, .inl rw)), (h 16, .inr (2, [.ref (h 17), .ref (h 18), .ref (h 19), .int 0, .ref (h 20)])), (h 17, .inl (E.2.1, 16, .inl so)), (h 18, .inl (E.2.1, 16, .inl sm)), (h 19, .inl (E.2.2.1, 16, .inr (.inl md))), (h 20, .inl (E.2.1, 16, .inl lv))] := hD
  refine lv_aload_n hx hb dX1_reset_18 rfl (lv_at hl 0 rfl) ?_
  refine lv_iconst (v := 0) hx hb dX1_reset_19 (by decide) ?_
  refine va_put (D := E.1) (ci := 1) (v := .int 0) (ty := .int) (C := RX1) (T := TX1) (N := 15) hx hb hts ux_X1' tyX1 tyX1_ok nmX1 hown hK.1 hP hD hS 0 rfl rfl 12 (by decide) (hts _ (ta_cons _ mw_194)) (fun _ h9 => h9) rfl (by decide +kernel) rfl rfl (Nat.le_of_ble_eq_true rfl) dX1_reset_20 (fun H locs hP hD hS => ?_)
  have hP : va_P E.1 classes [(h 0, .inr (1, [.ref (h 1), .ref (h 2), .ref (h 3), .ref (h 4), .ref (h 9), .ref (h 12), .ref (h 14), .ref (h 16), .long x, .int und, .int 0, .int 0, .int 0, .int bd, .int ba])), (h 1, .inl (E.2.1, n, .inl bg)), (h 2, .inl (E.2.1, n, .inl dr)), (h 3, .inl (E.2.2.1, n, .inr (.inl oc))), (h 4, .inr (5, [.int (nI n), .ref (h 5), .ref (h 6), .ref (h 7), .ref (h 8)])), (h 5, .inl (E.2.2.1, n, .inr (.inl vals))), (h 6, .inl (E.2.1, n, .inl stp)), (h 7, .inl (E.2.1, n, .inl reg)), (h 8, .inl (E.2.2.2, n, .inl lo)), (h 9, .inr (0, [.ref (h 10), .int cnt, .ref (h 11)])), (h 10, .inl (E.2.1, n, .inl bo)), (h 11, .inl (E.2.1, n, .inl rg)), (h 12, .inr (3, [.int fc, .ref (h 13)])), (h 13, .inl (E.2.2.1, 16, .inr (.inl fs))), (h 14, .inr (4, [.ref (h 15), .int fr, .int en])), (h 15, .inl (E.2.1, n, .inl rw)), (h 16, .inr (2, [.ref (h 17), .ref (h 18), .ref (h 19), .int 0, .ref (h 20)])), (h 17, .inl (E.2.1, 16, .inl so)), (h 18, .inl (E.2.1, 16, .inl sm)), (h 19, .inl (E.2.2.1, 16, .inr (.inl md))), (h 20, .inl (E.2.1, 16, .inl lv))] H := hP
  have hD : va_D AM [(h 0, .inr (1, [.ref (h 1), .ref (h 2), .ref (h 3), .ref (h 4), .ref (h 9), .ref (h 12), .ref (h 14), .ref (h 16), .long x, .int und, .int 0, .int 0, .int 0, .int bd, .int ba])), (h 1, .inl (E.2.1, n, .inl bg)), (h 2, .inl (E.2.1, n, .inl dr)), (h 3, .inl (E.2.2.1, n, .inr (.inl oc))), (h 4, .inr (5, [.int (nI n), .ref (h 5), .ref (h 6), .ref (h 7), .ref (h 8)])), (h 5, .inl (E.2.2.1, n, .inr (.inl vals))), (h 6, .inl (E.2.1, n, .inl stp)), (h 7, .inl (E.2.1, n, .inl reg)), (h 8, .inl (E.2.2.2, n, .inl lo)), (h 9, .inr (0, [.ref (h 10), .int cnt, .ref (h 11)])), (h 10, .inl (E.2.1, n, .inl bo)), (h 11, .inl (E.2.1, n, .inl rg)), (h 12, .inr (3, [.int fc, .ref (h 13)])), (h 13, .inl (E.2.2.1, 16, .inr (.inl fs))), (h 14, .inr (4, [.ref (h 15), .int fr, .int en])), (h 15, .inl (E.2.1, n, .inl rw)), (h 16, .inr (2, [.ref (h 17), .ref (h 18), .ref (h 19), .int 0, .ref (h 20)])), (h 17, .inl (E.2.1, 16, .inl so)), (h 18, .inl (E.2.1, 16, .inl sm)), (h 19, .inl (E.2.2.1, 16, .inr (.inl md))), (h 20, .inl (E.2.1, 16, .inl lv))] := hD
  refine lv_aload_n hx hb dX1_reset_23 rfl (lv_at hl 0 rfl) ?_
  refine lv_iconst (v := 0) hx hb dX1_reset_24 (by decide) ?_
  refine va_put (D := E.1) (ci := 1) (v := .int 0) (ty := .int) (C := RX1) (T := TX1) (N := 15) hx hb hts ux_X1' tyX1 tyX1_ok nmX1 hown hK.1 hP hD hS 0 rfl rfl 13 (by decide) (hts _ (ta_cons _ mw_195)) (fun _ h9 => h9) rfl (by decide +kernel) rfl rfl (Nat.le_of_ble_eq_true rfl) dX1_reset_25 (fun H locs hP hD hS => ?_)
  have hP : va_P E.1 classes [(h 0, .inr (1, [.ref (h 1), .ref (h 2), .ref (h 3), .ref (h 4), .ref (h 9), .ref (h 12), .ref (h 14), .ref (h 16), .long x, .int und, .int 0, .int 0, .int 0, .int 0, .int ba])), (h 1, .inl (E.2.1, n, .inl bg)), (h 2, .inl (E.2.1, n, .inl dr)), (h 3, .inl (E.2.2.1, n, .inr (.inl oc))), (h 4, .inr (5, [.int (nI n), .ref (h 5), .ref (h 6), .ref (h 7), .ref (h 8)])), (h 5, .inl (E.2.2.1, n, .inr (.inl vals))), (h 6, .inl (E.2.1, n, .inl stp)), (h 7, .inl (E.2.1, n, .inl reg)), (h 8, .inl (E.2.2.2, n, .inl lo)), (h 9, .inr (0, [.ref (h 10), .int cnt, .ref (h 11)])), (h 10, .inl (E.2.1, n, .inl bo)), (h 11, .inl (E.2.1, n, .inl rg)), (h 12, .inr (3, [.int fc, .ref (h 13)])), (h 13, .inl (E.2.2.1, 16, .inr (.inl fs))), (h 14, .inr (4, [.ref (h 15), .int fr, .int en])), (h 15, .inl (E.2.1, n, .inl rw)), (h 16, .inr (2, [.ref (h 17), .ref (h 18), .ref (h 19), .int 0, .ref (h 20)])), (h 17, .inl (E.2.1, 16, .inl so)), (h 18, .inl (E.2.1, 16, .inl sm)), (h 19, .inl (E.2.2.1, 16, .inr (.inl md))), (h 20, .inl (E.2.1, 16, .inl lv))] H := hP
  have hD : va_D AM [(h 0, .inr (1, [.ref (h 1), .ref (h 2), .ref (h 3), .ref (h 4), .ref (h 9), .ref (h 12), .ref (h 14), .ref (h 16), .long x, .int und, .int 0, .int 0, .int 0, .int 0, .int ba])), (h 1, .inl (E.2.1, n, .inl bg)), (h 2, .inl (E.2.1, n, .inl dr)), (h 3, .inl (E.2.2.1, n, .inr (.inl oc))), (h 4, .inr (5, [.int (nI n), .ref (h 5), .ref (h 6), .ref (h 7), .ref (h 8)])), (h 5, .inl (E.2.2.1, n, .inr (.inl vals))), (h 6, .inl (E.2.1, n, .inl stp)), (h 7, .inl (E.2.1, n, .inl reg)), (h 8, .inl (E.2.2.2, n, .inl lo)), (h 9, .inr (0, [.ref (h 10), .int cnt, .ref (h 11)])), (h 10, .inl (E.2.1, n, .inl bo)), (h 11, .inl (E.2.1, n, .inl rg)), (h 12, .inr (3, [.int fc, .ref (h 13)])), (h 13, .inl (E.2.2.1, 16, .inr (.inl fs))), (h 14, .inr (4, [.ref (h 15), .int fr, .int en])), (h 15, .inl (E.2.1, n, .inl rw)), (h 16, .inr (2, [.ref (h 17), .ref (h 18), .ref (h 19), .int 0, .ref (h 20)])), (h 17, .inl (E.2.1, 16, .inl so)), (h 18, .inl (E.2.1, 16, .inl sm)), (h 19, .inl (E.2.2.1, 16, .inr (.inl md))), (h 20, .inl (E.2.1, 16, .inl lv))] := hD
  refine lv_aload_n hx hb dX1_reset_28 rfl (lv_at hl 0 rfl) ?_
  refine lv_iconst (v := 0) hx hb dX1_reset_29 (by decide) ?_
  refine va_put (D := E.1) (ci := 1) (v := .int 0) (ty := .int) (C := RX1) (T := TX1) (N := 15) hx hb hts ux_X1' tyX1 tyX1_ok nmX1 hown hK.1 hP hD hS 0 rfl rfl 14 (by decide) (hts _ (ta_cons _ mw_196)) (fun _ h9 => h9) rfl (by decide +kernel) rfl rfl (Nat.le_of_ble_eq_true rfl) dX1_reset_30 (fun H locs hP hD hS => ?_)
  have hP : va_P E.1 classes [(h 0, .inr (1, [.ref (h 1), .ref (h 2), .ref (h 3), .ref (h 4), .ref (h 9), .ref (h 12), .ref (h 14), .ref (h 16), .long x, .int und, .int 0, .int 0, .int 0, .int 0, .int 0])), (h 1, .inl (E.2.1, n, .inl bg)), (h 2, .inl (E.2.1, n, .inl dr)), (h 3, .inl (E.2.2.1, n, .inr (.inl oc))), (h 4, .inr (5, [.int (nI n), .ref (h 5), .ref (h 6), .ref (h 7), .ref (h 8)])), (h 5, .inl (E.2.2.1, n, .inr (.inl vals))), (h 6, .inl (E.2.1, n, .inl stp)), (h 7, .inl (E.2.1, n, .inl reg)), (h 8, .inl (E.2.2.2, n, .inl lo)), (h 9, .inr (0, [.ref (h 10), .int cnt, .ref (h 11)])), (h 10, .inl (E.2.1, n, .inl bo)), (h 11, .inl (E.2.1, n, .inl rg)), (h 12, .inr (3, [.int fc, .ref (h 13)])), (h 13, .inl (E.2.2.1, 16, .inr (.inl fs))), (h 14, .inr (4, [.ref (h 15), .int fr, .int en])), (h 15, .inl (E.2.1, n, .inl rw)), (h 16, .inr (2, [.ref (h 17), .ref (h 18), .ref (h 19), .int 0, .ref (h 20)])), (h 17, .inl (E.2.1, 16, .inl so)), (h 18, .inl (E.2.1, 16, .inl sm)), (h 19, .inl (E.2.2.1, 16, .inr (.inl md))), (h 20, .inl (E.2.1, 16, .inl lv))] H := hP
  have hD : va_D AM [(h 0, .inr (1, [.ref (h 1), .ref (h 2), .ref (h 3), .ref (h 4), .ref (h 9), .ref (h 12), .ref (h 14), .ref (h 16), .long x, .int und, .int 0, .int 0, .int 0, .int 0, .int 0])), (h 1, .inl (E.2.1, n, .inl bg)), (h 2, .inl (E.2.1, n, .inl dr)), (h 3, .inl (E.2.2.1, n, .inr (.inl oc))), (h 4, .inr (5, [.int (nI n), .ref (h 5), .ref (h 6), .ref (h 7), .ref (h 8)])), (h 5, .inl (E.2.2.1, n, .inr (.inl vals))), (h 6, .inl (E.2.1, n, .inl stp)), (h 7, .inl (E.2.1, n, .inl reg)), (h 8, .inl (E.2.2.2, n, .inl lo)), (h 9, .inr (0, [.ref (h 10), .int cnt, .ref (h 11)])), (h 10, .inl (E.2.1, n, .inl bo)), (h 11, .inl (E.2.1, n, .inl rg)), (h 12, .inr (3, [.int fc, .ref (h 13)])), (h 13, .inl (E.2.2.1, 16, .inr (.inl fs))), (h 14, .inr (4, [.ref (h 15), .int fr, .int en])), (h 15, .inl (E.2.1, n, .inl rw)), (h 16, .inr (2, [.ref (h 17), .ref (h 18), .ref (h 19), .int 0, .ref (h 20)])), (h 17, .inl (E.2.1, 16, .inl so)), (h 18, .inl (E.2.1, 16, .inl sm)), (h 19, .inl (E.2.2.1, 16, .inr (.inl md))), (h 20, .inl (E.2.1, 16, .inl lv))] := hD
  refine lv_iconst (v := 0) hx hb dX1_reset_33 (by decide) ?_
  refine lv_istore_n (lv' := [(1, .int 0), (0, .ref (h 0))]) hx hb dX1_reset_34 rfl hl (by decide) rfl (fun ls hl => ?_)
  refine W.loop (σ := (Nat) × (Nat → Int32) × (Nat → Int32)) (fun a H locs ls => match a with | (i, a, b) => va_P E.1 classes [(h 0, .inr (1, [.ref (h 1), .ref (h 2), .ref (h 3), .ref (h 4), .ref (h 9), .ref (h 12), .ref (h 14), .ref (h 16), .long x, .int und, .int 0, .int 0, .int 0, .int 0, .int 0])), (h 1, .inl (E.2.1, n, .inl a)), (h 2, .inl (E.2.1, n, .inl b)), (h 3, .inl (E.2.2.1, n, .inr (.inl oc))), (h 4, .inr (5, [.int (nI n), .ref (h 5), .ref (h 6), .ref (h 7), .ref (h 8)])), (h 5, .inl (E.2.2.1, n, .inr (.inl vals))), (h 6, .inl (E.2.1, n, .inl stp)), (h 7, .inl (E.2.1, n, .inl reg)), (h 8, .inl (E.2.2.2, n, .inl lo)), (h 9, .inr (0, [.ref (h 10), .int cnt, .ref (h 11)])), (h 10, .inl (E.2.1, n, .inl bo)), (h 11, .inl (E.2.1, n, .inl rg)), (h 12, .inr (3, [.int fc, .ref (h 13)])), (h 13, .inl (E.2.2.1, 16, .inr (.inl fs))), (h 14, .inr (4, [.ref (h 15), .int fr, .int en])), (h 15, .inl (E.2.1, n, .inl rw)), (h 16, .inr (2, [.ref (h 17), .ref (h 18), .ref (h 19), .int 0, .ref (h 20)])), (h 17, .inl (E.2.1, 16, .inl so)), (h 18, .inl (E.2.1, 16, .inl sm)), (h 19, .inl (E.2.2.1, 16, .inr (.inl md))), (h 20, .inl (E.2.1, 16, .inl lv))] H ∧ va_D AM [(h 0, .inr (1, [.ref (h 1), .ref (h 2), .ref (h 3), .ref (h 4), .ref (h 9), .ref (h 12), .ref (h 14), .ref (h 16), .long x, .int und, .int 0, .int 0, .int 0, .int 0, .int 0])), (h 1, .inl (E.2.1, n, .inl a)), (h 2, .inl (E.2.1, n, .inl b)), (h 3, .inl (E.2.2.1, n, .inr (.inl oc))), (h 4, .inr (5, [.int (nI n), .ref (h 5), .ref (h 6), .ref (h 7), .ref (h 8)])), (h 5, .inl (E.2.2.1, n, .inr (.inl vals))), (h 6, .inl (E.2.1, n, .inl stp)), (h 7, .inl (E.2.1, n, .inl reg)), (h 8, .inl (E.2.2.2, n, .inl lo)), (h 9, .inr (0, [.ref (h 10), .int cnt, .ref (h 11)])), (h 10, .inl (E.2.1, n, .inl bo)), (h 11, .inl (E.2.1, n, .inl rg)), (h 12, .inr (3, [.int fc, .ref (h 13)])), (h 13, .inl (E.2.2.1, 16, .inr (.inl fs))), (h 14, .inr (4, [.ref (h 15), .int fr, .int en])), (h 15, .inl (E.2.1, n, .inl rw)), (h 16, .inr (2, [.ref (h 17), .ref (h 18), .ref (h 19), .int 0, .ref (h 20)])), (h 17, .inl (E.2.1, 16, .inl so)), (h 18, .inl (E.2.1, 16, .inl sm)), (h 19, .inl (E.2.2.1, 16, .inr (.inl md))), (h 20, .inl (E.2.1, 16, .inl lv))] ∧ va_S AM sM.heap H locs ∧ lv_has ls 2 [(1, .int (nI i)), (0, .ref (h 0))] ∧ (i ≤ n) ∧ (∀ j, j < i → a j = -1) ∧ (∀ j, j < i → b j = -1)) (fun a => match a with | (i, a, b) => n - i) (0, bg, dr) ⟨hP.sub [0, 1, 2, 3, 4, 5, 6, 7, 8, 9, 10, 11, 12, 13, 14, 15, 16, 17, 18, 19, 20] rfl, hD.sub [0, 1, 2, 3, 4, 5, 6, 7, 8, 9, 10, 11, 12, 13, 14, 15, 16, 17, 18, 19, 20] (by decide) rfl, hS, lv_sub hl [0, 1] rfl, Nat.zero_le _, fun j h => absurd h (Nat.not_lt_zero j), fun j h => absurd h (Nat.not_lt_zero j)⟩ ?_
  intro a H locs ls hI ih35
  obtain ⟨i, a, b⟩ := a
  obtain ⟨hP, hD, hS, hl, hi, p1, p2⟩ := hI
  have hP : va_P E.1 classes [(h 0, .inr (1, [.ref (h 1), .ref (h 2), .ref (h 3), .ref (h 4), .ref (h 9), .ref (h 12), .ref (h 14), .ref (h 16), .long x, .int und, .int 0, .int 0, .int 0, .int 0, .int 0])), (h 1, .inl (E.2.1, n, .inl a)), (h 2, .inl (E.2.1, n, .inl b)), (h 3, .inl (E.2.2.1, n, .inr (.inl oc))), (h 4, .inr (5, [.int (nI n), .ref (h 5), .ref (h 6), .ref (h 7), .ref (h 8)])), (h 5, .inl (E.2.2.1, n, .inr (.inl vals))), (h 6, .inl (E.2.1, n, .inl stp)), (h 7, .inl (E.2.1, n, .inl reg)), (h 8, .inl (E.2.2.2, n, .inl lo)), (h 9, .inr (0, [.ref (h 10), .int cnt, .ref (h 11)])), (h 10, .inl (E.2.1, n, .inl bo)), (h 11, .inl (E.2.1, n, .inl rg)), (h 12, .inr (3, [.int fc, .ref (h 13)])), (h 13, .inl (E.2.2.1, 16, .inr (.inl fs))), (h 14, .inr (4, [.ref (h 15), .int fr, .int en])), (h 15, .inl (E.2.1, n, .inl rw)), (h 16, .inr (2, [.ref (h 17), .ref (h 18), .ref (h 19), .int 0, .ref (h 20)])), (h 17, .inl (E.2.1, 16, .inl so)), (h 18, .inl (E.2.1, 16, .inl sm)), (h 19, .inl (E.2.2.1, 16, .inr (.inl md))), (h 20, .inl (E.2.1, 16, .inl lv))] H := hP
  have hD : va_D AM [(h 0, .inr (1, [.ref (h 1), .ref (h 2), .ref (h 3), .ref (h 4), .ref (h 9), .ref (h 12), .ref (h 14), .ref (h 16), .long x, .int und, .int 0, .int 0, .int 0, .int 0, .int 0])), (h 1, .inl (E.2.1, n, .inl a)), (h 2, .inl (E.2.1, n, .inl b)), (h 3, .inl (E.2.2.1, n, .inr (.inl oc))), (h 4, .inr (5, [.int (nI n), .ref (h 5), .ref (h 6), .ref (h 7), .ref (h 8)])), (h 5, .inl (E.2.2.1, n, .inr (.inl vals))), (h 6, .inl (E.2.1, n, .inl stp)), (h 7, .inl (E.2.1, n, .inl reg)), (h 8, .inl (E.2.2.2, n, .inl lo)), (h 9, .inr (0, [.ref (h 10), .int cnt, .ref (h 11)])), (h 10, .inl (E.2.1, n, .inl bo)), (h 11, .inl (E.2.1, n, .inl rg)), (h 12, .inr (3, [.int fc, .ref (h 13)])), (h 13, .inl (E.2.2.1, 16, .inr (.inl fs))), (h 14, .inr (4, [.ref (h 15), .int fr, .int en])), (h 15, .inl (E.2.1, n, .inl rw)), (h 16, .inr (2, [.ref (h 17), .ref (h 18), .ref (h 19), .int 0, .ref (h 20)])), (h 17, .inl (E.2.1, 16, .inl so)), (h 18, .inl (E.2.1, 16, .inl sm)), (h 19, .inl (E.2.2.1, 16, .inr (.inl md))), (h 20, .inl (E.2.1, 16, .inl lv))] := hD
  have hl : lv_has ls 2 [(1, .int (nI i)), (0, .ref (h 0))] := hl
  have hi : i ≤ n := hi
  have p1 : ∀ j, j < i → a j = -1 := p1
  have p2 : ∀ j, j < i → b j = -1 := p2
  refine lv_iload_n hx hb dX1_reset_35 rfl (lv_at hl 0 rfl) ?_
  refine lv_aload_n hx hb dX1_reset_36 rfl (lv_at hl 1 rfl) ?_
  refine va_get (D := E.1) (ci := 1) (v := .ref (h 4)) (C := RX1) (T := TX1) (N := 15) hx hb hts ux_X1' hown hK.1 hP 0 rfl rfl 3 (by decide) (hts _ (ta_cons _ mw_185)) (fun _ h9 => h9) rfl dX1_reset_37 ?_
  refine va_get (D := E.1) (ci := 5) (v := .int (nI n)) (C := RX5) (T := TX5) (N := 5) hx hb hts ux_X5' hown hK.1 hP 4 rfl rfl 0 (by decide) (hts _ (ta_cons _ mw_59)) (fun _ h9 => h9) rfl dX1_reset_40 ?_
  refine lv_icmp_ge (tgt := 66) hx hb dX1_reset_43 (by decide) (fun c_43 => ?_) (fun c_43 => ?_)
  · have c_43 : n ≤ i := (nI_leI (by omega) (by omega)).mp c_43
    have e9 : i = n := by omega
    rw [e9] at p1 p2
    obtain ⟨hP, hD⟩ := cg_i (g := fun _ => -1) hP hD 1 rfl (p1)
    have hP : va_P E.1 classes [(h 0, .inr (1, [.ref (h 1), .ref (h 2), .ref (h 3), .ref (h 4), .ref (h 9), .ref (h 12), .ref (h 14), .ref (h 16), .long x, .int und, .int 0, .int 0, .int 0, .int 0, .int 0])), (h 1, .inl (E.2.1, n, .inl (fun _ => -1))), (h 2, .inl (E.2.1, n, .inl b)), (h 3, .inl (E.2.2.1, n, .inr (.inl oc))), (h 4, .inr (5, [.int (nI n), .ref (h 5), .ref (h 6), .ref (h 7), .ref (h 8)])), (h 5, .inl (E.2.2.1, n, .inr (.inl vals))), (h 6, .inl (E.2.1, n, .inl stp)), (h 7, .inl (E.2.1, n, .inl reg)), (h 8, .inl (E.2.2.2, n, .inl lo)), (h 9, .inr (0, [.ref (h 10), .int cnt, .ref (h 11)])), (h 10, .inl (E.2.1, n, .inl bo)), (h 11, .inl (E.2.1, n, .inl rg)), (h 12, .inr (3, [.int fc, .ref (h 13)])), (h 13, .inl (E.2.2.1, 16, .inr (.inl fs))), (h 14, .inr (4, [.ref (h 15), .int fr, .int en])), (h 15, .inl (E.2.1, n, .inl rw)), (h 16, .inr (2, [.ref (h 17), .ref (h 18), .ref (h 19), .int 0, .ref (h 20)])), (h 17, .inl (E.2.1, 16, .inl so)), (h 18, .inl (E.2.1, 16, .inl sm)), (h 19, .inl (E.2.2.1, 16, .inr (.inl md))), (h 20, .inl (E.2.1, 16, .inl lv))] H := hP
    have hD : va_D AM [(h 0, .inr (1, [.ref (h 1), .ref (h 2), .ref (h 3), .ref (h 4), .ref (h 9), .ref (h 12), .ref (h 14), .ref (h 16), .long x, .int und, .int 0, .int 0, .int 0, .int 0, .int 0])), (h 1, .inl (E.2.1, n, .inl (fun _ => -1))), (h 2, .inl (E.2.1, n, .inl b)), (h 3, .inl (E.2.2.1, n, .inr (.inl oc))), (h 4, .inr (5, [.int (nI n), .ref (h 5), .ref (h 6), .ref (h 7), .ref (h 8)])), (h 5, .inl (E.2.2.1, n, .inr (.inl vals))), (h 6, .inl (E.2.1, n, .inl stp)), (h 7, .inl (E.2.1, n, .inl reg)), (h 8, .inl (E.2.2.2, n, .inl lo)), (h 9, .inr (0, [.ref (h 10), .int cnt, .ref (h 11)])), (h 10, .inl (E.2.1, n, .inl bo)), (h 11, .inl (E.2.1, n, .inl rg)), (h 12, .inr (3, [.int fc, .ref (h 13)])), (h 13, .inl (E.2.2.1, 16, .inr (.inl fs))), (h 14, .inr (4, [.ref (h 15), .int fr, .int en])), (h 15, .inl (E.2.1, n, .inl rw)), (h 16, .inr (2, [.ref (h 17), .ref (h 18), .ref (h 19), .int 0, .ref (h 20)])), (h 17, .inl (E.2.1, 16, .inl so)), (h 18, .inl (E.2.1, 16, .inl sm)), (h 19, .inl (E.2.2.1, 16, .inr (.inl md))), (h 20, .inl (E.2.1, 16, .inl lv))] := hD
    obtain ⟨hP, hD⟩ := cg_i (g := fun _ => -1) hP hD 2 rfl (p2)
    have hP : va_P E.1 classes [(h 0, .inr (1, [.ref (h 1), .ref (h 2), .ref (h 3), .ref (h 4), .ref (h 9), .ref (h 12), .ref (h 14), .ref (h 16), .long x, .int und, .int 0, .int 0, .int 0, .int 0, .int 0])), (h 1, .inl (E.2.1, n, .inl (fun _ => -1))), (h 2, .inl (E.2.1, n, .inl (fun _ => -1))), (h 3, .inl (E.2.2.1, n, .inr (.inl oc))), (h 4, .inr (5, [.int (nI n), .ref (h 5), .ref (h 6), .ref (h 7), .ref (h 8)])), (h 5, .inl (E.2.2.1, n, .inr (.inl vals))), (h 6, .inl (E.2.1, n, .inl stp)), (h 7, .inl (E.2.1, n, .inl reg)), (h 8, .inl (E.2.2.2, n, .inl lo)), (h 9, .inr (0, [.ref (h 10), .int cnt, .ref (h 11)])), (h 10, .inl (E.2.1, n, .inl bo)), (h 11, .inl (E.2.1, n, .inl rg)), (h 12, .inr (3, [.int fc, .ref (h 13)])), (h 13, .inl (E.2.2.1, 16, .inr (.inl fs))), (h 14, .inr (4, [.ref (h 15), .int fr, .int en])), (h 15, .inl (E.2.1, n, .inl rw)), (h 16, .inr (2, [.ref (h 17), .ref (h 18), .ref (h 19), .int 0, .ref (h 20)])), (h 17, .inl (E.2.1, 16, .inl so)), (h 18, .inl (E.2.1, 16, .inl sm)), (h 19, .inl (E.2.2.1, 16, .inr (.inl md))), (h 20, .inl (E.2.1, 16, .inl lv))] H := hP
    have hD : va_D AM [(h 0, .inr (1, [.ref (h 1), .ref (h 2), .ref (h 3), .ref (h 4), .ref (h 9), .ref (h 12), .ref (h 14), .ref (h 16), .long x, .int und, .int 0, .int 0, .int 0, .int 0, .int 0])), (h 1, .inl (E.2.1, n, .inl (fun _ => -1))), (h 2, .inl (E.2.1, n, .inl (fun _ => -1))), (h 3, .inl (E.2.2.1, n, .inr (.inl oc))), (h 4, .inr (5, [.int (nI n), .ref (h 5), .ref (h 6), .ref (h 7), .ref (h 8)])), (h 5, .inl (E.2.2.1, n, .inr (.inl vals))), (h 6, .inl (E.2.1, n, .inl stp)), (h 7, .inl (E.2.1, n, .inl reg)), (h 8, .inl (E.2.2.2, n, .inl lo)), (h 9, .inr (0, [.ref (h 10), .int cnt, .ref (h 11)])), (h 10, .inl (E.2.1, n, .inl bo)), (h 11, .inl (E.2.1, n, .inl rg)), (h 12, .inr (3, [.int fc, .ref (h 13)])), (h 13, .inl (E.2.2.1, 16, .inr (.inl fs))), (h 14, .inr (4, [.ref (h 15), .int fr, .int en])), (h 15, .inl (E.2.1, n, .inl rw)), (h 16, .inr (2, [.ref (h 17), .ref (h 18), .ref (h 19), .int 0, .ref (h 20)])), (h 17, .inl (E.2.1, 16, .inl so)), (h 18, .inl (E.2.1, 16, .inl sm)), (h 19, .inl (E.2.2.1, 16, .inr (.inl md))), (h 20, .inl (E.2.1, 16, .inl lv))] := hD
    exact Rv hx hb hr hlocks hP hD hS () [0, 1, 2, 3, 4, 5, 6, 7, 8, 9, 10, 11, 12, 13, 14, 15, 16, 17, 18, 19, 20] rfl rfl (trivial) (Nat.le_of_ble_eq_true rfl) (Nat.le_of_ble_eq_true rfl) dX1_reset_66
  · have c_43 : i < n := by
      rcases Nat.lt_or_ge i n with q | q
      · exact q
      · exact absurd ((nI_leI (by omega) (by omega)).mpr q) c_43
    refine lv_aload_n hx hb dX1_reset_46 rfl (lv_at hl 1 rfl) ?_
    refine va_get (D := E.1) (ci := 1) (v := .ref (h 1)) (C := RX1) (T := TX1) (N := 15) hx hb hts ux_X1' hown hK.1 hP 0 rfl rfl 0 (by decide) (hts _ (ta_cons _ mw_179)) (fun _ h9 => h9) rfl dX1_reset_47 ?_
    refine lv_iload_n hx hb dX1_reset_50 rfl (lv_at hl 0 rfl) ?_
    refine lv_iconst (v := (-1)) hx hb dX1_reset_51 (by decide) ?_
    refine as_i i hx hb hK hP hD hS 1 rfl (by first | assumption | omega) (by omega) dX1_reset_52 (fun H locs hP hD hS => ?_)
    have hP : va_P E.1 classes [(h 0, .inr (1, [.ref (h 1), .ref (h 2), .ref (h 3), .ref (h 4), .ref (h 9), .ref (h 12), .ref (h 14), .ref (h 16), .long x, .int und, .int 0, .int 0, .int 0, .int 0, .int 0])), (h 1, .inl (E.2.1, n, .inl (upd a i (-1)))), (h 2, .inl (E.2.1, n, .inl b)), (h 3, .inl (E.2.2.1, n, .inr (.inl oc))), (h 4, .inr (5, [.int (nI n), .ref (h 5), .ref (h 6), .ref (h 7), .ref (h 8)])), (h 5, .inl (E.2.2.1, n, .inr (.inl vals))), (h 6, .inl (E.2.1, n, .inl stp)), (h 7, .inl (E.2.1, n, .inl reg)), (h 8, .inl (E.2.2.2, n, .inl lo)), (h 9, .inr (0, [.ref (h 10), .int cnt, .ref (h 11)])), (h 10, .inl (E.2.1, n, .inl bo)), (h 11, .inl (E.2.1, n, .inl rg)), (h 12, .inr (3, [.int fc, .ref (h 13)])), (h 13, .inl (E.2.2.1, 16, .inr (.inl fs))), (h 14, .inr (4, [.ref (h 15), .int fr, .int en])), (h 15, .inl (E.2.1, n, .inl rw)), (h 16, .inr (2, [.ref (h 17), .ref (h 18), .ref (h 19), .int 0, .ref (h 20)])), (h 17, .inl (E.2.1, 16, .inl so)), (h 18, .inl (E.2.1, 16, .inl sm)), (h 19, .inl (E.2.2.1, 16, .inr (.inl md))), (h 20, .inl (E.2.1, 16, .inl lv))] H := hP
    have hD : va_D AM [(h 0, .inr (1, [.ref (h 1), .ref (h 2), .ref (h 3), .ref (h 4), .ref (h 9), .ref (h 12), .ref (h 14), .ref (h 16), .long x, .int und, .int 0, .int 0, .int 0, .int 0, .int 0])), (h 1, .inl (E.2.1, n, .inl (upd a i (-1)))), (h 2, .inl (E.2.1, n, .inl b)), (h 3, .inl (E.2.2.1, n, .inr (.inl oc))), (h 4, .inr (5, [.int (nI n), .ref (h 5), .ref (h 6), .ref (h 7), .ref (h 8)])), (h 5, .inl (E.2.2.1, n, .inr (.inl vals))), (h 6, .inl (E.2.1, n, .inl stp)), (h 7, .inl (E.2.1, n, .inl reg)), (h 8, .inl (E.2.2.2, n, .inl lo)), (h 9, .inr (0, [.ref (h 10), .int cnt, .ref (h 11)])), (h 10, .inl (E.2.1, n, .inl bo)), (h 11, .inl (E.2.1, n, .inl rg)), (h 12, .inr (3, [.int fc, .ref (h 13)])), (h 13, .inl (E.2.2.1, 16, .inr (.inl fs))), (h 14, .inr (4, [.ref (h 15), .int fr, .int en])), (h 15, .inl (E.2.1, n, .inl rw)), (h 16, .inr (2, [.ref (h 17), .ref (h 18), .ref (h 19), .int 0, .ref (h 20)])), (h 17, .inl (E.2.1, 16, .inl so)), (h 18, .inl (E.2.1, 16, .inl sm)), (h 19, .inl (E.2.2.1, 16, .inr (.inl md))), (h 20, .inl (E.2.1, 16, .inl lv))] := hD
    refine lv_aload_n hx hb dX1_reset_53 rfl (lv_at hl 1 rfl) ?_
    refine va_get (D := E.1) (ci := 1) (v := .ref (h 2)) (C := RX1) (T := TX1) (N := 15) hx hb hts ux_X1' hown hK.1 hP 0 rfl rfl 1 (by decide) (hts _ (ta_cons _ mw_181)) (fun _ h9 => h9) rfl dX1_reset_54 ?_
    refine lv_iload_n hx hb dX1_reset_57 rfl (lv_at hl 0 rfl) ?_
    refine lv_iconst (v := (-1)) hx hb dX1_reset_58 (by decide) ?_
    refine as_i i hx hb hK hP hD hS 2 rfl (by first | assumption | omega) (by omega) dX1_reset_59 (fun H locs hP hD hS => ?_)
    have hP : va_P E.1 classes [(h 0, .inr (1, [.ref (h 1), .ref (h 2), .ref (h 3), .ref (h 4), .ref (h 9), .ref (h 12), .ref (h 14), .ref (h 16), .long x, .int und, .int 0, .int 0, .int 0, .int 0, .int 0])), (h 1, .inl (E.2.1, n, .inl (upd a i (-1)))), (h 2, .inl (E.2.1, n, .inl (upd b i (-1)))), (h 3, .inl (E.2.2.1, n, .inr (.inl oc))), (h 4, .inr (5, [.int (nI n), .ref (h 5), .ref (h 6), .ref (h 7), .ref (h 8)])), (h 5, .inl (E.2.2.1, n, .inr (.inl vals))), (h 6, .inl (E.2.1, n, .inl stp)), (h 7, .inl (E.2.1, n, .inl reg)), (h 8, .inl (E.2.2.2, n, .inl lo)), (h 9, .inr (0, [.ref (h 10), .int cnt, .ref (h 11)])), (h 10, .inl (E.2.1, n, .inl bo)), (h 11, .inl (E.2.1, n, .inl rg)), (h 12, .inr (3, [.int fc, .ref (h 13)])), (h 13, .inl (E.2.2.1, 16, .inr (.inl fs))), (h 14, .inr (4, [.ref (h 15), .int fr, .int en])), (h 15, .inl (E.2.1, n, .inl rw)), (h 16, .inr (2, [.ref (h 17), .ref (h 18), .ref (h 19), .int 0, .ref (h 20)])), (h 17, .inl (E.2.1, 16, .inl so)), (h 18, .inl (E.2.1, 16, .inl sm)), (h 19, .inl (E.2.2.1, 16, .inr (.inl md))), (h 20, .inl (E.2.1, 16, .inl lv))] H := hP
    have hD : va_D AM [(h 0, .inr (1, [.ref (h 1), .ref (h 2), .ref (h 3), .ref (h 4), .ref (h 9), .ref (h 12), .ref (h 14), .ref (h 16), .long x, .int und, .int 0, .int 0, .int 0, .int 0, .int 0])), (h 1, .inl (E.2.1, n, .inl (upd a i (-1)))), (h 2, .inl (E.2.1, n, .inl (upd b i (-1)))), (h 3, .inl (E.2.2.1, n, .inr (.inl oc))), (h 4, .inr (5, [.int (nI n), .ref (h 5), .ref (h 6), .ref (h 7), .ref (h 8)])), (h 5, .inl (E.2.2.1, n, .inr (.inl vals))), (h 6, .inl (E.2.1, n, .inl stp)), (h 7, .inl (E.2.1, n, .inl reg)), (h 8, .inl (E.2.2.2, n, .inl lo)), (h 9, .inr (0, [.ref (h 10), .int cnt, .ref (h 11)])), (h 10, .inl (E.2.1, n, .inl bo)), (h 11, .inl (E.2.1, n, .inl rg)), (h 12, .inr (3, [.int fc, .ref (h 13)])), (h 13, .inl (E.2.2.1, 16, .inr (.inl fs))), (h 14, .inr (4, [.ref (h 15), .int fr, .int en])), (h 15, .inl (E.2.1, n, .inl rw)), (h 16, .inr (2, [.ref (h 17), .ref (h 18), .ref (h 19), .int 0, .ref (h 20)])), (h 17, .inl (E.2.1, 16, .inl so)), (h 18, .inl (E.2.1, 16, .inl sm)), (h 19, .inl (E.2.2.1, 16, .inr (.inl md))), (h 20, .inl (E.2.1, 16, .inl lv))] := hD
    refine lv_iinc (v := nI (i + 1)) (lv' := [(1, .int (nI (i + 1))), (0, .ref (h 0))]) hx hb dX1_reset_60 hl (k := 0) rfl (nI_1 i) (by decide) rfl (fun ls hl => ?_)
    refine lv_goto (tgt := 35) hx hb dX1_reset_63 (by decide) ?_
    exact ih35 (i + 1, upd a i (-1), upd b i (-1)) _ _ _ ⟨hP.sub [0, 1, 2, 3, 4, 5, 6, 7, 8, 9, 10, 11, 12, 13, 14, 15, 16, 17, 18, 19, 20] rfl, hD.sub [0, 1, 2, 3, 4, 5, 6, 7, 8, 9, 10, 11, 12, 13, 14, 15, 16, 17, 18, 19, 20] (by decide) rfl, hS, lv_sub hl [0, 1] rfl, by omega, fl_i p1, fl_i p2⟩ (by show n - (i + 1) < n - i; omega)

set_option maxHeartbeats 4000000 in
set_option maxRecDepth 100000 in
theorem c_figure (l : Launch) (E : EE) (h : Nat → Nat) (n : Nat) (bg : Nat → Int32) (dr : Nat → Int32) (oc : Nat → Int64) (x : Int64) (und : Int32) (tk : Int32) (sp : Int32) (fd : Int32) (bd : Int32) (ba : Int32) (bo : Nat → Int32) (rg : Nat → Int32) (cnt : Int32) (fc : Int32) (fs : Nat → Int64) (rw : Nat → Int32) (fr : Int32) (en : Int32) (lc : Int32) (so : Nat → Int32) (sm : Nat → Int32) (lv : Nat → Int32) (md : Nat → Int64) (vals : Nat → Int64) (stp : Nat → Int32) (reg : Nat → Int32) (lo : Nat → Int32) (z : Int32)  : Mi (S := Unit) l E yX1_figure (.code yX1_figure cX1_figure 2 (some .int)) ({ frames := 0, cells := 0, slots := 0, locals := 0 }) [.ref (h 0), .int z] [(h 0, .inr (1, [.ref (h 1), .ref (h 2), .ref (h 3), .ref (h 4), .ref (h 9), .ref (h 12), .ref (h 14), .ref (h 16), .long x, .int und, .int tk, .int sp, .int fd, .int bd, .int ba])), (h 1, .inl (E.2.1, n, .inl bg)), (h 2, .inl (E.2.1, n, .inl dr)), (h 3, .inl (E.2.2.1, n, .inr (.inl oc))), (h 4, .inr (5, [.int (nI n), .ref (h 5), .ref (h 6), .ref (h 7), .ref (h 8)])), (h 5, .inl (E.2.2.1, n, .inr (.inl vals))), (h 6, .inl (E.2.1, n, .inl stp)), (h 7, .inl (E.2.1, n, .inl reg)), (h 8, .inl (E.2.2.2, n, .inl lo)), (h 9, .inr (0, [.ref (h 10), .int cnt, .ref (h 11)])), (h 10, .inl (E.2.1, n, .inl bo)), (h 11, .inl (E.2.1, n, .inl rg)), (h 12, .inr (3, [.int fc, .ref (h 13)])), (h 13, .inl (E.2.2.1, 16, .inr (.inl fs))), (h 14, .inr (4, [.ref (h 15), .int fr, .int en])), (h 15, .inl (E.2.1, n, .inl rw)), (h 16, .inr (2, [.ref (h 17), .ref (h 18), .ref (h 19), .int lc, .ref (h 20)])), (h 17, .inl (E.2.1, 16, .inl so)), (h 18, .inl (E.2.1, 16, .inl sm)), (h 19, .inl (E.2.2.1, 16, .inr (.inl md))), (h 20, .inl (E.2.1, 16, .inl lv))] (fun (ans : Int32) (_ : Unit) => ans = figS z tk sp fd lc bd ba) (fun u : Unit => [(h 0, .inr (1, [.ref (h 1), .ref (h 2), .ref (h 3), .ref (h 4), .ref (h 9), .ref (h 12), .ref (h 14), .ref (h 16), .long x, .int und, .int tk, .int sp, .int fd, .int bd, .int ba])), (h 1, .inl (E.2.1, n, .inl bg)), (h 2, .inl (E.2.1, n, .inl dr)), (h 3, .inl (E.2.2.1, n, .inr (.inl oc))), (h 4, .inr (5, [.int (nI n), .ref (h 5), .ref (h 6), .ref (h 7), .ref (h 8)])), (h 5, .inl (E.2.2.1, n, .inr (.inl vals))), (h 6, .inl (E.2.1, n, .inl stp)), (h 7, .inl (E.2.1, n, .inl reg)), (h 8, .inl (E.2.2.2, n, .inl lo)), (h 9, .inr (0, [.ref (h 10), .int cnt, .ref (h 11)])), (h 10, .inl (E.2.1, n, .inl bo)), (h 11, .inl (E.2.1, n, .inl rg)), (h 12, .inr (3, [.int fc, .ref (h 13)])), (h 13, .inl (E.2.2.1, 16, .inr (.inl fs))), (h 14, .inr (4, [.ref (h 15), .int fr, .int en])), (h 15, .inl (E.2.1, n, .inl rw)), (h 16, .inr (2, [.ref (h 17), .ref (h 18), .ref (h 19), .int lc, .ref (h 20)])), (h 17, .inl (E.2.1, 16, .inl so)), (h 18, .inl (E.2.1, 16, .inl sm)), (h 19, .inl (E.2.2.1, 16, .inr (.inl md))), (h 20, .inl (E.2.1, 16, .inl lv))]) := by
  refine Mi.ofW (by decide) (Nat.le_of_ble_eq_true rfl) ?_
  intro pM eM sM mM bM meM cM AM ls hB hA hP hD hS hl
  obtain ⟨hx, hb, hr, hml, hown, hlocks, hnm, hts, hK⟩ := hB
  have hl : lv_has ls 2 [(0, .ref (h 0)), (1, .int z)] := hl
  refine lv_iload_n hx hb dX1_figure_0 rfl (lv_at hl 1 rfl) ?_
  by_cases t0 : z = 0
  · subst t0
    refine lv_tableIn (tgt := 40) hx hb dX1_figure_1 (by decide) (by decide) (off := 39) rfl (by decide) ?_
    refine lv_aload_n hx hb dX1_figure_40 rfl (lv_at hl 0 rfl) ?_
    refine va_get (D := E.1) (ci := 1) (v := .int tk) (C := RX1) (T := TX1) (N := 15) hx hb hts ux_X1' hown hK.1 hP 0 rfl rfl 10 (by decide) (hts _ (ta_cons _ mw_192)) (fun _ h9 => h9) rfl dX1_figure_41 ?_
    exact Ri hx hb hr hlocks hP hD hS () [0, 1, 2, 3, 4, 5, 6, 7, 8, 9, 10, 11, 12, 13, 14, 15, 16, 17, 18, 19, 20] rfl rfl (rfl) (Nat.le_of_ble_eq_true rfl) (Nat.le_of_ble_eq_true rfl) dX1_figure_44
  · by_cases t1 : z = 1
    · subst t1
      refine lv_tableIn (tgt := 45) hx hb dX1_figure_1 (by decide) (by decide) (off := 44) rfl (by decide) ?_
      refine lv_aload_n hx hb dX1_figure_45 rfl (lv_at hl 0 rfl) ?_
      refine va_get (D := E.1) (ci := 1) (v := .int sp) (C := RX1) (T := TX1) (N := 15) hx hb hts ux_X1' hown hK.1 hP 0 rfl rfl 11 (by decide) (hts _ (ta_cons _ mw_193)) (fun _ h9 => h9) rfl dX1_figure_46 ?_
      exact Ri hx hb hr hlocks hP hD hS () [0, 1, 2, 3, 4, 5, 6, 7, 8, 9, 10, 11, 12, 13, 14, 15, 16, 17, 18, 19, 20] rfl rfl (rfl) (Nat.le_of_ble_eq_true rfl) (Nat.le_of_ble_eq_true rfl) dX1_figure_49
    · by_cases t2 : z = 2
      · subst t2
        refine lv_tableIn (tgt := 50) hx hb dX1_figure_1 (by decide) (by decide) (off := 49) rfl (by decide) ?_
        refine lv_aload_n hx hb dX1_figure_50 rfl (lv_at hl 0 rfl) ?_
        refine va_get (D := E.1) (ci := 1) (v := .int fd) (C := RX1) (T := TX1) (N := 15) hx hb hts ux_X1' hown hK.1 hP 0 rfl rfl 12 (by decide) (hts _ (ta_cons _ mw_194)) (fun _ h9 => h9) rfl dX1_figure_51 ?_
        exact Ri hx hb hr hlocks hP hD hS () [0, 1, 2, 3, 4, 5, 6, 7, 8, 9, 10, 11, 12, 13, 14, 15, 16, 17, 18, 19, 20] rfl rfl (rfl) (Nat.le_of_ble_eq_true rfl) (Nat.le_of_ble_eq_true rfl) dX1_figure_54
      · by_cases t3 : z = 3
        · subst t3
          refine lv_tableIn (tgt := 55) hx hb dX1_figure_1 (by decide) (by decide) (off := 54) rfl (by decide) ?_
          refine lv_aload_n hx hb dX1_figure_55 rfl (lv_at hl 0 rfl) ?_
          refine va_get (D := E.1) (ci := 1) (v := .ref (h 16)) (C := RX1) (T := TX1) (N := 15) hx hb hts ux_X1' hown hK.1 hP 0 rfl rfl 7 (by decide) (hts _ (ta_cons _ mw_189)) (fun _ h9 => h9) rfl dX1_figure_56 ?_
          refine va_get (D := E.1) (ci := 2) (v := .int lc) (C := RX2) (T := TX2) (N := 5) hx hb hts ux_X2' hown hK.1 hP 16 rfl rfl 3 (by decide) (hts _ (ta_cons _ mw_158)) (fun _ h9 => h9) rfl dX1_figure_59 ?_
          exact Ri hx hb hr hlocks hP hD hS () [0, 1, 2, 3, 4, 5, 6, 7, 8, 9, 10, 11, 12, 13, 14, 15, 16, 17, 18, 19, 20] rfl rfl (rfl) (Nat.le_of_ble_eq_true rfl) (Nat.le_of_ble_eq_true rfl) dX1_figure_62
        · by_cases t4 : z = 4
          · subst t4
            refine lv_tableIn (tgt := 63) hx hb dX1_figure_1 (by decide) (by decide) (off := 62) rfl (by decide) ?_
            refine lv_aload_n hx hb dX1_figure_63 rfl (lv_at hl 0 rfl) ?_
            refine va_get (D := E.1) (ci := 1) (v := .int bd) (C := RX1) (T := TX1) (N := 15) hx hb hts ux_X1' hown hK.1 hP 0 rfl rfl 13 (by decide) (hts _ (ta_cons _ mw_195)) (fun _ h9 => h9) rfl dX1_figure_64 ?_
            exact Ri hx hb hr hlocks hP hD hS () [0, 1, 2, 3, 4, 5, 6, 7, 8, 9, 10, 11, 12, 13, 14, 15, 16, 17, 18, 19, 20] rfl rfl (rfl) (Nat.le_of_ble_eq_true rfl) (Nat.le_of_ble_eq_true rfl) dX1_figure_67
          · by_cases t5 : z = 5
            · subst t5
              refine lv_tableIn (tgt := 68) hx hb dX1_figure_1 (by decide) (by decide) (off := 67) rfl (by decide) ?_
              refine lv_aload_n hx hb dX1_figure_68 rfl (lv_at hl 0 rfl) ?_
              refine va_get (D := E.1) (ci := 1) (v := .int ba) (C := RX1) (T := TX1) (N := 15) hx hb hts ux_X1' hown hK.1 hP 0 rfl rfl 14 (by decide) (hts _ (ta_cons _ mw_196)) (fun _ h9 => h9) rfl dX1_figure_69 ?_
              exact Ri hx hb hr hlocks hP hD hS () [0, 1, 2, 3, 4, 5, 6, 7, 8, 9, 10, 11, 12, 13, 14, 15, 16, 17, 18, 19, 20] rfl rfl (rfl) (Nat.le_of_ble_eq_true rfl) (Nat.le_of_ble_eq_true rfl) dX1_figure_72
            · refine lv_tableOut (tgt := 73) hx hb dX1_figure_1 (fig_out t0 t1 t2 t3 t4 t5) (by decide) ?_
              refine lv_bipush (v := (-3)) hx hb dX1_figure_73 (by decide) ?_
              exact Ri hx hb hr hlocks hP hD hS () [0, 1, 2, 3, 4, 5, 6, 7, 8, 9, 10, 11, 12, 13, 14, 15, 16, 17, 18, 19, 20] rfl rfl ((by unfold figS; rw [if_neg t0, if_neg t1, if_neg t2, if_neg t3, if_neg t4, if_neg t5])) (Nat.le_of_ble_eq_true rfl) (Nat.le_of_ble_eq_true rfl) dX1_figure_75

set_option maxHeartbeats 4000000 in
set_option maxRecDepth 100000 in
theorem c_choose (l : Launch) (E : EE) (h : Nat → Nat) (n : Nat) (bg : Nat → Int32) (dr : Nat → Int32) (oc : Nat → Int64) (x : Int64) (und : Int32) (tk : Int32) (sp : Int32) (fd : Int32) (bd : Int32) (ba : Int32) (bo : Nat → Int32) (rg : Nat → Int32) (cnt : Int32) (fc : Int32) (fs : Nat → Int64) (rw : Nat → Int32) (fr : Int32) (en : Int32) (lc : Int32) (so : Nat → Int32) (sm : Nat → Int32) (lv : Nat → Int32) (md : Nat → Int64) (vals : Nat → Int64) (stp : Nat → Int32) (reg : Nat → Int32) (lo : Nat → Int32) (c : Nat) (h0 : 0 < c) (hc : c < 2 ^ 31) : Mi (S := Unit) l E yX1_choosePlace (.code yX1_choosePlace cX1_choosePlace 2 (some .int)) ({ frames := 0, cells := 0, slots := 0, locals := 0 }) [.ref (h 0), .int (nI c)] [(h 0, .inr (1, [.ref (h 1), .ref (h 2), .ref (h 3), .ref (h 4), .ref (h 9), .ref (h 12), .ref (h 14), .ref (h 16), .long x, .int und, .int tk, .int sp, .int fd, .int bd, .int ba])), (h 1, .inl (E.2.1, n, .inl bg)), (h 2, .inl (E.2.1, n, .inl dr)), (h 3, .inl (E.2.2.1, n, .inr (.inl oc))), (h 4, .inr (5, [.int (nI n), .ref (h 5), .ref (h 6), .ref (h 7), .ref (h 8)])), (h 5, .inl (E.2.2.1, n, .inr (.inl vals))), (h 6, .inl (E.2.1, n, .inl stp)), (h 7, .inl (E.2.1, n, .inl reg)), (h 8, .inl (E.2.2.2, n, .inl lo)), (h 9, .inr (0, [.ref (h 10), .int cnt, .ref (h 11)])), (h 10, .inl (E.2.1, n, .inl bo)), (h 11, .inl (E.2.1, n, .inl rg)), (h 12, .inr (3, [.int fc, .ref (h 13)])), (h 13, .inl (E.2.2.1, 16, .inr (.inl fs))), (h 14, .inr (4, [.ref (h 15), .int fr, .int en])), (h 15, .inl (E.2.1, n, .inl rw)), (h 16, .inr (2, [.ref (h 17), .ref (h 18), .ref (h 19), .int lc, .ref (h 20)])), (h 17, .inl (E.2.1, 16, .inl so)), (h 18, .inl (E.2.1, 16, .inl sm)), (h 19, .inl (E.2.2.1, 16, .inr (.inl md))), (h 20, .inl (E.2.1, 16, .inl lv))] (fun (ans : Int32) (_ : Unit) => ans = nI (pickN (nxtX x) c)) (fun u : Unit => [(h 0, .inr (1, [.ref (h 1), .ref (h 2), .ref (h 3), .ref (h 4), .ref (h 9), .ref (h 12), .ref (h 14), .ref (h 16), .long (nxtX x), .int und, .int tk, .int sp, .int fd, .int bd, .int ba])), (h 1, .inl (E.2.1, n, .inl bg)), (h 2, .inl (E.2.1, n, .inl dr)), (h 3, .inl (E.2.2.1, n, .inr (.inl oc))), (h 4, .inr (5, [.int (nI n), .ref (h 5), .ref (h 6), .ref (h 7), .ref (h 8)])), (h 5, .inl (E.2.2.1, n, .inr (.inl vals))), (h 6, .inl (E.2.1, n, .inl stp)), (h 7, .inl (E.2.1, n, .inl reg)), (h 8, .inl (E.2.2.2, n, .inl lo)), (h 9, .inr (0, [.ref (h 10), .int cnt, .ref (h 11)])), (h 10, .inl (E.2.1, n, .inl bo)), (h 11, .inl (E.2.1, n, .inl rg)), (h 12, .inr (3, [.int fc, .ref (h 13)])), (h 13, .inl (E.2.2.1, 16, .inr (.inl fs))), (h 14, .inr (4, [.ref (h 15), .int fr, .int en])), (h 15, .inl (E.2.1, n, .inl rw)), (h 16, .inr (2, [.ref (h 17), .ref (h 18), .ref (h 19), .int lc, .ref (h 20)])), (h 17, .inl (E.2.1, 16, .inl so)), (h 18, .inl (E.2.1, 16, .inl sm)), (h 19, .inl (E.2.2.1, 16, .inr (.inl md))), (h 20, .inl (E.2.1, 16, .inl lv))]) := by
  refine Mi.ofW (by decide) (Nat.le_of_ble_eq_true rfl) ?_
  intro pM eM sM mM bM meM cM AM ls hB hA hP hD hS hl
  obtain ⟨hx, hb, hr, hml, hown, hlocks, hnm, hts, hK⟩ := hB
  have hl : lv_has ls 2 [(0, .ref (h 0)), (1, .int (nI c))] := hl
  refine lv_aload_n hx hb dX1_choosePlace_0 rfl (lv_at hl 0 rfl) ?_
  refine lv_aload_n hx hb dX1_choosePlace_1 rfl (lv_at hl 0 rfl) ?_
  refine va_get (D := E.1) (ci := 1) (v := .long x) (C := RX1) (T := TX1) (N := 15) hx hb hts ux_X1' hown hK.1 hP 0 rfl rfl 8 (by decide) (hts _ (ta_cons _ mw_190)) (fun _ h9 => h9) rfl dX1_choosePlace_2 ?_
  refine lv_ldc2 (own := RX1) (v := 6364136223846793005) hx hb hown (hts _ (ta_cons _ mw_317)) dX1_choosePlace_5 ?_
  refine lv_lmul hx hb dX1_choosePlace_8 ?_
  refine lv_ldc2 (own := RX1) (v := 1442695040888963407) hx hb hown (hts _ (ta_cons _ mw_318)) dX1_choosePlace_9 ?_
  refine lv_ladd hx hb dX1_choosePlace_12 ?_
  refine tp_l (y := nxtX x) (rfl) ?_
  refine va_put (D := E.1) (ci := 1) (v := .long (nxtX x)) (ty := .long) (C := RX1) (T := TX1) (N := 15) hx hb hts ux_X1' tyX1 tyX1_ok nmX1 hown hK.1 hP hD hS 0 rfl rfl 8 (by decide) (hts _ (ta_cons _ mw_190)) (fun _ h9 => h9) rfl (by decide +kernel) rfl rfl (Nat.le_of_ble_eq_true rfl) dX1_choosePlace_13 (fun H locs hP hD hS => ?_)
  have hP : va_P E.1 classes [(h 0, .inr (1, [.ref (h 1), .ref (h 2), .ref (h 3), .ref (h 4), .ref (h 9), .ref (h 12), .ref (h 14), .ref (h 16), .long (nxtX x), .int und, .int tk, .int sp, .int fd, .int bd, .int ba])), (h 1, .inl (E.2.1, n, .inl bg)), (h 2, .inl (E.2.1, n, .inl dr)), (h 3, .inl (E.2.2.1, n, .inr (.inl oc))), (h 4, .inr (5, [.int (nI n), .ref (h 5), .ref (h 6), .ref (h 7), .ref (h 8)])), (h 5, .inl (E.2.2.1, n, .inr (.inl vals))), (h 6, .inl (E.2.1, n, .inl stp)), (h 7, .inl (E.2.1, n, .inl reg)), (h 8, .inl (E.2.2.2, n, .inl lo)), (h 9, .inr (0, [.ref (h 10), .int cnt, .ref (h 11)])), (h 10, .inl (E.2.1, n, .inl bo)), (h 11, .inl (E.2.1, n, .inl rg)), (h 12, .inr (3, [.int fc, .ref (h 13)])), (h 13, .inl (E.2.2.1, 16, .inr (.inl fs))), (h 14, .inr (4, [.ref (h 15), .int fr, .int en])), (h 15, .inl (E.2.1, n, .inl rw)), (h 16, .inr (2, [.ref (h 17), .ref (h 18), .ref (h 19), .int lc, .ref (h 20)])), (h 17, .inl (E.2.1, 16, .inl so)), (h 18, .inl (E.2.1, 16, .inl sm)), (h 19, .inl (E.2.2.1, 16, .inr (.inl md))), (h 20, .inl (E.2.1, 16, .inl lv))] H := hP
  have hD : va_D AM [(h 0, .inr (1, [.ref (h 1), .ref (h 2), .ref (h 3), .ref (h 4), .ref (h 9), .ref (h 12), .ref (h 14), .ref (h 16), .long (nxtX x), .int und, .int tk, .int sp, .int fd, .int bd, .int ba])), (h 1, .inl (E.2.1, n, .inl bg)), (h 2, .inl (E.2.1, n, .inl dr)), (h 3, .inl (E.2.2.1, n, .inr (.inl oc))), (h 4, .inr (5, [.int (nI n), .ref (h 5), .ref (h 6), .ref (h 7), .ref (h 8)])), (h 5, .inl (E.2.2.1, n, .inr (.inl vals))), (h 6, .inl (E.2.1, n, .inl stp)), (h 7, .inl (E.2.1, n, .inl reg)), (h 8, .inl (E.2.2.2, n, .inl lo)), (h 9, .inr (0, [.ref (h 10), .int cnt, .ref (h 11)])), (h 10, .inl (E.2.1, n, .inl bo)), (h 11, .inl (E.2.1, n, .inl rg)), (h 12, .inr (3, [.int fc, .ref (h 13)])), (h 13, .inl (E.2.2.1, 16, .inr (.inl fs))), (h 14, .inr (4, [.ref (h 15), .int fr, .int en])), (h 15, .inl (E.2.1, n, .inl rw)), (h 16, .inr (2, [.ref (h 17), .ref (h 18), .ref (h 19), .int lc, .ref (h 20)])), (h 17, .inl (E.2.1, 16, .inl so)), (h 18, .inl (E.2.1, 16, .inl sm)), (h 19, .inl (E.2.2.1, 16, .inr (.inl md))), (h 20, .inl (E.2.1, 16, .inl lv))] := hD
  refine lv_aload_n hx hb dX1_choosePlace_16 rfl (lv_at hl 0 rfl) ?_
  refine va_get (D := E.1) (ci := 1) (v := .long (nxtX x)) (C := RX1) (T := TX1) (N := 15) hx hb hts ux_X1' hown hK.1 hP 0 rfl rfl 8 (by decide) (hts _ (ta_cons _ mw_190)) (fun _ h9 => h9) rfl dX1_choosePlace_17 ?_
  refine lv_bipush (v := 33) hx hb dX1_choosePlace_20 (by decide) ?_
  refine lv_lushr hx hb dX1_choosePlace_22 rfl ?_
  refine lv_iload_n hx hb dX1_choosePlace_23 rfl (lv_at hl 1 rfl) ?_
  refine lv_i2l hx hb dX1_choosePlace_24 rfl ?_
  refine lv_lrem hx hb dX1_choosePlace_25 (nIl_ne h0 hc) ?_
  refine tp_l (y := lN (pickN (nxtX x) c)) (pick_l _ h0 hc) ?_
  refine lv_l2i hx hb dX1_choosePlace_26 rfl ?_
  exact Ri hx hb hr hlocks hP hD hS () [0, 1, 2, 3, 4, 5, 6, 7, 8, 9, 10, 11, 12, 13, 14, 15, 16, 17, 18, 19, 20] rfl rfl (lN_i _) (Nat.le_of_ble_eq_true rfl) (Nat.le_of_ble_eq_true rfl) dX1_choosePlace_27

set_option maxHeartbeats 4000000 in
set_option maxRecDepth 100000 in
theorem c_begin0 (l : Launch) (E : EE) (h : Nat → Nat) (n : Nat) (bg : Nat → Int32) (dr : Nat → Int32) (oc : Nat → Int64) (x : Int64) (und : Int32) (tk : Int32) (sp : Int32) (fd : Int32) (bd : Int32) (ba : Int32) (bo : Nat → Int32) (rg : Nat → Int32) (cnt : Int32) (fc : Int32) (fs : Nat → Int64) (rw : Nat → Int32) (lc : Int32) (so : Nat → Int32) (sm : Nat → Int32) (lv : Nat → Int32) (md : Nat → Int64) (vals : Nat → Int64) (stp : Nat → Int32) (reg : Nat → Int32) (lo : Nat → Int32) (w : Nat) (f : Nat) (g : Nat) (hf : f < 2 ^ 31) (hg : g ≤ f) : Mv (S := Unit) l E yX1_begin (.code yX1_begin cX1_begin 3 none) ({ frames := 1, cells := 0, slots := 0, locals := 24 }) [.ref (h 0), .int (nI w)] [(h 0, .inr (1, [.ref (h 1), .ref (h 2), .ref (h 3), .ref (h 4), .ref (h 9), .ref (h 12), .ref (h 14), .ref (h 16), .long x, .int und, .int tk, .int sp, .int fd, .int bd, .int ba])), (h 1, .inl (E.2.1, n, .inl bg)), (h 2, .inl (E.2.1, n, .inl dr)), (h 3, .inl (E.2.2.1, n, .inr (.inl oc))), (h 4, .inr (5, [.int (nI n), .ref (h 5), .ref (h 6), .ref (h 7), .ref (h 8)])), (h 5, .inl (E.2.2.1, n, .inr (.inl vals))), (h 6, .inl (E.2.1, n, .inl stp)), (h 7, .inl (E.2.1, n, .inl reg)), (h 8, .inl (E.2.2.2, n, .inl lo)), (h 9, .inr (0, [.ref (h 10), .int cnt, .ref (h 11)])), (h 10, .inl (E.2.1, n, .inl bo)), (h 11, .inl (E.2.1, n, .inl rg)), (h 12, .inr (3, [.int fc, .ref (h 13)])), (h 13, .inl (E.2.2.1, 16, .inr (.inl fs))), (h 14, .inr (4, [.ref (h 15), .int (nI f), .int (nI g)])), (h 15, .inl (E.2.1, n, .inl rw)), (h 16, .inr (2, [.ref (h 17), .ref (h 18), .ref (h 19), .int lc, .ref (h 20)])), (h 17, .inl (E.2.1, 16, .inl so)), (h 18, .inl (E.2.1, 16, .inl sm)), (h 19, .inl (E.2.2.1, 16, .inr (.inl md))), (h 20, .inl (E.2.1, 16, .inl lv))] (fun _ : Unit => True) (fun u : Unit => [(h 0, .inr (1, [.ref (h 1), .ref (h 2), .ref (h 3), .ref (h 4), .ref (h 9), .ref (h 12), .ref (h 14), .ref (h 16), .long x, .int und, .int tk, .int sp, .int fd, .int bd, .int ba])), (h 1, .inl (E.2.1, n, .inl bg)), (h 2, .inl (E.2.1, n, .inl dr)), (h 3, .inl (E.2.2.1, n, .inr (.inl oc))), (h 4, .inr (5, [.int (nI n), .ref (h 5), .ref (h 6), .ref (h 7), .ref (h 8)])), (h 5, .inl (E.2.2.1, n, .inr (.inl vals))), (h 6, .inl (E.2.1, n, .inl stp)), (h 7, .inl (E.2.1, n, .inl reg)), (h 8, .inl (E.2.2.2, n, .inl lo)), (h 9, .inr (0, [.ref (h 10), .int cnt, .ref (h 11)])), (h 10, .inl (E.2.1, n, .inl bo)), (h 11, .inl (E.2.1, n, .inl rg)), (h 12, .inr (3, [.int fc, .ref (h 13)])), (h 13, .inl (E.2.2.1, 16, .inr (.inl fs))), (h 14, .inr (4, [.ref (h 15), .int (nI f), .int (nI g)])), (h 15, .inl (E.2.1, n, .inl rw)), (h 16, .inr (2, [.ref (h 17), .ref (h 18), .ref (h 19), .int lc, .ref (h 20)])), (h 17, .inl (E.2.1, 16, .inl so)), (h 18, .inl (E.2.1, 16, .inl sm)), (h 19, .inl (E.2.2.1, 16, .inr (.inl md))), (h 20, .inl (E.2.1, 16, .inl lv))]) := by
  refine Mv.ofW (by decide) (Nat.le_of_ble_eq_true rfl) ?_
  intro pM eM sM mM bM meM cM AM ls hB hA hP hD hS hl
  obtain ⟨hx, hb, hr, hml, hown, hlocks, hnm, hts, hK⟩ := hB
  have hl : lv_has ls 3 [(0, .ref (h 0)), (1, .int (nI w))] := hl
  refine lv_aload_n hx hb dX1_begin_0 rfl (lv_at hl 0 rfl) ?_
  refine va_get (D := E.1) (ci := 1) (v := .ref (h 14)) (C := RX1) (T := TX1) (N := 15) hx hb hts ux_X1' hown hK.1 hP 0 rfl rfl 6 (by decide) (hts _ (ta_cons _ mw_188)) (fun _ h9 => h9) rfl dX1_begin_1 ?_
  refine af_i (wc := [(h 14, .inr (4, [.ref (h 15), .int (nI f), .int (nI g)])), (h 15, .inl (E.2.1, n, .inl rw))]) (wr := [(h 0, .inr (1, [.ref (h 1), .ref (h 2), .ref (h 3), .ref (h 4), .ref (h 9), .ref (h 12), .ref (h 14), .ref (h 16), .long x, .int und, .int tk, .int sp, .int fd, .int bd, .int ba])), (h 1, .inl (E.2.1, n, .inl bg)), (h 2, .inl (E.2.1, n, .inl dr)), (h 3, .inl (E.2.2.1, n, .inr (.inl oc))), (h 4, .inr (5, [.int (nI n), .ref (h 5), .ref (h 6), .ref (h 7), .ref (h 8)])), (h 5, .inl (E.2.2.1, n, .inr (.inl vals))), (h 6, .inl (E.2.1, n, .inl stp)), (h 7, .inl (E.2.1, n, .inl reg)), (h 8, .inl (E.2.2.2, n, .inl lo)), (h 9, .inr (0, [.ref (h 10), .int cnt, .ref (h 11)])), (h 10, .inl (E.2.1, n, .inl bo)), (h 11, .inl (E.2.1, n, .inl rg)), (h 12, .inr (3, [.int fc, .ref (h 13)])), (h 13, .inl (E.2.2.1, 16, .inr (.inl fs))), (h 16, .inr (2, [.ref (h 17), .ref (h 18), .ref (h 19), .int lc, .ref (h 20)])), (h 17, .inl (E.2.1, 16, .inl so)), (h 18, .inl (E.2.1, 16, .inl sm)), (h 19, .inl (E.2.2.1, 16, .inr (.inl md))), (h 20, .inl (E.2.1, 16, .inl lv))]) (rn_V (b := h 14) (ci := 4) (As := []) (rest := []) (n := 0) ⟨hx, hb, hml, hown, hts⟩ ta_cons wq_X1_152 (by decide +kernel) hK (c_take0 l E n (h 14) (h 15) f g rw (hf) (hg) _) ⟨Nat.le_of_ble_eq_true rfl, Nat.le_of_ble_eq_true rfl⟩ hP hD [14, 15] rfl rfl rfl rfl rfl hl.1 rfl (Nat.le_of_ble_eq_true rfl) dX1_begin_4 ⟨Nat.le_of_ble_eq_true rfl, Nat.le_of_ble_eq_true rfl⟩) hP hD hS hA [14, 15] [0, 1, 2, 3, 4, 5, 6, 7, 8, 9, 10, 11, 12, 13, 16, 17, 18, 19, 20] rfl rfl rfl (by decide) (fun r_4 u_4 H locs hwC hP hD hS => ?_)
  subst hwC
  have hP : va_P E.1 classes [(h 0, .inr (1, [.ref (h 1), .ref (h 2), .ref (h 3), .ref (h 4), .ref (h 9), .ref (h 12), .ref (h 14), .ref (h 16), .long x, .int und, .int tk, .int sp, .int fd, .int bd, .int ba])), (h 1, .inl (E.2.1, n, .inl bg)), (h 2, .inl (E.2.1, n, .inl dr)), (h 3, .inl (E.2.2.1, n, .inr (.inl oc))), (h 4, .inr (5, [.int (nI n), .ref (h 5), .ref (h 6), .ref (h 7), .ref (h 8)])), (h 5, .inl (E.2.2.1, n, .inr (.inl vals))), (h 6, .inl (E.2.1, n, .inl stp)), (h 7, .inl (E.2.1, n, .inl reg)), (h 8, .inl (E.2.2.2, n, .inl lo)), (h 9, .inr (0, [.ref (h 10), .int cnt, .ref (h 11)])), (h 10, .inl (E.2.1, n, .inl bo)), (h 11, .inl (E.2.1, n, .inl rg)), (h 12, .inr (3, [.int fc, .ref (h 13)])), (h 13, .inl (E.2.2.1, 16, .inr (.inl fs))), (h 16, .inr (2, [.ref (h 17), .ref (h 18), .ref (h 19), .int lc, .ref (h 20)])), (h 17, .inl (E.2.1, 16, .inl so)), (h 18, .inl (E.2.1, 16, .inl sm)), (h 19, .inl (E.2.2.1, 16, .inr (.inl md))), (h 20, .inl (E.2.1, 16, .inl lv)), (h 14, .inr (4, [.ref (h 15), .int (nI f), .int (nI g)])), (h 15, .inl (E.2.1, n, .inl rw))] H := hP
  have hD : va_D AM [(h 0, .inr (1, [.ref (h 1), .ref (h 2), .ref (h 3), .ref (h 4), .ref (h 9), .ref (h 12), .ref (h 14), .ref (h 16), .long x, .int und, .int tk, .int sp, .int fd, .int bd, .int ba])), (h 1, .inl (E.2.1, n, .inl bg)), (h 2, .inl (E.2.1, n, .inl dr)), (h 3, .inl (E.2.2.1, n, .inr (.inl oc))), (h 4, .inr (5, [.int (nI n), .ref (h 5), .ref (h 6), .ref (h 7), .ref (h 8)])), (h 5, .inl (E.2.2.1, n, .inr (.inl vals))), (h 6, .inl (E.2.1, n, .inl stp)), (h 7, .inl (E.2.1, n, .inl reg)), (h 8, .inl (E.2.2.2, n, .inl lo)), (h 9, .inr (0, [.ref (h 10), .int cnt, .ref (h 11)])), (h 10, .inl (E.2.1, n, .inl bo)), (h 11, .inl (E.2.1, n, .inl rg)), (h 12, .inr (3, [.int fc, .ref (h 13)])), (h 13, .inl (E.2.2.1, 16, .inr (.inl fs))), (h 16, .inr (2, [.ref (h 17), .ref (h 18), .ref (h 19), .int lc, .ref (h 20)])), (h 17, .inl (E.2.1, 16, .inl so)), (h 18, .inl (E.2.1, 16, .inl sm)), (h 19, .inl (E.2.2.1, 16, .inr (.inl md))), (h 20, .inl (E.2.1, 16, .inl lv)), (h 14, .inr (4, [.ref (h 15), .int (nI f), .int (nI g)])), (h 15, .inl (E.2.1, n, .inl rw))] := hD
  refine lv_istore_n (lv' := [(2, .int (-1)), (0, .ref (h 0)), (1, .int (nI w))]) hx hb dX1_begin_7 rfl hl (by decide) rfl (fun ls hl => ?_)
  refine lv_iload_n hx hb dX1_begin_8 rfl (lv_at hl 0 rfl) ?_
  refine lv_iconst (v := (-1)) hx hb dX1_begin_9 (by decide) ?_
  refine lv_icmp_ne (tgt := 14) hx hb dX1_begin_10 (by decide) (fun c_10 => ?_) (fun c_10 => ?_)
  · exact absurd rfl c_10
  · exact Rv hx hb hr hlocks hP hD hS () [0, 1, 2, 3, 4, 5, 6, 7, 8, 9, 10, 11, 12, 13, 19, 20, 14, 15, 16, 17, 18] rfl rfl (trivial) (Nat.le_of_ble_eq_true rfl) (Nat.le_of_ble_eq_true rfl) dX1_begin_13

set_option maxHeartbeats 4000000 in
set_option maxRecDepth 100000 in
theorem c_begin1 (l : Launch) (E : EE) (h : Nat → Nat) (n : Nat) (bg : Nat → Int32) (dr : Nat → Int32) (oc : Nat → Int64) (x : Int64) (und : Int32) (tk : Int32) (sp : Int32) (fd : Int32) (bd : Int32) (ba : Int32) (bo : Nat → Int32) (rg : Nat → Int32) (cnt : Int32) (fc : Int32) (fs : Nat → Int64) (rw : Nat → Int32) (lc : Int32) (so : Nat → Int32) (sm : Nat → Int32) (lv : Nat → Int32) (md : Nat → Int64) (vals : Nat → Int64) (stp : Nat → Int32) (reg : Nat → Int32) (lo : Nat → Int32) (w : Nat) (f : Nat) (g : Nat) (s : Nat) (hn : n < 2 ^ 31) (hw16 : w < 16) (hf : f < g) (hg : g ≤ n) (hs : rw f = nI s) (hsn : s < n) : Mv (S := Unit) l E yX1_begin (.code yX1_begin cX1_begin 3 none) ({ frames := 1, cells := 0, slots := 0, locals := 24 }) [.ref (h 0), .int (nI w)] [(h 0, .inr (1, [.ref (h 1), .ref (h 2), .ref (h 3), .ref (h 4), .ref (h 9), .ref (h 12), .ref (h 14), .ref (h 16), .long x, .int und, .int tk, .int sp, .int fd, .int bd, .int ba])), (h 1, .inl (E.2.1, n, .inl bg)), (h 2, .inl (E.2.1, n, .inl dr)), (h 3, .inl (E.2.2.1, n, .inr (.inl oc))), (h 4, .inr (5, [.int (nI n), .ref (h 5), .ref (h 6), .ref (h 7), .ref (h 8)])), (h 5, .inl (E.2.2.1, n, .inr (.inl vals))), (h 6, .inl (E.2.1, n, .inl stp)), (h 7, .inl (E.2.1, n, .inl reg)), (h 8, .inl (E.2.2.2, n, .inl lo)), (h 9, .inr (0, [.ref (h 10), .int cnt, .ref (h 11)])), (h 10, .inl (E.2.1, n, .inl bo)), (h 11, .inl (E.2.1, n, .inl rg)), (h 12, .inr (3, [.int fc, .ref (h 13)])), (h 13, .inl (E.2.2.1, 16, .inr (.inl fs))), (h 14, .inr (4, [.ref (h 15), .int (nI f), .int (nI g)])), (h 15, .inl (E.2.1, n, .inl rw)), (h 16, .inr (2, [.ref (h 17), .ref (h 18), .ref (h 19), .int lc, .ref (h 20)])), (h 17, .inl (E.2.1, 16, .inl so)), (h 18, .inl (E.2.1, 16, .inl sm)), (h 19, .inl (E.2.2.1, 16, .inr (.inl md))), (h 20, .inl (E.2.1, 16, .inl lv))] (fun _ : Unit => True) (fun u : Unit => [(h 0, .inr (1, [.ref (h 1), .ref (h 2), .ref (h 3), .ref (h 4), .ref (h 9), .ref (h 12), .ref (h 14), .ref (h 16), .long x, .int und, .int tk, .int sp, .int fd, .int bd, .int (ba + 1)])), (h 1, .inl (E.2.1, n, .inl (upd bg s (bg s + 1)))), (h 2, .inl (E.2.1, n, .inl dr)), (h 3, .inl (E.2.2.1, n, .inr (.inl oc))), (h 4, .inr (5, [.int (nI n), .ref (h 5), .ref (h 6), .ref (h 7), .ref (h 8)])), (h 5, .inl (E.2.2.1, n, .inr (.inl vals))), (h 6, .inl (E.2.1, n, .inl stp)), (h 7, .inl (E.2.1, n, .inl reg)), (h 8, .inl (E.2.2.2, n, .inl lo)), (h 9, .inr (0, [.ref (h 10), .int cnt, .ref (h 11)])), (h 10, .inl (E.2.1, n, .inl bo)), (h 11, .inl (E.2.1, n, .inl rg)), (h 12, .inr (3, [.int fc, .ref (h 13)])), (h 13, .inl (E.2.2.1, 16, .inr (.inl fs))), (h 14, .inr (4, [.ref (h 15), .int (nI (f + 1)), .int (nI g)])), (h 15, .inl (E.2.1, n, .inl rw)), (h 16, .inr (2, [.ref (h 17), .ref (h 18), .ref (h 19), .int lc, .ref (h 20)])), (h 17, .inl (E.2.1, 16, .inl (upd so w (nI s)))), (h 18, .inl (E.2.1, 16, .inl (upd sm w 0))), (h 19, .inl (E.2.2.1, 16, .inr (.inl (vp_updL md w (vals s))))), (h 20, .inl (E.2.1, 16, .inl lv))]) := by
  refine Mv.ofW (by decide) (Nat.le_of_ble_eq_true rfl) ?_
  intro pM eM sM mM bM meM cM AM ls hB hA hP hD hS hl
  obtain ⟨hx, hb, hr, hml, hown, hlocks, hnm, hts, hK⟩ := hB
  have hl : lv_has ls 3 [(0, .ref (h 0)), (1, .int (nI w))] := hl
  refine lv_aload_n hx hb dX1_begin_0 rfl (lv_at hl 0 rfl) ?_
  refine va_get (D := E.1) (ci := 1) (v := .ref (h 14)) (C := RX1) (T := TX1) (N := 15) hx hb hts ux_X1' hown hK.1 hP 0 rfl rfl 6 (by decide) (hts _ (ta_cons _ mw_188)) (fun _ h9 => h9) rfl dX1_begin_1 ?_
  refine af_i (wc := [(h 14, .inr (4, [.ref (h 15), .int (nI f), .int (nI g)])), (h 15, .inl (E.2.1, n, .inl rw))]) (wr := [(h 0, .inr (1, [.ref (h 1), .ref (h 2), .ref (h 3), .ref (h 4), .ref (h 9), .ref (h 12), .ref (h 14), .ref (h 16), .long x, .int und, .int tk, .int sp, .int fd, .int bd, .int ba])), (h 1, .inl (E.2.1, n, .inl bg)), (h 2, .inl (E.2.1, n, .inl dr)), (h 3, .inl (E.2.2.1, n, .inr (.inl oc))), (h 4, .inr (5, [.int (nI n), .ref (h 5), .ref (h 6), .ref (h 7), .ref (h 8)])), (h 5, .inl (E.2.2.1, n, .inr (.inl vals))), (h 6, .inl (E.2.1, n, .inl stp)), (h 7, .inl (E.2.1, n, .inl reg)), (h 8, .inl (E.2.2.2, n, .inl lo)), (h 9, .inr (0, [.ref (h 10), .int cnt, .ref (h 11)])), (h 10, .inl (E.2.1, n, .inl bo)), (h 11, .inl (E.2.1, n, .inl rg)), (h 12, .inr (3, [.int fc, .ref (h 13)])), (h 13, .inl (E.2.2.1, 16, .inr (.inl fs))), (h 16, .inr (2, [.ref (h 17), .ref (h 18), .ref (h 19), .int lc, .ref (h 20)])), (h 17, .inl (E.2.1, 16, .inl so)), (h 18, .inl (E.2.1, 16, .inl sm)), (h 19, .inl (E.2.2.1, 16, .inr (.inl md))), (h 20, .inl (E.2.1, 16, .inl lv))]) (rn_V (b := h 14) (ci := 4) (As := []) (rest := []) (n := 0) ⟨hx, hb, hml, hown, hts⟩ ta_cons wq_X1_152 (by decide +kernel) hK (c_take1 l E n (h 14) (h 15) f g rw (hn) (hf) (hg) _) ⟨Nat.le_of_ble_eq_true rfl, Nat.le_of_ble_eq_true rfl⟩ hP hD [14, 15] rfl rfl rfl rfl rfl hl.1 rfl (Nat.le_of_ble_eq_true rfl) dX1_begin_4 ⟨Nat.le_of_ble_eq_true rfl, Nat.le_of_ble_eq_true rfl⟩) hP hD hS hA [14, 15] [0, 1, 2, 3, 4, 5, 6, 7, 8, 9, 10, 11, 12, 13, 16, 17, 18, 19, 20] rfl rfl rfl (by decide) (fun r_4 u_4 H locs hwC hP hD hS => ?_)
  subst hwC
  have hP : va_P E.1 classes [(h 0, .inr (1, [.ref (h 1), .ref (h 2), .ref (h 3), .ref (h 4), .ref (h 9), .ref (h 12), .ref (h 14), .ref (h 16), .long x, .int und, .int tk, .int sp, .int fd, .int bd, .int ba])), (h 1, .inl (E.2.1, n, .inl bg)), (h 2, .inl (E.2.1, n, .inl dr)), (h 3, .inl (E.2.2.1, n, .inr (.inl oc))), (h 4, .inr (5, [.int (nI n), .ref (h 5), .ref (h 6), .ref (h 7), .ref (h 8)])), (h 5, .inl (E.2.2.1, n, .inr (.inl vals))), (h 6, .inl (E.2.1, n, .inl stp)), (h 7, .inl (E.2.1, n, .inl reg)), (h 8, .inl (E.2.2.2, n, .inl lo)), (h 9, .inr (0, [.ref (h 10), .int cnt, .ref (h 11)])), (h 10, .inl (E.2.1, n, .inl bo)), (h 11, .inl (E.2.1, n, .inl rg)), (h 12, .inr (3, [.int fc, .ref (h 13)])), (h 13, .inl (E.2.2.1, 16, .inr (.inl fs))), (h 16, .inr (2, [.ref (h 17), .ref (h 18), .ref (h 19), .int lc, .ref (h 20)])), (h 17, .inl (E.2.1, 16, .inl so)), (h 18, .inl (E.2.1, 16, .inl sm)), (h 19, .inl (E.2.2.1, 16, .inr (.inl md))), (h 20, .inl (E.2.1, 16, .inl lv)), (h 14, .inr (4, [.ref (h 15), .int (nI (f + 1)), .int (nI g)])), (h 15, .inl (E.2.1, n, .inl rw))] H := hP
  have hD : va_D AM [(h 0, .inr (1, [.ref (h 1), .ref (h 2), .ref (h 3), .ref (h 4), .ref (h 9), .ref (h 12), .ref (h 14), .ref (h 16), .long x, .int und, .int tk, .int sp, .int fd, .int bd, .int ba])), (h 1, .inl (E.2.1, n, .inl bg)), (h 2, .inl (E.2.1, n, .inl dr)), (h 3, .inl (E.2.2.1, n, .inr (.inl oc))), (h 4, .inr (5, [.int (nI n), .ref (h 5), .ref (h 6), .ref (h 7), .ref (h 8)])), (h 5, .inl (E.2.2.1, n, .inr (.inl vals))), (h 6, .inl (E.2.1, n, .inl stp)), (h 7, .inl (E.2.1, n, .inl reg)), (h 8, .inl (E.2.2.2, n, .inl lo)), (h 9, .inr (0, [.ref (h 10), .int cnt, .ref (h 11)])), (h 10, .inl (E.2.1, n, .inl bo)), (h 11, .inl (E.2.1, n, .inl rg)), (h 12, .inr (3, [.int fc, .ref (h 13)])), (h 13, .inl (E.2.2.1, 16, .inr (.inl fs))), (h 16, .inr (2, [.ref (h 17), .ref (h 18), .ref (h 19), .int lc, .ref (h 20)])), (h 17, .inl (E.2.1, 16, .inl so)), (h 18, .inl (E.2.1, 16, .inl sm)), (h 19, .inl (E.2.2.1, 16, .inr (.inl md))), (h 20, .inl (E.2.1, 16, .inl lv)), (h 14, .inr (4, [.ref (h 15), .int (nI (f + 1)), .int (nI g)])), (h 15, .inl (E.2.1, n, .inl rw))] := hD
  refine tp_i (y := nI s) (hs) ?_
  refine lv_istore_n (lv' := [(2, .int (nI s)), (0, .ref (h 0)), (1, .int (nI w))]) hx hb dX1_begin_7 rfl hl (by decide) rfl (fun ls hl => ?_)
  refine lv_iload_n hx hb dX1_begin_8 rfl (lv_at hl 0 rfl) ?_
  refine lv_iconst (v := (-1)) hx hb dX1_begin_9 (by decide) ?_
  refine lv_icmp_ne (tgt := 14) hx hb dX1_begin_10 (by decide) (fun c_10 => ?_) (fun c_10 => ?_)
  · refine lv_aload_n hx hb dX1_begin_14 rfl (lv_at hl 1 rfl) ?_
    refine va_get (D := E.1) (ci := 1) (v := .ref (h 16)) (C := RX1) (T := TX1) (N := 15) hx hb hts ux_X1' hown hK.1 hP 0 rfl rfl 7 (by decide) (hts _ (ta_cons _ mw_189)) (fun _ h9 => h9) rfl dX1_begin_15 ?_
    refine lv_iload_n hx hb dX1_begin_18 rfl (lv_at hl 2 rfl) ?_
    refine lv_iload_n hx hb dX1_begin_19 rfl (lv_at hl 0 rfl) ?_
    refine lv_aload_n hx hb dX1_begin_20 rfl (lv_at hl 1 rfl) ?_
    refine va_get (D := E.1) (ci := 1) (v := .ref (h 4)) (C := RX1) (T := TX1) (N := 15) hx hb hts ux_X1' hown hK.1 hP 0 rfl rfl 3 (by decide) (hts _ (ta_cons _ mw_185)) (fun _ h9 => h9) rfl dX1_begin_21 ?_
    refine va_get (D := E.1) (ci := 5) (v := .ref (h 5)) (C := RX5) (T := TX5) (N := 5) hx hb hts ux_X5' hown hK.1 hP 4 rfl rfl 1 (by decide) (hts _ (ta_cons _ mw_64)) (fun _ h9 => h9) rfl dX1_begin_24 ?_
    refine lv_iload_n hx hb dX1_begin_27 rfl (lv_at hl 0 rfl) ?_
    refine ia_l s hx hb hK hP 5 rfl (by first | assumption | omega) (by omega) dX1_begin_28 ?_
    refine af_v (wc := [(h 16, .inr (2, [.ref (h 17), .ref (h 18), .ref (h 19), .int lc, .ref (h 20)])), (h 17, .inl (E.2.1, 16, .inl so)), (h 18, .inl (E.2.1, 16, .inl sm)), (h 19, .inl (E.2.2.1, 16, .inr (.inl md))), (h 20, .inl (E.2.1, 16, .inl lv))]) (wr := [(h 0, .inr (1, [.ref (h 1), .ref (h 2), .ref (h 3), .ref (h 4), .ref (h 9), .ref (h 12), .ref (h 14), .ref (h 16), .long x, .int und, .int tk, .int sp, .int fd, .int bd, .int ba])), (h 1, .inl (E.2.1, n, .inl bg)), (h 2, .inl (E.2.1, n, .inl dr)), (h 3, .inl (E.2.2.1, n, .inr (.inl oc))), (h 4, .inr (5, [.int (nI n), .ref (h 5), .ref (h 6), .ref (h 7), .ref (h 8)])), (h 5, .inl (E.2.2.1, n, .inr (.inl vals))), (h 6, .inl (E.2.1, n, .inl stp)), (h 7, .inl (E.2.1, n, .inl reg)), (h 8, .inl (E.2.2.2, n, .inl lo)), (h 9, .inr (0, [.ref (h 10), .int cnt, .ref (h 11)])), (h 10, .inl (E.2.1, n, .inl bo)), (h 11, .inl (E.2.1, n, .inl rg)), (h 12, .inr (3, [.int fc, .ref (h 13)])), (h 13, .inl (E.2.2.1, 16, .inr (.inl fs))), (h 14, .inr (4, [.ref (h 15), .int (nI (f + 1)), .int (nI g)])), (h 15, .inl (E.2.1, n, .inl rw))]) (rn_V (b := h 16) (ci := 2) (As := [.int (nI w), .int (nI s), .long (vals s)]) (rest := []) (n := 3) ⟨hx, hb, hml, hown, hts⟩ ta_cons wq_X1_159 (by decide +kernel) hK (c_give l E (h 16) (h 17) (h 18) (h 19) (h 20) lc so sm lv md w (nI s) (vals s) (hw16) _) ⟨Nat.le_of_ble_eq_true rfl, Nat.le_of_ble_eq_true rfl⟩ hP hD [14, 15, 16, 17, 18] rfl rfl rfl rfl rfl hl.1 rfl (Nat.le_of_ble_eq_true rfl) dX1_begin_29 ⟨Nat.le_of_ble_eq_true rfl, Nat.le_of_ble_eq_true rfl⟩) hP hD hS hA [14, 15, 16, 17, 18] [0, 1, 2, 3, 4, 5, 6, 7, 8, 9, 10, 11, 12, 13, 19, 20] rfl rfl rfl (by decide) (fun u_29 H locs hwC hP hD hS => ?_)
    have hP : va_P E.1 classes [(h 0, .inr (1, [.ref (h 1), .ref (h 2), .ref (h 3), .ref (h 4), .ref (h 9), .ref (h 12), .ref (h 14), .ref (h 16), .long x, .int und, .int tk, .int sp, .int fd, .int bd, .int ba])), (h 1, .inl (E.2.1, n, .inl bg)), (h 2, .inl (E.2.1, n, .inl dr)), (h 3, .inl (E.2.2.1, n, .inr (.inl oc))), (h 4, .inr (5, [.int (nI n), .ref (h 5), .ref (h 6), .ref (h 7), .ref (h 8)])), (h 5, .inl (E.2.2.1, n, .inr (.inl vals))), (h 6, .inl (E.2.1, n, .inl stp)), (h 7, .inl (E.2.1, n, .inl reg)), (h 8, .inl (E.2.2.2, n, .inl lo)), (h 9, .inr (0, [.ref (h 10), .int cnt, .ref (h 11)])), (h 10, .inl (E.2.1, n, .inl bo)), (h 11, .inl (E.2.1, n, .inl rg)), (h 12, .inr (3, [.int fc, .ref (h 13)])), (h 13, .inl (E.2.2.1, 16, .inr (.inl fs))), (h 14, .inr (4, [.ref (h 15), .int (nI (f + 1)), .int (nI g)])), (h 15, .inl (E.2.1, n, .inl rw)), (h 16, .inr (2, [.ref (h 17), .ref (h 18), .ref (h 19), .int lc, .ref (h 20)])), (h 17, .inl (E.2.1, 16, .inl (upd so w (nI s)))), (h 18, .inl (E.2.1, 16, .inl (upd sm w 0))), (h 19, .inl (E.2.2.1, 16, .inr (.inl (vp_updL md w (vals s))))), (h 20, .inl (E.2.1, 16, .inl lv))] H := hP
    have hD : va_D AM [(h 0, .inr (1, [.ref (h 1), .ref (h 2), .ref (h 3), .ref (h 4), .ref (h 9), .ref (h 12), .ref (h 14), .ref (h 16), .long x, .int und, .int tk, .int sp, .int fd, .int bd, .int ba])), (h 1, .inl (E.2.1, n, .inl bg)), (h 2, .inl (E.2.1, n, .inl dr)), (h 3, .inl (E.2.2.1, n, .inr (.inl oc))), (h 4, .inr (5, [.int (nI n), .ref (h 5), .ref (h 6), .ref (h 7), .ref (h 8)])), (h 5, .inl (E.2.2.1, n, .inr (.inl vals))), (h 6, .inl (E.2.1, n, .inl stp)), (h 7, .inl (E.2.1, n, .inl reg)), (h 8, .inl (E.2.2.2, n, .inl lo)), (h 9, .inr (0, [.ref (h 10), .int cnt, .ref (h 11)])), (h 10, .inl (E.2.1, n, .inl bo)), (h 11, .inl (E.2.1, n, .inl rg)), (h 12, .inr (3, [.int fc, .ref (h 13)])), (h 13, .inl (E.2.2.1, 16, .inr (.inl fs))), (h 14, .inr (4, [.ref (h 15), .int (nI (f + 1)), .int (nI g)])), (h 15, .inl (E.2.1, n, .inl rw)), (h 16, .inr (2, [.ref (h 17), .ref (h 18), .ref (h 19), .int lc, .ref (h 20)])), (h 17, .inl (E.2.1, 16, .inl (upd so w (nI s)))), (h 18, .inl (E.2.1, 16, .inl (upd sm w 0))), (h 19, .inl (E.2.2.1, 16, .inr (.inl (vp_updL md w (vals s))))), (h 20, .inl (E.2.1, 16, .inl lv))] := hD
    refine lv_aload_n hx hb dX1_begin_32 rfl (lv_at hl 1 rfl) ?_
    refine va_get (D := E.1) (ci := 1) (v := .ref (h 1)) (C := RX1) (T := TX1) (N := 15) hx hb hts ux_X1' hown hK.1 hP 0 rfl rfl 0 (by decide) (hts _ (ta_cons _ mw_179)) (fun _ h9 => h9) rfl dX1_begin_33 ?_
    refine lv_iload_n hx hb dX1_begin_36 rfl (lv_at hl 0 rfl) ?_
    refine lv_dup2_11 hx hb dX1_begin_37 rfl rfl ?_
    refine ia_i s hx hb hK hP 1 rfl (by first | assumption | omega) (by omega) dX1_begin_38 ?_
    refine lv_iconst (v := 1) hx hb dX1_begin_39 (by decide) ?_
    refine lv_iadd hx hb dX1_begin_40 ?_
    refine as_i s hx hb hK hP hD hS 1 rfl (by first | assumption | omega) (by omega) dX1_begin_41 (fun H locs hP hD hS => ?_)
    have hP : va_P E.1 classes [(h 0, .inr (1, [.ref (h 1), .ref (h 2), .ref (h 3), .ref (h 4), .ref (h 9), .ref (h 12), .ref (h 14), .ref (h 16), .long x, .int und, .int tk, .int sp, .int fd, .int bd, .int ba])), (h 1, .inl (E.2.1, n, .inl (upd bg s ((bg s) + 1)))), (h 2, .inl (E.2.1, n, .inl dr)), (h 3, .inl (E.2.2.1, n, .inr (.inl oc))), (h 4, .inr (5, [.int (nI n), .ref (h 5), .ref (h 6), .ref (h 7), .ref (h 8)])), (h 5, .inl (E.2.2.1, n, .inr (.inl vals))), (h 6, .inl (E.2.1, n, .inl stp)), (h 7, .inl (E.2.1, n, .inl reg)), (h 8, .inl (E.2.2.2, n, .inl lo)), (h 9, .inr (0, [.ref (h 10), .int cnt, .ref (h 11)])), (h 10, .inl (E.2.1, n, .inl bo)), (h 11, .inl (E.2.1, n, .inl rg)), (h 12, .inr (3, [.int fc, .ref (h 13)])), (h 13, .inl (E.2.2.1, 16, .inr (.inl fs))), (h 14, .inr (4, [.ref (h 15), .int (nI (f + 1)), .int (nI g)])), (h 15, .inl (E.2.1, n, .inl rw)), (h 16, .inr (2, [.ref (h 17), .ref (h 18), .ref (h 19), .int lc, .ref (h 20)])), (h 17, .inl (E.2.1, 16, .inl (upd so w (nI s)))), (h 18, .inl (E.2.1, 16, .inl (upd sm w 0))), (h 19, .inl (E.2.2.1, 16, .inr (.inl (vp_updL md w (vals s))))), (h 20, .inl (E.2.1, 16, .inl lv))] H := hP
    have hD : va_D AM [(h 0, .inr (1, [.ref (h 1), .ref (h 2), .ref (h 3), .ref (h 4), .ref (h 9), .ref (h 12), .ref (h 14), .ref (h 16), .long x, .int und, .int tk, .int sp, .int fd, .int bd, .int ba])), (h 1, .inl (E.2.1, n, .inl (upd bg s ((bg s) + 1)))), (h 2, .inl (E.2.1, n, .inl dr)), (h 3, .inl (E.2.2.1, n, .inr (.inl oc))), (h 4, .inr (5, [.int (nI n), .ref (h 5), .ref (h 6), .ref (h 7), .ref (h 8)])), (h 5, .inl (E.2.2.1, n, .inr (.inl vals))), (h 6, .inl (E.2.1, n, .inl stp)), (h 7, .inl (E.2.1, n, .inl reg)), (h 8, .inl (E.2.2.2, n, .inl lo)), (h 9, .inr (0, [.ref (h 10), .int cnt, .ref (h 11)])), (h 10, .inl (E.2.1, n, .inl bo)), (h 11, .inl (E.2.1, n, .inl rg)), (h 12, .inr (3, [.int fc, .ref (h 13)])), (h 13, .inl (E.2.2.1, 16, .inr (.inl fs))), (h 14, .inr (4, [.ref (h 15), .int (nI (f + 1)), .int (nI g)])), (h 15, .inl (E.2.1, n, .inl rw)), (h 16, .inr (2, [.ref (h 17), .ref (h 18), .ref (h 19), .int lc, .ref (h 20)])), (h 17, .inl (E.2.1, 16, .inl (upd so w (nI s)))), (h 18, .inl (E.2.1, 16, .inl (upd sm w 0))), (h 19, .inl (E.2.2.1, 16, .inr (.inl (vp_updL md w (vals s))))), (h 20, .inl (E.2.1, 16, .inl lv))] := hD
    refine lv_aload_n hx hb dX1_begin_42 rfl (lv_at hl 1 rfl) ?_
    refine lv_dup hx hb dX1_begin_43 rfl ?_
    refine va_get (D := E.1) (ci := 1) (v := .int ba) (C := RX1) (T := TX1) (N := 15) hx hb hts ux_X1' hown hK.1 hP 0 rfl rfl 14 (by decide) (hts _ (ta_cons _ mw_196)) (fun _ h9 => h9) rfl dX1_begin_44 ?_
    refine lv_iconst (v := 1) hx hb dX1_begin_47 (by decide) ?_
    refine lv_iadd hx hb dX1_begin_48 ?_
    refine va_put (D := E.1) (ci := 1) (v := .int (ba + 1)) (ty := .int) (C := RX1) (T := TX1) (N := 15) hx hb hts ux_X1' tyX1 tyX1_ok nmX1 hown hK.1 hP hD hS 0 rfl rfl 14 (by decide) (hts _ (ta_cons _ mw_196)) (fun _ h9 => h9) rfl (by decide +kernel) rfl rfl (Nat.le_of_ble_eq_true rfl) dX1_begin_49 (fun H locs hP hD hS => ?_)
    have hP : va_P E.1 classes [(h 0, .inr (1, [.ref (h 1), .ref (h 2), .ref (h 3), .ref (h 4), .ref (h 9), .ref (h 12), .ref (h 14), .ref (h 16), .long x, .int und, .int tk, .int sp, .int fd, .int bd, .int (ba + 1)])), (h 1, .inl (E.2.1, n, .inl (upd bg s ((bg s) + 1)))), (h 2, .inl (E.2.1, n, .inl dr)), (h 3, .inl (E.2.2.1, n, .inr (.inl oc))), (h 4, .inr (5, [.int (nI n), .ref (h 5), .ref (h 6), .ref (h 7), .ref (h 8)])), (h 5, .inl (E.2.2.1, n, .inr (.inl vals))), (h 6, .inl (E.2.1, n, .inl stp)), (h 7, .inl (E.2.1, n, .inl reg)), (h 8, .inl (E.2.2.2, n, .inl lo)), (h 9, .inr (0, [.ref (h 10), .int cnt, .ref (h 11)])), (h 10, .inl (E.2.1, n, .inl bo)), (h 11, .inl (E.2.1, n, .inl rg)), (h 12, .inr (3, [.int fc, .ref (h 13)])), (h 13, .inl (E.2.2.1, 16, .inr (.inl fs))), (h 14, .inr (4, [.ref (h 15), .int (nI (f + 1)), .int (nI g)])), (h 15, .inl (E.2.1, n, .inl rw)), (h 16, .inr (2, [.ref (h 17), .ref (h 18), .ref (h 19), .int lc, .ref (h 20)])), (h 17, .inl (E.2.1, 16, .inl (upd so w (nI s)))), (h 18, .inl (E.2.1, 16, .inl (upd sm w 0))), (h 19, .inl (E.2.2.1, 16, .inr (.inl (vp_updL md w (vals s))))), (h 20, .inl (E.2.1, 16, .inl lv))] H := hP
    have hD : va_D AM [(h 0, .inr (1, [.ref (h 1), .ref (h 2), .ref (h 3), .ref (h 4), .ref (h 9), .ref (h 12), .ref (h 14), .ref (h 16), .long x, .int und, .int tk, .int sp, .int fd, .int bd, .int (ba + 1)])), (h 1, .inl (E.2.1, n, .inl (upd bg s ((bg s) + 1)))), (h 2, .inl (E.2.1, n, .inl dr)), (h 3, .inl (E.2.2.1, n, .inr (.inl oc))), (h 4, .inr (5, [.int (nI n), .ref (h 5), .ref (h 6), .ref (h 7), .ref (h 8)])), (h 5, .inl (E.2.2.1, n, .inr (.inl vals))), (h 6, .inl (E.2.1, n, .inl stp)), (h 7, .inl (E.2.1, n, .inl reg)), (h 8, .inl (E.2.2.2, n, .inl lo)), (h 9, .inr (0, [.ref (h 10), .int cnt, .ref (h 11)])), (h 10, .inl (E.2.1, n, .inl bo)), (h 11, .inl (E.2.1, n, .inl rg)), (h 12, .inr (3, [.int fc, .ref (h 13)])), (h 13, .inl (E.2.2.1, 16, .inr (.inl fs))), (h 14, .inr (4, [.ref (h 15), .int (nI (f + 1)), .int (nI g)])), (h 15, .inl (E.2.1, n, .inl rw)), (h 16, .inr (2, [.ref (h 17), .ref (h 18), .ref (h 19), .int lc, .ref (h 20)])), (h 17, .inl (E.2.1, 16, .inl (upd so w (nI s)))), (h 18, .inl (E.2.1, 16, .inl (upd sm w 0))), (h 19, .inl (E.2.2.1, 16, .inr (.inl (vp_updL md w (vals s))))), (h 20, .inl (E.2.1, 16, .inl lv))] := hD
    exact Rv hx hb hr hlocks hP hD hS () [0, 1, 2, 3, 4, 5, 6, 7, 8, 9, 10, 11, 12, 13, 14, 15, 16, 17, 18, 19, 20] rfl rfl (trivial) (Nat.le_of_ble_eq_true rfl) (Nat.le_of_ble_eq_true rfl) dX1_begin_52
  · exact absurd c_10.symm (neg1_ne (by omega))

set_option maxHeartbeats 4000000 in
set_option maxRecDepth 100000 in
theorem c_goOn (l : Launch) (E : EE) (h : Nat → Nat) (n : Nat) (bg : Nat → Int32) (dr : Nat → Int32) (oc : Nat → Int64) (x : Int64) (und : Int32) (tk : Int32) (sp : Int32) (fd : Int32) (bd : Int32) (ba : Int32) (bo : Nat → Int32) (rg : Nat → Int32) (cnt : Int32) (fc : Int32) (fs : Nat → Int64) (rw : Nat → Int32) (fr : Int32) (en : Int32) (lc : Int32) (so : Nat → Int32) (sm : Nat → Int32) (lv : Nat → Int32) (md : Nat → Int64) (vals : Nat → Int64) (stp : Nat → Int32) (reg : Nat → Int32) (lo : Nat → Int32) (w : Nat) (s : Nat) (hn : n < 2 ^ 31) (hw16 : w < 16) (hsn : s < n) : Mv (S := Unit) l E yX1_goOn (.code yX1_goOn cX1_goOn 3 none) ({ frames := 2, cells := 0, slots := 0, locals := 46 }) [.ref (h 0), .int (nI w), .int (nI s)] [(h 0, .inr (1, [.ref (h 1), .ref (h 2), .ref (h 3), .ref (h 4), .ref (h 9), .ref (h 12), .ref (h 14), .ref (h 16), .long x, .int und, .int tk, .int sp, .int fd, .int bd, .int ba])), (h 1, .inl (E.2.1, n, .inl bg)), (h 2, .inl (E.2.1, n, .inl dr)), (h 3, .inl (E.2.2.1, n, .inr (.inl oc))), (h 4, .inr (5, [.int (nI n), .ref (h 5), .ref (h 6), .ref (h 7), .ref (h 8)])), (h 5, .inl (E.2.2.1, n, .inr (.inl vals))), (h 6, .inl (E.2.1, n, .inl stp)), (h 7, .inl (E.2.1, n, .inl reg)), (h 8, .inl (E.2.2.2, n, .inl lo)), (h 9, .inr (0, [.ref (h 10), .int cnt, .ref (h 11)])), (h 10, .inl (E.2.1, n, .inl bo)), (h 11, .inl (E.2.1, n, .inl rg)), (h 12, .inr (3, [.int fc, .ref (h 13)])), (h 13, .inl (E.2.2.1, 16, .inr (.inl fs))), (h 14, .inr (4, [.ref (h 15), .int fr, .int en])), (h 15, .inl (E.2.1, n, .inl rw)), (h 16, .inr (2, [.ref (h 17), .ref (h 18), .ref (h 19), .int lc, .ref (h 20)])), (h 17, .inl (E.2.1, 16, .inl so)), (h 18, .inl (E.2.1, 16, .inl sm)), (h 19, .inl (E.2.2.1, 16, .inr (.inl md))), (h 20, .inl (E.2.1, 16, .inl lv))] (fun _ : Unit => True) (fun u : Unit => [(h 0, .inr (1, [.ref (h 1), .ref (h 2), .ref (h 3), .ref (h 4), .ref (h 9), .ref (h 12), .ref (h 14), .ref (h 16), .long x, .int und, .int tk, .int (sp + 1), .int fd, .int bd, .int ba])), (h 1, .inl (E.2.1, n, .inl bg)), (h 2, .inl (E.2.1, n, .inl dr)), (h 3, .inl (E.2.2.1, n, .inr (.inl oc))), (h 4, .inr (5, [.int (nI n), .ref (h 5), .ref (h 6), .ref (h 7), .ref (h 8)])), (h 5, .inl (E.2.2.1, n, .inr (.inl vals))), (h 6, .inl (E.2.1, n, .inl stp)), (h 7, .inl (E.2.1, n, .inl reg)), (h 8, .inl (E.2.2.2, n, .inl lo)), (h 9, .inr (0, [.ref (h 10), .int cnt, .ref (h 11)])), (h 10, .inl (E.2.1, n, .inl bo)), (h 11, .inl (E.2.1, n, .inl rg)), (h 12, .inr (3, [.int fc, .ref (h 13)])), (h 13, .inl (E.2.2.1, 16, .inr (.inl fs))), (h 14, .inr (4, [.ref (h 15), .int fr, .int en])), (h 15, .inl (E.2.1, n, .inl rw)), (h 16, .inr (2, [.ref (h 17), .ref (h 18), .ref (h 19), .int lc, .ref (h 20)])), (h 17, .inl (E.2.1, 16, .inl so)), (h 18, .inl (E.2.1, 16, .inl (upd sm w (sm w + 1)))), (h 19, .inl (E.2.2.1, 16, .inr (.inl (vp_updL md w (mkst (md w) (vals s) (sm w)))))), (h 20, .inl (E.2.1, 16, .inl lv))]) := by
  refine Mv.ofW (by decide) (Nat.le_of_ble_eq_true rfl) ?_
  intro pM eM sM mM bM meM cM AM ls hB hA hP hD hS hl
  obtain ⟨hx, hb, hr, hml, hown, hlocks, hnm, hts, hK⟩ := hB
  have hl : lv_has ls 3 [(0, .ref (h 0)), (1, .int (nI w)), (2, .int (nI s))] := hl
  refine lv_aload_n hx hb dX1_goOn_0 rfl (lv_at hl 0 rfl) ?_
  refine va_get (D := E.1) (ci := 1) (v := .ref (h 16)) (C := RX1) (T := TX1) (N := 15) hx hb hts ux_X1' hown hK.1 hP 0 rfl rfl 7 (by decide) (hts _ (ta_cons _ mw_189)) (fun _ h9 => h9) rfl dX1_goOn_1 ?_
  refine va_get (D := E.1) (ci := 2) (v := .ref (h 19)) (C := RX2) (T := TX2) (N := 5) hx hb hts ux_X2' hown hK.1 hP 16 rfl rfl 2 (by decide) (hts _ (ta_cons _ mw_156)) (fun _ h9 => h9) rfl dX1_goOn_4 ?_
  refine lv_iload_n hx hb dX1_goOn_7 rfl (lv_at hl 1 rfl) ?_
  refine lv_aload_n hx hb dX1_goOn_8 rfl (lv_at hl 0 rfl) ?_
  refine va_get (D := E.1) (ci := 1) (v := .ref (h 16)) (C := RX1) (T := TX1) (N := 15) hx hb hts ux_X1' hown hK.1 hP 0 rfl rfl 7 (by decide) (hts _ (ta_cons _ mw_189)) (fun _ h9 => h9) rfl dX1_goOn_9 ?_
  refine va_get (D := E.1) (ci := 2) (v := .ref (h 19)) (C := RX2) (T := TX2) (N := 5) hx hb hts ux_X2' hown hK.1 hP 16 rfl rfl 2 (by decide) (hts _ (ta_cons _ mw_156)) (fun _ h9 => h9) rfl dX1_goOn_12 ?_
  refine lv_iload_n hx hb dX1_goOn_15 rfl (lv_at hl 1 rfl) ?_
  refine ia_l w hx hb hK hP 19 rfl (by first | assumption | omega) (by decide) dX1_goOn_16 ?_
  refine lv_aload_n hx hb dX1_goOn_17 rfl (lv_at hl 0 rfl) ?_
  refine va_get (D := E.1) (ci := 1) (v := .ref (h 4)) (C := RX1) (T := TX1) (N := 15) hx hb hts ux_X1' hown hK.1 hP 0 rfl rfl 3 (by decide) (hts _ (ta_cons _ mw_185)) (fun _ h9 => h9) rfl dX1_goOn_18 ?_
  refine va_get (D := E.1) (ci := 5) (v := .ref (h 5)) (C := RX5) (T := TX5) (N := 5) hx hb hts ux_X5' hown hK.1 hP 4 rfl rfl 1 (by decide) (hts _ (ta_cons _ mw_64)) (fun _ h9 => h9) rfl dX1_goOn_21 ?_
  refine lv_iload_n hx hb dX1_goOn_24 rfl (lv_at hl 2 rfl) ?_
  refine ia_l s hx hb hK hP 5 rfl (by first | assumption | omega) (by omega) dX1_goOn_25 ?_
  refine lv_aload_n hx hb dX1_goOn_26 rfl (lv_at hl 0 rfl) ?_
  refine va_get (D := E.1) (ci := 1) (v := .ref (h 16)) (C := RX1) (T := TX1) (N := 15) hx hb hts ux_X1' hown hK.1 hP 0 rfl rfl 7 (by decide) (hts _ (ta_cons _ mw_189)) (fun _ h9 => h9) rfl dX1_goOn_27 ?_
  refine va_get (D := E.1) (ci := 2) (v := .ref (h 18)) (C := RX2) (T := TX2) (N := 5) hx hb hts ux_X2' hown hK.1 hP 16 rfl rfl 1 (by decide) (hts _ (ta_cons _ mw_154)) (fun _ h9 => h9) rfl dX1_goOn_30 ?_
  refine lv_iload_n hx hb dX1_goOn_33 rfl (lv_at hl 1 rfl) ?_
  refine ia_i w hx hb hK hP 18 rfl (by first | assumption | omega) (by decide) dX1_goOn_34 ?_
  refine af_l (wc := []) (wr := [(h 0, .inr (1, [.ref (h 1), .ref (h 2), .ref (h 3), .ref (h 4), .ref (h 9), .ref (h 12), .ref (h 14), .ref (h 16), .long x, .int und, .int tk, .int sp, .int fd, .int bd, .int ba])), (h 1, .inl (E.2.1, n, .inl bg)), (h 2, .inl (E.2.1, n, .inl dr)), (h 3, .inl (E.2.2.1, n, .inr (.inl oc))), (h 4, .inr (5, [.int (nI n), .ref (h 5), .ref (h 6), .ref (h 7), .ref (h 8)])), (h 5, .inl (E.2.2.1, n, .inr (.inl vals))), (h 6, .inl (E.2.1, n, .inl stp)), (h 7, .inl (E.2.1, n, .inl reg)), (h 8, .inl (E.2.2.2, n, .inl lo)), (h 9, .inr (0, [.ref (h 10), .int cnt, .ref (h 11)])), (h 10, .inl (E.2.1, n, .inl bo)), (h 11, .inl (E.2.1, n, .inl rg)), (h 12, .inr (3, [.int fc, .ref (h 13)])), (h 13, .inl (E.2.2.1, 16, .inr (.inl fs))), (h 14, .inr (4, [.ref (h 15), .int fr, .int en])), (h 15, .inl (E.2.1, n, .inl rw)), (h 16, .inr (2, [.ref (h 17), .ref (h 18), .ref (h 19), .int lc, .ref (h 20)])), (h 17, .inl (E.2.1, 16, .inl so)), (h 18, .inl (E.2.1, 16, .inl sm)), (h 19, .inl (E.2.2.1, 16, .inr (.inl md))), (h 20, .inl (E.2.1, 16, .inl lv))]) (rn_N (host := RX6) (As := [.long (md w), .long (vals s), .int (sm w)]) (rest := [.int (nI w), .ref (h 19)]) (n := 3) ⟨hx, hb, hml, hown, hts⟩ ta_cons wq_X1_166 hK.2.1 (by decide +kernel) hK (c_mkst l E (md w) (vals s) (sm w)  _) ⟨Nat.le_of_ble_eq_true rfl, Nat.le_of_ble_eq_true rfl⟩ hP hD [] rfl rfl rfl hl.1 rfl (Nat.le_of_ble_eq_true rfl) dX1_goOn_35 ⟨Nat.le_of_ble_eq_true rfl, Nat.le_of_ble_eq_true rfl⟩) hP hD hS hA [] [0, 1, 2, 3, 4, 5, 6, 7, 8, 9, 10, 11, 12, 13, 14, 15, 16, 17, 18, 19, 20] rfl rfl rfl (by decide) (fun r_35 u_35 H locs hwC hP hD hS => ?_)
  subst hwC
  have hP : va_P E.1 classes [(h 0, .inr (1, [.ref (h 1), .ref (h 2), .ref (h 3), .ref (h 4), .ref (h 9), .ref (h 12), .ref (h 14), .ref (h 16), .long x, .int und, .int tk, .int sp, .int fd, .int bd, .int ba])), (h 1, .inl (E.2.1, n, .inl bg)), (h 2, .inl (E.2.1, n, .inl dr)), (h 3, .inl (E.2.2.1, n, .inr (.inl oc))), (h 4, .inr (5, [.int (nI n), .ref (h 5), .ref (h 6), .ref (h 7), .ref (h 8)])), (h 5, .inl (E.2.2.1, n, .inr (.inl vals))), (h 6, .inl (E.2.1, n, .inl stp)), (h 7, .inl (E.2.1, n, .inl reg)), (h 8, .inl (E.2.2.2, n, .inl lo)), (h 9, .inr (0, [.ref (h 10), .int cnt, .ref (h 11)])), (h 10, .inl (E.2.1, n, .inl bo)), (h 11, .inl (E.2.1, n, .inl rg)), (h 12, .inr (3, [.int fc, .ref (h 13)])), (h 13, .inl (E.2.2.1, 16, .inr (.inl fs))), (h 14, .inr (4, [.ref (h 15), .int fr, .int en])), (h 15, .inl (E.2.1, n, .inl rw)), (h 16, .inr (2, [.ref (h 17), .ref (h 18), .ref (h 19), .int lc, .ref (h 20)])), (h 17, .inl (E.2.1, 16, .inl so)), (h 18, .inl (E.2.1, 16, .inl sm)), (h 19, .inl (E.2.2.1, 16, .inr (.inl md))), (h 20, .inl (E.2.1, 16, .inl lv))] H := hP
  have hD : va_D AM [(h 0, .inr (1, [.ref (h 1), .ref (h 2), .ref (h 3), .ref (h 4), .ref (h 9), .ref (h 12), .ref (h 14), .ref (h 16), .long x, .int und, .int tk, .int sp, .int fd, .int bd, .int ba])), (h 1, .inl (E.2.1, n, .inl bg)), (h 2, .inl (E.2.1, n, .inl dr)), (h 3, .inl (E.2.2.1, n, .inr (.inl oc))), (h 4, .inr (5, [.int (nI n), .ref (h 5), .ref (h 6), .ref (h 7), .ref (h 8)])), (h 5, .inl (E.2.2.1, n, .inr (.inl vals))), (h 6, .inl (E.2.1, n, .inl stp)), (h 7, .inl (E.2.1, n, .inl reg)), (h 8, .inl (E.2.2.2, n, .inl lo)), (h 9, .inr (0, [.ref (h 10), .int cnt, .ref (h 11)])), (h 10, .inl (E.2.1, n, .inl bo)), (h 11, .inl (E.2.1, n, .inl rg)), (h 12, .inr (3, [.int fc, .ref (h 13)])), (h 13, .inl (E.2.2.1, 16, .inr (.inl fs))), (h 14, .inr (4, [.ref (h 15), .int fr, .int en])), (h 15, .inl (E.2.1, n, .inl rw)), (h 16, .inr (2, [.ref (h 17), .ref (h 18), .ref (h 19), .int lc, .ref (h 20)])), (h 17, .inl (E.2.1, 16, .inl so)), (h 18, .inl (E.2.1, 16, .inl sm)), (h 19, .inl (E.2.2.1, 16, .inr (.inl md))), (h 20, .inl (E.2.1, 16, .inl lv))] := hD
  refine as_l w hx hb hK hP hD hS 19 rfl (by first | assumption | omega) (by decide) dX1_goOn_38 (fun H locs hP hD hS => ?_)
  have hP : va_P E.1 classes [(h 0, .inr (1, [.ref (h 1), .ref (h 2), .ref (h 3), .ref (h 4), .ref (h 9), .ref (h 12), .ref (h 14), .ref (h 16), .long x, .int und, .int tk, .int sp, .int fd, .int bd, .int ba])), (h 1, .inl (E.2.1, n, .inl bg)), (h 2, .inl (E.2.1, n, .inl dr)), (h 3, .inl (E.2.2.1, n, .inr (.inl oc))), (h 4, .inr (5, [.int (nI n), .ref (h 5), .ref (h 6), .ref (h 7), .ref (h 8)])), (h 5, .inl (E.2.2.1, n, .inr (.inl vals))), (h 6, .inl (E.2.1, n, .inl stp)), (h 7, .inl (E.2.1, n, .inl reg)), (h 8, .inl (E.2.2.2, n, .inl lo)), (h 9, .inr (0, [.ref (h 10), .int cnt, .ref (h 11)])), (h 10, .inl (E.2.1, n, .inl bo)), (h 11, .inl (E.2.1, n, .inl rg)), (h 12, .inr (3, [.int fc, .ref (h 13)])), (h 13, .inl (E.2.2.1, 16, .inr (.inl fs))), (h 14, .inr (4, [.ref (h 15), .int fr, .int en])), (h 15, .inl (E.2.1, n, .inl rw)), (h 16, .inr (2, [.ref (h 17), .ref (h 18), .ref (h 19), .int lc, .ref (h 20)])), (h 17, .inl (E.2.1, 16, .inl so)), (h 18, .inl (E.2.1, 16, .inl sm)), (h 19, .inl (E.2.2.1, 16, .inr (.inl (vp_updL md w (mkst (md w) (vals s) (sm w)))))), (h 20, .inl (E.2.1, 16, .inl lv))] H := hP
  have hD : va_D AM [(h 0, .inr (1, [.ref (h 1), .ref (h 2), .ref (h 3), .ref (h 4), .ref (h 9), .ref (h 12), .ref (h 14), .ref (h 16), .long x, .int und, .int tk, .int sp, .int fd, .int bd, .int ba])), (h 1, .inl (E.2.1, n, .inl bg)), (h 2, .inl (E.2.1, n, .inl dr)), (h 3, .inl (E.2.2.1, n, .inr (.inl oc))), (h 4, .inr (5, [.int (nI n), .ref (h 5), .ref (h 6), .ref (h 7), .ref (h 8)])), (h 5, .inl (E.2.2.1, n, .inr (.inl vals))), (h 6, .inl (E.2.1, n, .inl stp)), (h 7, .inl (E.2.1, n, .inl reg)), (h 8, .inl (E.2.2.2, n, .inl lo)), (h 9, .inr (0, [.ref (h 10), .int cnt, .ref (h 11)])), (h 10, .inl (E.2.1, n, .inl bo)), (h 11, .inl (E.2.1, n, .inl rg)), (h 12, .inr (3, [.int fc, .ref (h 13)])), (h 13, .inl (E.2.2.1, 16, .inr (.inl fs))), (h 14, .inr (4, [.ref (h 15), .int fr, .int en])), (h 15, .inl (E.2.1, n, .inl rw)), (h 16, .inr (2, [.ref (h 17), .ref (h 18), .ref (h 19), .int lc, .ref (h 20)])), (h 17, .inl (E.2.1, 16, .inl so)), (h 18, .inl (E.2.1, 16, .inl sm)), (h 19, .inl (E.2.2.1, 16, .inr (.inl (vp_updL md w (mkst (md w) (vals s) (sm w)))))), (h 20, .inl (E.2.1, 16, .inl lv))] := hD
  refine lv_aload_n hx hb dX1_goOn_39 rfl (lv_at hl 0 rfl) ?_
  refine va_get (D := E.1) (ci := 1) (v := .ref (h 16)) (C := RX1) (T := TX1) (N := 15) hx hb hts ux_X1' hown hK.1 hP 0 rfl rfl 7 (by decide) (hts _ (ta_cons _ mw_189)) (fun _ h9 => h9) rfl dX1_goOn_40 ?_
  refine va_get (D := E.1) (ci := 2) (v := .ref (h 18)) (C := RX2) (T := TX2) (N := 5) hx hb hts ux_X2' hown hK.1 hP 16 rfl rfl 1 (by decide) (hts _ (ta_cons _ mw_154)) (fun _ h9 => h9) rfl dX1_goOn_43 ?_
  refine lv_iload_n hx hb dX1_goOn_46 rfl (lv_at hl 1 rfl) ?_
  refine lv_dup2_11 hx hb dX1_goOn_47 rfl rfl ?_
  refine ia_i w hx hb hK hP 18 rfl (by first | assumption | omega) (by decide) dX1_goOn_48 ?_
  refine lv_iconst (v := 1) hx hb dX1_goOn_49 (by decide) ?_
  refine lv_iadd hx hb dX1_goOn_50 ?_
  refine as_i w hx hb hK hP hD hS 18 rfl (by first | assumption | omega) (by decide) dX1_goOn_51 (fun H locs hP hD hS => ?_)
  have hP : va_P E.1 classes [(h 0, .inr (1, [.ref (h 1), .ref (h 2), .ref (h 3), .ref (h 4), .ref (h 9), .ref (h 12), .ref (h 14), .ref (h 16), .long x, .int und, .int tk, .int sp, .int fd, .int bd, .int ba])), (h 1, .inl (E.2.1, n, .inl bg)), (h 2, .inl (E.2.1, n, .inl dr)), (h 3, .inl (E.2.2.1, n, .inr (.inl oc))), (h 4, .inr (5, [.int (nI n), .ref (h 5), .ref (h 6), .ref (h 7), .ref (h 8)])), (h 5, .inl (E.2.2.1, n, .inr (.inl vals))), (h 6, .inl (E.2.1, n, .inl stp)), (h 7, .inl (E.2.1, n, .inl reg)), (h 8, .inl (E.2.2.2, n, .inl lo)), (h 9, .inr (0, [.ref (h 10), .int cnt, .ref (h 11)])), (h 10, .inl (E.2.1, n, .inl bo)), (h 11, .inl (E.2.1, n, .inl rg)), (h 12, .inr (3, [.int fc, .ref (h 13)])), (h 13, .inl (E.2.2.1, 16, .inr (.inl fs))), (h 14, .inr (4, [.ref (h 15), .int fr, .int en])), (h 15, .inl (E.2.1, n, .inl rw)), (h 16, .inr (2, [.ref (h 17), .ref (h 18), .ref (h 19), .int lc, .ref (h 20)])), (h 17, .inl (E.2.1, 16, .inl so)), (h 18, .inl (E.2.1, 16, .inl (upd sm w ((sm w) + 1)))), (h 19, .inl (E.2.2.1, 16, .inr (.inl (vp_updL md w (mkst (md w) (vals s) (sm w)))))), (h 20, .inl (E.2.1, 16, .inl lv))] H := hP
  have hD : va_D AM [(h 0, .inr (1, [.ref (h 1), .ref (h 2), .ref (h 3), .ref (h 4), .ref (h 9), .ref (h 12), .ref (h 14), .ref (h 16), .long x, .int und, .int tk, .int sp, .int fd, .int bd, .int ba])), (h 1, .inl (E.2.1, n, .inl bg)), (h 2, .inl (E.2.1, n, .inl dr)), (h 3, .inl (E.2.2.1, n, .inr (.inl oc))), (h 4, .inr (5, [.int (nI n), .ref (h 5), .ref (h 6), .ref (h 7), .ref (h 8)])), (h 5, .inl (E.2.2.1, n, .inr (.inl vals))), (h 6, .inl (E.2.1, n, .inl stp)), (h 7, .inl (E.2.1, n, .inl reg)), (h 8, .inl (E.2.2.2, n, .inl lo)), (h 9, .inr (0, [.ref (h 10), .int cnt, .ref (h 11)])), (h 10, .inl (E.2.1, n, .inl bo)), (h 11, .inl (E.2.1, n, .inl rg)), (h 12, .inr (3, [.int fc, .ref (h 13)])), (h 13, .inl (E.2.2.1, 16, .inr (.inl fs))), (h 14, .inr (4, [.ref (h 15), .int fr, .int en])), (h 15, .inl (E.2.1, n, .inl rw)), (h 16, .inr (2, [.ref (h 17), .ref (h 18), .ref (h 19), .int lc, .ref (h 20)])), (h 17, .inl (E.2.1, 16, .inl so)), (h 18, .inl (E.2.1, 16, .inl (upd sm w ((sm w) + 1)))), (h 19, .inl (E.2.2.1, 16, .inr (.inl (vp_updL md w (mkst (md w) (vals s) (sm w)))))), (h 20, .inl (E.2.1, 16, .inl lv))] := hD
  refine lv_aload_n hx hb dX1_goOn_52 rfl (lv_at hl 0 rfl) ?_
  refine lv_dup hx hb dX1_goOn_53 rfl ?_
  refine va_get (D := E.1) (ci := 1) (v := .int sp) (C := RX1) (T := TX1) (N := 15) hx hb hts ux_X1' hown hK.1 hP 0 rfl rfl 11 (by decide) (hts _ (ta_cons _ mw_193)) (fun _ h9 => h9) rfl dX1_goOn_54 ?_
  refine lv_iconst (v := 1) hx hb dX1_goOn_57 (by decide) ?_
  refine lv_iadd hx hb dX1_goOn_58 ?_
  refine va_put (D := E.1) (ci := 1) (v := .int (sp + 1)) (ty := .int) (C := RX1) (T := TX1) (N := 15) hx hb hts ux_X1' tyX1 tyX1_ok nmX1 hown hK.1 hP hD hS 0 rfl rfl 11 (by decide) (hts _ (ta_cons _ mw_193)) (fun _ h9 => h9) rfl (by decide +kernel) rfl rfl (Nat.le_of_ble_eq_true rfl) dX1_goOn_59 (fun H locs hP hD hS => ?_)
  have hP : va_P E.1 classes [(h 0, .inr (1, [.ref (h 1), .ref (h 2), .ref (h 3), .ref (h 4), .ref (h 9), .ref (h 12), .ref (h 14), .ref (h 16), .long x, .int und, .int tk, .int (sp + 1), .int fd, .int bd, .int ba])), (h 1, .inl (E.2.1, n, .inl bg)), (h 2, .inl (E.2.1, n, .inl dr)), (h 3, .inl (E.2.2.1, n, .inr (.inl oc))), (h 4, .inr (5, [.int (nI n), .ref (h 5), .ref (h 6), .ref (h 7), .ref (h 8)])), (h 5, .inl (E.2.2.1, n, .inr (.inl vals))), (h 6, .inl (E.2.1, n, .inl stp)), (h 7, .inl (E.2.1, n, .inl reg)), (h 8, .inl (E.2.2.2, n, .inl lo)), (h 9, .inr (0, [.ref (h 10), .int cnt, .ref (h 11)])), (h 10, .inl (E.2.1, n, .inl bo)), (h 11, .inl (E.2.1, n, .inl rg)), (h 12, .inr (3, [.int fc, .ref (h 13)])), (h 13, .inl (E.2.2.1, 16, .inr (.inl fs))), (h 14, .inr (4, [.ref (h 15), .int fr, .int en])), (h 15, .inl (E.2.1, n, .inl rw)), (h 16, .inr (2, [.ref (h 17), .ref (h 18), .ref (h 19), .int lc, .ref (h 20)])), (h 17, .inl (E.2.1, 16, .inl so)), (h 18, .inl (E.2.1, 16, .inl (upd sm w ((sm w) + 1)))), (h 19, .inl (E.2.2.1, 16, .inr (.inl (vp_updL md w (mkst (md w) (vals s) (sm w)))))), (h 20, .inl (E.2.1, 16, .inl lv))] H := hP
  have hD : va_D AM [(h 0, .inr (1, [.ref (h 1), .ref (h 2), .ref (h 3), .ref (h 4), .ref (h 9), .ref (h 12), .ref (h 14), .ref (h 16), .long x, .int und, .int tk, .int (sp + 1), .int fd, .int bd, .int ba])), (h 1, .inl (E.2.1, n, .inl bg)), (h 2, .inl (E.2.1, n, .inl dr)), (h 3, .inl (E.2.2.1, n, .inr (.inl oc))), (h 4, .inr (5, [.int (nI n), .ref (h 5), .ref (h 6), .ref (h 7), .ref (h 8)])), (h 5, .inl (E.2.2.1, n, .inr (.inl vals))), (h 6, .inl (E.2.1, n, .inl stp)), (h 7, .inl (E.2.1, n, .inl reg)), (h 8, .inl (E.2.2.2, n, .inl lo)), (h 9, .inr (0, [.ref (h 10), .int cnt, .ref (h 11)])), (h 10, .inl (E.2.1, n, .inl bo)), (h 11, .inl (E.2.1, n, .inl rg)), (h 12, .inr (3, [.int fc, .ref (h 13)])), (h 13, .inl (E.2.2.1, 16, .inr (.inl fs))), (h 14, .inr (4, [.ref (h 15), .int fr, .int en])), (h 15, .inl (E.2.1, n, .inl rw)), (h 16, .inr (2, [.ref (h 17), .ref (h 18), .ref (h 19), .int lc, .ref (h 20)])), (h 17, .inl (E.2.1, 16, .inl so)), (h 18, .inl (E.2.1, 16, .inl (upd sm w ((sm w) + 1)))), (h 19, .inl (E.2.2.1, 16, .inr (.inl (vp_updL md w (mkst (md w) (vals s) (sm w)))))), (h 20, .inl (E.2.1, 16, .inl lv))] := hD
  exact Rv hx hb hr hlocks hP hD hS () [0, 1, 2, 3, 4, 5, 6, 7, 8, 9, 10, 11, 12, 13, 14, 15, 16, 17, 18, 19, 20] rfl rfl (trivial) (Nat.le_of_ble_eq_true rfl) (Nat.le_of_ble_eq_true rfl) dX1_goOn_62

set_option maxHeartbeats 4000000 in
set_option maxRecDepth 100000 in
theorem c_finish (l : Launch) (E : EE) (h : Nat → Nat) (n : Nat) (bg : Nat → Int32) (dr : Nat → Int32) (oc : Nat → Int64) (x : Int64) (und : Int32) (tk : Int32) (sp : Int32) (fd : Int32) (bd : Int32) (ba : Int32) (bo : Nat → Int32) (rg : Nat → Int32) (cnt : Int32) (fc : Int32) (fs : Nat → Int64) (rw : Nat → Int32) (fr : Int32) (en : Int32) (lc : Int32) (so : Nat → Int32) (sm : Nat → Int32) (lv : Nat → Int32) (md : Nat → Int64) (vals : Nat → Int64) (stp : Nat → Int32) (reg : Nat → Int32) (lo : Nat → Int32) (w : Nat) (s : Nat) (hn : n < 2 ^ 31) (hw16 : w < 16) (hsn : s < n) : Mv (S := Unit) l E yX1_finish (.code yX1_finish cX1_finish 3 none) ({ frames := 0, cells := 0, slots := 0, locals := 0 }) [.ref (h 0), .int (nI w), .int (nI s)] [(h 0, .inr (1, [.ref (h 1), .ref (h 2), .ref (h 3), .ref (h 4), .ref (h 9), .ref (h 12), .ref (h 14), .ref (h 16), .long x, .int und, .int tk, .int sp, .int fd, .int bd, .int ba])), (h 1, .inl (E.2.1, n, .inl bg)), (h 2, .inl (E.2.1, n, .inl dr)), (h 3, .inl (E.2.2.1, n, .inr (.inl oc))), (h 4, .inr (5, [.int (nI n), .ref (h 5), .ref (h 6), .ref (h 7), .ref (h 8)])), (h 5, .inl (E.2.2.1, n, .inr (.inl vals))), (h 6, .inl (E.2.1, n, .inl stp)), (h 7, .inl (E.2.1, n, .inl reg)), (h 8, .inl (E.2.2.2, n, .inl lo)), (h 9, .inr (0, [.ref (h 10), .int cnt, .ref (h 11)])), (h 10, .inl (E.2.1, n, .inl bo)), (h 11, .inl (E.2.1, n, .inl rg)), (h 12, .inr (3, [.int fc, .ref (h 13)])), (h 13, .inl (E.2.2.1, 16, .inr (.inl fs))), (h 14, .inr (4, [.ref (h 15), .int fr, .int en])), (h 15, .inl (E.2.1, n, .inl rw)), (h 16, .inr (2, [.ref (h 17), .ref (h 18), .ref (h 19), .int lc, .ref (h 20)])), (h 17, .inl (E.2.1, 16, .inl so)), (h 18, .inl (E.2.1, 16, .inl sm)), (h 19, .inl (E.2.2.1, 16, .inr (.inl md))), (h 20, .inl (E.2.1, 16, .inl lv))] (fun _ : Unit => True) (fun u : Unit => [(h 0, .inr (1, [.ref (h 1), .ref (h 2), .ref (h 3), .ref (h 4), .ref (h 9), .ref (h 12), .ref (h 14), .ref (h 16), .long x, .int (und - 1), .int tk, .int sp, .int fd, .int bd, .int ba])), (h 1, .inl (E.2.1, n, .inl bg)), (h 2, .inl (E.2.1, n, .inl (upd dr s (nI w)))), (h 3, .inl (E.2.2.1, n, .inr (.inl (vp_updL oc s (md w))))), (h 4, .inr (5, [.int (nI n), .ref (h 5), .ref (h 6), .ref (h 7), .ref (h 8)])), (h 5, .inl (E.2.2.1, n, .inr (.inl vals))), (h 6, .inl (E.2.1, n, .inl stp)), (h 7, .inl (E.2.1, n, .inl reg)), (h 8, .inl (E.2.2.2, n, .inl lo)), (h 9, .inr (0, [.ref (h 10), .int cnt, .ref (h 11)])), (h 10, .inl (E.2.1, n, .inl bo)), (h 11, .inl (E.2.1, n, .inl rg)), (h 12, .inr (3, [.int fc, .ref (h 13)])), (h 13, .inl (E.2.2.1, 16, .inr (.inl fs))), (h 14, .inr (4, [.ref (h 15), .int fr, .int en])), (h 15, .inl (E.2.1, n, .inl rw)), (h 16, .inr (2, [.ref (h 17), .ref (h 18), .ref (h 19), .int lc, .ref (h 20)])), (h 17, .inl (E.2.1, 16, .inl (upd so w (-1)))), (h 18, .inl (E.2.1, 16, .inl sm)), (h 19, .inl (E.2.2.1, 16, .inr (.inl md))), (h 20, .inl (E.2.1, 16, .inl lv))]) := by
  refine Mv.ofW (by decide) (Nat.le_of_ble_eq_true rfl) ?_
  intro pM eM sM mM bM meM cM AM ls hB hA hP hD hS hl
  obtain ⟨hx, hb, hr, hml, hown, hlocks, hnm, hts, hK⟩ := hB
  have hl : lv_has ls 3 [(0, .ref (h 0)), (1, .int (nI w)), (2, .int (nI s))] := hl
  refine lv_aload_n hx hb dX1_finish_0 rfl (lv_at hl 0 rfl) ?_
  refine va_get (D := E.1) (ci := 1) (v := .ref (h 3)) (C := RX1) (T := TX1) (N := 15) hx hb hts ux_X1' hown hK.1 hP 0 rfl rfl 2 (by decide) (hts _ (ta_cons _ mw_183)) (fun _ h9 => h9) rfl dX1_finish_1 ?_
  refine lv_iload_n hx hb dX1_finish_4 rfl (lv_at hl 2 rfl) ?_
  refine lv_aload_n hx hb dX1_finish_5 rfl (lv_at hl 0 rfl) ?_
  refine va_get (D := E.1) (ci := 1) (v := .ref (h 16)) (C := RX1) (T := TX1) (N := 15) hx hb hts ux_X1' hown hK.1 hP 0 rfl rfl 7 (by decide) (hts _ (ta_cons _ mw_189)) (fun _ h9 => h9) rfl dX1_finish_6 ?_
  refine va_get (D := E.1) (ci := 2) (v := .ref (h 19)) (C := RX2) (T := TX2) (N := 5) hx hb hts ux_X2' hown hK.1 hP 16 rfl rfl 2 (by decide) (hts _ (ta_cons _ mw_156)) (fun _ h9 => h9) rfl dX1_finish_9 ?_
  refine lv_iload_n hx hb dX1_finish_12 rfl (lv_at hl 1 rfl) ?_
  refine ia_l w hx hb hK hP 19 rfl (by first | assumption | omega) (by decide) dX1_finish_13 ?_
  refine as_l s hx hb hK hP hD hS 3 rfl (by first | assumption | omega) (by omega) dX1_finish_14 (fun H locs hP hD hS => ?_)
  have hP : va_P E.1 classes [(h 0, .inr (1, [.ref (h 1), .ref (h 2), .ref (h 3), .ref (h 4), .ref (h 9), .ref (h 12), .ref (h 14), .ref (h 16), .long x, .int und, .int tk, .int sp, .int fd, .int bd, .int ba])), (h 1, .inl (E.2.1, n, .inl bg)), (h 2, .inl (E.2.1, n, .inl dr)), (h 3, .inl (E.2.2.1, n, .inr (.inl (vp_updL oc s (md w))))), (h 4, .inr (5, [.int (nI n), .ref (h 5), .ref (h 6), .ref (h 7), .ref (h 8)])), (h 5, .inl (E.2.2.1, n, .inr (.inl vals))), (h 6, .inl (E.2.1, n, .inl stp)), (h 7, .inl (E.2.1, n, .inl reg)), (h 8, .inl (E.2.2.2, n, .inl lo)), (h 9, .inr (0, [.ref (h 10), .int cnt, .ref (h 11)])), (h 10, .inl (E.2.1, n, .inl bo)), (h 11, .inl (E.2.1, n, .inl rg)), (h 12, .inr (3, [.int fc, .ref (h 13)])), (h 13, .inl (E.2.2.1, 16, .inr (.inl fs))), (h 14, .inr (4, [.ref (h 15), .int fr, .int en])), (h 15, .inl (E.2.1, n, .inl rw)), (h 16, .inr (2, [.ref (h 17), .ref (h 18), .ref (h 19), .int lc, .ref (h 20)])), (h 17, .inl (E.2.1, 16, .inl so)), (h 18, .inl (E.2.1, 16, .inl sm)), (h 19, .inl (E.2.2.1, 16, .inr (.inl md))), (h 20, .inl (E.2.1, 16, .inl lv))] H := hP
  have hD : va_D AM [(h 0, .inr (1, [.ref (h 1), .ref (h 2), .ref (h 3), .ref (h 4), .ref (h 9), .ref (h 12), .ref (h 14), .ref (h 16), .long x, .int und, .int tk, .int sp, .int fd, .int bd, .int ba])), (h 1, .inl (E.2.1, n, .inl bg)), (h 2, .inl (E.2.1, n, .inl dr)), (h 3, .inl (E.2.2.1, n, .inr (.inl (vp_updL oc s (md w))))), (h 4, .inr (5, [.int (nI n), .ref (h 5), .ref (h 6), .ref (h 7), .ref (h 8)])), (h 5, .inl (E.2.2.1, n, .inr (.inl vals))), (h 6, .inl (E.2.1, n, .inl stp)), (h 7, .inl (E.2.1, n, .inl reg)), (h 8, .inl (E.2.2.2, n, .inl lo)), (h 9, .inr (0, [.ref (h 10), .int cnt, .ref (h 11)])), (h 10, .inl (E.2.1, n, .inl bo)), (h 11, .inl (E.2.1, n, .inl rg)), (h 12, .inr (3, [.int fc, .ref (h 13)])), (h 13, .inl (E.2.2.1, 16, .inr (.inl fs))), (h 14, .inr (4, [.ref (h 15), .int fr, .int en])), (h 15, .inl (E.2.1, n, .inl rw)), (h 16, .inr (2, [.ref (h 17), .ref (h 18), .ref (h 19), .int lc, .ref (h 20)])), (h 17, .inl (E.2.1, 16, .inl so)), (h 18, .inl (E.2.1, 16, .inl sm)), (h 19, .inl (E.2.2.1, 16, .inr (.inl md))), (h 20, .inl (E.2.1, 16, .inl lv))] := hD
  refine lv_aload_n hx hb dX1_finish_15 rfl (lv_at hl 0 rfl) ?_
  refine va_get (D := E.1) (ci := 1) (v := .ref (h 2)) (C := RX1) (T := TX1) (N := 15) hx hb hts ux_X1' hown hK.1 hP 0 rfl rfl 1 (by decide) (hts _ (ta_cons _ mw_181)) (fun _ h9 => h9) rfl dX1_finish_16 ?_
  refine lv_iload_n hx hb dX1_finish_19 rfl (lv_at hl 2 rfl) ?_
  refine lv_iload_n hx hb dX1_finish_20 rfl (lv_at hl 1 rfl) ?_
  refine as_i s hx hb hK hP hD hS 2 rfl (by first | assumption | omega) (by omega) dX1_finish_21 (fun H locs hP hD hS => ?_)
  have hP : va_P E.1 classes [(h 0, .inr (1, [.ref (h 1), .ref (h 2), .ref (h 3), .ref (h 4), .ref (h 9), .ref (h 12), .ref (h 14), .ref (h 16), .long x, .int und, .int tk, .int sp, .int fd, .int bd, .int ba])), (h 1, .inl (E.2.1, n, .inl bg)), (h 2, .inl (E.2.1, n, .inl (upd dr s (nI w)))), (h 3, .inl (E.2.2.1, n, .inr (.inl (vp_updL oc s (md w))))), (h 4, .inr (5, [.int (nI n), .ref (h 5), .ref (h 6), .ref (h 7), .ref (h 8)])), (h 5, .inl (E.2.2.1, n, .inr (.inl vals))), (h 6, .inl (E.2.1, n, .inl stp)), (h 7, .inl (E.2.1, n, .inl reg)), (h 8, .inl (E.2.2.2, n, .inl lo)), (h 9, .inr (0, [.ref (h 10), .int cnt, .ref (h 11)])), (h 10, .inl (E.2.1, n, .inl bo)), (h 11, .inl (E.2.1, n, .inl rg)), (h 12, .inr (3, [.int fc, .ref (h 13)])), (h 13, .inl (E.2.2.1, 16, .inr (.inl fs))), (h 14, .inr (4, [.ref (h 15), .int fr, .int en])), (h 15, .inl (E.2.1, n, .inl rw)), (h 16, .inr (2, [.ref (h 17), .ref (h 18), .ref (h 19), .int lc, .ref (h 20)])), (h 17, .inl (E.2.1, 16, .inl so)), (h 18, .inl (E.2.1, 16, .inl sm)), (h 19, .inl (E.2.2.1, 16, .inr (.inl md))), (h 20, .inl (E.2.1, 16, .inl lv))] H := hP
  have hD : va_D AM [(h 0, .inr (1, [.ref (h 1), .ref (h 2), .ref (h 3), .ref (h 4), .ref (h 9), .ref (h 12), .ref (h 14), .ref (h 16), .long x, .int und, .int tk, .int sp, .int fd, .int bd, .int ba])), (h 1, .inl (E.2.1, n, .inl bg)), (h 2, .inl (E.2.1, n, .inl (upd dr s (nI w)))), (h 3, .inl (E.2.2.1, n, .inr (.inl (vp_updL oc s (md w))))), (h 4, .inr (5, [.int (nI n), .ref (h 5), .ref (h 6), .ref (h 7), .ref (h 8)])), (h 5, .inl (E.2.2.1, n, .inr (.inl vals))), (h 6, .inl (E.2.1, n, .inl stp)), (h 7, .inl (E.2.1, n, .inl reg)), (h 8, .inl (E.2.2.2, n, .inl lo)), (h 9, .inr (0, [.ref (h 10), .int cnt, .ref (h 11)])), (h 10, .inl (E.2.1, n, .inl bo)), (h 11, .inl (E.2.1, n, .inl rg)), (h 12, .inr (3, [.int fc, .ref (h 13)])), (h 13, .inl (E.2.2.1, 16, .inr (.inl fs))), (h 14, .inr (4, [.ref (h 15), .int fr, .int en])), (h 15, .inl (E.2.1, n, .inl rw)), (h 16, .inr (2, [.ref (h 17), .ref (h 18), .ref (h 19), .int lc, .ref (h 20)])), (h 17, .inl (E.2.1, 16, .inl so)), (h 18, .inl (E.2.1, 16, .inl sm)), (h 19, .inl (E.2.2.1, 16, .inr (.inl md))), (h 20, .inl (E.2.1, 16, .inl lv))] := hD
  refine lv_aload_n hx hb dX1_finish_22 rfl (lv_at hl 0 rfl) ?_
  refine va_get (D := E.1) (ci := 1) (v := .ref (h 16)) (C := RX1) (T := TX1) (N := 15) hx hb hts ux_X1' hown hK.1 hP 0 rfl rfl 7 (by decide) (hts _ (ta_cons _ mw_189)) (fun _ h9 => h9) rfl dX1_finish_23 ?_
  refine va_get (D := E.1) (ci := 2) (v := .ref (h 17)) (C := RX2) (T := TX2) (N := 5) hx hb hts ux_X2' hown hK.1 hP 16 rfl rfl 0 (by decide) (hts _ (ta_cons _ mw_152)) (fun _ h9 => h9) rfl dX1_finish_26 ?_
  refine lv_iload_n hx hb dX1_finish_29 rfl (lv_at hl 1 rfl) ?_
  refine lv_iconst (v := (-1)) hx hb dX1_finish_30 (by decide) ?_
  refine as_i w hx hb hK hP hD hS 17 rfl (by first | assumption | omega) (by decide) dX1_finish_31 (fun H locs hP hD hS => ?_)
  have hP : va_P E.1 classes [(h 0, .inr (1, [.ref (h 1), .ref (h 2), .ref (h 3), .ref (h 4), .ref (h 9), .ref (h 12), .ref (h 14), .ref (h 16), .long x, .int und, .int tk, .int sp, .int fd, .int bd, .int ba])), (h 1, .inl (E.2.1, n, .inl bg)), (h 2, .inl (E.2.1, n, .inl (upd dr s (nI w)))), (h 3, .inl (E.2.2.1, n, .inr (.inl (vp_updL oc s (md w))))), (h 4, .inr (5, [.int (nI n), .ref (h 5), .ref (h 6), .ref (h 7), .ref (h 8)])), (h 5, .inl (E.2.2.1, n, .inr (.inl vals))), (h 6, .inl (E.2.1, n, .inl stp)), (h 7, .inl (E.2.1, n, .inl reg)), (h 8, .inl (E.2.2.2, n, .inl lo)), (h 9, .inr (0, [.ref (h 10), .int cnt, .ref (h 11)])), (h 10, .inl (E.2.1, n, .inl bo)), (h 11, .inl (E.2.1, n, .inl rg)), (h 12, .inr (3, [.int fc, .ref (h 13)])), (h 13, .inl (E.2.2.1, 16, .inr (.inl fs))), (h 14, .inr (4, [.ref (h 15), .int fr, .int en])), (h 15, .inl (E.2.1, n, .inl rw)), (h 16, .inr (2, [.ref (h 17), .ref (h 18), .ref (h 19), .int lc, .ref (h 20)])), (h 17, .inl (E.2.1, 16, .inl (upd so w (-1)))), (h 18, .inl (E.2.1, 16, .inl sm)), (h 19, .inl (E.2.2.1, 16, .inr (.inl md))), (h 20, .inl (E.2.1, 16, .inl lv))] H := hP
  have hD : va_D AM [(h 0, .inr (1, [.ref (h 1), .ref (h 2), .ref (h 3), .ref (h 4), .ref (h 9), .ref (h 12), .ref (h 14), .ref (h 16), .long x, .int und, .int tk, .int sp, .int fd, .int bd, .int ba])), (h 1, .inl (E.2.1, n, .inl bg)), (h 2, .inl (E.2.1, n, .inl (upd dr s (nI w)))), (h 3, .inl (E.2.2.1, n, .inr (.inl (vp_updL oc s (md w))))), (h 4, .inr (5, [.int (nI n), .ref (h 5), .ref (h 6), .ref (h 7), .ref (h 8)])), (h 5, .inl (E.2.2.1, n, .inr (.inl vals))), (h 6, .inl (E.2.1, n, .inl stp)), (h 7, .inl (E.2.1, n, .inl reg)), (h 8, .inl (E.2.2.2, n, .inl lo)), (h 9, .inr (0, [.ref (h 10), .int cnt, .ref (h 11)])), (h 10, .inl (E.2.1, n, .inl bo)), (h 11, .inl (E.2.1, n, .inl rg)), (h 12, .inr (3, [.int fc, .ref (h 13)])), (h 13, .inl (E.2.2.1, 16, .inr (.inl fs))), (h 14, .inr (4, [.ref (h 15), .int fr, .int en])), (h 15, .inl (E.2.1, n, .inl rw)), (h 16, .inr (2, [.ref (h 17), .ref (h 18), .ref (h 19), .int lc, .ref (h 20)])), (h 17, .inl (E.2.1, 16, .inl (upd so w (-1)))), (h 18, .inl (E.2.1, 16, .inl sm)), (h 19, .inl (E.2.2.1, 16, .inr (.inl md))), (h 20, .inl (E.2.1, 16, .inl lv))] := hD
  refine lv_aload_n hx hb dX1_finish_32 rfl (lv_at hl 0 rfl) ?_
  refine lv_dup hx hb dX1_finish_33 rfl ?_
  refine va_get (D := E.1) (ci := 1) (v := .int und) (C := RX1) (T := TX1) (N := 15) hx hb hts ux_X1' hown hK.1 hP 0 rfl rfl 9 (by decide) (hts _ (ta_cons _ mw_191)) (fun _ h9 => h9) rfl dX1_finish_34 ?_
  refine lv_iconst (v := 1) hx hb dX1_finish_37 (by decide) ?_
  refine lv_isub hx hb dX1_finish_38 ?_
  refine va_put (D := E.1) (ci := 1) (v := .int (und - 1)) (ty := .int) (C := RX1) (T := TX1) (N := 15) hx hb hts ux_X1' tyX1 tyX1_ok nmX1 hown hK.1 hP hD hS 0 rfl rfl 9 (by decide) (hts _ (ta_cons _ mw_191)) (fun _ h9 => h9) rfl (by decide +kernel) rfl rfl (Nat.le_of_ble_eq_true rfl) dX1_finish_39 (fun H locs hP hD hS => ?_)
  have hP : va_P E.1 classes [(h 0, .inr (1, [.ref (h 1), .ref (h 2), .ref (h 3), .ref (h 4), .ref (h 9), .ref (h 12), .ref (h 14), .ref (h 16), .long x, .int (und - 1), .int tk, .int sp, .int fd, .int bd, .int ba])), (h 1, .inl (E.2.1, n, .inl bg)), (h 2, .inl (E.2.1, n, .inl (upd dr s (nI w)))), (h 3, .inl (E.2.2.1, n, .inr (.inl (vp_updL oc s (md w))))), (h 4, .inr (5, [.int (nI n), .ref (h 5), .ref (h 6), .ref (h 7), .ref (h 8)])), (h 5, .inl (E.2.2.1, n, .inr (.inl vals))), (h 6, .inl (E.2.1, n, .inl stp)), (h 7, .inl (E.2.1, n, .inl reg)), (h 8, .inl (E.2.2.2, n, .inl lo)), (h 9, .inr (0, [.ref (h 10), .int cnt, .ref (h 11)])), (h 10, .inl (E.2.1, n, .inl bo)), (h 11, .inl (E.2.1, n, .inl rg)), (h 12, .inr (3, [.int fc, .ref (h 13)])), (h 13, .inl (E.2.2.1, 16, .inr (.inl fs))), (h 14, .inr (4, [.ref (h 15), .int fr, .int en])), (h 15, .inl (E.2.1, n, .inl rw)), (h 16, .inr (2, [.ref (h 17), .ref (h 18), .ref (h 19), .int lc, .ref (h 20)])), (h 17, .inl (E.2.1, 16, .inl (upd so w (-1)))), (h 18, .inl (E.2.1, 16, .inl sm)), (h 19, .inl (E.2.2.1, 16, .inr (.inl md))), (h 20, .inl (E.2.1, 16, .inl lv))] H := hP
  have hD : va_D AM [(h 0, .inr (1, [.ref (h 1), .ref (h 2), .ref (h 3), .ref (h 4), .ref (h 9), .ref (h 12), .ref (h 14), .ref (h 16), .long x, .int (und - 1), .int tk, .int sp, .int fd, .int bd, .int ba])), (h 1, .inl (E.2.1, n, .inl bg)), (h 2, .inl (E.2.1, n, .inl (upd dr s (nI w)))), (h 3, .inl (E.2.2.1, n, .inr (.inl (vp_updL oc s (md w))))), (h 4, .inr (5, [.int (nI n), .ref (h 5), .ref (h 6), .ref (h 7), .ref (h 8)])), (h 5, .inl (E.2.2.1, n, .inr (.inl vals))), (h 6, .inl (E.2.1, n, .inl stp)), (h 7, .inl (E.2.1, n, .inl reg)), (h 8, .inl (E.2.2.2, n, .inl lo)), (h 9, .inr (0, [.ref (h 10), .int cnt, .ref (h 11)])), (h 10, .inl (E.2.1, n, .inl bo)), (h 11, .inl (E.2.1, n, .inl rg)), (h 12, .inr (3, [.int fc, .ref (h 13)])), (h 13, .inl (E.2.2.1, 16, .inr (.inl fs))), (h 14, .inr (4, [.ref (h 15), .int fr, .int en])), (h 15, .inl (E.2.1, n, .inl rw)), (h 16, .inr (2, [.ref (h 17), .ref (h 18), .ref (h 19), .int lc, .ref (h 20)])), (h 17, .inl (E.2.1, 16, .inl (upd so w (-1)))), (h 18, .inl (E.2.1, 16, .inl sm)), (h 19, .inl (E.2.2.1, 16, .inr (.inl md))), (h 20, .inl (E.2.1, 16, .inl lv))] := hD
  exact Rv hx hb hr hlocks hP hD hS () [0, 1, 2, 3, 4, 5, 6, 7, 8, 9, 10, 11, 12, 13, 14, 15, 16, 17, 18, 19, 20] rfl rfl (trivial) (Nat.le_of_ble_eq_true rfl) (Nat.le_of_ble_eq_true rfl) dX1_finish_42

set_option maxHeartbeats 4000000 in
set_option maxRecDepth 100000 in
theorem c_break (l : Launch) (E : EE) (h : Nat → Nat) (n : Nat) (bg : Nat → Int32) (dr : Nat → Int32) (oc : Nat → Int64) (x : Int64) (und : Int32) (tk : Int32) (sp : Int32) (fd : Int32) (bd : Int32) (ba : Int32) (bo : Nat → Int32) (rg : Nat → Int32) (cnt : Int32) (fc : Int32) (fs : Nat → Int64) (rw : Nat → Int32) (en : Int32) (so : Nat → Int32) (sm : Nat → Int32) (lv : Nat → Int32) (md : Nat → Int64) (vals : Nat → Int64) (stp : Nat → Int32) (reg : Nat → Int32) (lo : Nat → Int32) (k : Nat) (w : Nat) (s : Nat) (L : Nat) (f : Nat) (hn : n < 2 ^ 31) (hw16 : w < 16) (hk : k ≤ L) (hL : L < 16) (hf : f < n) : Mv (S := Nat → Int32) l E yX1_breakDown (.code yX1_breakDown cX1_breakDown 4 none) ({ frames := 1, cells := 0, slots := 0, locals := 22 }) [.ref (h 0), .int (nI k), .int (nI w), .int (nI s)] [(h 0, .inr (1, [.ref (h 1), .ref (h 2), .ref (h 3), .ref (h 4), .ref (h 9), .ref (h 12), .ref (h 14), .ref (h 16), .long x, .int und, .int tk, .int sp, .int fd, .int bd, .int ba])), (h 1, .inl (E.2.1, n, .inl bg)), (h 2, .inl (E.2.1, n, .inl dr)), (h 3, .inl (E.2.2.1, n, .inr (.inl oc))), (h 4, .inr (5, [.int (nI n), .ref (h 5), .ref (h 6), .ref (h 7), .ref (h 8)])), (h 5, .inl (E.2.2.1, n, .inr (.inl vals))), (h 6, .inl (E.2.1, n, .inl stp)), (h 7, .inl (E.2.1, n, .inl reg)), (h 8, .inl (E.2.2.2, n, .inl lo)), (h 9, .inr (0, [.ref (h 10), .int cnt, .ref (h 11)])), (h 10, .inl (E.2.1, n, .inl bo)), (h 11, .inl (E.2.1, n, .inl rg)), (h 12, .inr (3, [.int fc, .ref (h 13)])), (h 13, .inl (E.2.2.1, 16, .inr (.inl fs))), (h 14, .inr (4, [.ref (h 15), .int (nI (f + 1)), .int en])), (h 15, .inl (E.2.1, n, .inl rw)), (h 16, .inr (2, [.ref (h 17), .ref (h 18), .ref (h 19), .int (nI (L + 1)), .ref (h 20)])), (h 17, .inl (E.2.1, 16, .inl so)), (h 18, .inl (E.2.1, 16, .inl sm)), (h 19, .inl (E.2.2.1, 16, .inr (.inl md))), (h 20, .inl (E.2.1, 16, .inl lv))] (fun u : Nat → Int32 => (∀ j, j < k → u j = lv j) ∧ ∀ j, k ≤ j → j < L → u j = lv (j + 1)) (fun u : Nat → Int32 => [(h 0, .inr (1, [.ref (h 1), .ref (h 2), .ref (h 3), .ref (h 4), .ref (h 9), .ref (h 12), .ref (h 14), .ref (h 16), .long x, .int und, .int tk, .int sp, .int (fd + 1), .int bd, .int ba])), (h 1, .inl (E.2.1, n, .inl bg)), (h 2, .inl (E.2.1, n, .inl dr)), (h 3, .inl (E.2.2.1, n, .inr (.inl oc))), (h 4, .inr (5, [.int (nI n), .ref (h 5), .ref (h 6), .ref (h 7), .ref (h 8)])), (h 5, .inl (E.2.2.1, n, .inr (.inl vals))), (h 6, .inl (E.2.1, n, .inl stp)), (h 7, .inl (E.2.1, n, .inl reg)), (h 8, .inl (E.2.2.2, n, .inl lo)), (h 9, .inr (0, [.ref (h 10), .int cnt, .ref (h 11)])), (h 10, .inl (E.2.1, n, .inl bo)), (h 11, .inl (E.2.1, n, .inl rg)), (h 12, .inr (3, [.int (fc - 1), .ref (h 13)])), (h 13, .inl (E.2.2.1, 16, .inr (.inl (vp_updL fs w (fs w &&& (bitm (nI s) ^^^ (-1))))))), (h 14, .inr (4, [.ref (h 15), .int (nI f), .int en])), (h 15, .inl (E.2.1, n, .inl (upd rw f (nI s)))), (h 16, .inr (2, [.ref (h 17), .ref (h 18), .ref (h 19), .int (nI L), .ref (h 20)])), (h 17, .inl (E.2.1, 16, .inl so)), (h 18, .inl (E.2.1, 16, .inl sm)), (h 19, .inl (E.2.2.1, 16, .inr (.inl md))), (h 20, .inl (E.2.1, 16, .inl u))]) := by
  refine Mv.ofW (by decide) (Nat.le_of_ble_eq_true rfl) ?_
  intro pM eM sM mM bM meM cM AM ls hB hA hP hD hS hl
  obtain ⟨hx, hb, hr, hml, hown, hlocks, hnm, hts, hK⟩ := hB
  have hl : lv_has ls 4 [(0, .ref (h 0)), (1, .int (nI k)), (2, .int (nI w)), (3, .int (nI s))] := hl
  refine lv_aload_n hx hb dX1_breakDown_0 rfl (lv_at hl 0 rfl) ?_
  refine va_get (D := E.1) (ci := 1) (v := .ref (h 12)) (C := RX1) (T := TX1) (N := 15) hx hb hts ux_X1' hown hK.1 hP 0 rfl rfl 5 (by decide) (hts _ (ta_cons _ mw_187)) (fun _ h9 => h9) rfl dX1_breakDown_1 ?_
  refine lv_iload_n hx hb dX1_breakDown_4 rfl (lv_at hl 2 rfl) ?_
  refine lv_iload_n hx hb dX1_breakDown_5 rfl (lv_at hl 3 rfl) ?_
  refine af_v (wc := [(h 12, .inr (3, [.int fc, .ref (h 13)])), (h 13, .inl (E.2.2.1, 16, .inr (.inl fs)))]) (wr := [(h 0, .inr (1, [.ref (h 1), .ref (h 2), .ref (h 3), .ref (h 4), .ref (h 9), .ref (h 12), .ref (h 14), .ref (h 16), .long x, .int und, .int tk, .int sp, .int fd, .int bd, .int ba])), (h 1, .inl (E.2.1, n, .inl bg)), (h 2, .inl (E.2.1, n, .inl dr)), (h 3, .inl (E.2.2.1, n, .inr (.inl oc))), (h 4, .inr (5, [.int (nI n), .ref (h 5), .ref (h 6), .ref (h 7), .ref (h 8)])), (h 5, .inl (E.2.2.1, n, .inr (.inl vals))), (h 6, .inl (E.2.1, n, .inl stp)), (h 7, .inl (E.2.1, n, .inl reg)), (h 8, .inl (E.2.2.2, n, .inl lo)), (h 9, .inr (0, [.ref (h 10), .int cnt, .ref (h 11)])), (h 10, .inl (E.2.1, n, .inl bo)), (h 11, .inl (E.2.1, n, .inl rg)), (h 14, .inr (4, [.ref (h 15), .int (nI (f + 1)), .int en])), (h 15, .inl (E.2.1, n, .inl rw)), (h 16, .inr (2, [.ref (h 17), .ref (h 18), .ref (h 19), .int (nI (L + 1)), .ref (h 20)])), (h 17, .inl (E.2.1, 16, .inl so)), (h 18, .inl (E.2.1, 16, .inl sm)), (h 19, .inl (E.2.2.1, 16, .inr (.inl md))), (h 20, .inl (E.2.1, 16, .inl lv))]) (rn_V (b := h 12) (ci := 3) (As := [.int (nI w), .int (nI s)]) (rest := []) (n := 2) ⟨hx, hb, hml, hown, hts⟩ ta_cons wq_X1_170 (by decide +kernel) hK (c_frem l E (h 12) (h 13) fc fs w (nI s) (hw16) _) ⟨Nat.le_of_ble_eq_true rfl, Nat.le_of_ble_eq_true rfl⟩ hP hD [12, 13] rfl rfl rfl rfl rfl hl.1 rfl (Nat.le_of_ble_eq_true rfl) dX1_breakDown_6 ⟨Nat.le_of_ble_eq_true rfl, Nat.le_of_ble_eq_true rfl⟩) hP hD hS hA [12, 13] [0, 1, 2, 3, 4, 5, 6, 7, 8, 9, 10, 11, 14, 15, 16, 17, 18, 19, 20] rfl rfl rfl (by decide) (fun u_6 H locs hwC hP hD hS => ?_)
  have hP : va_P E.1 classes [(h 0, .inr (1, [.ref (h 1), .ref (h 2), .ref (h 3), .ref (h 4), .ref (h 9), .ref (h 12), .ref (h 14), .ref (h 16), .long x, .int und, .int tk, .int sp, .int fd, .int bd, .int ba])), (h 1, .inl (E.2.1, n, .inl bg)), (h 2, .inl (E.2.1, n, .inl dr)), (h 3, .inl (E.2.2.1, n, .inr (.inl oc))), (h 4, .inr (5, [.int (nI n), .ref (h 5), .ref (h 6), .ref (h 7), .ref (h 8)])), (h 5, .inl (E.2.2.1, n, .inr (.inl vals))), (h 6, .inl (E.2.1, n, .inl stp)), (h 7, .inl (E.2.1, n, .inl reg)), (h 8, .inl (E.2.2.2, n, .inl lo)), (h 9, .inr (0, [.ref (h 10), .int cnt, .ref (h 11)])), (h 10, .inl (E.2.1, n, .inl bo)), (h 11, .inl (E.2.1, n, .inl rg)), (h 14, .inr (4, [.ref (h 15), .int (nI (f + 1)), .int en])), (h 15, .inl (E.2.1, n, .inl rw)), (h 16, .inr (2, [.ref (h 17), .ref (h 18), .ref (h 19), .int (nI (L + 1)), .ref (h 20)])), (h 17, .inl (E.2.1, 16, .inl so)), (h 18, .inl (E.2.1, 16, .inl sm)), (h 19, .inl (E.2.2.1, 16, .inr (.inl md))), (h 20, .inl (E.2.1, 16, .inl lv)), (h 12, .inr (3, [.int (fc - 1), .ref (h 13)])), (h 13, .inl (E.2.2.1, 16, .inr (.inl (vp_updL fs w (fs w &&& (bitm (nI s) ^^^ (-1)))))))] H := hP
  have hD : va_D AM [(h 0, .inr (1, [.ref (h 1), .ref (h 2), .ref (h 3), .ref (h 4), .ref (h 9), .ref (h 12), .ref (h 14), .ref (h 16), .long x, .int und, .int tk, .int sp, .int fd, .int bd, .int ba])), (h 1, .inl (E.2.1, n, .inl bg)), (h 2, .inl (E.2.1, n, .inl dr)), (h 3, .inl (E.2.2.1, n, .inr (.inl oc))), (h 4, .inr (5, [.int (nI n), .ref (h 5), .ref (h 6), .ref (h 7), .ref (h 8)])), (h 5, .inl (E.2.2.1, n, .inr (.inl vals))), (h 6, .inl (E.2.1, n, .inl stp)), (h 7, .inl (E.2.1, n, .inl reg)), (h 8, .inl (E.2.2.2, n, .inl lo)), (h 9, .inr (0, [.ref (h 10), .int cnt, .ref (h 11)])), (h 10, .inl (E.2.1, n, .inl bo)), (h 11, .inl (E.2.1, n, .inl rg)), (h 14, .inr (4, [.ref (h 15), .int (nI (f + 1)), .int en])), (h 15, .inl (E.2.1, n, .inl rw)), (h 16, .inr (2, [.ref (h 17), .ref (h 18), .ref (h 19), .int (nI (L + 1)), .ref (h 20)])), (h 17, .inl (E.2.1, 16, .inl so)), (h 18, .inl (E.2.1, 16, .inl sm)), (h 19, .inl (E.2.2.1, 16, .inr (.inl md))), (h 20, .inl (E.2.1, 16, .inl lv)), (h 12, .inr (3, [.int (fc - 1), .ref (h 13)])), (h 13, .inl (E.2.2.1, 16, .inr (.inl (vp_updL fs w (fs w &&& (bitm (nI s) ^^^ (-1)))))))] := hD
  refine lv_aload_n hx hb dX1_breakDown_9 rfl (lv_at hl 0 rfl) ?_
  refine va_get (D := E.1) (ci := 1) (v := .ref (h 16)) (C := RX1) (T := TX1) (N := 15) hx hb hts ux_X1' hown hK.1 hP 0 rfl rfl 7 (by decide) (hts _ (ta_cons _ mw_189)) (fun _ h9 => h9) rfl dX1_breakDown_10 ?_
  refine lv_iload_n hx hb dX1_breakDown_13 rfl (lv_at hl 1 rfl) ?_
  refine af_v (wc := [(h 16, .inr (2, [.ref (h 17), .ref (h 18), .ref (h 19), .int (nI (L + 1)), .ref (h 20)])), (h 17, .inl (E.2.1, 16, .inl so)), (h 18, .inl (E.2.1, 16, .inl sm)), (h 19, .inl (E.2.2.1, 16, .inr (.inl md))), (h 20, .inl (E.2.1, 16, .inl lv))]) (wr := [(h 0, .inr (1, [.ref (h 1), .ref (h 2), .ref (h 3), .ref (h 4), .ref (h 9), .ref (h 12), .ref (h 14), .ref (h 16), .long x, .int und, .int tk, .int sp, .int fd, .int bd, .int ba])), (h 1, .inl (E.2.1, n, .inl bg)), (h 2, .inl (E.2.1, n, .inl dr)), (h 3, .inl (E.2.2.1, n, .inr (.inl oc))), (h 4, .inr (5, [.int (nI n), .ref (h 5), .ref (h 6), .ref (h 7), .ref (h 8)])), (h 5, .inl (E.2.2.1, n, .inr (.inl vals))), (h 6, .inl (E.2.1, n, .inl stp)), (h 7, .inl (E.2.1, n, .inl reg)), (h 8, .inl (E.2.2.2, n, .inl lo)), (h 9, .inr (0, [.ref (h 10), .int cnt, .ref (h 11)])), (h 10, .inl (E.2.1, n, .inl bo)), (h 11, .inl (E.2.1, n, .inl rg)), (h 14, .inr (4, [.ref (h 15), .int (nI (f + 1)), .int en])), (h 15, .inl (E.2.1, n, .inl rw)), (h 12, .inr (3, [.int (fc - 1), .ref (h 13)])), (h 13, .inl (E.2.2.1, 16, .inr (.inl (vp_updL fs w (fs w &&& (bitm (nI s) ^^^ (-1)))))))]) (rn_V (b := h 16) (ci := 2) (As := [.int (nI k)]) (rest := []) (n := 1) ⟨hx, hb, hml, hown, hts⟩ ta_cons wq_X1_173 (by decide +kernel) hK (c_drop l E (h 16) (h 17) (h 18) (h 19) (h 20) so sm lv md k L (hk) (hL) _) ⟨Nat.le_of_ble_eq_true rfl, Nat.le_of_ble_eq_true rfl⟩ hP hD [14, 15, 16, 17, 18] rfl rfl rfl rfl rfl hl.1 rfl (Nat.le_of_ble_eq_true rfl) dX1_breakDown_14 ⟨Nat.le_of_ble_eq_true rfl, Nat.le_of_ble_eq_true rfl⟩) hP hD hS hA [14, 15, 16, 17, 18] [0, 1, 2, 3, 4, 5, 6, 7, 8, 9, 10, 11, 12, 13, 19, 20] rfl rfl rfl (by decide) (fun u_14 H locs hwC hP hD hS => ?_)
  have hP : va_P E.1 classes [(h 0, .inr (1, [.ref (h 1), .ref (h 2), .ref (h 3), .ref (h 4), .ref (h 9), .ref (h 12), .ref (h 14), .ref (h 16), .long x, .int und, .int tk, .int sp, .int fd, .int bd, .int ba])), (h 1, .inl (E.2.1, n, .inl bg)), (h 2, .inl (E.2.1, n, .inl dr)), (h 3, .inl (E.2.2.1, n, .inr (.inl oc))), (h 4, .inr (5, [.int (nI n), .ref (h 5), .ref (h 6), .ref (h 7), .ref (h 8)])), (h 5, .inl (E.2.2.1, n, .inr (.inl vals))), (h 6, .inl (E.2.1, n, .inl stp)), (h 7, .inl (E.2.1, n, .inl reg)), (h 8, .inl (E.2.2.2, n, .inl lo)), (h 9, .inr (0, [.ref (h 10), .int cnt, .ref (h 11)])), (h 10, .inl (E.2.1, n, .inl bo)), (h 11, .inl (E.2.1, n, .inl rg)), (h 14, .inr (4, [.ref (h 15), .int (nI (f + 1)), .int en])), (h 15, .inl (E.2.1, n, .inl rw)), (h 12, .inr (3, [.int (fc - 1), .ref (h 13)])), (h 13, .inl (E.2.2.1, 16, .inr (.inl (vp_updL fs w (fs w &&& (bitm (nI s) ^^^ (-1))))))), (h 16, .inr (2, [.ref (h 17), .ref (h 18), .ref (h 19), .int (nI L), .ref (h 20)])), (h 17, .inl (E.2.1, 16, .inl so)), (h 18, .inl (E.2.1, 16, .inl sm)), (h 19, .inl (E.2.2.1, 16, .inr (.inl md))), (h 20, .inl (E.2.1, 16, .inl u_14))] H := hP
  have hD : va_D AM [(h 0, .inr (1, [.ref (h 1), .ref (h 2), .ref (h 3), .ref (h 4), .ref (h 9), .ref (h 12), .ref (h 14), .ref (h 16), .long x, .int und, .int tk, .int sp, .int fd, .int bd, .int ba])), (h 1, .inl (E.2.1, n, .inl bg)), (h 2, .inl (E.2.1, n, .inl dr)), (h 3, .inl (E.2.2.1, n, .inr (.inl oc))), (h 4, .inr (5, [.int (nI n), .ref (h 5), .ref (h 6), .ref (h 7), .ref (h 8)])), (h 5, .inl (E.2.2.1, n, .inr (.inl vals))), (h 6, .inl (E.2.1, n, .inl stp)), (h 7, .inl (E.2.1, n, .inl reg)), (h 8, .inl (E.2.2.2, n, .inl lo)), (h 9, .inr (0, [.ref (h 10), .int cnt, .ref (h 11)])), (h 10, .inl (E.2.1, n, .inl bo)), (h 11, .inl (E.2.1, n, .inl rg)), (h 14, .inr (4, [.ref (h 15), .int (nI (f + 1)), .int en])), (h 15, .inl (E.2.1, n, .inl rw)), (h 12, .inr (3, [.int (fc - 1), .ref (h 13)])), (h 13, .inl (E.2.2.1, 16, .inr (.inl (vp_updL fs w (fs w &&& (bitm (nI s) ^^^ (-1))))))), (h 16, .inr (2, [.ref (h 17), .ref (h 18), .ref (h 19), .int (nI L), .ref (h 20)])), (h 17, .inl (E.2.1, 16, .inl so)), (h 18, .inl (E.2.1, 16, .inl sm)), (h 19, .inl (E.2.2.1, 16, .inr (.inl md))), (h 20, .inl (E.2.1, 16, .inl u_14))] := hD
  have hdr := hwC
  refine lv_aload_n hx hb dX1_breakDown_17 rfl (lv_at hl 0 rfl) ?_
  refine lv_dup hx hb dX1_breakDown_18 rfl ?_
  refine va_get (D := E.1) (ci := 1) (v := .int fd) (C := RX1) (T := TX1) (N := 15) hx hb hts ux_X1' hown hK.1 hP 0 rfl rfl 12 (by decide) (hts _ (ta_cons _ mw_194)) (fun _ h9 => h9) rfl dX1_breakDown_19 ?_
  refine lv_iconst (v := 1) hx hb dX1_breakDown_22 (by decide) ?_
  refine lv_iadd hx hb dX1_breakDown_23 ?_
  refine va_put (D := E.1) (ci := 1) (v := .int (fd + 1)) (ty := .int) (C := RX1) (T := TX1) (N := 15) hx hb hts ux_X1' tyX1 tyX1_ok nmX1 hown hK.1 hP hD hS 0 rfl rfl 12 (by decide) (hts _ (ta_cons _ mw_194)) (fun _ h9 => h9) rfl (by decide +kernel) rfl rfl (Nat.le_of_ble_eq_true rfl) dX1_breakDown_24 (fun H locs hP hD hS => ?_)
  have hP : va_P E.1 classes [(h 0, .inr (1, [.ref (h 1), .ref (h 2), .ref (h 3), .ref (h 4), .ref (h 9), .ref (h 12), .ref (h 14), .ref (h 16), .long x, .int und, .int tk, .int sp, .int (fd + 1), .int bd, .int ba])), (h 1, .inl (E.2.1, n, .inl bg)), (h 2, .inl (E.2.1, n, .inl dr)), (h 3, .inl (E.2.2.1, n, .inr (.inl oc))), (h 4, .inr (5, [.int (nI n), .ref (h 5), .ref (h 6), .ref (h 7), .ref (h 8)])), (h 5, .inl (E.2.2.1, n, .inr (.inl vals))), (h 6, .inl (E.2.1, n, .inl stp)), (h 7, .inl (E.2.1, n, .inl reg)), (h 8, .inl (E.2.2.2, n, .inl lo)), (h 9, .inr (0, [.ref (h 10), .int cnt, .ref (h 11)])), (h 10, .inl (E.2.1, n, .inl bo)), (h 11, .inl (E.2.1, n, .inl rg)), (h 14, .inr (4, [.ref (h 15), .int (nI (f + 1)), .int en])), (h 15, .inl (E.2.1, n, .inl rw)), (h 12, .inr (3, [.int (fc - 1), .ref (h 13)])), (h 13, .inl (E.2.2.1, 16, .inr (.inl (vp_updL fs w (fs w &&& (bitm (nI s) ^^^ (-1))))))), (h 16, .inr (2, [.ref (h 17), .ref (h 18), .ref (h 19), .int (nI L), .ref (h 20)])), (h 17, .inl (E.2.1, 16, .inl so)), (h 18, .inl (E.2.1, 16, .inl sm)), (h 19, .inl (E.2.2.1, 16, .inr (.inl md))), (h 20, .inl (E.2.1, 16, .inl u_14))] H := hP
  have hD : va_D AM [(h 0, .inr (1, [.ref (h 1), .ref (h 2), .ref (h 3), .ref (h 4), .ref (h 9), .ref (h 12), .ref (h 14), .ref (h 16), .long x, .int und, .int tk, .int sp, .int (fd + 1), .int bd, .int ba])), (h 1, .inl (E.2.1, n, .inl bg)), (h 2, .inl (E.2.1, n, .inl dr)), (h 3, .inl (E.2.2.1, n, .inr (.inl oc))), (h 4, .inr (5, [.int (nI n), .ref (h 5), .ref (h 6), .ref (h 7), .ref (h 8)])), (h 5, .inl (E.2.2.1, n, .inr (.inl vals))), (h 6, .inl (E.2.1, n, .inl stp)), (h 7, .inl (E.2.1, n, .inl reg)), (h 8, .inl (E.2.2.2, n, .inl lo)), (h 9, .inr (0, [.ref (h 10), .int cnt, .ref (h 11)])), (h 10, .inl (E.2.1, n, .inl bo)), (h 11, .inl (E.2.1, n, .inl rg)), (h 14, .inr (4, [.ref (h 15), .int (nI (f + 1)), .int en])), (h 15, .inl (E.2.1, n, .inl rw)), (h 12, .inr (3, [.int (fc - 1), .ref (h 13)])), (h 13, .inl (E.2.2.1, 16, .inr (.inl (vp_updL fs w (fs w &&& (bitm (nI s) ^^^ (-1))))))), (h 16, .inr (2, [.ref (h 17), .ref (h 18), .ref (h 19), .int (nI L), .ref (h 20)])), (h 17, .inl (E.2.1, 16, .inl so)), (h 18, .inl (E.2.1, 16, .inl sm)), (h 19, .inl (E.2.2.1, 16, .inr (.inl md))), (h 20, .inl (E.2.1, 16, .inl u_14))] := hD
  refine lv_aload_n hx hb dX1_breakDown_27 rfl (lv_at hl 0 rfl) ?_
  refine va_get (D := E.1) (ci := 1) (v := .ref (h 14)) (C := RX1) (T := TX1) (N := 15) hx hb hts ux_X1' hown hK.1 hP 0 rfl rfl 6 (by decide) (hts _ (ta_cons _ mw_188)) (fun _ h9 => h9) rfl dX1_breakDown_28 ?_
  refine lv_iload_n hx hb dX1_breakDown_31 rfl (lv_at hl 3 rfl) ?_
  refine af_v (wc := [(h 14, .inr (4, [.ref (h 15), .int (nI (f + 1)), .int en])), (h 15, .inl (E.2.1, n, .inl rw))]) (wr := [(h 0, .inr (1, [.ref (h 1), .ref (h 2), .ref (h 3), .ref (h 4), .ref (h 9), .ref (h 12), .ref (h 14), .ref (h 16), .long x, .int und, .int tk, .int sp, .int (fd + 1), .int bd, .int ba])), (h 1, .inl (E.2.1, n, .inl bg)), (h 2, .inl (E.2.1, n, .inl dr)), (h 3, .inl (E.2.2.1, n, .inr (.inl oc))), (h 4, .inr (5, [.int (nI n), .ref (h 5), .ref (h 6), .ref (h 7), .ref (h 8)])), (h 5, .inl (E.2.2.1, n, .inr (.inl vals))), (h 6, .inl (E.2.1, n, .inl stp)), (h 7, .inl (E.2.1, n, .inl reg)), (h 8, .inl (E.2.2.2, n, .inl lo)), (h 9, .inr (0, [.ref (h 10), .int cnt, .ref (h 11)])), (h 10, .inl (E.2.1, n, .inl bo)), (h 11, .inl (E.2.1, n, .inl rg)), (h 12, .inr (3, [.int (fc - 1), .ref (h 13)])), (h 13, .inl (E.2.2.1, 16, .inr (.inl (vp_updL fs w (fs w &&& (bitm (nI s) ^^^ (-1))))))), (h 16, .inr (2, [.ref (h 17), .ref (h 18), .ref (h 19), .int (nI L), .ref (h 20)])), (h 17, .inl (E.2.1, 16, .inl so)), (h 18, .inl (E.2.1, 16, .inl sm)), (h 19, .inl (E.2.2.1, 16, .inr (.inl md))), (h 20, .inl (E.2.1, 16, .inl u_14))]) (rn_V (b := h 14) (ci := 4) (As := [.int (nI s)]) (rest := []) (n := 1) ⟨hx, hb, hml, hown, hts⟩ ta_cons wq_X1_176 (by decide +kernel) hK (c_put1 l E n (h 14) (h 15) f en (nI s) rw (hn) (hf) _) ⟨Nat.le_of_ble_eq_true rfl, Nat.le_of_ble_eq_true rfl⟩ hP hD [12, 13] rfl rfl rfl rfl rfl hl.1 rfl (Nat.le_of_ble_eq_true rfl) dX1_breakDown_32 ⟨Nat.le_of_ble_eq_true rfl, Nat.le_of_ble_eq_true rfl⟩) hP hD hS hA [12, 13] [0, 1, 2, 3, 4, 5, 6, 7, 8, 9, 10, 11, 14, 15, 16, 17, 18, 19, 20] rfl rfl rfl (by decide) (fun u_32 H locs hwC hP hD hS => ?_)
  have hP : va_P E.1 classes [(h 0, .inr (1, [.ref (h 1), .ref (h 2), .ref (h 3), .ref (h 4), .ref (h 9), .ref (h 12), .ref (h 14), .ref (h 16), .long x, .int und, .int tk, .int sp, .int (fd + 1), .int bd, .int ba])), (h 1, .inl (E.2.1, n, .inl bg)), (h 2, .inl (E.2.1, n, .inl dr)), (h 3, .inl (E.2.2.1, n, .inr (.inl oc))), (h 4, .inr (5, [.int (nI n), .ref (h 5), .ref (h 6), .ref (h 7), .ref (h 8)])), (h 5, .inl (E.2.2.1, n, .inr (.inl vals))), (h 6, .inl (E.2.1, n, .inl stp)), (h 7, .inl (E.2.1, n, .inl reg)), (h 8, .inl (E.2.2.2, n, .inl lo)), (h 9, .inr (0, [.ref (h 10), .int cnt, .ref (h 11)])), (h 10, .inl (E.2.1, n, .inl bo)), (h 11, .inl (E.2.1, n, .inl rg)), (h 12, .inr (3, [.int (fc - 1), .ref (h 13)])), (h 13, .inl (E.2.2.1, 16, .inr (.inl (vp_updL fs w (fs w &&& (bitm (nI s) ^^^ (-1))))))), (h 16, .inr (2, [.ref (h 17), .ref (h 18), .ref (h 19), .int (nI L), .ref (h 20)])), (h 17, .inl (E.2.1, 16, .inl so)), (h 18, .inl (E.2.1, 16, .inl sm)), (h 19, .inl (E.2.2.1, 16, .inr (.inl md))), (h 20, .inl (E.2.1, 16, .inl u_14)), (h 14, .inr (4, [.ref (h 15), .int (nI f), .int en])), (h 15, .inl (E.2.1, n, .inl (upd rw f (nI s))))] H := hP
  have hD : va_D AM [(h 0, .inr (1, [.ref (h 1), .ref (h 2), .ref (h 3), .ref (h 4), .ref (h 9), .ref (h 12), .ref (h 14), .ref (h 16), .long x, .int und, .int tk, .int sp, .int (fd + 1), .int bd, .int ba])), (h 1, .inl (E.2.1, n, .inl bg)), (h 2, .inl (E.2.1, n, .inl dr)), (h 3, .inl (E.2.2.1, n, .inr (.inl oc))), (h 4, .inr (5, [.int (nI n), .ref (h 5), .ref (h 6), .ref (h 7), .ref (h 8)])), (h 5, .inl (E.2.2.1, n, .inr (.inl vals))), (h 6, .inl (E.2.1, n, .inl stp)), (h 7, .inl (E.2.1, n, .inl reg)), (h 8, .inl (E.2.2.2, n, .inl lo)), (h 9, .inr (0, [.ref (h 10), .int cnt, .ref (h 11)])), (h 10, .inl (E.2.1, n, .inl bo)), (h 11, .inl (E.2.1, n, .inl rg)), (h 12, .inr (3, [.int (fc - 1), .ref (h 13)])), (h 13, .inl (E.2.2.1, 16, .inr (.inl (vp_updL fs w (fs w &&& (bitm (nI s) ^^^ (-1))))))), (h 16, .inr (2, [.ref (h 17), .ref (h 18), .ref (h 19), .int (nI L), .ref (h 20)])), (h 17, .inl (E.2.1, 16, .inl so)), (h 18, .inl (E.2.1, 16, .inl sm)), (h 19, .inl (E.2.2.1, 16, .inr (.inl md))), (h 20, .inl (E.2.1, 16, .inl u_14)), (h 14, .inr (4, [.ref (h 15), .int (nI f), .int en])), (h 15, .inl (E.2.1, n, .inl (upd rw f (nI s))))] := hD
  exact Rv hx hb hr hlocks hP hD hS u_14 [0, 1, 2, 3, 4, 5, 6, 7, 8, 9, 10, 11, 12, 13, 19, 20, 14, 15, 16, 17, 18] rfl rfl (hdr) (Nat.le_of_ble_eq_true rfl) (Nat.le_of_ble_eq_true rfl) dX1_breakDown_35
end
section
set_option maxHeartbeats 4000000 in
set_option maxRecDepth 100000 in
theorem c_act_idle (l : Launch) (E : EE) (h : Nat → Nat) (n : Nat) (bg : Nat → Int32) (dr : Nat → Int32) (oc : Nat → Int64) (x : Int64) (und : Int32) (tk : Int32) (sp : Int32) (fd : Int32) (bd : Int32) (ba : Int32) (bo : Nat → Int32) (rg : Nat → Int32) (cnt : Int32) (fc : Int32) (fs : Nat → Int64) (rw : Nat → Int32) (lc : Int32) (so : Nat → Int32) (sm : Nat → Int32) (lv : Nat → Int32) (md : Nat → Int64) (vals : Nat → Int64) (stp : Nat → Int32) (reg : Nat → Int32) (lo : Nat → Int32) (k : Nat) (w : Nat) (f : Nat) (g : Nat) (hn : n < 2 ^ 31) (hk : k < 16) (hlv : lv k = nI w) (hw16 : w < 16) (hso : so w = -1) (hf : f < 2 ^ 31) (hg : g ≤ f) : Mv (S := Unit) l E yX1_act (.code yX1_act cX1_act 5 none) ({ frames := 3, cells := 0, slots := 0, locals := 68 }) [.ref (h 0), .int (nI k)] [(h 0, .inr (1, [.ref (h 1), .ref (h 2), .ref (h 3), .ref (h 4), .ref (h 9), .ref (h 12), .ref (h 14), .ref (h 16), .long x, .int und, .int tk, .int sp, .int fd, .int bd, .int ba])), (h 1, .inl (E.2.1, n, .inl bg)), (h 2, .inl (E.2.1, n, .inl dr)), (h 3, .inl (E.2.2.1, n, .inr (.inl oc))), (h 4, .inr (5, [.int (nI n), .ref (h 5), .ref (h 6), .ref (h 7), .ref (h 8)])), (h 5, .inl (E.2.2.1, n, .inr (.inl vals))), (h 6, .inl (E.2.1, n, .inl stp)), (h 7, .inl (E.2.1, n, .inl reg)), (h 8, .inl (E.2.2.2, n, .inl lo)), (h 9, .inr (0, [.ref (h 10), .int cnt, .ref (h 11)])), (h 10, .inl (E.2.1, n, .inl bo)), (h 11, .inl (E.2.1, n, .inl rg)), (h 12, .inr (3, [.int fc, .ref (h 13)])), (h 13, .inl (E.2.2.1, 16, .inr (.inl fs))), (h 14, .inr (4, [.ref (h 15), .int (nI f), .int (nI g)])), (h 15, .inl (E.2.1, n, .inl rw)), (h 16, .inr (2, [.ref (h 17), .ref (h 18), .ref (h 19), .int lc, .ref (h 20)])), (h 17, .inl (E.2.1, 16, .inl so)), (h 18, .inl (E.2.1, 16, .inl sm)), (h 19, .inl (E.2.2.1, 16, .inr (.inl md))), (h 20, .inl (E.2.1, 16, .inl lv))] (fun _ : Unit => True) (fun u : Unit => [(h 0, .inr (1, [.ref (h 1), .ref (h 2), .ref (h 3), .ref (h 4), .ref (h 9), .ref (h 12), .ref (h 14), .ref (h 16), .long x, .int und, .int tk, .int sp, .int fd, .int bd, .int ba])), (h 1, .inl (E.2.1, n, .inl bg)), (h 2, .inl (E.2.1, n, .inl dr)), (h 3, .inl (E.2.2.1, n, .inr (.inl oc))), (h 4, .inr (5, [.int (nI n), .ref (h 5), .ref (h 6), .ref (h 7), .ref (h 8)])), (h 5, .inl (E.2.2.1, n, .inr (.inl vals))), (h 6, .inl (E.2.1, n, .inl stp)), (h 7, .inl (E.2.1, n, .inl reg)), (h 8, .inl (E.2.2.2, n, .inl lo)), (h 9, .inr (0, [.ref (h 10), .int cnt, .ref (h 11)])), (h 10, .inl (E.2.1, n, .inl bo)), (h 11, .inl (E.2.1, n, .inl rg)), (h 12, .inr (3, [.int fc, .ref (h 13)])), (h 13, .inl (E.2.2.1, 16, .inr (.inl fs))), (h 14, .inr (4, [.ref (h 15), .int (nI f), .int (nI g)])), (h 15, .inl (E.2.1, n, .inl rw)), (h 16, .inr (2, [.ref (h 17), .ref (h 18), .ref (h 19), .int lc, .ref (h 20)])), (h 17, .inl (E.2.1, 16, .inl so)), (h 18, .inl (E.2.1, 16, .inl sm)), (h 19, .inl (E.2.2.1, 16, .inr (.inl md))), (h 20, .inl (E.2.1, 16, .inl lv))]) := by
  refine Mv.ofW (by decide) (Nat.le_of_ble_eq_true rfl) ?_
  intro pM eM sM mM bM meM cM AM ls hB hA hP hD hS hl
  obtain ⟨hx, hb, hr, hml, hown, hlocks, hnm, hts, hK⟩ := hB
  have hl : lv_has ls 5 [(0, .ref (h 0)), (1, .int (nI k))] := hl
  refine lv_aload_n hx hb dX1_act_0 rfl (lv_at hl 0 rfl) ?_
  refine va_get (D := E.1) (ci := 1) (v := .ref (h 16)) (C := RX1) (T := TX1) (N := 15) hx hb hts ux_X1' hown hK.1 hP 0 rfl rfl 7 (by decide) (hts _ (ta_cons _ mw_189)) (fun _ h9 => h9) rfl dX1_act_1 ?_
  refine lv_iload_n hx hb dX1_act_4 rfl (lv_at hl 1 rfl) ?_
  refine af_i (wc := [(h 16, .inr (2, [.ref (h 17), .ref (h 18), .ref (h 19), .int lc, .ref (h 20)])), (h 17, .inl (E.2.1, 16, .inl so)), (h 18, .inl (E.2.1, 16, .inl sm)), (h 19, .inl (E.2.2.1, 16, .inr (.inl md))), (h 20, .inl (E.2.1, 16, .inl lv))]) (wr := [(h 0, .inr (1, [.ref (h 1), .ref (h 2), .ref (h 3), .ref (h 4), .ref (h 9), .ref (h 12), .ref (h 14), .ref (h 16), .long x, .int und, .int tk, .int sp, .int fd, .int bd, .int ba])), (h 1, .inl (E.2.1, n, .inl bg)), (h 2, .inl (E.2.1, n, .inl dr)), (h 3, .inl (E.2.2.1, n, .inr (.inl oc))), (h 4, .inr (5, [.int (nI n), .ref (h 5), .ref (h 6), .ref (h 7), .ref (h 8)])), (h 5, .inl (E.2.2.1, n, .inr (.inl vals))), (h 6, .inl (E.2.1, n, .inl stp)), (h 7, .inl (E.2.1, n, .inl reg)), (h 8, .inl (E.2.2.2, n, .inl lo)), (h 9, .inr (0, [.ref (h 10), .int cnt, .ref (h 11)])), (h 10, .inl (E.2.1, n, .inl bo)), (h 11, .inl (E.2.1, n, .inl rg)), (h 12, .inr (3, [.int fc, .ref (h 13)])), (h 13, .inl (E.2.2.1, 16, .inr (.inl fs))), (h 14, .inr (4, [.ref (h 15), .int (nI f), .int (nI g)])), (h 15, .inl (E.2.1, n, .inl rw))]) (rn_V (b := h 16) (ci := 2) (As := [.int (nI k)]) (rest := []) (n := 1) ⟨hx, hb, hml, hown, hts⟩ ta_cons wq_X1_120 (by decide +kernel) hK (c_liveAt l E (h 16) (h 17) (h 18) (h 19) (h 20) lc so sm lv md k (hk) _) ⟨Nat.le_of_ble_eq_true rfl, Nat.le_of_ble_eq_true rfl⟩ hP hD [16, 17, 18, 19, 20] rfl rfl rfl rfl rfl hl.1 rfl (Nat.le_of_ble_eq_true rfl) dX1_act_5 ⟨Nat.le_of_ble_eq_true rfl, Nat.le_of_ble_eq_true rfl⟩) hP hD hS hA [16, 17, 18, 19, 20] [0, 1, 2, 3, 4, 5, 6, 7, 8, 9, 10, 11, 12, 13, 14, 15] rfl rfl rfl (by decide) (fun r_5 u_5 H locs hwC hP hD hS => ?_)
  subst hwC
  have hP : va_P E.1 classes [(h 0, .inr (1, [.ref (h 1), .ref (h 2), .ref (h 3), .ref (h 4), .ref (h 9), .ref (h 12), .ref (h 14), .ref (h 16), .long x, .int und, .int tk, .int sp, .int fd, .int bd, .int ba])), (h 1, .inl (E.2.1, n, .inl bg)), (h 2, .inl (E.2.1, n, .inl dr)), (h 3, .inl (E.2.2.1, n, .inr (.inl oc))), (h 4, .inr (5, [.int (nI n), .ref (h 5), .ref (h 6), .ref (h 7), .ref (h 8)])), (h 5, .inl (E.2.2.1, n, .inr (.inl vals))), (h 6, .inl (E.2.1, n, .inl stp)), (h 7, .inl (E.2.1, n, .inl reg)), (h 8, .inl (E.2.2.2, n, .inl lo)), (h 9, .inr (0, [.ref (h 10), .int cnt, .ref (h 11)])), (h 10, .inl (E.2.1, n, .inl bo)), (h 11, .inl (E.2.1, n, .inl rg)), (h 12, .inr (3, [.int fc, .ref (h 13)])), (h 13, .inl (E.2.2.1, 16, .inr (.inl fs))), (h 14, .inr (4, [.ref (h 15), .int (nI f), .int (nI g)])), (h 15, .inl (E.2.1, n, .inl rw)), (h 16, .inr (2, [.ref (h 17), .ref (h 18), .ref (h 19), .int lc, .ref (h 20)])), (h 17, .inl (E.2.1, 16, .inl so)), (h 18, .inl (E.2.1, 16, .inl sm)), (h 19, .inl (E.2.2.1, 16, .inr (.inl md))), (h 20, .inl (E.2.1, 16, .inl lv))] H := hP
  have hD : va_D AM [(h 0, .inr (1, [.ref (h 1), .ref (h 2), .ref (h 3), .ref (h 4), .ref (h 9), .ref (h 12), .ref (h 14), .ref (h 16), .long x, .int und, .int tk, .int sp, .int fd, .int bd, .int ba])), (h 1, .inl (E.2.1, n, .inl bg)), (h 2, .inl (E.2.1, n, .inl dr)), (h 3, .inl (E.2.2.1, n, .inr (.inl oc))), (h 4, .inr (5, [.int (nI n), .ref (h 5), .ref (h 6), .ref (h 7), .ref (h 8)])), (h 5, .inl (E.2.2.1, n, .inr (.inl vals))), (h 6, .inl (E.2.1, n, .inl stp)), (h 7, .inl (E.2.1, n, .inl reg)), (h 8, .inl (E.2.2.2, n, .inl lo)), (h 9, .inr (0, [.ref (h 10), .int cnt, .ref (h 11)])), (h 10, .inl (E.2.1, n, .inl bo)), (h 11, .inl (E.2.1, n, .inl rg)), (h 12, .inr (3, [.int fc, .ref (h 13)])), (h 13, .inl (E.2.2.1, 16, .inr (.inl fs))), (h 14, .inr (4, [.ref (h 15), .int (nI f), .int (nI g)])), (h 15, .inl (E.2.1, n, .inl rw)), (h 16, .inr (2, [.ref (h 17), .ref (h 18), .ref (h 19), .int lc, .ref (h 20)])), (h 17, .inl (E.2.1, 16, .inl so)), (h 18, .inl (E.2.1, 16, .inl sm)), (h 19, .inl (E.2.2.1, 16, .inr (.inl md))), (h 20, .inl (E.2.1, 16, .inl lv))] := hD
  refine tp_i (y := nI w) (hlv) ?_
  refine lv_istore_n (lv' := [(2, .int (nI w)), (0, .ref (h 0)), (1, .int (nI k))]) hx hb dX1_act_8 rfl hl (by decide) rfl (fun ls hl => ?_)
  refine lv_aload_n hx hb dX1_act_9 rfl (lv_at hl 1 rfl) ?_
  refine va_get (D := E.1) (ci := 1) (v := .ref (h 16)) (C := RX1) (T := TX1) (N := 15) hx hb hts ux_X1' hown hK.1 hP 0 rfl rfl 7 (by decide) (hts _ (ta_cons _ mw_189)) (fun _ h9 => h9) rfl dX1_act_10 ?_
  refine va_get (D := E.1) (ci := 2) (v := .ref (h 17)) (C := RX2) (T := TX2) (N := 5) hx hb hts ux_X2' hown hK.1 hP 16 rfl rfl 0 (by decide) (hts _ (ta_cons _ mw_152)) (fun _ h9 => h9) rfl dX1_act_13 ?_
  refine lv_iload_n hx hb dX1_act_16 rfl (lv_at hl 0 rfl) ?_
  refine ia_i w hx hb hK hP 17 rfl (by first | assumption | omega) (by decide) dX1_act_17 ?_
  refine tp_i (y := (-1)) (hso) ?_
  refine lv_istore_n (lv' := [(3, .int (-1)), (2, .int (nI w)), (0, .ref (h 0)), (1, .int (nI k))]) hx hb dX1_act_18 rfl hl (by decide) rfl (fun ls hl => ?_)
  refine lv_iload_n hx hb dX1_act_19 rfl (lv_at hl 0 rfl) ?_
  refine lv_iconst (v := (-1)) hx hb dX1_act_20 (by decide) ?_
  refine lv_icmp_ne (tgt := 30) hx hb dX1_act_21 (by decide) (fun c_21 => ?_) (fun c_21 => ?_)
  · exact absurd rfl c_21
  · refine lv_aload_n hx hb dX1_act_24 rfl (lv_at hl 2 rfl) ?_
    refine lv_iload_n hx hb dX1_act_25 rfl (lv_at hl 1 rfl) ?_
    refine af_v (wc := [(h 0, .inr (1, [.ref (h 1), .ref (h 2), .ref (h 3), .ref (h 4), .ref (h 9), .ref (h 12), .ref (h 14), .ref (h 16), .long x, .int und, .int tk, .int sp, .int fd, .int bd, .int ba])), (h 1, .inl (E.2.1, n, .inl bg)), (h 2, .inl (E.2.1, n, .inl dr)), (h 3, .inl (E.2.2.1, n, .inr (.inl oc))), (h 4, .inr (5, [.int (nI n), .ref (h 5), .ref (h 6), .ref (h 7), .ref (h 8)])), (h 5, .inl (E.2.2.1, n, .inr (.inl vals))), (h 6, .inl (E.2.1, n, .inl stp)), (h 7, .inl (E.2.1, n, .inl reg)), (h 8, .inl (E.2.2.2, n, .inl lo)), (h 9, .inr (0, [.ref (h 10), .int cnt, .ref (h 11)])), (h 10, .inl (E.2.1, n, .inl bo)), (h 11, .inl (E.2.1, n, .inl rg)), (h 12, .inr (3, [.int fc, .ref (h 13)])), (h 13, .inl (E.2.2.1, 16, .inr (.inl fs))), (h 14, .inr (4, [.ref (h 15), .int (nI f), .int (nI g)])), (h 15, .inl (E.2.1, n, .inl rw)), (h 16, .inr (2, [.ref (h 17), .ref (h 18), .ref (h 19), .int lc, .ref (h 20)])), (h 17, .inl (E.2.1, 16, .inl so)), (h 18, .inl (E.2.1, 16, .inl sm)), (h 19, .inl (E.2.2.1, 16, .inr (.inl md))), (h 20, .inl (E.2.1, 16, .inl lv))]) (wr := []) (rn_V (b := h 0) (ci := 1) (As := [.int (nI w)]) (rest := []) (n := 1) ⟨hx, hb, hml, hown, hts⟩ ta_cons wq_X1_126 (by decide +kernel) hK (c_begin0 l E h n bg dr oc x und tk sp fd bd ba bo rg cnt fc fs rw lc so sm lv md vals stp reg lo w f g (hf) (hg) _) ⟨Nat.le_of_ble_eq_true rfl, Nat.le_of_ble_eq_true rfl⟩ hP hD [0, 1, 2, 3, 4, 5, 6, 7, 8, 9, 10, 11, 12, 13, 14, 15, 16, 17, 18, 19, 20] rfl rfl rfl rfl rfl hl.1 rfl (Nat.le_of_ble_eq_true rfl) dX1_act_26 ⟨Nat.le_of_ble_eq_true rfl, Nat.le_of_ble_eq_true rfl⟩) hP hD hS hA [0, 1, 2, 3, 4, 5, 6, 7, 8, 9, 10, 11, 12, 13, 14, 15, 16, 17, 18, 19, 20] [] rfl rfl rfl (by decide) (fun u_26 H locs hwC hP hD hS => ?_)
    have hP : va_P E.1 classes [(h 0, .inr (1, [.ref (h 1), .ref (h 2), .ref (h 3), .ref (h 4), .ref (h 9), .ref (h 12), .ref (h 14), .ref (h 16), .long x, .int und, .int tk, .int sp, .int fd, .int bd, .int ba])), (h 1, .inl (E.2.1, n, .inl bg)), (h 2, .inl (E.2.1, n, .inl dr)), (h 3, .inl (E.2.2.1, n, .inr (.inl oc))), (h 4, .inr (5, [.int (nI n), .ref (h 5), .ref (h 6), .ref (h 7), .ref (h 8)])), (h 5, .inl (E.2.2.1, n, .inr (.inl vals))), (h 6, .inl (E.2.1, n, .inl stp)), (h 7, .inl (E.2.1, n, .inl reg)), (h 8, .inl (E.2.2.2, n, .inl lo)), (h 9, .inr (0, [.ref (h 10), .int cnt, .ref (h 11)])), (h 10, .inl (E.2.1, n, .inl bo)), (h 11, .inl (E.2.1, n, .inl rg)), (h 12, .inr (3, [.int fc, .ref (h 13)])), (h 13, .inl (E.2.2.1, 16, .inr (.inl fs))), (h 14, .inr (4, [.ref (h 15), .int (nI f), .int (nI g)])), (h 15, .inl (E.2.1, n, .inl rw)), (h 16, .inr (2, [.ref (h 17), .ref (h 18), .ref (h 19), .int lc, .ref (h 20)])), (h 17, .inl (E.2.1, 16, .inl so)), (h 18, .inl (E.2.1, 16, .inl sm)), (h 19, .inl (E.2.2.1, 16, .inr (.inl md))), (h 20, .inl (E.2.1, 16, .inl lv))] H := hP
    have hD : va_D AM [(h 0, .inr (1, [.ref (h 1), .ref (h 2), .ref (h 3), .ref (h 4), .ref (h 9), .ref (h 12), .ref (h 14), .ref (h 16), .long x, .int und, .int tk, .int sp, .int fd, .int bd, .int ba])), (h 1, .inl (E.2.1, n, .inl bg)), (h 2, .inl (E.2.1, n, .inl dr)), (h 3, .inl (E.2.2.1, n, .inr (.inl oc))), (h 4, .inr (5, [.int (nI n), .ref (h 5), .ref (h 6), .ref (h 7), .ref (h 8)])), (h 5, .inl (E.2.2.1, n, .inr (.inl vals))), (h 6, .inl (E.2.1, n, .inl stp)), (h 7, .inl (E.2.1, n, .inl reg)), (h 8, .inl (E.2.2.2, n, .inl lo)), (h 9, .inr (0, [.ref (h 10), .int cnt, .ref (h 11)])), (h 10, .inl (E.2.1, n, .inl bo)), (h 11, .inl (E.2.1, n, .inl rg)), (h 12, .inr (3, [.int fc, .ref (h 13)])), (h 13, .inl (E.2.2.1, 16, .inr (.inl fs))), (h 14, .inr (4, [.ref (h 15), .int (nI f), .int (nI g)])), (h 15, .inl (E.2.1, n, .inl rw)), (h 16, .inr (2, [.ref (h 17), .ref (h 18), .ref (h 19), .int lc, .ref (h 20)])), (h 17, .inl (E.2.1, 16, .inl so)), (h 18, .inl (E.2.1, 16, .inl sm)), (h 19, .inl (E.2.2.1, 16, .inr (.inl md))), (h 20, .inl (E.2.1, 16, .inl lv))] := hD
    exact Rv hx hb hr hlocks hP hD hS () [0, 1, 2, 3, 4, 5, 6, 7, 8, 9, 10, 11, 12, 13, 14, 15, 16, 17, 18, 19, 20] rfl rfl (trivial) (Nat.le_of_ble_eq_true rfl) (Nat.le_of_ble_eq_true rfl) dX1_act_29

set_option maxHeartbeats 4000000 in
set_option maxRecDepth 100000 in
theorem c_act_take (l : Launch) (E : EE) (h : Nat → Nat) (n : Nat) (bg : Nat → Int32) (dr : Nat → Int32) (oc : Nat → Int64) (x : Int64) (und : Int32) (tk : Int32) (sp : Int32) (fd : Int32) (bd : Int32) (ba : Int32) (bo : Nat → Int32) (rg : Nat → Int32) (cnt : Int32) (fc : Int32) (fs : Nat → Int64) (rw : Nat → Int32) (lc : Int32) (so : Nat → Int32) (sm : Nat → Int32) (lv : Nat → Int32) (md : Nat → Int64) (vals : Nat → Int64) (stp : Nat → Int32) (reg : Nat → Int32) (lo : Nat → Int32) (k : Nat) (w : Nat) (f : Nat) (g : Nat) (s : Nat) (hn : n < 2 ^ 31) (hk : k < 16) (hlv : lv k = nI w) (hw16 : w < 16) (hso : so w = -1) (hf : f < g) (hg : g ≤ n) (hrw : rw f = nI s) (hsn : s < n) : Mv (S := Unit) l E yX1_act (.code yX1_act cX1_act 5 none) ({ frames := 3, cells := 0, slots := 0, locals := 68 }) [.ref (h 0), .int (nI k)] [(h 0, .inr (1, [.ref (h 1), .ref (h 2), .ref (h 3), .ref (h 4), .ref (h 9), .ref (h 12), .ref (h 14), .ref (h 16), .long x, .int und, .int tk, .int sp, .int fd, .int bd, .int ba])), (h 1, .inl (E.2.1, n, .inl bg)), (h 2, .inl (E.2.1, n, .inl dr)), (h 3, .inl (E.2.2.1, n, .inr (.inl oc))), (h 4, .inr (5, [.int (nI n), .ref (h 5), .ref (h 6), .ref (h 7), .ref (h 8)])), (h 5, .inl (E.2.2.1, n, .inr (.inl vals))), (h 6, .inl (E.2.1, n, .inl stp)), (h 7, .inl (E.2.1, n, .inl reg)), (h 8, .inl (E.2.2.2, n, .inl lo)), (h 9, .inr (0, [.ref (h 10), .int cnt, .ref (h 11)])), (h 10, .inl (E.2.1, n, .inl bo)), (h 11, .inl (E.2.1, n, .inl rg)), (h 12, .inr (3, [.int fc, .ref (h 13)])), (h 13, .inl (E.2.2.1, 16, .inr (.inl fs))), (h 14, .inr (4, [.ref (h 15), .int (nI f), .int (nI g)])), (h 15, .inl (E.2.1, n, .inl rw)), (h 16, .inr (2, [.ref (h 17), .ref (h 18), .ref (h 19), .int lc, .ref (h 20)])), (h 17, .inl (E.2.1, 16, .inl so)), (h 18, .inl (E.2.1, 16, .inl sm)), (h 19, .inl (E.2.2.1, 16, .inr (.inl md))), (h 20, .inl (E.2.1, 16, .inl lv))] (fun _ : Unit => True) (fun u : Unit => [(h 0, .inr (1, [.ref (h 1), .ref (h 2), .ref (h 3), .ref (h 4), .ref (h 9), .ref (h 12), .ref (h 14), .ref (h 16), .long x, .int und, .int tk, .int sp, .int fd, .int bd, .int (ba + 1)])), (h 1, .inl (E.2.1, n, .inl (upd bg s (bg s + 1)))), (h 2, .inl (E.2.1, n, .inl dr)), (h 3, .inl (E.2.2.1, n, .inr (.inl oc))), (h 4, .inr (5, [.int (nI n), .ref (h 5), .ref (h 6), .ref (h 7), .ref (h 8)])), (h 5, .inl (E.2.2.1, n, .inr (.inl vals))), (h 6, .inl (E.2.1, n, .inl stp)), (h 7, .inl (E.2.1, n, .inl reg)), (h 8, .inl (E.2.2.2, n, .inl lo)), (h 9, .inr (0, [.ref (h 10), .int cnt, .ref (h 11)])), (h 10, .inl (E.2.1, n, .inl bo)), (h 11, .inl (E.2.1, n, .inl rg)), (h 12, .inr (3, [.int fc, .ref (h 13)])), (h 13, .inl (E.2.2.1, 16, .inr (.inl fs))), (h 14, .inr (4, [.ref (h 15), .int (nI (f + 1)), .int (nI g)])), (h 15, .inl (E.2.1, n, .inl rw)), (h 16, .inr (2, [.ref (h 17), .ref (h 18), .ref (h 19), .int lc, .ref (h 20)])), (h 17, .inl (E.2.1, 16, .inl (upd so w (nI s)))), (h 18, .inl (E.2.1, 16, .inl (upd sm w 0))), (h 19, .inl (E.2.2.1, 16, .inr (.inl (vp_updL md w (vals s))))), (h 20, .inl (E.2.1, 16, .inl lv))]) := by
  refine Mv.ofW (by decide) (Nat.le_of_ble_eq_true rfl) ?_
  intro pM eM sM mM bM meM cM AM ls hB hA hP hD hS hl
  obtain ⟨hx, hb, hr, hml, hown, hlocks, hnm, hts, hK⟩ := hB
  have hl : lv_has ls 5 [(0, .ref (h 0)), (1, .int (nI k))] := hl
  refine lv_aload_n hx hb dX1_act_0 rfl (lv_at hl 0 rfl) ?_
  refine va_get (D := E.1) (ci := 1) (v := .ref (h 16)) (C := RX1) (T := TX1) (N := 15) hx hb hts ux_X1' hown hK.1 hP 0 rfl rfl 7 (by decide) (hts _ (ta_cons _ mw_189)) (fun _ h9 => h9) rfl dX1_act_1 ?_
  refine lv_iload_n hx hb dX1_act_4 rfl (lv_at hl 1 rfl) ?_
  refine af_i (wc := [(h 16, .inr (2, [.ref (h 17), .ref (h 18), .ref (h 19), .int lc, .ref (h 20)])), (h 17, .inl (E.2.1, 16, .inl so)), (h 18, .inl (E.2.1, 16, .inl sm)), (h 19, .inl (E.2.2.1, 16, .inr (.inl md))), (h 20, .inl (E.2.1, 16, .inl lv))]) (wr := [(h 0, .inr (1, [.ref (h 1), .ref (h 2), .ref (h 3), .ref (h 4), .ref (h 9), .ref (h 12), .ref (h 14), .ref (h 16), .long x, .int und, .int tk, .int sp, .int fd, .int bd, .int ba])), (h 1, .inl (E.2.1, n, .inl bg)), (h 2, .inl (E.2.1, n, .inl dr)), (h 3, .inl (E.2.2.1, n, .inr (.inl oc))), (h 4, .inr (5, [.int (nI n), .ref (h 5), .ref (h 6), .ref (h 7), .ref (h 8)])), (h 5, .inl (E.2.2.1, n, .inr (.inl vals))), (h 6, .inl (E.2.1, n, .inl stp)), (h 7, .inl (E.2.1, n, .inl reg)), (h 8, .inl (E.2.2.2, n, .inl lo)), (h 9, .inr (0, [.ref (h 10), .int cnt, .ref (h 11)])), (h 10, .inl (E.2.1, n, .inl bo)), (h 11, .inl (E.2.1, n, .inl rg)), (h 12, .inr (3, [.int fc, .ref (h 13)])), (h 13, .inl (E.2.2.1, 16, .inr (.inl fs))), (h 14, .inr (4, [.ref (h 15), .int (nI f), .int (nI g)])), (h 15, .inl (E.2.1, n, .inl rw))]) (rn_V (b := h 16) (ci := 2) (As := [.int (nI k)]) (rest := []) (n := 1) ⟨hx, hb, hml, hown, hts⟩ ta_cons wq_X1_120 (by decide +kernel) hK (c_liveAt l E (h 16) (h 17) (h 18) (h 19) (h 20) lc so sm lv md k (hk) _) ⟨Nat.le_of_ble_eq_true rfl, Nat.le_of_ble_eq_true rfl⟩ hP hD [16, 17, 18, 19, 20] rfl rfl rfl rfl rfl hl.1 rfl (Nat.le_of_ble_eq_true rfl) dX1_act_5 ⟨Nat.le_of_ble_eq_true rfl, Nat.le_of_ble_eq_true rfl⟩) hP hD hS hA [16, 17, 18, 19, 20] [0, 1, 2, 3, 4, 5, 6, 7, 8, 9, 10, 11, 12, 13, 14, 15] rfl rfl rfl (by decide) (fun r_5 u_5 H locs hwC hP hD hS => ?_)
  subst hwC
  have hP : va_P E.1 classes [(h 0, .inr (1, [.ref (h 1), .ref (h 2), .ref (h 3), .ref (h 4), .ref (h 9), .ref (h 12), .ref (h 14), .ref (h 16), .long x, .int und, .int tk, .int sp, .int fd, .int bd, .int ba])), (h 1, .inl (E.2.1, n, .inl bg)), (h 2, .inl (E.2.1, n, .inl dr)), (h 3, .inl (E.2.2.1, n, .inr (.inl oc))), (h 4, .inr (5, [.int (nI n), .ref (h 5), .ref (h 6), .ref (h 7), .ref (h 8)])), (h 5, .inl (E.2.2.1, n, .inr (.inl vals))), (h 6, .inl (E.2.1, n, .inl stp)), (h 7, .inl (E.2.1, n, .inl reg)), (h 8, .inl (E.2.2.2, n, .inl lo)), (h 9, .inr (0, [.ref (h 10), .int cnt, .ref (h 11)])), (h 10, .inl (E.2.1, n, .inl bo)), (h 11, .inl (E.2.1, n, .inl rg)), (h 12, .inr (3, [.int fc, .ref (h 13)])), (h 13, .inl (E.2.2.1, 16, .inr (.inl fs))), (h 14, .inr (4, [.ref (h 15), .int (nI f), .int (nI g)])), (h 15, .inl (E.2.1, n, .inl rw)), (h 16, .inr (2, [.ref (h 17), .ref (h 18), .ref (h 19), .int lc, .ref (h 20)])), (h 17, .inl (E.2.1, 16, .inl so)), (h 18, .inl (E.2.1, 16, .inl sm)), (h 19, .inl (E.2.2.1, 16, .inr (.inl md))), (h 20, .inl (E.2.1, 16, .inl lv))] H := hP
  have hD : va_D AM [(h 0, .inr (1, [.ref (h 1), .ref (h 2), .ref (h 3), .ref (h 4), .ref (h 9), .ref (h 12), .ref (h 14), .ref (h 16), .long x, .int und, .int tk, .int sp, .int fd, .int bd, .int ba])), (h 1, .inl (E.2.1, n, .inl bg)), (h 2, .inl (E.2.1, n, .inl dr)), (h 3, .inl (E.2.2.1, n, .inr (.inl oc))), (h 4, .inr (5, [.int (nI n), .ref (h 5), .ref (h 6), .ref (h 7), .ref (h 8)])), (h 5, .inl (E.2.2.1, n, .inr (.inl vals))), (h 6, .inl (E.2.1, n, .inl stp)), (h 7, .inl (E.2.1, n, .inl reg)), (h 8, .inl (E.2.2.2, n, .inl lo)), (h 9, .inr (0, [.ref (h 10), .int cnt, .ref (h 11)])), (h 10, .inl (E.2.1, n, .inl bo)), (h 11, .inl (E.2.1, n, .inl rg)), (h 12, .inr (3, [.int fc, .ref (h 13)])), (h 13, .inl (E.2.2.1, 16, .inr (.inl fs))), (h 14, .inr (4, [.ref (h 15), .int (nI f), .int (nI g)])), (h 15, .inl (E.2.1, n, .inl rw)), (h 16, .inr (2, [.ref (h 17), .ref (h 18), .ref (h 19), .int lc, .ref (h 20)])), (h 17, .inl (E.2.1, 16, .inl so)), (h 18, .inl (E.2.1, 16, .inl sm)), (h 19, .inl (E.2.2.1, 16, .inr (.inl md))), (h 20, .inl (E.2.1, 16, .inl lv))] := hD
  refine tp_i (y := nI w) (hlv) ?_
  refine lv_istore_n (lv' := [(2, .int (nI w)), (0, .ref (h 0)), (1, .int (nI k))]) hx hb dX1_act_8 rfl hl (by decide) rfl (fun ls hl => ?_)
  refine lv_aload_n hx hb dX1_act_9 rfl (lv_at hl 1 rfl) ?_
  refine va_get (D := E.1) (ci := 1) (v := .ref (h 16)) (C := RX1) (T := TX1) (N := 15) hx hb hts ux_X1' hown hK.1 hP 0 rfl rfl 7 (by decide) (hts _ (ta_cons _ mw_189)) (fun _ h9 => h9) rfl dX1_act_10 ?_
  refine va_get (D := E.1) (ci := 2) (v := .ref (h 17)) (C := RX2) (T := TX2) (N := 5) hx hb hts ux_X2' hown hK.1 hP 16 rfl rfl 0 (by decide) (hts _ (ta_cons _ mw_152)) (fun _ h9 => h9) rfl dX1_act_13 ?_
  refine lv_iload_n hx hb dX1_act_16 rfl (lv_at hl 0 rfl) ?_
  refine ia_i w hx hb hK hP 17 rfl (by first | assumption | omega) (by decide) dX1_act_17 ?_
  refine tp_i (y := (-1)) (hso) ?_
  refine lv_istore_n (lv' := [(3, .int (-1)), (2, .int (nI w)), (0, .ref (h 0)), (1, .int (nI k))]) hx hb dX1_act_18 rfl hl (by decide) rfl (fun ls hl => ?_)
  refine lv_iload_n hx hb dX1_act_19 rfl (lv_at hl 0 rfl) ?_
  refine lv_iconst (v := (-1)) hx hb dX1_act_20 (by decide) ?_
  refine lv_icmp_ne (tgt := 30) hx hb dX1_act_21 (by decide) (fun c_21 => ?_) (fun c_21 => ?_)
  · exact absurd rfl c_21
  · refine lv_aload_n hx hb dX1_act_24 rfl (lv_at hl 2 rfl) ?_
    refine lv_iload_n hx hb dX1_act_25 rfl (lv_at hl 1 rfl) ?_
    refine af_v (wc := [(h 0, .inr (1, [.ref (h 1), .ref (h 2), .ref (h 3), .ref (h 4), .ref (h 9), .ref (h 12), .ref (h 14), .ref (h 16), .long x, .int und, .int tk, .int sp, .int fd, .int bd, .int ba])), (h 1, .inl (E.2.1, n, .inl bg)), (h 2, .inl (E.2.1, n, .inl dr)), (h 3, .inl (E.2.2.1, n, .inr (.inl oc))), (h 4, .inr (5, [.int (nI n), .ref (h 5), .ref (h 6), .ref (h 7), .ref (h 8)])), (h 5, .inl (E.2.2.1, n, .inr (.inl vals))), (h 6, .inl (E.2.1, n, .inl stp)), (h 7, .inl (E.2.1, n, .inl reg)), (h 8, .inl (E.2.2.2, n, .inl lo)), (h 9, .inr (0, [.ref (h 10), .int cnt, .ref (h 11)])), (h 10, .inl (E.2.1, n, .inl bo)), (h 11, .inl (E.2.1, n, .inl rg)), (h 12, .inr (3, [.int fc, .ref (h 13)])), (h 13, .inl (E.2.2.1, 16, .inr (.inl fs))), (h 14, .inr (4, [.ref (h 15), .int (nI f), .int (nI g)])), (h 15, .inl (E.2.1, n, .inl rw)), (h 16, .inr (2, [.ref (h 17), .ref (h 18), .ref (h 19), .int lc, .ref (h 20)])), (h 17, .inl (E.2.1, 16, .inl so)), (h 18, .inl (E.2.1, 16, .inl sm)), (h 19, .inl (E.2.2.1, 16, .inr (.inl md))), (h 20, .inl (E.2.1, 16, .inl lv))]) (wr := []) (rn_V (b := h 0) (ci := 1) (As := [.int (nI w)]) (rest := []) (n := 1) ⟨hx, hb, hml, hown, hts⟩ ta_cons wq_X1_126 (by decide +kernel) hK (c_begin1 l E h n bg dr oc x und tk sp fd bd ba bo rg cnt fc fs rw lc so sm lv md vals stp reg lo w f g s (hn) (hw16) (hf) (hg) (hrw) (hsn) _) ⟨Nat.le_of_ble_eq_true rfl, Nat.le_of_ble_eq_true rfl⟩ hP hD [0, 1, 2, 3, 4, 5, 6, 7, 8, 9, 10, 11, 12, 13, 14, 15, 16, 17, 18, 19, 20] rfl rfl rfl rfl rfl hl.1 rfl (Nat.le_of_ble_eq_true rfl) dX1_act_26 ⟨Nat.le_of_ble_eq_true rfl, Nat.le_of_ble_eq_true rfl⟩) hP hD hS hA [0, 1, 2, 3, 4, 5, 6, 7, 8, 9, 10, 11, 12, 13, 14, 15, 16, 17, 18, 19, 20] [] rfl rfl rfl (by decide) (fun u_26 H locs hwC hP hD hS => ?_)
    have hP : va_P E.1 classes [(h 0, .inr (1, [.ref (h 1), .ref (h 2), .ref (h 3), .ref (h 4), .ref (h 9), .ref (h 12), .ref (h 14), .ref (h 16), .long x, .int und, .int tk, .int sp, .int fd, .int bd, .int (ba + 1)])), (h 1, .inl (E.2.1, n, .inl (upd bg s (bg s + 1)))), (h 2, .inl (E.2.1, n, .inl dr)), (h 3, .inl (E.2.2.1, n, .inr (.inl oc))), (h 4, .inr (5, [.int (nI n), .ref (h 5), .ref (h 6), .ref (h 7), .ref (h 8)])), (h 5, .inl (E.2.2.1, n, .inr (.inl vals))), (h 6, .inl (E.2.1, n, .inl stp)), (h 7, .inl (E.2.1, n, .inl reg)), (h 8, .inl (E.2.2.2, n, .inl lo)), (h 9, .inr (0, [.ref (h 10), .int cnt, .ref (h 11)])), (h 10, .inl (E.2.1, n, .inl bo)), (h 11, .inl (E.2.1, n, .inl rg)), (h 12, .inr (3, [.int fc, .ref (h 13)])), (h 13, .inl (E.2.2.1, 16, .inr (.inl fs))), (h 14, .inr (4, [.ref (h 15), .int (nI (f + 1)), .int (nI g)])), (h 15, .inl (E.2.1, n, .inl rw)), (h 16, .inr (2, [.ref (h 17), .ref (h 18), .ref (h 19), .int lc, .ref (h 20)])), (h 17, .inl (E.2.1, 16, .inl (upd so w (nI s)))), (h 18, .inl (E.2.1, 16, .inl (upd sm w 0))), (h 19, .inl (E.2.2.1, 16, .inr (.inl (vp_updL md w (vals s))))), (h 20, .inl (E.2.1, 16, .inl lv))] H := hP
    have hD : va_D AM [(h 0, .inr (1, [.ref (h 1), .ref (h 2), .ref (h 3), .ref (h 4), .ref (h 9), .ref (h 12), .ref (h 14), .ref (h 16), .long x, .int und, .int tk, .int sp, .int fd, .int bd, .int (ba + 1)])), (h 1, .inl (E.2.1, n, .inl (upd bg s (bg s + 1)))), (h 2, .inl (E.2.1, n, .inl dr)), (h 3, .inl (E.2.2.1, n, .inr (.inl oc))), (h 4, .inr (5, [.int (nI n), .ref (h 5), .ref (h 6), .ref (h 7), .ref (h 8)])), (h 5, .inl (E.2.2.1, n, .inr (.inl vals))), (h 6, .inl (E.2.1, n, .inl stp)), (h 7, .inl (E.2.1, n, .inl reg)), (h 8, .inl (E.2.2.2, n, .inl lo)), (h 9, .inr (0, [.ref (h 10), .int cnt, .ref (h 11)])), (h 10, .inl (E.2.1, n, .inl bo)), (h 11, .inl (E.2.1, n, .inl rg)), (h 12, .inr (3, [.int fc, .ref (h 13)])), (h 13, .inl (E.2.2.1, 16, .inr (.inl fs))), (h 14, .inr (4, [.ref (h 15), .int (nI (f + 1)), .int (nI g)])), (h 15, .inl (E.2.1, n, .inl rw)), (h 16, .inr (2, [.ref (h 17), .ref (h 18), .ref (h 19), .int lc, .ref (h 20)])), (h 17, .inl (E.2.1, 16, .inl (upd so w (nI s)))), (h 18, .inl (E.2.1, 16, .inl (upd sm w 0))), (h 19, .inl (E.2.2.1, 16, .inr (.inl (vp_updL md w (vals s))))), (h 20, .inl (E.2.1, 16, .inl lv))] := hD
    exact Rv hx hb hr hlocks hP hD hS () [0, 1, 2, 3, 4, 5, 6, 7, 8, 9, 10, 11, 12, 13, 14, 15, 16, 17, 18, 19, 20] rfl rfl (trivial) (Nat.le_of_ble_eq_true rfl) (Nat.le_of_ble_eq_true rfl) dX1_act_29

set_option maxHeartbeats 4000000 in
set_option maxRecDepth 100000 in
theorem c_act_step (l : Launch) (E : EE) (h : Nat → Nat) (n : Nat) (bg : Nat → Int32) (dr : Nat → Int32) (oc : Nat → Int64) (x : Int64) (und : Int32) (tk : Int32) (sp : Int32) (fd : Int32) (bd : Int32) (ba : Int32) (bo : Nat → Int32) (rg : Nat → Int32) (cnt : Int32) (fc : Int32) (fs : Nat → Int64) (rw : Nat → Int32) (fr : Int32) (en : Int32) (lc : Int32) (so : Nat → Int32) (sm : Nat → Int32) (lv : Nat → Int32) (md : Nat → Int64) (vals : Nat → Int64) (stp : Nat → Int32) (reg : Nat → Int32) (lo : Nat → Int32) (k : Nat) (w : Nat) (s : Nat) (d : Nat) (q : Nat) (hn : n < 2 ^ 31) (hk : k < 16) (hlv : lv k = nI w) (hw16 : w < 16) (hso : so w = nI s) (hsn : s < n) (hsm : sm w = nI d) (hst : stp s = nI q) (hq : d + 1 < q) (hq2 : q < 2 ^ 31) : Mv (S := Unit) l E yX1_act (.code yX1_act cX1_act 5 none) ({ frames := 3, cells := 0, slots := 0, locals := 68 }) [.ref (h 0), .int (nI k)] [(h 0, .inr (1, [.ref (h 1), .ref (h 2), .ref (h 3), .ref (h 4), .ref (h 9), .ref (h 12), .ref (h 14), .ref (h 16), .long x, .int und, .int tk, .int sp, .int fd, .int bd, .int ba])), (h 1, .inl (E.2.1, n, .inl bg)), (h 2, .inl (E.2.1, n, .inl dr)), (h 3, .inl (E.2.2.1, n, .inr (.inl oc))), (h 4, .inr (5, [.int (nI n), .ref (h 5), .ref (h 6), .ref (h 7), .ref (h 8)])), (h 5, .inl (E.2.2.1, n, .inr (.inl vals))), (h 6, .inl (E.2.1, n, .inl stp)), (h 7, .inl (E.2.1, n, .inl reg)), (h 8, .inl (E.2.2.2, n, .inl lo)), (h 9, .inr (0, [.ref (h 10), .int cnt, .ref (h 11)])), (h 10, .inl (E.2.1, n, .inl bo)), (h 11, .inl (E.2.1, n, .inl rg)), (h 12, .inr (3, [.int fc, .ref (h 13)])), (h 13, .inl (E.2.2.1, 16, .inr (.inl fs))), (h 14, .inr (4, [.ref (h 15), .int fr, .int en])), (h 15, .inl (E.2.1, n, .inl rw)), (h 16, .inr (2, [.ref (h 17), .ref (h 18), .ref (h 19), .int lc, .ref (h 20)])), (h 17, .inl (E.2.1, 16, .inl so)), (h 18, .inl (E.2.1, 16, .inl sm)), (h 19, .inl (E.2.2.1, 16, .inr (.inl md))), (h 20, .inl (E.2.1, 16, .inl lv))] (fun _ : Unit => True) (fun u : Unit => [(h 0, .inr (1, [.ref (h 1), .ref (h 2), .ref (h 3), .ref (h 4), .ref (h 9), .ref (h 12), .ref (h 14), .ref (h 16), .long x, .int und, .int tk, .int (sp + 1), .int fd, .int bd, .int ba])), (h 1, .inl (E.2.1, n, .inl bg)), (h 2, .inl (E.2.1, n, .inl dr)), (h 3, .inl (E.2.2.1, n, .inr (.inl oc))), (h 4, .inr (5, [.int (nI n), .ref (h 5), .ref (h 6), .ref (h 7), .ref (h 8)])), (h 5, .inl (E.2.2.1, n, .inr (.inl vals))), (h 6, .inl (E.2.1, n, .inl stp)), (h 7, .inl (E.2.1, n, .inl reg)), (h 8, .inl (E.2.2.2, n, .inl lo)), (h 9, .inr (0, [.ref (h 10), .int cnt, .ref (h 11)])), (h 10, .inl (E.2.1, n, .inl bo)), (h 11, .inl (E.2.1, n, .inl rg)), (h 12, .inr (3, [.int fc, .ref (h 13)])), (h 13, .inl (E.2.2.1, 16, .inr (.inl fs))), (h 14, .inr (4, [.ref (h 15), .int fr, .int en])), (h 15, .inl (E.2.1, n, .inl rw)), (h 16, .inr (2, [.ref (h 17), .ref (h 18), .ref (h 19), .int lc, .ref (h 20)])), (h 17, .inl (E.2.1, 16, .inl so)), (h 18, .inl (E.2.1, 16, .inl (upd sm w (sm w + 1)))), (h 19, .inl (E.2.2.1, 16, .inr (.inl (vp_updL md w (mkst (md w) (vals s) (sm w)))))), (h 20, .inl (E.2.1, 16, .inl lv))]) := by
  refine Mv.ofW (by decide) (Nat.le_of_ble_eq_true rfl) ?_
  intro pM eM sM mM bM meM cM AM ls hB hA hP hD hS hl
  obtain ⟨hx, hb, hr, hml, hown, hlocks, hnm, hts, hK⟩ := hB
  have hl : lv_has ls 5 [(0, .ref (h 0)), (1, .int (nI k))] := hl
  refine lv_aload_n hx hb dX1_act_0 rfl (lv_at hl 0 rfl) ?_
  refine va_get (D := E.1) (ci := 1) (v := .ref (h 16)) (C := RX1) (T := TX1) (N := 15) hx hb hts ux_X1' hown hK.1 hP 0 rfl rfl 7 (by decide) (hts _ (ta_cons _ mw_189)) (fun _ h9 => h9) rfl dX1_act_1 ?_
  refine lv_iload_n hx hb dX1_act_4 rfl (lv_at hl 1 rfl) ?_
  refine af_i (wc := [(h 16, .inr (2, [.ref (h 17), .ref (h 18), .ref (h 19), .int lc, .ref (h 20)])), (h 17, .inl (E.2.1, 16, .inl so)), (h 18, .inl (E.2.1, 16, .inl sm)), (h 19, .inl (E.2.2.1, 16, .inr (.inl md))), (h 20, .inl (E.2.1, 16, .inl lv))]) (wr := [(h 0, .inr (1, [.ref (h 1), .ref (h 2), .ref (h 3), .ref (h 4), .ref (h 9), .ref (h 12), .ref (h 14), .ref (h 16), .long x, .int und, .int tk, .int sp, .int fd, .int bd, .int ba])), (h 1, .inl (E.2.1, n, .inl bg)), (h 2, .inl (E.2.1, n, .inl dr)), (h 3, .inl (E.2.2.1, n, .inr (.inl oc))), (h 4, .inr (5, [.int (nI n), .ref (h 5), .ref (h 6), .ref (h 7), .ref (h 8)])), (h 5, .inl (E.2.2.1, n, .inr (.inl vals))), (h 6, .inl (E.2.1, n, .inl stp)), (h 7, .inl (E.2.1, n, .inl reg)), (h 8, .inl (E.2.2.2, n, .inl lo)), (h 9, .inr (0, [.ref (h 10), .int cnt, .ref (h 11)])), (h 10, .inl (E.2.1, n, .inl bo)), (h 11, .inl (E.2.1, n, .inl rg)), (h 12, .inr (3, [.int fc, .ref (h 13)])), (h 13, .inl (E.2.2.1, 16, .inr (.inl fs))), (h 14, .inr (4, [.ref (h 15), .int fr, .int en])), (h 15, .inl (E.2.1, n, .inl rw))]) (rn_V (b := h 16) (ci := 2) (As := [.int (nI k)]) (rest := []) (n := 1) ⟨hx, hb, hml, hown, hts⟩ ta_cons wq_X1_120 (by decide +kernel) hK (c_liveAt l E (h 16) (h 17) (h 18) (h 19) (h 20) lc so sm lv md k (hk) _) ⟨Nat.le_of_ble_eq_true rfl, Nat.le_of_ble_eq_true rfl⟩ hP hD [16, 17, 18, 19, 20] rfl rfl rfl rfl rfl hl.1 rfl (Nat.le_of_ble_eq_true rfl) dX1_act_5 ⟨Nat.le_of_ble_eq_true rfl, Nat.le_of_ble_eq_true rfl⟩) hP hD hS hA [16, 17, 18, 19, 20] [0, 1, 2, 3, 4, 5, 6, 7, 8, 9, 10, 11, 12, 13, 14, 15] rfl rfl rfl (by decide) (fun r_5 u_5 H locs hwC hP hD hS => ?_)
  subst hwC
  have hP : va_P E.1 classes [(h 0, .inr (1, [.ref (h 1), .ref (h 2), .ref (h 3), .ref (h 4), .ref (h 9), .ref (h 12), .ref (h 14), .ref (h 16), .long x, .int und, .int tk, .int sp, .int fd, .int bd, .int ba])), (h 1, .inl (E.2.1, n, .inl bg)), (h 2, .inl (E.2.1, n, .inl dr)), (h 3, .inl (E.2.2.1, n, .inr (.inl oc))), (h 4, .inr (5, [.int (nI n), .ref (h 5), .ref (h 6), .ref (h 7), .ref (h 8)])), (h 5, .inl (E.2.2.1, n, .inr (.inl vals))), (h 6, .inl (E.2.1, n, .inl stp)), (h 7, .inl (E.2.1, n, .inl reg)), (h 8, .inl (E.2.2.2, n, .inl lo)), (h 9, .inr (0, [.ref (h 10), .int cnt, .ref (h 11)])), (h 10, .inl (E.2.1, n, .inl bo)), (h 11, .inl (E.2.1, n, .inl rg)), (h 12, .inr (3, [.int fc, .ref (h 13)])), (h 13, .inl (E.2.2.1, 16, .inr (.inl fs))), (h 14, .inr (4, [.ref (h 15), .int fr, .int en])), (h 15, .inl (E.2.1, n, .inl rw)), (h 16, .inr (2, [.ref (h 17), .ref (h 18), .ref (h 19), .int lc, .ref (h 20)])), (h 17, .inl (E.2.1, 16, .inl so)), (h 18, .inl (E.2.1, 16, .inl sm)), (h 19, .inl (E.2.2.1, 16, .inr (.inl md))), (h 20, .inl (E.2.1, 16, .inl lv))] H := hP
  have hD : va_D AM [(h 0, .inr (1, [.ref (h 1), .ref (h 2), .ref (h 3), .ref (h 4), .ref (h 9), .ref (h 12), .ref (h 14), .ref (h 16), .long x, .int und, .int tk, .int sp, .int fd, .int bd, .int ba])), (h 1, .inl (E.2.1, n, .inl bg)), (h 2, .inl (E.2.1, n, .inl dr)), (h 3, .inl (E.2.2.1, n, .inr (.inl oc))), (h 4, .inr (5, [.int (nI n), .ref (h 5), .ref (h 6), .ref (h 7), .ref (h 8)])), (h 5, .inl (E.2.2.1, n, .inr (.inl vals))), (h 6, .inl (E.2.1, n, .inl stp)), (h 7, .inl (E.2.1, n, .inl reg)), (h 8, .inl (E.2.2.2, n, .inl lo)), (h 9, .inr (0, [.ref (h 10), .int cnt, .ref (h 11)])), (h 10, .inl (E.2.1, n, .inl bo)), (h 11, .inl (E.2.1, n, .inl rg)), (h 12, .inr (3, [.int fc, .ref (h 13)])), (h 13, .inl (E.2.2.1, 16, .inr (.inl fs))), (h 14, .inr (4, [.ref (h 15), .int fr, .int en])), (h 15, .inl (E.2.1, n, .inl rw)), (h 16, .inr (2, [.ref (h 17), .ref (h 18), .ref (h 19), .int lc, .ref (h 20)])), (h 17, .inl (E.2.1, 16, .inl so)), (h 18, .inl (E.2.1, 16, .inl sm)), (h 19, .inl (E.2.2.1, 16, .inr (.inl md))), (h 20, .inl (E.2.1, 16, .inl lv))] := hD
  refine tp_i (y := nI w) (hlv) ?_
  refine lv_istore_n (lv' := [(2, .int (nI w)), (0, .ref (h 0)), (1, .int (nI k))]) hx hb dX1_act_8 rfl hl (by decide) rfl (fun ls hl => ?_)
  refine lv_aload_n hx hb dX1_act_9 rfl (lv_at hl 1 rfl) ?_
  refine va_get (D := E.1) (ci := 1) (v := .ref (h 16)) (C := RX1) (T := TX1) (N := 15) hx hb hts ux_X1' hown hK.1 hP 0 rfl rfl 7 (by decide) (hts _ (ta_cons _ mw_189)) (fun _ h9 => h9) rfl dX1_act_10 ?_
  refine va_get (D := E.1) (ci := 2) (v := .ref (h 17)) (C := RX2) (T := TX2) (N := 5) hx hb hts ux_X2' hown hK.1 hP 16 rfl rfl 0 (by decide) (hts _ (ta_cons _ mw_152)) (fun _ h9 => h9) rfl dX1_act_13 ?_
  refine lv_iload_n hx hb dX1_act_16 rfl (lv_at hl 0 rfl) ?_
  refine ia_i w hx hb hK hP 17 rfl (by first | assumption | omega) (by decide) dX1_act_17 ?_
  refine tp_i (y := nI s) (hso) ?_
  refine lv_istore_n (lv' := [(3, .int (nI s)), (2, .int (nI w)), (0, .ref (h 0)), (1, .int (nI k))]) hx hb dX1_act_18 rfl hl (by decide) rfl (fun ls hl => ?_)
  refine lv_iload_n hx hb dX1_act_19 rfl (lv_at hl 0 rfl) ?_
  refine lv_iconst (v := (-1)) hx hb dX1_act_20 (by decide) ?_
  refine lv_icmp_ne (tgt := 30) hx hb dX1_act_21 (by decide) (fun c_21 => ?_) (fun c_21 => ?_)
  · refine lv_aload_n hx hb dX1_act_30 rfl (lv_at hl 2 rfl) ?_
    refine va_get (D := E.1) (ci := 1) (v := .ref (h 16)) (C := RX1) (T := TX1) (N := 15) hx hb hts ux_X1' hown hK.1 hP 0 rfl rfl 7 (by decide) (hts _ (ta_cons _ mw_189)) (fun _ h9 => h9) rfl dX1_act_31 ?_
    refine va_get (D := E.1) (ci := 2) (v := .ref (h 18)) (C := RX2) (T := TX2) (N := 5) hx hb hts ux_X2' hown hK.1 hP 16 rfl rfl 1 (by decide) (hts _ (ta_cons _ mw_154)) (fun _ h9 => h9) rfl dX1_act_34 ?_
    refine lv_iload_n hx hb dX1_act_37 rfl (lv_at hl 1 rfl) ?_
    refine ia_i w hx hb hK hP 18 rfl (by first | assumption | omega) (by decide) dX1_act_38 ?_
    refine lv_iconst (v := 1) hx hb dX1_act_39 (by decide) ?_
    refine lv_iadd hx hb dX1_act_40 ?_
    refine tp_i (y := nI (d + 1)) (by rw [hsm]; exact nI_1 d) ?_
    refine lv_aload_n hx hb dX1_act_41 rfl (lv_at hl 2 rfl) ?_
    refine va_get (D := E.1) (ci := 1) (v := .ref (h 4)) (C := RX1) (T := TX1) (N := 15) hx hb hts ux_X1' hown hK.1 hP 0 rfl rfl 3 (by decide) (hts _ (ta_cons _ mw_185)) (fun _ h9 => h9) rfl dX1_act_42 ?_
    refine va_get (D := E.1) (ci := 5) (v := .ref (h 6)) (C := RX5) (T := TX5) (N := 5) hx hb hts ux_X5' hown hK.1 hP 4 rfl rfl 2 (by decide) (hts _ (ta_cons _ mw_67)) (fun _ h9 => h9) rfl dX1_act_45 ?_
    refine lv_iload_n hx hb dX1_act_48 rfl (lv_at hl 0 rfl) ?_
    refine ia_i s hx hb hK hP 6 rfl (by first | assumption | omega) (by omega) dX1_act_49 ?_
    refine tp_i (y := nI q) (hst) ?_
    refine lv_icmp_lt (tgt := 57) hx hb dX1_act_50 (by decide) (fun c_50 => ?_) (fun c_50 => ?_)
    · refine lv_iconst (v := 0) hx hb dX1_act_57 (by decide) ?_
      refine lv_istore (lv' := [(4, .int 0), (3, .int (nI s)), (2, .int (nI w)), (0, .ref (h 0)), (1, .int (nI k))]) hx hb dX1_act_58 hl (by decide) rfl (fun ls hl => ?_)
      refine lv_iload hx hb dX1_act_60 (lv_at hl 0 rfl) ?_
      refine lv_if_eq (tgt := 85) hx hb dX1_act_62 (by decide) (fun c_62 => ?_) (fun c_62 => ?_)
      · refine lv_aload_n hx hb dX1_act_85 rfl (lv_at hl 3 rfl) ?_
        refine lv_iload_n hx hb dX1_act_86 rfl (lv_at hl 2 rfl) ?_
        refine lv_iload_n hx hb dX1_act_87 rfl (lv_at hl 1 rfl) ?_
        refine af_v (wc := [(h 0, .inr (1, [.ref (h 1), .ref (h 2), .ref (h 3), .ref (h 4), .ref (h 9), .ref (h 12), .ref (h 14), .ref (h 16), .long x, .int und, .int tk, .int sp, .int fd, .int bd, .int ba])), (h 1, .inl (E.2.1, n, .inl bg)), (h 2, .inl (E.2.1, n, .inl dr)), (h 3, .inl (E.2.2.1, n, .inr (.inl oc))), (h 4, .inr (5, [.int (nI n), .ref (h 5), .ref (h 6), .ref (h 7), .ref (h 8)])), (h 5, .inl (E.2.2.1, n, .inr (.inl vals))), (h 6, .inl (E.2.1, n, .inl stp)), (h 7, .inl (E.2.1, n, .inl reg)), (h 8, .inl (E.2.2.2, n, .inl lo)), (h 9, .inr (0, [.ref (h 10), .int cnt, .ref (h 11)])), (h 10, .inl (E.2.1, n, .inl bo)), (h 11, .inl (E.2.1, n, .inl rg)), (h 12, .inr (3, [.int fc, .ref (h 13)])), (h 13, .inl (E.2.2.1, 16, .inr (.inl fs))), (h 14, .inr (4, [.ref (h 15), .int fr, .int en])), (h 15, .inl (E.2.1, n, .inl rw)), (h 16, .inr (2, [.ref (h 17), .ref (h 18), .ref (h 19), .int lc, .ref (h 20)])), (h 17, .inl (E.2.1, 16, .inl so)), (h 18, .inl (E.2.1, 16, .inl sm)), (h 19, .inl (E.2.2.1, 16, .inr (.inl md))), (h 20, .inl (E.2.1, 16, .inl lv))]) (wr := []) (rn_V (b := h 0) (ci := 1) (As := [.int (nI w), .int (nI s)]) (rest := []) (n := 2) ⟨hx, hb, hml, hown, hts⟩ ta_cons wq_X1_145 (by decide +kernel) hK (c_goOn l E h n bg dr oc x und tk sp fd bd ba bo rg cnt fc fs rw fr en lc so sm lv md vals stp reg lo w s (hn) (hw16) (hsn) _) ⟨Nat.le_of_ble_eq_true rfl, Nat.le_of_ble_eq_true rfl⟩ hP hD [0, 1, 2, 3, 4, 5, 6, 7, 8, 9, 10, 11, 12, 13, 14, 15, 16, 17, 18, 19, 20] rfl rfl rfl rfl rfl hl.1 rfl (Nat.le_of_ble_eq_true rfl) dX1_act_88 ⟨Nat.le_of_ble_eq_true rfl, Nat.le_of_ble_eq_true rfl⟩) hP hD hS hA [0, 1, 2, 3, 4, 5, 6, 7, 8, 9, 10, 11, 12, 13, 14, 15, 16, 17, 18, 19, 20] [] rfl rfl rfl (by decide) (fun u_88 H locs hwC hP hD hS => ?_)
        have hP : va_P E.1 classes [(h 0, .inr (1, [.ref (h 1), .ref (h 2), .ref (h 3), .ref (h 4), .ref (h 9), .ref (h 12), .ref (h 14), .ref (h 16), .long x, .int und, .int tk, .int (sp + 1), .int fd, .int bd, .int ba])), (h 1, .inl (E.2.1, n, .inl bg)), (h 2, .inl (E.2.1, n, .inl dr)), (h 3, .inl (E.2.2.1, n, .inr (.inl oc))), (h 4, .inr (5, [.int (nI n), .ref (h 5), .ref (h 6), .ref (h 7), .ref (h 8)])), (h 5, .inl (E.2.2.1, n, .inr (.inl vals))), (h 6, .inl (E.2.1, n, .inl stp)), (h 7, .inl (E.2.1, n, .inl reg)), (h 8, .inl (E.2.2.2, n, .inl lo)), (h 9, .inr (0, [.ref (h 10), .int cnt, .ref (h 11)])), (h 10, .inl (E.2.1, n, .inl bo)), (h 11, .inl (E.2.1, n, .inl rg)), (h 12, .inr (3, [.int fc, .ref (h 13)])), (h 13, .inl (E.2.2.1, 16, .inr (.inl fs))), (h 14, .inr (4, [.ref (h 15), .int fr, .int en])), (h 15, .inl (E.2.1, n, .inl rw)), (h 16, .inr (2, [.ref (h 17), .ref (h 18), .ref (h 19), .int lc, .ref (h 20)])), (h 17, .inl (E.2.1, 16, .inl so)), (h 18, .inl (E.2.1, 16, .inl (upd sm w (sm w + 1)))), (h 19, .inl (E.2.2.1, 16, .inr (.inl (vp_updL md w (mkst (md w) (vals s) (sm w)))))), (h 20, .inl (E.2.1, 16, .inl lv))] H := hP
        have hD : va_D AM [(h 0, .inr (1, [.ref (h 1), .ref (h 2), .ref (h 3), .ref (h 4), .ref (h 9), .ref (h 12), .ref (h 14), .ref (h 16), .long x, .int und, .int tk, .int (sp + 1), .int fd, .int bd, .int ba])), (h 1, .inl (E.2.1, n, .inl bg)), (h 2, .inl (E.2.1, n, .inl dr)), (h 3, .inl (E.2.2.1, n, .inr (.inl oc))), (h 4, .inr (5, [.int (nI n), .ref (h 5), .ref (h 6), .ref (h 7), .ref (h 8)])), (h 5, .inl (E.2.2.1, n, .inr (.inl vals))), (h 6, .inl (E.2.1, n, .inl stp)), (h 7, .inl (E.2.1, n, .inl reg)), (h 8, .inl (E.2.2.2, n, .inl lo)), (h 9, .inr (0, [.ref (h 10), .int cnt, .ref (h 11)])), (h 10, .inl (E.2.1, n, .inl bo)), (h 11, .inl (E.2.1, n, .inl rg)), (h 12, .inr (3, [.int fc, .ref (h 13)])), (h 13, .inl (E.2.2.1, 16, .inr (.inl fs))), (h 14, .inr (4, [.ref (h 15), .int fr, .int en])), (h 15, .inl (E.2.1, n, .inl rw)), (h 16, .inr (2, [.ref (h 17), .ref (h 18), .ref (h 19), .int lc, .ref (h 20)])), (h 17, .inl (E.2.1, 16, .inl so)), (h 18, .inl (E.2.1, 16, .inl (upd sm w (sm w + 1)))), (h 19, .inl (E.2.2.1, 16, .inr (.inl (vp_updL md w (mkst (md w) (vals s) (sm w)))))), (h 20, .inl (E.2.1, 16, .inl lv))] := hD
        refine lv_iload hx hb dX1_act_91 (lv_at hl 0 rfl) ?_
        refine lv_if_eq (tgt := 102) hx hb dX1_act_93 (by decide) (fun c_93 => ?_) (fun c_93 => ?_)
        · exact Rv hx hb hr hlocks hP hD hS () [0, 1, 2, 3, 4, 5, 6, 7, 8, 9, 10, 11, 12, 13, 14, 15, 16, 17, 18, 19, 20] rfl rfl (trivial) (Nat.le_of_ble_eq_true rfl) (Nat.le_of_ble_eq_true rfl) dX1_act_102
        · exact absurd rfl c_93
      · exact absurd rfl c_62
    · exact absurd ((nI_ltI (by omega) (by omega)).mpr hq) c_50
  · exact absurd c_21.symm (neg1_ne (by omega))

set_option maxHeartbeats 4000000 in
set_option maxRecDepth 100000 in
theorem c_act_last (l : Launch) (E : EE) (h : Nat → Nat) (n : Nat) (bg : Nat → Int32) (dr : Nat → Int32) (oc : Nat → Int64) (x : Int64) (und : Int32) (tk : Int32) (sp : Int32) (fd : Int32) (bd : Int32) (ba : Int32) (bo : Nat → Int32) (rg : Nat → Int32) (cnt : Int32) (fc : Int32) (fs : Nat → Int64) (rw : Nat → Int32) (fr : Int32) (en : Int32) (lc : Int32) (so : Nat → Int32) (sm : Nat → Int32) (lv : Nat → Int32) (md : Nat → Int64) (vals : Nat → Int64) (stp : Nat → Int32) (reg : Nat → Int32) (lo : Nat → Int32) (k : Nat) (w : Nat) (s : Nat) (d : Nat) (hn : n < 2 ^ 31) (hk : k < 16) (hlv : lv k = nI w) (hw16 : w < 16) (hso : so w = nI s) (hsn : s < n) (hsm : sm w = nI d) (hst : stp s = nI (d + 1)) (hd : d + 1 < 2 ^ 31) (hfh : fhas (fs w) (nI s) = 0) : Mv (S := Unit) l E yX1_act (.code yX1_act cX1_act 5 none) ({ frames := 3, cells := 0, slots := 0, locals := 68 }) [.ref (h 0), .int (nI k)] [(h 0, .inr (1, [.ref (h 1), .ref (h 2), .ref (h 3), .ref (h 4), .ref (h 9), .ref (h 12), .ref (h 14), .ref (h 16), .long x, .int und, .int tk, .int sp, .int fd, .int bd, .int ba])), (h 1, .inl (E.2.1, n, .inl bg)), (h 2, .inl (E.2.1, n, .inl dr)), (h 3, .inl (E.2.2.1, n, .inr (.inl oc))), (h 4, .inr (5, [.int (nI n), .ref (h 5), .ref (h 6), .ref (h 7), .ref (h 8)])), (h 5, .inl (E.2.2.1, n, .inr (.inl vals))), (h 6, .inl (E.2.1, n, .inl stp)), (h 7, .inl (E.2.1, n, .inl reg)), (h 8, .inl (E.2.2.2, n, .inl lo)), (h 9, .inr (0, [.ref (h 10), .int cnt, .ref (h 11)])), (h 10, .inl (E.2.1, n, .inl bo)), (h 11, .inl (E.2.1, n, .inl rg)), (h 12, .inr (3, [.int fc, .ref (h 13)])), (h 13, .inl (E.2.2.1, 16, .inr (.inl fs))), (h 14, .inr (4, [.ref (h 15), .int fr, .int en])), (h 15, .inl (E.2.1, n, .inl rw)), (h 16, .inr (2, [.ref (h 17), .ref (h 18), .ref (h 19), .int lc, .ref (h 20)])), (h 17, .inl (E.2.1, 16, .inl so)), (h 18, .inl (E.2.1, 16, .inl sm)), (h 19, .inl (E.2.2.1, 16, .inr (.inl md))), (h 20, .inl (E.2.1, 16, .inl lv))] (fun _ : Unit => True) (fun u : Unit => [(h 0, .inr (1, [.ref (h 1), .ref (h 2), .ref (h 3), .ref (h 4), .ref (h 9), .ref (h 12), .ref (h 14), .ref (h 16), .long x, .int (und - 1), .int tk, .int (sp + 1), .int fd, .int bd, .int ba])), (h 1, .inl (E.2.1, n, .inl bg)), (h 2, .inl (E.2.1, n, .inl (upd dr s (nI w)))), (h 3, .inl (E.2.2.1, n, .inr (.inl (vp_updL oc s ((vp_updL md w (mkst (md w) (vals s) (sm w))) w))))), (h 4, .inr (5, [.int (nI n), .ref (h 5), .ref (h 6), .ref (h 7), .ref (h 8)])), (h 5, .inl (E.2.2.1, n, .inr (.inl vals))), (h 6, .inl (E.2.1, n, .inl stp)), (h 7, .inl (E.2.1, n, .inl reg)), (h 8, .inl (E.2.2.2, n, .inl lo)), (h 9, .inr (0, [.ref (h 10), .int cnt, .ref (h 11)])), (h 10, .inl (E.2.1, n, .inl bo)), (h 11, .inl (E.2.1, n, .inl rg)), (h 12, .inr (3, [.int fc, .ref (h 13)])), (h 13, .inl (E.2.2.1, 16, .inr (.inl fs))), (h 14, .inr (4, [.ref (h 15), .int fr, .int en])), (h 15, .inl (E.2.1, n, .inl rw)), (h 16, .inr (2, [.ref (h 17), .ref (h 18), .ref (h 19), .int lc, .ref (h 20)])), (h 17, .inl (E.2.1, 16, .inl (upd so w (-1)))), (h 18, .inl (E.2.1, 16, .inl (upd sm w (sm w + 1)))), (h 19, .inl (E.2.2.1, 16, .inr (.inl (vp_updL md w (mkst (md w) (vals s) (sm w)))))), (h 20, .inl (E.2.1, 16, .inl lv))]) := by
  refine Mv.ofW (by decide) (Nat.le_of_ble_eq_true rfl) ?_
  intro pM eM sM mM bM meM cM AM ls hB hA hP hD hS hl
  obtain ⟨hx, hb, hr, hml, hown, hlocks, hnm, hts, hK⟩ := hB
  have hl : lv_has ls 5 [(0, .ref (h 0)), (1, .int (nI k))] := hl
  refine lv_aload_n hx hb dX1_act_0 rfl (lv_at hl 0 rfl) ?_
  refine va_get (D := E.1) (ci := 1) (v := .ref (h 16)) (C := RX1) (T := TX1) (N := 15) hx hb hts ux_X1' hown hK.1 hP 0 rfl rfl 7 (by decide) (hts _ (ta_cons _ mw_189)) (fun _ h9 => h9) rfl dX1_act_1 ?_
  refine lv_iload_n hx hb dX1_act_4 rfl (lv_at hl 1 rfl) ?_
  refine af_i (wc := [(h 16, .inr (2, [.ref (h 17), .ref (h 18), .ref (h 19), .int lc, .ref (h 20)])), (h 17, .inl (E.2.1, 16, .inl so)), (h 18, .inl (E.2.1, 16, .inl sm)), (h 19, .inl (E.2.2.1, 16, .inr (.inl md))), (h 20, .inl (E.2.1, 16, .inl lv))]) (wr := [(h 0, .inr (1, [.ref (h 1), .ref (h 2), .ref (h 3), .ref (h 4), .ref (h 9), .ref (h 12), .ref (h 14), .ref (h 16), .long x, .int und, .int tk, .int sp, .int fd, .int bd, .int ba])), (h 1, .inl (E.2.1, n, .inl bg)), (h 2, .inl (E.2.1, n, .inl dr)), (h 3, .inl (E.2.2.1, n, .inr (.inl oc))), (h 4, .inr (5, [.int (nI n), .ref (h 5), .ref (h 6), .ref (h 7), .ref (h 8)])), (h 5, .inl (E.2.2.1, n, .inr (.inl vals))), (h 6, .inl (E.2.1, n, .inl stp)), (h 7, .inl (E.2.1, n, .inl reg)), (h 8, .inl (E.2.2.2, n, .inl lo)), (h 9, .inr (0, [.ref (h 10), .int cnt, .ref (h 11)])), (h 10, .inl (E.2.1, n, .inl bo)), (h 11, .inl (E.2.1, n, .inl rg)), (h 12, .inr (3, [.int fc, .ref (h 13)])), (h 13, .inl (E.2.2.1, 16, .inr (.inl fs))), (h 14, .inr (4, [.ref (h 15), .int fr, .int en])), (h 15, .inl (E.2.1, n, .inl rw))]) (rn_V (b := h 16) (ci := 2) (As := [.int (nI k)]) (rest := []) (n := 1) ⟨hx, hb, hml, hown, hts⟩ ta_cons wq_X1_120 (by decide +kernel) hK (c_liveAt l E (h 16) (h 17) (h 18) (h 19) (h 20) lc so sm lv md k (hk) _) ⟨Nat.le_of_ble_eq_true rfl, Nat.le_of_ble_eq_true rfl⟩ hP hD [16, 17, 18, 19, 20] rfl rfl rfl rfl rfl hl.1 rfl (Nat.le_of_ble_eq_true rfl) dX1_act_5 ⟨Nat.le_of_ble_eq_true rfl, Nat.le_of_ble_eq_true rfl⟩) hP hD hS hA [16, 17, 18, 19, 20] [0, 1, 2, 3, 4, 5, 6, 7, 8, 9, 10, 11, 12, 13, 14, 15] rfl rfl rfl (by decide) (fun r_5 u_5 H locs hwC hP hD hS => ?_)
  subst hwC
  have hP : va_P E.1 classes [(h 0, .inr (1, [.ref (h 1), .ref (h 2), .ref (h 3), .ref (h 4), .ref (h 9), .ref (h 12), .ref (h 14), .ref (h 16), .long x, .int und, .int tk, .int sp, .int fd, .int bd, .int ba])), (h 1, .inl (E.2.1, n, .inl bg)), (h 2, .inl (E.2.1, n, .inl dr)), (h 3, .inl (E.2.2.1, n, .inr (.inl oc))), (h 4, .inr (5, [.int (nI n), .ref (h 5), .ref (h 6), .ref (h 7), .ref (h 8)])), (h 5, .inl (E.2.2.1, n, .inr (.inl vals))), (h 6, .inl (E.2.1, n, .inl stp)), (h 7, .inl (E.2.1, n, .inl reg)), (h 8, .inl (E.2.2.2, n, .inl lo)), (h 9, .inr (0, [.ref (h 10), .int cnt, .ref (h 11)])), (h 10, .inl (E.2.1, n, .inl bo)), (h 11, .inl (E.2.1, n, .inl rg)), (h 12, .inr (3, [.int fc, .ref (h 13)])), (h 13, .inl (E.2.2.1, 16, .inr (.inl fs))), (h 14, .inr (4, [.ref (h 15), .int fr, .int en])), (h 15, .inl (E.2.1, n, .inl rw)), (h 16, .inr (2, [.ref (h 17), .ref (h 18), .ref (h 19), .int lc, .ref (h 20)])), (h 17, .inl (E.2.1, 16, .inl so)), (h 18, .inl (E.2.1, 16, .inl sm)), (h 19, .inl (E.2.2.1, 16, .inr (.inl md))), (h 20, .inl (E.2.1, 16, .inl lv))] H := hP
  have hD : va_D AM [(h 0, .inr (1, [.ref (h 1), .ref (h 2), .ref (h 3), .ref (h 4), .ref (h 9), .ref (h 12), .ref (h 14), .ref (h 16), .long x, .int und, .int tk, .int sp, .int fd, .int bd, .int ba])), (h 1, .inl (E.2.1, n, .inl bg)), (h 2, .inl (E.2.1, n, .inl dr)), (h 3, .inl (E.2.2.1, n, .inr (.inl oc))), (h 4, .inr (5, [.int (nI n), .ref (h 5), .ref (h 6), .ref (h 7), .ref (h 8)])), (h 5, .inl (E.2.2.1, n, .inr (.inl vals))), (h 6, .inl (E.2.1, n, .inl stp)), (h 7, .inl (E.2.1, n, .inl reg)), (h 8, .inl (E.2.2.2, n, .inl lo)), (h 9, .inr (0, [.ref (h 10), .int cnt, .ref (h 11)])), (h 10, .inl (E.2.1, n, .inl bo)), (h 11, .inl (E.2.1, n, .inl rg)), (h 12, .inr (3, [.int fc, .ref (h 13)])), (h 13, .inl (E.2.2.1, 16, .inr (.inl fs))), (h 14, .inr (4, [.ref (h 15), .int fr, .int en])), (h 15, .inl (E.2.1, n, .inl rw)), (h 16, .inr (2, [.ref (h 17), .ref (h 18), .ref (h 19), .int lc, .ref (h 20)])), (h 17, .inl (E.2.1, 16, .inl so)), (h 18, .inl (E.2.1, 16, .inl sm)), (h 19, .inl (E.2.2.1, 16, .inr (.inl md))), (h 20, .inl (E.2.1, 16, .inl lv))] := hD
  refine tp_i (y := nI w) (hlv) ?_
  refine lv_istore_n (lv' := [(2, .int (nI w)), (0, .ref (h 0)), (1, .int (nI k))]) hx hb dX1_act_8 rfl hl (by decide) rfl (fun ls hl => ?_)
  refine lv_aload_n hx hb dX1_act_9 rfl (lv_at hl 1 rfl) ?_
  refine va_get (D := E.1) (ci := 1) (v := .ref (h 16)) (C := RX1) (T := TX1) (N := 15) hx hb hts ux_X1' hown hK.1 hP 0 rfl rfl 7 (by decide) (hts _ (ta_cons _ mw_189)) (fun _ h9 => h9) rfl dX1_act_10 ?_
  refine va_get (D := E.1) (ci := 2) (v := .ref (h 17)) (C := RX2) (T := TX2) (N := 5) hx hb hts ux_X2' hown hK.1 hP 16 rfl rfl 0 (by decide) (hts _ (ta_cons _ mw_152)) (fun _ h9 => h9) rfl dX1_act_13 ?_
  refine lv_iload_n hx hb dX1_act_16 rfl (lv_at hl 0 rfl) ?_
  refine ia_i w hx hb hK hP 17 rfl (by first | assumption | omega) (by decide) dX1_act_17 ?_
  refine tp_i (y := nI s) (hso) ?_
  refine lv_istore_n (lv' := [(3, .int (nI s)), (2, .int (nI w)), (0, .ref (h 0)), (1, .int (nI k))]) hx hb dX1_act_18 rfl hl (by decide) rfl (fun ls hl => ?_)
  refine lv_iload_n hx hb dX1_act_19 rfl (lv_at hl 0 rfl) ?_
  refine lv_iconst (v := (-1)) hx hb dX1_act_20 (by decide) ?_
  refine lv_icmp_ne (tgt := 30) hx hb dX1_act_21 (by decide) (fun c_21 => ?_) (fun c_21 => ?_)
  · refine lv_aload_n hx hb dX1_act_30 rfl (lv_at hl 2 rfl) ?_
    refine va_get (D := E.1) (ci := 1) (v := .ref (h 16)) (C := RX1) (T := TX1) (N := 15) hx hb hts ux_X1' hown hK.1 hP 0 rfl rfl 7 (by decide) (hts _ (ta_cons _ mw_189)) (fun _ h9 => h9) rfl dX1_act_31 ?_
    refine va_get (D := E.1) (ci := 2) (v := .ref (h 18)) (C := RX2) (T := TX2) (N := 5) hx hb hts ux_X2' hown hK.1 hP 16 rfl rfl 1 (by decide) (hts _ (ta_cons _ mw_154)) (fun _ h9 => h9) rfl dX1_act_34 ?_
    refine lv_iload_n hx hb dX1_act_37 rfl (lv_at hl 1 rfl) ?_
    refine ia_i w hx hb hK hP 18 rfl (by first | assumption | omega) (by decide) dX1_act_38 ?_
    refine lv_iconst (v := 1) hx hb dX1_act_39 (by decide) ?_
    refine lv_iadd hx hb dX1_act_40 ?_
    refine tp_i (y := nI (d + 1)) (by rw [hsm]; exact nI_1 d) ?_
    refine lv_aload_n hx hb dX1_act_41 rfl (lv_at hl 2 rfl) ?_
    refine va_get (D := E.1) (ci := 1) (v := .ref (h 4)) (C := RX1) (T := TX1) (N := 15) hx hb hts ux_X1' hown hK.1 hP 0 rfl rfl 3 (by decide) (hts _ (ta_cons _ mw_185)) (fun _ h9 => h9) rfl dX1_act_42 ?_
    refine va_get (D := E.1) (ci := 5) (v := .ref (h 6)) (C := RX5) (T := TX5) (N := 5) hx hb hts ux_X5' hown hK.1 hP 4 rfl rfl 2 (by decide) (hts _ (ta_cons _ mw_67)) (fun _ h9 => h9) rfl dX1_act_45 ?_
    refine lv_iload_n hx hb dX1_act_48 rfl (lv_at hl 0 rfl) ?_
    refine ia_i s hx hb hK hP 6 rfl (by first | assumption | omega) (by omega) dX1_act_49 ?_
    refine tp_i (y := nI (d + 1)) (hst) ?_
    refine lv_icmp_lt (tgt := 57) hx hb dX1_act_50 (by decide) (fun c_50 => ?_) (fun c_50 => ?_)
    · exact absurd c_50 (nI_nlt (by omega) (by omega))
    · refine lv_iconst (v := 1) hx hb dX1_act_53 (by decide) ?_
      refine lv_goto (tgt := 58) hx hb dX1_act_54 (by decide) ?_
      refine lv_istore (lv' := [(4, .int 1), (3, .int (nI s)), (2, .int (nI w)), (0, .ref (h 0)), (1, .int (nI k))]) hx hb dX1_act_58 hl (by decide) rfl (fun ls hl => ?_)
      refine lv_iload hx hb dX1_act_60 (lv_at hl 0 rfl) ?_
      refine lv_if_eq (tgt := 85) hx hb dX1_act_62 (by decide) (fun c_62 => ?_) (fun c_62 => ?_)
      · exact absurd c_62 (by decide)
      · refine lv_aload_n hx hb dX1_act_65 rfl (lv_at hl 3 rfl) ?_
        refine va_get (D := E.1) (ci := 1) (v := .ref (h 12)) (C := RX1) (T := TX1) (N := 15) hx hb hts ux_X1' hown hK.1 hP 0 rfl rfl 5 (by decide) (hts _ (ta_cons _ mw_187)) (fun _ h9 => h9) rfl dX1_act_66 ?_
        refine lv_iload_n hx hb dX1_act_69 rfl (lv_at hl 2 rfl) ?_
        refine lv_iload_n hx hb dX1_act_70 rfl (lv_at hl 1 rfl) ?_
        refine af_i (wc := [(h 12, .inr (3, [.int fc, .ref (h 13)])), (h 13, .inl (E.2.2.1, 16, .inr (.inl fs)))]) (wr := [(h 0, .inr (1, [.ref (h 1), .ref (h 2), .ref (h 3), .ref (h 4), .ref (h 9), .ref (h 12), .ref (h 14), .ref (h 16), .long x, .int und, .int tk, .int sp, .int fd, .int bd, .int ba])), (h 1, .inl (E.2.1, n, .inl bg)), (h 2, .inl (E.2.1, n, .inl dr)), (h 3, .inl (E.2.2.1, n, .inr (.inl oc))), (h 4, .inr (5, [.int (nI n), .ref (h 5), .ref (h 6), .ref (h 7), .ref (h 8)])), (h 5, .inl (E.2.2.1, n, .inr (.inl vals))), (h 6, .inl (E.2.1, n, .inl stp)), (h 7, .inl (E.2.1, n, .inl reg)), (h 8, .inl (E.2.2.2, n, .inl lo)), (h 9, .inr (0, [.ref (h 10), .int cnt, .ref (h 11)])), (h 10, .inl (E.2.1, n, .inl bo)), (h 11, .inl (E.2.1, n, .inl rg)), (h 14, .inr (4, [.ref (h 15), .int fr, .int en])), (h 15, .inl (E.2.1, n, .inl rw)), (h 16, .inr (2, [.ref (h 17), .ref (h 18), .ref (h 19), .int lc, .ref (h 20)])), (h 17, .inl (E.2.1, 16, .inl so)), (h 18, .inl (E.2.1, 16, .inl sm)), (h 19, .inl (E.2.2.1, 16, .inr (.inl md))), (h 20, .inl (E.2.1, 16, .inl lv))]) (rn_V (b := h 12) (ci := 3) (As := [.int (nI w), .int (nI s)]) (rest := []) (n := 2) ⟨hx, hb, hml, hown, hts⟩ ta_cons wq_X1_135 (by decide +kernel) hK (c_fhas l E (h 12) (h 13) fc fs w (nI s) (hw16) _) ⟨Nat.le_of_ble_eq_true rfl, Nat.le_of_ble_eq_true rfl⟩ hP hD [12, 13] rfl rfl rfl rfl rfl hl.1 rfl (Nat.le_of_ble_eq_true rfl) dX1_act_71 ⟨Nat.le_of_ble_eq_true rfl, Nat.le_of_ble_eq_true rfl⟩) hP hD hS hA [12, 13] [0, 1, 2, 3, 4, 5, 6, 7, 8, 9, 10, 11, 14, 15, 16, 17, 18, 19, 20] rfl rfl rfl (by decide) (fun r_71 u_71 H locs hwC hP hD hS => ?_)
        subst hwC
        have hP : va_P E.1 classes [(h 0, .inr (1, [.ref (h 1), .ref (h 2), .ref (h 3), .ref (h 4), .ref (h 9), .ref (h 12), .ref (h 14), .ref (h 16), .long x, .int und, .int tk, .int sp, .int fd, .int bd, .int ba])), (h 1, .inl (E.2.1, n, .inl bg)), (h 2, .inl (E.2.1, n, .inl dr)), (h 3, .inl (E.2.2.1, n, .inr (.inl oc))), (h 4, .inr (5, [.int (nI n), .ref (h 5), .ref (h 6), .ref (h 7), .ref (h 8)])), (h 5, .inl (E.2.2.1, n, .inr (.inl vals))), (h 6, .inl (E.2.1, n, .inl stp)), (h 7, .inl (E.2.1, n, .inl reg)), (h 8, .inl (E.2.2.2, n, .inl lo)), (h 9, .inr (0, [.ref (h 10), .int cnt, .ref (h 11)])), (h 10, .inl (E.2.1, n, .inl bo)), (h 11, .inl (E.2.1, n, .inl rg)), (h 14, .inr (4, [.ref (h 15), .int fr, .int en])), (h 15, .inl (E.2.1, n, .inl rw)), (h 16, .inr (2, [.ref (h 17), .ref (h 18), .ref (h 19), .int lc, .ref (h 20)])), (h 17, .inl (E.2.1, 16, .inl so)), (h 18, .inl (E.2.1, 16, .inl sm)), (h 19, .inl (E.2.2.1, 16, .inr (.inl md))), (h 20, .inl (E.2.1, 16, .inl lv)), (h 12, .inr (3, [.int fc, .ref (h 13)])), (h 13, .inl (E.2.2.1, 16, .inr (.inl fs)))] H := hP
        have hD : va_D AM [(h 0, .inr (1, [.ref (h 1), .ref (h 2), .ref (h 3), .ref (h 4), .ref (h 9), .ref (h 12), .ref (h 14), .ref (h 16), .long x, .int und, .int tk, .int sp, .int fd, .int bd, .int ba])), (h 1, .inl (E.2.1, n, .inl bg)), (h 2, .inl (E.2.1, n, .inl dr)), (h 3, .inl (E.2.2.1, n, .inr (.inl oc))), (h 4, .inr (5, [.int (nI n), .ref (h 5), .ref (h 6), .ref (h 7), .ref (h 8)])), (h 5, .inl (E.2.2.1, n, .inr (.inl vals))), (h 6, .inl (E.2.1, n, .inl stp)), (h 7, .inl (E.2.1, n, .inl reg)), (h 8, .inl (E.2.2.2, n, .inl lo)), (h 9, .inr (0, [.ref (h 10), .int cnt, .ref (h 11)])), (h 10, .inl (E.2.1, n, .inl bo)), (h 11, .inl (E.2.1, n, .inl rg)), (h 14, .inr (4, [.ref (h 15), .int fr, .int en])), (h 15, .inl (E.2.1, n, .inl rw)), (h 16, .inr (2, [.ref (h 17), .ref (h 18), .ref (h 19), .int lc, .ref (h 20)])), (h 17, .inl (E.2.1, 16, .inl so)), (h 18, .inl (E.2.1, 16, .inl sm)), (h 19, .inl (E.2.2.1, 16, .inr (.inl md))), (h 20, .inl (E.2.1, 16, .inl lv)), (h 12, .inr (3, [.int fc, .ref (h 13)])), (h 13, .inl (E.2.2.1, 16, .inr (.inl fs)))] := hD
        refine tp_i (y := 0) (hfh) ?_
        refine lv_if_eq (tgt := 85) hx hb dX1_act_74 (by decide) (fun c_74 => ?_) (fun c_74 => ?_)
        · refine lv_aload_n hx hb dX1_act_85 rfl (lv_at hl 3 rfl) ?_
          refine lv_iload_n hx hb dX1_act_86 rfl (lv_at hl 2 rfl) ?_
          refine lv_iload_n hx hb dX1_act_87 rfl (lv_at hl 1 rfl) ?_
          refine af_v (wc := [(h 0, .inr (1, [.ref (h 1), .ref (h 2), .ref (h 3), .ref (h 4), .ref (h 9), .ref (h 12), .ref (h 14), .ref (h 16), .long x, .int und, .int tk, .int sp, .int fd, .int bd, .int ba])), (h 1, .inl (E.2.1, n, .inl bg)), (h 2, .inl (E.2.1, n, .inl dr)), (h 3, .inl (E.2.2.1, n, .inr (.inl oc))), (h 4, .inr (5, [.int (nI n), .ref (h 5), .ref (h 6), .ref (h 7), .ref (h 8)])), (h 5, .inl (E.2.2.1, n, .inr (.inl vals))), (h 6, .inl (E.2.1, n, .inl stp)), (h 7, .inl (E.2.1, n, .inl reg)), (h 8, .inl (E.2.2.2, n, .inl lo)), (h 9, .inr (0, [.ref (h 10), .int cnt, .ref (h 11)])), (h 10, .inl (E.2.1, n, .inl bo)), (h 11, .inl (E.2.1, n, .inl rg)), (h 12, .inr (3, [.int fc, .ref (h 13)])), (h 13, .inl (E.2.2.1, 16, .inr (.inl fs))), (h 14, .inr (4, [.ref (h 15), .int fr, .int en])), (h 15, .inl (E.2.1, n, .inl rw)), (h 16, .inr (2, [.ref (h 17), .ref (h 18), .ref (h 19), .int lc, .ref (h 20)])), (h 17, .inl (E.2.1, 16, .inl so)), (h 18, .inl (E.2.1, 16, .inl sm)), (h 19, .inl (E.2.2.1, 16, .inr (.inl md))), (h 20, .inl (E.2.1, 16, .inl lv))]) (wr := []) (rn_V (b := h 0) (ci := 1) (As := [.int (nI w), .int (nI s)]) (rest := []) (n := 2) ⟨hx, hb, hml, hown, hts⟩ ta_cons wq_X1_145 (by decide +kernel) hK (c_goOn l E h n bg dr oc x und tk sp fd bd ba bo rg cnt fc fs rw fr en lc so sm lv md vals stp reg lo w s (hn) (hw16) (hsn) _) ⟨Nat.le_of_ble_eq_true rfl, Nat.le_of_ble_eq_true rfl⟩ hP hD [0, 1, 2, 3, 4, 5, 6, 7, 8, 9, 10, 11, 19, 20, 12, 13, 14, 15, 16, 17, 18] rfl rfl rfl rfl rfl hl.1 rfl (Nat.le_of_ble_eq_true rfl) dX1_act_88 ⟨Nat.le_of_ble_eq_true rfl, Nat.le_of_ble_eq_true rfl⟩) hP hD hS hA [0, 1, 2, 3, 4, 5, 6, 7, 8, 9, 10, 11, 19, 20, 12, 13, 14, 15, 16, 17, 18] [] rfl rfl rfl (by decide) (fun u_88 H locs hwC hP hD hS => ?_)
          have hP : va_P E.1 classes [(h 0, .inr (1, [.ref (h 1), .ref (h 2), .ref (h 3), .ref (h 4), .ref (h 9), .ref (h 12), .ref (h 14), .ref (h 16), .long x, .int und, .int tk, .int (sp + 1), .int fd, .int bd, .int ba])), (h 1, .inl (E.2.1, n, .inl bg)), (h 2, .inl (E.2.1, n, .inl dr)), (h 3, .inl (E.2.2.1, n, .inr (.inl oc))), (h 4, .inr (5, [.int (nI n), .ref (h 5), .ref (h 6), .ref (h 7), .ref (h 8)])), (h 5, .inl (E.2.2.1, n, .inr (.inl vals))), (h 6, .inl (E.2.1, n, .inl stp)), (h 7, .inl (E.2.1, n, .inl reg)), (h 8, .inl (E.2.2.2, n, .inl lo)), (h 9, .inr (0, [.ref (h 10), .int cnt, .ref (h 11)])), (h 10, .inl (E.2.1, n, .inl bo)), (h 11, .inl (E.2.1, n, .inl rg)), (h 12, .inr (3, [.int fc, .ref (h 13)])), (h 13, .inl (E.2.2.1, 16, .inr (.inl fs))), (h 14, .inr (4, [.ref (h 15), .int fr, .int en])), (h 15, .inl (E.2.1, n, .inl rw)), (h 16, .inr (2, [.ref (h 17), .ref (h 18), .ref (h 19), .int lc, .ref (h 20)])), (h 17, .inl (E.2.1, 16, .inl so)), (h 18, .inl (E.2.1, 16, .inl (upd sm w (sm w + 1)))), (h 19, .inl (E.2.2.1, 16, .inr (.inl (vp_updL md w (mkst (md w) (vals s) (sm w)))))), (h 20, .inl (E.2.1, 16, .inl lv))] H := hP
          have hD : va_D AM [(h 0, .inr (1, [.ref (h 1), .ref (h 2), .ref (h 3), .ref (h 4), .ref (h 9), .ref (h 12), .ref (h 14), .ref (h 16), .long x, .int und, .int tk, .int (sp + 1), .int fd, .int bd, .int ba])), (h 1, .inl (E.2.1, n, .inl bg)), (h 2, .inl (E.2.1, n, .inl dr)), (h 3, .inl (E.2.2.1, n, .inr (.inl oc))), (h 4, .inr (5, [.int (nI n), .ref (h 5), .ref (h 6), .ref (h 7), .ref (h 8)])), (h 5, .inl (E.2.2.1, n, .inr (.inl vals))), (h 6, .inl (E.2.1, n, .inl stp)), (h 7, .inl (E.2.1, n, .inl reg)), (h 8, .inl (E.2.2.2, n, .inl lo)), (h 9, .inr (0, [.ref (h 10), .int cnt, .ref (h 11)])), (h 10, .inl (E.2.1, n, .inl bo)), (h 11, .inl (E.2.1, n, .inl rg)), (h 12, .inr (3, [.int fc, .ref (h 13)])), (h 13, .inl (E.2.2.1, 16, .inr (.inl fs))), (h 14, .inr (4, [.ref (h 15), .int fr, .int en])), (h 15, .inl (E.2.1, n, .inl rw)), (h 16, .inr (2, [.ref (h 17), .ref (h 18), .ref (h 19), .int lc, .ref (h 20)])), (h 17, .inl (E.2.1, 16, .inl so)), (h 18, .inl (E.2.1, 16, .inl (upd sm w (sm w + 1)))), (h 19, .inl (E.2.2.1, 16, .inr (.inl (vp_updL md w (mkst (md w) (vals s) (sm w)))))), (h 20, .inl (E.2.1, 16, .inl lv))] := hD
          refine lv_iload hx hb dX1_act_91 (lv_at hl 0 rfl) ?_
          refine lv_if_eq (tgt := 102) hx hb dX1_act_93 (by decide) (fun c_93 => ?_) (fun c_93 => ?_)
          · exact absurd c_93 (by decide)
          · refine lv_aload_n hx hb dX1_act_96 rfl (lv_at hl 3 rfl) ?_
            refine lv_iload_n hx hb dX1_act_97 rfl (lv_at hl 2 rfl) ?_
            refine lv_iload_n hx hb dX1_act_98 rfl (lv_at hl 1 rfl) ?_
            refine af_v (wc := [(h 0, .inr (1, [.ref (h 1), .ref (h 2), .ref (h 3), .ref (h 4), .ref (h 9), .ref (h 12), .ref (h 14), .ref (h 16), .long x, .int und, .int tk, .int (sp + 1), .int fd, .int bd, .int ba])), (h 1, .inl (E.2.1, n, .inl bg)), (h 2, .inl (E.2.1, n, .inl dr)), (h 3, .inl (E.2.2.1, n, .inr (.inl oc))), (h 4, .inr (5, [.int (nI n), .ref (h 5), .ref (h 6), .ref (h 7), .ref (h 8)])), (h 5, .inl (E.2.2.1, n, .inr (.inl vals))), (h 6, .inl (E.2.1, n, .inl stp)), (h 7, .inl (E.2.1, n, .inl reg)), (h 8, .inl (E.2.2.2, n, .inl lo)), (h 9, .inr (0, [.ref (h 10), .int cnt, .ref (h 11)])), (h 10, .inl (E.2.1, n, .inl bo)), (h 11, .inl (E.2.1, n, .inl rg)), (h 12, .inr (3, [.int fc, .ref (h 13)])), (h 13, .inl (E.2.2.1, 16, .inr (.inl fs))), (h 14, .inr (4, [.ref (h 15), .int fr, .int en])), (h 15, .inl (E.2.1, n, .inl rw)), (h 16, .inr (2, [.ref (h 17), .ref (h 18), .ref (h 19), .int lc, .ref (h 20)])), (h 17, .inl (E.2.1, 16, .inl so)), (h 18, .inl (E.2.1, 16, .inl (upd sm w (sm w + 1)))), (h 19, .inl (E.2.2.1, 16, .inr (.inl (vp_updL md w (mkst (md w) (vals s) (sm w)))))), (h 20, .inl (E.2.1, 16, .inl lv))]) (wr := []) (rn_V (b := h 0) (ci := 1) (As := [.int (nI w), .int (nI s)]) (rest := []) (n := 2) ⟨hx, hb, hml, hown, hts⟩ ta_cons wq_X1_149 (by decide +kernel) hK (c_finish l E h n bg dr oc x und tk (sp + 1) fd bd ba bo rg cnt fc fs rw fr en lc so (upd sm w (sm w + 1)) lv (vp_updL md w (mkst (md w) (vals s) (sm w))) vals stp reg lo w s (hn) (hw16) (hsn) _) ⟨Nat.le_of_ble_eq_true rfl, Nat.le_of_ble_eq_true rfl⟩ hP hD [0, 1, 2, 3, 4, 5, 6, 7, 8, 9, 10, 11, 12, 13, 14, 15, 16, 17, 18, 19, 20] rfl rfl rfl rfl rfl hl.1 rfl (Nat.le_of_ble_eq_true rfl) dX1_act_99 ⟨Nat.le_of_ble_eq_true rfl, Nat.le_of_ble_eq_true rfl⟩) hP hD hS hA [0, 1, 2, 3, 4, 5, 6, 7, 8, 9, 10, 11, 12, 13, 14, 15, 16, 17, 18, 19, 20] [] rfl rfl rfl (by decide) (fun u_99 H locs hwC hP hD hS => ?_)
            have hP : va_P E.1 classes [(h 0, .inr (1, [.ref (h 1), .ref (h 2), .ref (h 3), .ref (h 4), .ref (h 9), .ref (h 12), .ref (h 14), .ref (h 16), .long x, .int (und - 1), .int tk, .int (sp + 1), .int fd, .int bd, .int ba])), (h 1, .inl (E.2.1, n, .inl bg)), (h 2, .inl (E.2.1, n, .inl (upd dr s (nI w)))), (h 3, .inl (E.2.2.1, n, .inr (.inl (vp_updL oc s ((vp_updL md w (mkst (md w) (vals s) (sm w))) w))))), (h 4, .inr (5, [.int (nI n), .ref (h 5), .ref (h 6), .ref (h 7), .ref (h 8)])), (h 5, .inl (E.2.2.1, n, .inr (.inl vals))), (h 6, .inl (E.2.1, n, .inl stp)), (h 7, .inl (E.2.1, n, .inl reg)), (h 8, .inl (E.2.2.2, n, .inl lo)), (h 9, .inr (0, [.ref (h 10), .int cnt, .ref (h 11)])), (h 10, .inl (E.2.1, n, .inl bo)), (h 11, .inl (E.2.1, n, .inl rg)), (h 12, .inr (3, [.int fc, .ref (h 13)])), (h 13, .inl (E.2.2.1, 16, .inr (.inl fs))), (h 14, .inr (4, [.ref (h 15), .int fr, .int en])), (h 15, .inl (E.2.1, n, .inl rw)), (h 16, .inr (2, [.ref (h 17), .ref (h 18), .ref (h 19), .int lc, .ref (h 20)])), (h 17, .inl (E.2.1, 16, .inl (upd so w (-1)))), (h 18, .inl (E.2.1, 16, .inl (upd sm w (sm w + 1)))), (h 19, .inl (E.2.2.1, 16, .inr (.inl (vp_updL md w (mkst (md w) (vals s) (sm w)))))), (h 20, .inl (E.2.1, 16, .inl lv))] H := hP
            have hD : va_D AM [(h 0, .inr (1, [.ref (h 1), .ref (h 2), .ref (h 3), .ref (h 4), .ref (h 9), .ref (h 12), .ref (h 14), .ref (h 16), .long x, .int (und - 1), .int tk, .int (sp + 1), .int fd, .int bd, .int ba])), (h 1, .inl (E.2.1, n, .inl bg)), (h 2, .inl (E.2.1, n, .inl (upd dr s (nI w)))), (h 3, .inl (E.2.2.1, n, .inr (.inl (vp_updL oc s ((vp_updL md w (mkst (md w) (vals s) (sm w))) w))))), (h 4, .inr (5, [.int (nI n), .ref (h 5), .ref (h 6), .ref (h 7), .ref (h 8)])), (h 5, .inl (E.2.2.1, n, .inr (.inl vals))), (h 6, .inl (E.2.1, n, .inl stp)), (h 7, .inl (E.2.1, n, .inl reg)), (h 8, .inl (E.2.2.2, n, .inl lo)), (h 9, .inr (0, [.ref (h 10), .int cnt, .ref (h 11)])), (h 10, .inl (E.2.1, n, .inl bo)), (h 11, .inl (E.2.1, n, .inl rg)), (h 12, .inr (3, [.int fc, .ref (h 13)])), (h 13, .inl (E.2.2.1, 16, .inr (.inl fs))), (h 14, .inr (4, [.ref (h 15), .int fr, .int en])), (h 15, .inl (E.2.1, n, .inl rw)), (h 16, .inr (2, [.ref (h 17), .ref (h 18), .ref (h 19), .int lc, .ref (h 20)])), (h 17, .inl (E.2.1, 16, .inl (upd so w (-1)))), (h 18, .inl (E.2.1, 16, .inl (upd sm w (sm w + 1)))), (h 19, .inl (E.2.2.1, 16, .inr (.inl (vp_updL md w (mkst (md w) (vals s) (sm w)))))), (h 20, .inl (E.2.1, 16, .inl lv))] := hD
            exact Rv hx hb hr hlocks hP hD hS () [0, 1, 2, 3, 4, 5, 6, 7, 8, 9, 10, 11, 12, 13, 14, 15, 16, 17, 18, 19, 20] rfl rfl (trivial) (Nat.le_of_ble_eq_true rfl) (Nat.le_of_ble_eq_true rfl) dX1_act_102
        · exact absurd rfl c_74
  · exact absurd c_21.symm (neg1_ne (by omega))

set_option maxHeartbeats 4000000 in
set_option maxRecDepth 100000 in
theorem c_act_fail (l : Launch) (E : EE) (h : Nat → Nat) (n : Nat) (bg : Nat → Int32) (dr : Nat → Int32) (oc : Nat → Int64) (x : Int64) (und : Int32) (tk : Int32) (sp : Int32) (fd : Int32) (bd : Int32) (ba : Int32) (bo : Nat → Int32) (rg : Nat → Int32) (cnt : Int32) (fc : Int32) (fs : Nat → Int64) (rw : Nat → Int32) (en : Int32) (so : Nat → Int32) (sm : Nat → Int32) (lv : Nat → Int32) (md : Nat → Int64) (vals : Nat → Int64) (stp : Nat → Int32) (reg : Nat → Int32) (lo : Nat → Int32) (k : Nat) (w : Nat) (s : Nat) (d : Nat) (L : Nat) (f : Nat) (hn : n < 2 ^ 31) (hk : k < 16) (hlv : lv k = nI w) (hw16 : w < 16) (hso : so w = nI s) (hsn : s < n) (hsm : sm w = nI d) (hst : stp s = nI (d + 1)) (hd : d + 1 < 2 ^ 31) (hfh : fhas (fs w) (nI s) = 1) (hkL : k ≤ L) (hL : L < 16) (hf : f < n) : Mv (S := Nat → Int32) l E yX1_act (.code yX1_act cX1_act 5 none) ({ frames := 3, cells := 0, slots := 0, locals := 68 }) [.ref (h 0), .int (nI k)] [(h 0, .inr (1, [.ref (h 1), .ref (h 2), .ref (h 3), .ref (h 4), .ref (h 9), .ref (h 12), .ref (h 14), .ref (h 16), .long x, .int und, .int tk, .int sp, .int fd, .int bd, .int ba])), (h 1, .inl (E.2.1, n, .inl bg)), (h 2, .inl (E.2.1, n, .inl dr)), (h 3, .inl (E.2.2.1, n, .inr (.inl oc))), (h 4, .inr (5, [.int (nI n), .ref (h 5), .ref (h 6), .ref (h 7), .ref (h 8)])), (h 5, .inl (E.2.2.1, n, .inr (.inl vals))), (h 6, .inl (E.2.1, n, .inl stp)), (h 7, .inl (E.2.1, n, .inl reg)), (h 8, .inl (E.2.2.2, n, .inl lo)), (h 9, .inr (0, [.ref (h 10), .int cnt, .ref (h 11)])), (h 10, .inl (E.2.1, n, .inl bo)), (h 11, .inl (E.2.1, n, .inl rg)), (h 12, .inr (3, [.int fc, .ref (h 13)])), (h 13, .inl (E.2.2.1, 16, .inr (.inl fs))), (h 14, .inr (4, [.ref (h 15), .int (nI (f + 1)), .int en])), (h 15, .inl (E.2.1, n, .inl rw)), (h 16, .inr (2, [.ref (h 17), .ref (h 18), .ref (h 19), .int (nI (L + 1)), .ref (h 20)])), (h 17, .inl (E.2.1, 16, .inl so)), (h 18, .inl (E.2.1, 16, .inl sm)), (h 19, .inl (E.2.2.1, 16, .inr (.inl md))), (h 20, .inl (E.2.1, 16, .inl lv))] (fun u : Nat → Int32 => (∀ j, j < k → u j = lv j) ∧ ∀ j, k ≤ j → j < L → u j = lv (j + 1)) (fun u : Nat → Int32 => [(h 0, .inr (1, [.ref (h 1), .ref (h 2), .ref (h 3), .ref (h 4), .ref (h 9), .ref (h 12), .ref (h 14), .ref (h 16), .long x, .int und, .int tk, .int sp, .int (fd + 1), .int bd, .int ba])), (h 1, .inl (E.2.1, n, .inl bg)), (h 2, .inl (E.2.1, n, .inl dr)), (h 3, .inl (E.2.2.1, n, .inr (.inl oc))), (h 4, .inr (5, [.int (nI n), .ref (h 5), .ref (h 6), .ref (h 7), .ref (h 8)])), (h 5, .inl (E.2.2.1, n, .inr (.inl vals))), (h 6, .inl (E.2.1, n, .inl stp)), (h 7, .inl (E.2.1, n, .inl reg)), (h 8, .inl (E.2.2.2, n, .inl lo)), (h 9, .inr (0, [.ref (h 10), .int cnt, .ref (h 11)])), (h 10, .inl (E.2.1, n, .inl bo)), (h 11, .inl (E.2.1, n, .inl rg)), (h 12, .inr (3, [.int (fc - 1), .ref (h 13)])), (h 13, .inl (E.2.2.1, 16, .inr (.inl (vp_updL fs w (fs w &&& (bitm (nI s) ^^^ (-1))))))), (h 14, .inr (4, [.ref (h 15), .int (nI f), .int en])), (h 15, .inl (E.2.1, n, .inl (upd rw f (nI s)))), (h 16, .inr (2, [.ref (h 17), .ref (h 18), .ref (h 19), .int (nI L), .ref (h 20)])), (h 17, .inl (E.2.1, 16, .inl so)), (h 18, .inl (E.2.1, 16, .inl sm)), (h 19, .inl (E.2.2.1, 16, .inr (.inl md))), (h 20, .inl (E.2.1, 16, .inl u))]) := by
  refine Mv.ofW (by decide) (Nat.le_of_ble_eq_true rfl) ?_
  intro pM eM sM mM bM meM cM AM ls hB hA hP hD hS hl
  obtain ⟨hx, hb, hr, hml, hown, hlocks, hnm, hts, hK⟩ := hB
  have hl : lv_has ls 5 [(0, .ref (h 0)), (1, .int (nI k))] := hl
  refine lv_aload_n hx hb dX1_act_0 rfl (lv_at hl 0 rfl) ?_
  refine va_get (D := E.1) (ci := 1) (v := .ref (h 16)) (C := RX1) (T := TX1) (N := 15) hx hb hts ux_X1' hown hK.1 hP 0 rfl rfl 7 (by decide) (hts _ (ta_cons _ mw_189)) (fun _ h9 => h9) rfl dX1_act_1 ?_
  refine lv_iload_n hx hb dX1_act_4 rfl (lv_at hl 1 rfl) ?_
  refine af_i (wc := [(h 16, .inr (2, [.ref (h 17), .ref (h 18), .ref (h 19), .int (nI (L + 1)), .ref (h 20)])), (h 17, .inl (E.2.1, 16, .inl so)), (h 18, .inl (E.2.1, 16, .inl sm)), (h 19, .inl (E.2.2.1, 16, .inr (.inl md))), (h 20, .inl (E.2.1, 16, .inl lv))]) (wr := [(h 0, .inr (1, [.ref (h 1), .ref (h 2), .ref (h 3), .ref (h 4), .ref (h 9), .ref (h 12), .ref (h 14), .ref (h 16), .long x, .int und, .int tk, .int sp, .int fd, .int bd, .int ba])), (h 1, .inl (E.2.1, n, .inl bg)), (h 2, .inl (E.2.1, n, .inl dr)), (h 3, .inl (E.2.2.1, n, .inr (.inl oc))), (h 4, .inr (5, [.int (nI n), .ref (h 5), .ref (h 6), .ref (h 7), .ref (h 8)])), (h 5, .inl (E.2.2.1, n, .inr (.inl vals))), (h 6, .inl (E.2.1, n, .inl stp)), (h 7, .inl (E.2.1, n, .inl reg)), (h 8, .inl (E.2.2.2, n, .inl lo)), (h 9, .inr (0, [.ref (h 10), .int cnt, .ref (h 11)])), (h 10, .inl (E.2.1, n, .inl bo)), (h 11, .inl (E.2.1, n, .inl rg)), (h 12, .inr (3, [.int fc, .ref (h 13)])), (h 13, .inl (E.2.2.1, 16, .inr (.inl fs))), (h 14, .inr (4, [.ref (h 15), .int (nI (f + 1)), .int en])), (h 15, .inl (E.2.1, n, .inl rw))]) (rn_V (b := h 16) (ci := 2) (As := [.int (nI k)]) (rest := []) (n := 1) ⟨hx, hb, hml, hown, hts⟩ ta_cons wq_X1_120 (by decide +kernel) hK (c_liveAt l E (h 16) (h 17) (h 18) (h 19) (h 20) (nI (L + 1)) so sm lv md k (hk) _) ⟨Nat.le_of_ble_eq_true rfl, Nat.le_of_ble_eq_true rfl⟩ hP hD [16, 17, 18, 19, 20] rfl rfl rfl rfl rfl hl.1 rfl (Nat.le_of_ble_eq_true rfl) dX1_act_5 ⟨Nat.le_of_ble_eq_true rfl, Nat.le_of_ble_eq_true rfl⟩) hP hD hS hA [16, 17, 18, 19, 20] [0, 1, 2, 3, 4, 5, 6, 7, 8, 9, 10, 11, 12, 13, 14, 15] rfl rfl rfl (by decide) (fun r_5 u_5 H locs hwC hP hD hS => ?_)
  subst hwC
  have hP : va_P E.1 classes [(h 0, .inr (1, [.ref (h 1), .ref (h 2), .ref (h 3), .ref (h 4), .ref (h 9), .ref (h 12), .ref (h 14), .ref (h 16), .long x, .int und, .int tk, .int sp, .int fd, .int bd, .int ba])), (h 1, .inl (E.2.1, n, .inl bg)), (h 2, .inl (E.2.1, n, .inl dr)), (h 3, .inl (E.2.2.1, n, .inr (.inl oc))), (h 4, .inr (5, [.int (nI n), .ref (h 5), .ref (h 6), .ref (h 7), .ref (h 8)])), (h 5, .inl (E.2.2.1, n, .inr (.inl vals))), (h 6, .inl (E.2.1, n, .inl stp)), (h 7, .inl (E.2.1, n, .inl reg)), (h 8, .inl (E.2.2.2, n, .inl lo)), (h 9, .inr (0, [.ref (h 10), .int cnt, .ref (h 11)])), (h 10, .inl (E.2.1, n, .inl bo)), (h 11, .inl (E.2.1, n, .inl rg)), (h 12, .inr (3, [.int fc, .ref (h 13)])), (h 13, .inl (E.2.2.1, 16, .inr (.inl fs))), (h 14, .inr (4, [.ref (h 15), .int (nI (f + 1)), .int en])), (h 15, .inl (E.2.1, n, .inl rw)), (h 16, .inr (2, [.ref (h 17), .ref (h 18), .ref (h 19), .int (nI (L + 1)), .ref (h 20)])), (h 17, .inl (E.2.1, 16, .inl so)), (h 18, .inl (E.2.1, 16, .inl sm)), (h 19, .inl (E.2.2.1, 16, .inr (.inl md))), (h 20, .inl (E.2.1, 16, .inl lv))] H := hP
  have hD : va_D AM [(h 0, .inr (1, [.ref (h 1), .ref (h 2), .ref (h 3), .ref (h 4), .ref (h 9), .ref (h 12), .ref (h 14), .ref (h 16), .long x, .int und, .int tk, .int sp, .int fd, .int bd, .int ba])), (h 1, .inl (E.2.1, n, .inl bg)), (h 2, .inl (E.2.1, n, .inl dr)), (h 3, .inl (E.2.2.1, n, .inr (.inl oc))), (h 4, .inr (5, [.int (nI n), .ref (h 5), .ref (h 6), .ref (h 7), .ref (h 8)])), (h 5, .inl (E.2.2.1, n, .inr (.inl vals))), (h 6, .inl (E.2.1, n, .inl stp)), (h 7, .inl (E.2.1, n, .inl reg)), (h 8, .inl (E.2.2.2, n, .inl lo)), (h 9, .inr (0, [.ref (h 10), .int cnt, .ref (h 11)])), (h 10, .inl (E.2.1, n, .inl bo)), (h 11, .inl (E.2.1, n, .inl rg)), (h 12, .inr (3, [.int fc, .ref (h 13)])), (h 13, .inl (E.2.2.1, 16, .inr (.inl fs))), (h 14, .inr (4, [.ref (h 15), .int (nI (f + 1)), .int en])), (h 15, .inl (E.2.1, n, .inl rw)), (h 16, .inr (2, [.ref (h 17), .ref (h 18), .ref (h 19), .int (nI (L + 1)), .ref (h 20)])), (h 17, .inl (E.2.1, 16, .inl so)), (h 18, .inl (E.2.1, 16, .inl sm)), (h 19, .inl (E.2.2.1, 16, .inr (.inl md))), (h 20, .inl (E.2.1, 16, .inl lv))] := hD
  refine tp_i (y := nI w) (hlv) ?_
  refine lv_istore_n (lv' := [(2, .int (nI w)), (0, .ref (h 0)), (1, .int (nI k))]) hx hb dX1_act_8 rfl hl (by decide) rfl (fun ls hl => ?_)
  refine lv_aload_n hx hb dX1_act_9 rfl (lv_at hl 1 rfl) ?_
  refine va_get (D := E.1) (ci := 1) (v := .ref (h 16)) (C := RX1) (T := TX1) (N := 15) hx hb hts ux_X1' hown hK.1 hP 0 rfl rfl 7 (by decide) (hts _ (ta_cons _ mw_189)) (fun _ h9 => h9) rfl dX1_act_10 ?_
  refine va_get (D := E.1) (ci := 2) (v := .ref (h 17)) (C := RX2) (T := TX2) (N := 5) hx hb hts ux_X2' hown hK.1 hP 16 rfl rfl 0 (by decide) (hts _ (ta_cons _ mw_152)) (fun _ h9 => h9) rfl dX1_act_13 ?_
  refine lv_iload_n hx hb dX1_act_16 rfl (lv_at hl 0 rfl) ?_
  refine ia_i w hx hb hK hP 17 rfl (by first | assumption | omega) (by decide) dX1_act_17 ?_
  refine tp_i (y := nI s) (hso) ?_
  refine lv_istore_n (lv' := [(3, .int (nI s)), (2, .int (nI w)), (0, .ref (h 0)), (1, .int (nI k))]) hx hb dX1_act_18 rfl hl (by decide) rfl (fun ls hl => ?_)
  refine lv_iload_n hx hb dX1_act_19 rfl (lv_at hl 0 rfl) ?_
  refine lv_iconst (v := (-1)) hx hb dX1_act_20 (by decide) ?_
  refine lv_icmp_ne (tgt := 30) hx hb dX1_act_21 (by decide) (fun c_21 => ?_) (fun c_21 => ?_)
  · refine lv_aload_n hx hb dX1_act_30 rfl (lv_at hl 2 rfl) ?_
    refine va_get (D := E.1) (ci := 1) (v := .ref (h 16)) (C := RX1) (T := TX1) (N := 15) hx hb hts ux_X1' hown hK.1 hP 0 rfl rfl 7 (by decide) (hts _ (ta_cons _ mw_189)) (fun _ h9 => h9) rfl dX1_act_31 ?_
    refine va_get (D := E.1) (ci := 2) (v := .ref (h 18)) (C := RX2) (T := TX2) (N := 5) hx hb hts ux_X2' hown hK.1 hP 16 rfl rfl 1 (by decide) (hts _ (ta_cons _ mw_154)) (fun _ h9 => h9) rfl dX1_act_34 ?_
    refine lv_iload_n hx hb dX1_act_37 rfl (lv_at hl 1 rfl) ?_
    refine ia_i w hx hb hK hP 18 rfl (by first | assumption | omega) (by decide) dX1_act_38 ?_
    refine lv_iconst (v := 1) hx hb dX1_act_39 (by decide) ?_
    refine lv_iadd hx hb dX1_act_40 ?_
    refine tp_i (y := nI (d + 1)) (by rw [hsm]; exact nI_1 d) ?_
    refine lv_aload_n hx hb dX1_act_41 rfl (lv_at hl 2 rfl) ?_
    refine va_get (D := E.1) (ci := 1) (v := .ref (h 4)) (C := RX1) (T := TX1) (N := 15) hx hb hts ux_X1' hown hK.1 hP 0 rfl rfl 3 (by decide) (hts _ (ta_cons _ mw_185)) (fun _ h9 => h9) rfl dX1_act_42 ?_
    refine va_get (D := E.1) (ci := 5) (v := .ref (h 6)) (C := RX5) (T := TX5) (N := 5) hx hb hts ux_X5' hown hK.1 hP 4 rfl rfl 2 (by decide) (hts _ (ta_cons _ mw_67)) (fun _ h9 => h9) rfl dX1_act_45 ?_
    refine lv_iload_n hx hb dX1_act_48 rfl (lv_at hl 0 rfl) ?_
    refine ia_i s hx hb hK hP 6 rfl (by first | assumption | omega) (by omega) dX1_act_49 ?_
    refine tp_i (y := nI (d + 1)) (hst) ?_
    refine lv_icmp_lt (tgt := 57) hx hb dX1_act_50 (by decide) (fun c_50 => ?_) (fun c_50 => ?_)
    · exact absurd c_50 (nI_nlt (by omega) (by omega))
    · refine lv_iconst (v := 1) hx hb dX1_act_53 (by decide) ?_
      refine lv_goto (tgt := 58) hx hb dX1_act_54 (by decide) ?_
      refine lv_istore (lv' := [(4, .int 1), (3, .int (nI s)), (2, .int (nI w)), (0, .ref (h 0)), (1, .int (nI k))]) hx hb dX1_act_58 hl (by decide) rfl (fun ls hl => ?_)
      refine lv_iload hx hb dX1_act_60 (lv_at hl 0 rfl) ?_
      refine lv_if_eq (tgt := 85) hx hb dX1_act_62 (by decide) (fun c_62 => ?_) (fun c_62 => ?_)
      · exact absurd c_62 (by decide)
      · refine lv_aload_n hx hb dX1_act_65 rfl (lv_at hl 3 rfl) ?_
        refine va_get (D := E.1) (ci := 1) (v := .ref (h 12)) (C := RX1) (T := TX1) (N := 15) hx hb hts ux_X1' hown hK.1 hP 0 rfl rfl 5 (by decide) (hts _ (ta_cons _ mw_187)) (fun _ h9 => h9) rfl dX1_act_66 ?_
        refine lv_iload_n hx hb dX1_act_69 rfl (lv_at hl 2 rfl) ?_
        refine lv_iload_n hx hb dX1_act_70 rfl (lv_at hl 1 rfl) ?_
        refine af_i (wc := [(h 12, .inr (3, [.int fc, .ref (h 13)])), (h 13, .inl (E.2.2.1, 16, .inr (.inl fs)))]) (wr := [(h 0, .inr (1, [.ref (h 1), .ref (h 2), .ref (h 3), .ref (h 4), .ref (h 9), .ref (h 12), .ref (h 14), .ref (h 16), .long x, .int und, .int tk, .int sp, .int fd, .int bd, .int ba])), (h 1, .inl (E.2.1, n, .inl bg)), (h 2, .inl (E.2.1, n, .inl dr)), (h 3, .inl (E.2.2.1, n, .inr (.inl oc))), (h 4, .inr (5, [.int (nI n), .ref (h 5), .ref (h 6), .ref (h 7), .ref (h 8)])), (h 5, .inl (E.2.2.1, n, .inr (.inl vals))), (h 6, .inl (E.2.1, n, .inl stp)), (h 7, .inl (E.2.1, n, .inl reg)), (h 8, .inl (E.2.2.2, n, .inl lo)), (h 9, .inr (0, [.ref (h 10), .int cnt, .ref (h 11)])), (h 10, .inl (E.2.1, n, .inl bo)), (h 11, .inl (E.2.1, n, .inl rg)), (h 14, .inr (4, [.ref (h 15), .int (nI (f + 1)), .int en])), (h 15, .inl (E.2.1, n, .inl rw)), (h 16, .inr (2, [.ref (h 17), .ref (h 18), .ref (h 19), .int (nI (L + 1)), .ref (h 20)])), (h 17, .inl (E.2.1, 16, .inl so)), (h 18, .inl (E.2.1, 16, .inl sm)), (h 19, .inl (E.2.2.1, 16, .inr (.inl md))), (h 20, .inl (E.2.1, 16, .inl lv))]) (rn_V (b := h 12) (ci := 3) (As := [.int (nI w), .int (nI s)]) (rest := []) (n := 2) ⟨hx, hb, hml, hown, hts⟩ ta_cons wq_X1_135 (by decide +kernel) hK (c_fhas l E (h 12) (h 13) fc fs w (nI s) (hw16) _) ⟨Nat.le_of_ble_eq_true rfl, Nat.le_of_ble_eq_true rfl⟩ hP hD [12, 13] rfl rfl rfl rfl rfl hl.1 rfl (Nat.le_of_ble_eq_true rfl) dX1_act_71 ⟨Nat.le_of_ble_eq_true rfl, Nat.le_of_ble_eq_true rfl⟩) hP hD hS hA [12, 13] [0, 1, 2, 3, 4, 5, 6, 7, 8, 9, 10, 11, 14, 15, 16, 17, 18, 19, 20] rfl rfl rfl (by decide) (fun r_71 u_71 H locs hwC hP hD hS => ?_)
        subst hwC
        have hP : va_P E.1 classes [(h 0, .inr (1, [.ref (h 1), .ref (h 2), .ref (h 3), .ref (h 4), .ref (h 9), .ref (h 12), .ref (h 14), .ref (h 16), .long x, .int und, .int tk, .int sp, .int fd, .int bd, .int ba])), (h 1, .inl (E.2.1, n, .inl bg)), (h 2, .inl (E.2.1, n, .inl dr)), (h 3, .inl (E.2.2.1, n, .inr (.inl oc))), (h 4, .inr (5, [.int (nI n), .ref (h 5), .ref (h 6), .ref (h 7), .ref (h 8)])), (h 5, .inl (E.2.2.1, n, .inr (.inl vals))), (h 6, .inl (E.2.1, n, .inl stp)), (h 7, .inl (E.2.1, n, .inl reg)), (h 8, .inl (E.2.2.2, n, .inl lo)), (h 9, .inr (0, [.ref (h 10), .int cnt, .ref (h 11)])), (h 10, .inl (E.2.1, n, .inl bo)), (h 11, .inl (E.2.1, n, .inl rg)), (h 14, .inr (4, [.ref (h 15), .int (nI (f + 1)), .int en])), (h 15, .inl (E.2.1, n, .inl rw)), (h 16, .inr (2, [.ref (h 17), .ref (h 18), .ref (h 19), .int (nI (L + 1)), .ref (h 20)])), (h 17, .inl (E.2.1, 16, .inl so)), (h 18, .inl (E.2.1, 16, .inl sm)), (h 19, .inl (E.2.2.1, 16, .inr (.inl md))), (h 20, .inl (E.2.1, 16, .inl lv)), (h 12, .inr (3, [.int fc, .ref (h 13)])), (h 13, .inl (E.2.2.1, 16, .inr (.inl fs)))] H := hP
        have hD : va_D AM [(h 0, .inr (1, [.ref (h 1), .ref (h 2), .ref (h 3), .ref (h 4), .ref (h 9), .ref (h 12), .ref (h 14), .ref (h 16), .long x, .int und, .int tk, .int sp, .int fd, .int bd, .int ba])), (h 1, .inl (E.2.1, n, .inl bg)), (h 2, .inl (E.2.1, n, .inl dr)), (h 3, .inl (E.2.2.1, n, .inr (.inl oc))), (h 4, .inr (5, [.int (nI n), .ref (h 5), .ref (h 6), .ref (h 7), .ref (h 8)])), (h 5, .inl (E.2.2.1, n, .inr (.inl vals))), (h 6, .inl (E.2.1, n, .inl stp)), (h 7, .inl (E.2.1, n, .inl reg)), (h 8, .inl (E.2.2.2, n, .inl lo)), (h 9, .inr (0, [.ref (h 10), .int cnt, .ref (h 11)])), (h 10, .inl (E.2.1, n, .inl bo)), (h 11, .inl (E.2.1, n, .inl rg)), (h 14, .inr (4, [.ref (h 15), .int (nI (f + 1)), .int en])), (h 15, .inl (E.2.1, n, .inl rw)), (h 16, .inr (2, [.ref (h 17), .ref (h 18), .ref (h 19), .int (nI (L + 1)), .ref (h 20)])), (h 17, .inl (E.2.1, 16, .inl so)), (h 18, .inl (E.2.1, 16, .inl sm)), (h 19, .inl (E.2.2.1, 16, .inr (.inl md))), (h 20, .inl (E.2.1, 16, .inl lv)), (h 12, .inr (3, [.int fc, .ref (h 13)])), (h 13, .inl (E.2.2.1, 16, .inr (.inl fs)))] := hD
        refine tp_i (y := 1) (hfh) ?_
        refine lv_if_eq (tgt := 85) hx hb dX1_act_74 (by decide) (fun c_74 => ?_) (fun c_74 => ?_)
        · exact absurd c_74 (by decide)
        · refine lv_aload_n hx hb dX1_act_77 rfl (lv_at hl 3 rfl) ?_
          refine lv_iload_n hx hb dX1_act_78 rfl (lv_at hl 4 rfl) ?_
          refine lv_iload_n hx hb dX1_act_79 rfl (lv_at hl 2 rfl) ?_
          refine lv_iload_n hx hb dX1_act_80 rfl (lv_at hl 1 rfl) ?_
          refine af_v (wc := [(h 0, .inr (1, [.ref (h 1), .ref (h 2), .ref (h 3), .ref (h 4), .ref (h 9), .ref (h 12), .ref (h 14), .ref (h 16), .long x, .int und, .int tk, .int sp, .int fd, .int bd, .int ba])), (h 1, .inl (E.2.1, n, .inl bg)), (h 2, .inl (E.2.1, n, .inl dr)), (h 3, .inl (E.2.2.1, n, .inr (.inl oc))), (h 4, .inr (5, [.int (nI n), .ref (h 5), .ref (h 6), .ref (h 7), .ref (h 8)])), (h 5, .inl (E.2.2.1, n, .inr (.inl vals))), (h 6, .inl (E.2.1, n, .inl stp)), (h 7, .inl (E.2.1, n, .inl reg)), (h 8, .inl (E.2.2.2, n, .inl lo)), (h 9, .inr (0, [.ref (h 10), .int cnt, .ref (h 11)])), (h 10, .inl (E.2.1, n, .inl bo)), (h 11, .inl (E.2.1, n, .inl rg)), (h 12, .inr (3, [.int fc, .ref (h 13)])), (h 13, .inl (E.2.2.1, 16, .inr (.inl fs))), (h 14, .inr (4, [.ref (h 15), .int (nI (f + 1)), .int en])), (h 15, .inl (E.2.1, n, .inl rw)), (h 16, .inr (2, [.ref (h 17), .ref (h 18), .ref (h 19), .int (nI (L + 1)), .ref (h 20)])), (h 17, .inl (E.2.1, 16, .inl so)), (h 18, .inl (E.2.1, 16, .inl sm)), (h 19, .inl (E.2.2.1, 16, .inr (.inl md))), (h 20, .inl (E.2.1, 16, .inl lv))]) (wr := []) (rn_V (b := h 0) (ci := 1) (As := [.int (nI k), .int (nI w), .int (nI s)]) (rest := []) (n := 3) ⟨hx, hb, hml, hown, hts⟩ ta_cons wq_X1_141 (by decide +kernel) hK (c_break l E h n bg dr oc x und tk sp fd bd ba bo rg cnt fc fs rw en so sm lv md vals stp reg lo k w s L f (hn) (hw16) (hkL) (hL) (hf) _) ⟨Nat.le_of_ble_eq_true rfl, Nat.le_of_ble_eq_true rfl⟩ hP hD [0, 1, 2, 3, 4, 5, 6, 7, 8, 9, 10, 11, 19, 20, 12, 13, 14, 15, 16, 17, 18] rfl rfl rfl rfl rfl hl.1 rfl (Nat.le_of_ble_eq_true rfl) dX1_act_81 ⟨Nat.le_of_ble_eq_true rfl, Nat.le_of_ble_eq_true rfl⟩) hP hD hS hA [0, 1, 2, 3, 4, 5, 6, 7, 8, 9, 10, 11, 19, 20, 12, 13, 14, 15, 16, 17, 18] [] rfl rfl rfl (by decide) (fun u_81 H locs hwC hP hD hS => ?_)
          have hdr := hwC
          have hP : va_P E.1 classes [(h 0, .inr (1, [.ref (h 1), .ref (h 2), .ref (h 3), .ref (h 4), .ref (h 9), .ref (h 12), .ref (h 14), .ref (h 16), .long x, .int und, .int tk, .int sp, .int (fd + 1), .int bd, .int ba])), (h 1, .inl (E.2.1, n, .inl bg)), (h 2, .inl (E.2.1, n, .inl dr)), (h 3, .inl (E.2.2.1, n, .inr (.inl oc))), (h 4, .inr (5, [.int (nI n), .ref (h 5), .ref (h 6), .ref (h 7), .ref (h 8)])), (h 5, .inl (E.2.2.1, n, .inr (.inl vals))), (h 6, .inl (E.2.1, n, .inl stp)), (h 7, .inl (E.2.1, n, .inl reg)), (h 8, .inl (E.2.2.2, n, .inl lo)), (h 9, .inr (0, [.ref (h 10), .int cnt, .ref (h 11)])), (h 10, .inl (E.2.1, n, .inl bo)), (h 11, .inl (E.2.1, n, .inl rg)), (h 12, .inr (3, [.int (fc - 1), .ref (h 13)])), (h 13, .inl (E.2.2.1, 16, .inr (.inl (vp_updL fs w (fs w &&& (bitm (nI s) ^^^ (-1))))))), (h 14, .inr (4, [.ref (h 15), .int (nI f), .int en])), (h 15, .inl (E.2.1, n, .inl (upd rw f (nI s)))), (h 16, .inr (2, [.ref (h 17), .ref (h 18), .ref (h 19), .int (nI L), .ref (h 20)])), (h 17, .inl (E.2.1, 16, .inl so)), (h 18, .inl (E.2.1, 16, .inl sm)), (h 19, .inl (E.2.2.1, 16, .inr (.inl md))), (h 20, .inl (E.2.1, 16, .inl u_81))] H := hP
          have hD : va_D AM [(h 0, .inr (1, [.ref (h 1), .ref (h 2), .ref (h 3), .ref (h 4), .ref (h 9), .ref (h 12), .ref (h 14), .ref (h 16), .long x, .int und, .int tk, .int sp, .int (fd + 1), .int bd, .int ba])), (h 1, .inl (E.2.1, n, .inl bg)), (h 2, .inl (E.2.1, n, .inl dr)), (h 3, .inl (E.2.2.1, n, .inr (.inl oc))), (h 4, .inr (5, [.int (nI n), .ref (h 5), .ref (h 6), .ref (h 7), .ref (h 8)])), (h 5, .inl (E.2.2.1, n, .inr (.inl vals))), (h 6, .inl (E.2.1, n, .inl stp)), (h 7, .inl (E.2.1, n, .inl reg)), (h 8, .inl (E.2.2.2, n, .inl lo)), (h 9, .inr (0, [.ref (h 10), .int cnt, .ref (h 11)])), (h 10, .inl (E.2.1, n, .inl bo)), (h 11, .inl (E.2.1, n, .inl rg)), (h 12, .inr (3, [.int (fc - 1), .ref (h 13)])), (h 13, .inl (E.2.2.1, 16, .inr (.inl (vp_updL fs w (fs w &&& (bitm (nI s) ^^^ (-1))))))), (h 14, .inr (4, [.ref (h 15), .int (nI f), .int en])), (h 15, .inl (E.2.1, n, .inl (upd rw f (nI s)))), (h 16, .inr (2, [.ref (h 17), .ref (h 18), .ref (h 19), .int (nI L), .ref (h 20)])), (h 17, .inl (E.2.1, 16, .inl so)), (h 18, .inl (E.2.1, 16, .inl sm)), (h 19, .inl (E.2.2.1, 16, .inr (.inl md))), (h 20, .inl (E.2.1, 16, .inl u_81))] := hD
          exact Rv hx hb hr hlocks hP hD hS u_81 [0, 1, 2, 3, 4, 5, 6, 7, 8, 9, 10, 11, 12, 13, 14, 15, 16, 17, 18, 19, 20] rfl rfl (hdr) (Nat.le_of_ble_eq_true rfl) (Nat.le_of_ble_eq_true rfl) dX1_act_84
  · exact absurd c_21.symm (neg1_ne (by omega))
end
section
def bgS (lo : Nat → Int32) : Nat → Int32 := fun s => if lo s = 0 then 0 else -1
set_option maxHeartbeats 4000000 in
set_option maxRecDepth 100000 in
theorem c_start (l : Launch) (E : EE) (h : Nat → Nat) (n : Nat) (bg : Nat → Int32) (dr : Nat → Int32) (oc : Nat → Int64) (x : Int64) (und : Int32) (tk : Int32) (sp : Int32) (fd : Int32) (bd : Int32) (ba : Int32) (bo : Nat → Int32) (rg : Nat → Int32) (cnt : Int32) (fc : Int32) (fs : Nat → Int64) (rw : Nat → Int32) (fr : Int32) (en : Int32) (lc : Int32) (so : Nat → Int32) (sm : Nat → Int32) (lv : Nat → Int32) (md : Nat → Int64) (vals : Nat → Int64) (stp : Nat → Int32) (reg : Nat → Int32) (lo : Nat → Int32) (wk : Nat) (seed : Int64) (hn : n < 2 ^ 31) (hW : wk ≤ 16) : Mv (S := (Nat → Int32) × (Nat → Int32) × (Nat → Int32) × (Nat → Int32) × Nat) l E yX1_start (.code yX1_start cX1_start 5 none) ({ frames := 2, cells := 0, slots := 0, locals := 44 }) [.ref (h 0), .int (nI wk), .long seed] [(h 0, .inr (1, [.ref (h 1), .ref (h 2), .ref (h 3), .ref (h 4), .ref (h 9), .ref (h 12), .ref (h 14), .ref (h 16), .long x, .int und, .int tk, .int sp, .int fd, .int bd, .int ba])), (h 1, .inl (E.2.1, n, .inl bg)), (h 2, .inl (E.2.1, n, .inl dr)), (h 3, .inl (E.2.2.1, n, .inr (.inl oc))), (h 4, .inr (5, [.int (nI n), .ref (h 5), .ref (h 6), .ref (h 7), .ref (h 8)])), (h 5, .inl (E.2.2.1, n, .inr (.inl vals))), (h 6, .inl (E.2.1, n, .inl stp)), (h 7, .inl (E.2.1, n, .inl reg)), (h 8, .inl (E.2.2.2, n, .inl lo)), (h 9, .inr (0, [.ref (h 10), .int cnt, .ref (h 11)])), (h 10, .inl (E.2.1, n, .inl bo)), (h 11, .inl (E.2.1, n, .inl rg)), (h 12, .inr (3, [.int fc, .ref (h 13)])), (h 13, .inl (E.2.2.1, 16, .inr (.inl fs))), (h 14, .inr (4, [.ref (h 15), .int fr, .int en])), (h 15, .inl (E.2.1, n, .inl rw)), (h 16, .inr (2, [.ref (h 17), .ref (h 18), .ref (h 19), .int lc, .ref (h 20)])), (h 17, .inl (E.2.1, 16, .inl so)), (h 18, .inl (E.2.1, 16, .inl sm)), (h 19, .inl (E.2.2.1, 16, .inr (.inl md))), (h 20, .inl (E.2.1, 16, .inl lv))] (fun u : (Nat → Int32) × (Nat → Int32) × (Nat → Int32) × (Nat → Int32) × Nat => (∀ j, j < wk → u.1 j = -1 ∧ u.2.1 j = nI j) ∧ IsBat n lo reg u.2.2.1 ∧ IsCnt n u.2.2.1 u.2.2.2.2 ∧ u.2.2.2.2 ≤ n) (fun u : (Nat → Int32) × (Nat → Int32) × (Nat → Int32) × (Nat → Int32) × Nat => [(h 0, .inr (1, [.ref (h 1), .ref (h 2), .ref (h 3), .ref (h 4), .ref (h 9), .ref (h 12), .ref (h 14), .ref (h 16), .long seed, .int und, .int 0, .int 0, .int 0, .int 0, .int 0])), (h 1, .inl (E.2.1, n, .inl (bgS lo))), (h 2, .inl (E.2.1, n, .inl (fun _ => -1))), (h 3, .inl (E.2.2.1, n, .inr (.inl oc))), (h 4, .inr (5, [.int (nI n), .ref (h 5), .ref (h 6), .ref (h 7), .ref (h 8)])), (h 5, .inl (E.2.2.1, n, .inr (.inl vals))), (h 6, .inl (E.2.1, n, .inl stp)), (h 7, .inl (E.2.1, n, .inl reg)), (h 8, .inl (E.2.2.2, n, .inl lo)), (h 9, .inr (0, [.ref (h 10), .int (nI u.2.2.2.2), .ref (h 11)])), (h 10, .inl (E.2.1, n, .inl u.2.2.1)), (h 11, .inl (E.2.1, n, .inl u.2.2.2.1)), (h 12, .inr (3, [.int fc, .ref (h 13)])), (h 13, .inl (E.2.2.1, 16, .inr (.inl fs))), (h 14, .inr (4, [.ref (h 15), .int fr, .int en])), (h 15, .inl (E.2.1, n, .inl rw)), (h 16, .inr (2, [.ref (h 17), .ref (h 18), .ref (h 19), .int (nI wk), .ref (h 20)])), (h 17, .inl (E.2.1, 16, .inl u.1)), (h 18, .inl (E.2.1, 16, .inl sm)), (h 19, .inl (E.2.2.1, 16, .inr (.inl md))), (h 20, .inl (E.2.1, 16, .inl u.2.1))]) := by
  refine Mv.ofW (by decide) (Nat.le_of_ble_eq_true rfl) ?_
  intro pM eM sM mM bM meM cM AM ls hB hA hP hD hS hl
  obtain ⟨hx, hb, hr, hml, hown, hlocks, hnm, hts, hK⟩ := hB
  have hl : lv_has ls 5 [(0, .ref (h 0)), (1, .int (nI wk)), (2, .long seed)] := hl
  refine lv_aload_n hx hb dX1_start_0 rfl (lv_at hl 0 rfl) ?_
  refine af_v (wc := [(h 0, .inr (1, [.ref (h 1), .ref (h 2), .ref (h 3), .ref (h 4), .ref (h 9), .ref (h 12), .ref (h 14), .ref (h 16), .long x, .int und, .int tk, .int sp, .int fd, .int bd, .int ba])), (h 1, .inl (E.2.1, n, .inl bg)), (h 2, .inl (E.2.1, n, .inl dr)), (h 3, .inl (E.2.2.1, n, .inr (.inl oc))), (h 4, .inr (5, [.int (nI n), .ref (h 5), .ref (h 6), .ref (h 7), .ref (h 8)])), (h 5, .inl (E.2.2.1, n, .inr (.inl vals))), (h 6, .inl (E.2.1, n, .inl stp)), (h 7, .inl (E.2.1, n, .inl reg)), (h 8, .inl (E.2.2.2, n, .inl lo)), (h 9, .inr (0, [.ref (h 10), .int cnt, .ref (h 11)])), (h 10, .inl (E.2.1, n, .inl bo)), (h 11, .inl (E.2.1, n, .inl rg)), (h 12, .inr (3, [.int fc, .ref (h 13)])), (h 13, .inl (E.2.2.1, 16, .inr (.inl fs))), (h 14, .inr (4, [.ref (h 15), .int fr, .int en])), (h 15, .inl (E.2.1, n, .inl rw)), (h 16, .inr (2, [.ref (h 17), .ref (h 18), .ref (h 19), .int lc, .ref (h 20)])), (h 17, .inl (E.2.1, 16, .inl so)), (h 18, .inl (E.2.1, 16, .inl sm)), (h 19, .inl (E.2.2.1, 16, .inr (.inl md))), (h 20, .inl (E.2.1, 16, .inl lv))]) (wr := []) (rn_V (b := h 0) (ci := 1) (As := []) (rest := []) (n := 0) ⟨hx, hb, hml, hown, hts⟩ ta_cons wq_X1_56 (by decide +kernel) hK (c_Course_reset l E h n bg dr oc x und tk sp fd bd ba bo rg cnt fc fs rw fr en lc so sm lv md vals stp reg lo (hn) _) ⟨Nat.le_of_ble_eq_true rfl, Nat.le_of_ble_eq_true rfl⟩ hP hD [0, 1, 2, 3, 4, 5, 6, 7, 8, 9, 10, 11, 12, 13, 14, 15, 16, 17, 18, 19, 20] rfl rfl rfl rfl rfl hl.1 rfl (Nat.le_of_ble_eq_true rfl) dX1_start_1 ⟨Nat.le_of_ble_eq_true rfl, Nat.le_of_ble_eq_true rfl⟩) hP hD hS hA [0, 1, 2, 3, 4, 5, 6, 7, 8, 9, 10, 11, 12, 13, 14, 15, 16, 17, 18, 19, 20] [] rfl rfl rfl (by decide) (fun u_1 H locs hwC hP hD hS => ?_)
  have hP : va_P E.1 classes [(h 0, .inr (1, [.ref (h 1), .ref (h 2), .ref (h 3), .ref (h 4), .ref (h 9), .ref (h 12), .ref (h 14), .ref (h 16), .long x, .int und, .int 0, .int 0, .int 0, .int 0, .int 0])), (h 1, .inl (E.2.1, n, .inl (fun _ => -1))), (h 2, .inl (E.2.1, n, .inl (fun _ => -1))), (h 3, .inl (E.2.2.1, n, .inr (.inl oc))), (h 4, .inr (5, [.int (nI n), .ref (h 5), .ref (h 6), .ref (h 7), .ref (h 8)])), (h 5, .inl (E.2.2.1, n, .inr (.inl vals))), (h 6, .inl (E.2.1, n, .inl stp)), (h 7, .inl (E.2.1, n, .inl reg)), (h 8, .inl (E.2.2.2, n, .inl lo)), (h 9, .inr (0, [.ref (h 10), .int cnt, .ref (h 11)])), (h 10, .inl (E.2.1, n, .inl bo)), (h 11, .inl (E.2.1, n, .inl rg)), (h 12, .inr (3, [.int fc, .ref (h 13)])), (h 13, .inl (E.2.2.1, 16, .inr (.inl fs))), (h 14, .inr (4, [.ref (h 15), .int fr, .int en])), (h 15, .inl (E.2.1, n, .inl rw)), (h 16, .inr (2, [.ref (h 17), .ref (h 18), .ref (h 19), .int 0, .ref (h 20)])), (h 17, .inl (E.2.1, 16, .inl so)), (h 18, .inl (E.2.1, 16, .inl sm)), (h 19, .inl (E.2.2.1, 16, .inr (.inl md))), (h 20, .inl (E.2.1, 16, .inl lv))] H := hP
  have hD : va_D AM [(h 0, .inr (1, [.ref (h 1), .ref (h 2), .ref (h 3), .ref (h 4), .ref (h 9), .ref (h 12), .ref (h 14), .ref (h 16), .long x, .int und, .int 0, .int 0, .int 0, .int 0, .int 0])), (h 1, .inl (E.2.1, n, .inl (fun _ => -1))), (h 2, .inl (E.2.1, n, .inl (fun _ => -1))), (h 3, .inl (E.2.2.1, n, .inr (.inl oc))), (h 4, .inr (5, [.int (nI n), .ref (h 5), .ref (h 6), .ref (h 7), .ref (h 8)])), (h 5, .inl (E.2.2.1, n, .inr (.inl vals))), (h 6, .inl (E.2.1, n, .inl stp)), (h 7, .inl (E.2.1, n, .inl reg)), (h 8, .inl (E.2.2.2, n, .inl lo)), (h 9, .inr (0, [.ref (h 10), .int cnt, .ref (h 11)])), (h 10, .inl (E.2.1, n, .inl bo)), (h 11, .inl (E.2.1, n, .inl rg)), (h 12, .inr (3, [.int fc, .ref (h 13)])), (h 13, .inl (E.2.2.1, 16, .inr (.inl fs))), (h 14, .inr (4, [.ref (h 15), .int fr, .int en])), (h 15, .inl (E.2.1, n, .inl rw)), (h 16, .inr (2, [.ref (h 17), .ref (h 18), .ref (h 19), .int 0, .ref (h 20)])), (h 17, .inl (E.2.1, 16, .inl so)), (h 18, .inl (E.2.1, 16, .inl sm)), (h 19, .inl (E.2.2.1, 16, .inr (.inl md))), (h 20, .inl (E.2.1, 16, .inl lv))] := hD
  refine lv_aload_n hx hb dX1_start_4 rfl (lv_at hl 0 rfl) ?_
  refine va_get (D := E.1) (ci := 1) (v := .ref (h 16)) (C := RX1) (T := TX1) (N := 15) hx hb hts ux_X1' hown hK.1 hP 0 rfl rfl 7 (by decide) (hts _ (ta_cons _ mw_189)) (fun _ h9 => h9) rfl dX1_start_5 ?_
  refine lv_iload_n hx hb dX1_start_8 rfl (lv_at hl 1 rfl) ?_
  refine af_v (wc := [(h 16, .inr (2, [.ref (h 17), .ref (h 18), .ref (h 19), .int 0, .ref (h 20)])), (h 17, .inl (E.2.1, 16, .inl so)), (h 18, .inl (E.2.1, 16, .inl sm)), (h 19, .inl (E.2.2.1, 16, .inr (.inl md))), (h 20, .inl (E.2.1, 16, .inl lv))]) (wr := [(h 0, .inr (1, [.ref (h 1), .ref (h 2), .ref (h 3), .ref (h 4), .ref (h 9), .ref (h 12), .ref (h 14), .ref (h 16), .long x, .int und, .int 0, .int 0, .int 0, .int 0, .int 0])), (h 1, .inl (E.2.1, n, .inl (fun _ => -1))), (h 2, .inl (E.2.1, n, .inl (fun _ => -1))), (h 3, .inl (E.2.2.1, n, .inr (.inl oc))), (h 4, .inr (5, [.int (nI n), .ref (h 5), .ref (h 6), .ref (h 7), .ref (h 8)])), (h 5, .inl (E.2.2.1, n, .inr (.inl vals))), (h 6, .inl (E.2.1, n, .inl stp)), (h 7, .inl (E.2.1, n, .inl reg)), (h 8, .inl (E.2.2.2, n, .inl lo)), (h 9, .inr (0, [.ref (h 10), .int cnt, .ref (h 11)])), (h 10, .inl (E.2.1, n, .inl bo)), (h 11, .inl (E.2.1, n, .inl rg)), (h 12, .inr (3, [.int fc, .ref (h 13)])), (h 13, .inl (E.2.2.1, 16, .inr (.inl fs))), (h 14, .inr (4, [.ref (h 15), .int fr, .int en])), (h 15, .inl (E.2.1, n, .inl rw))]) (rn_V (b := h 16) (ci := 2) (As := [.int (nI wk)]) (rest := []) (n := 1) ⟨hx, hb, hml, hown, hts⟩ ta_cons wq_X1_59 (by decide +kernel) hK (c_gather l E (h 16) (h 17) (h 18) (h 19) (h 20) 0 so sm lv md wk (hW) _) ⟨Nat.le_of_ble_eq_true rfl, Nat.le_of_ble_eq_true rfl⟩ hP hD [16, 17, 18, 19, 20] rfl rfl rfl rfl rfl hl.1 rfl (Nat.le_of_ble_eq_true rfl) dX1_start_9 ⟨Nat.le_of_ble_eq_true rfl, Nat.le_of_ble_eq_true rfl⟩) hP hD hS hA [16, 17, 18, 19, 20] [0, 1, 2, 3, 4, 5, 6, 7, 8, 9, 10, 11, 12, 13, 14, 15] rfl rfl rfl (by decide) (fun u_9 H locs hwC hP hD hS => ?_)
  obtain ⟨so1, lv1⟩ := u_9
  have g1 : ∀ j, j < wk → so1 j = -1 ∧ lv1 j = nI j := hwC
  have hP : va_P E.1 classes [(h 0, .inr (1, [.ref (h 1), .ref (h 2), .ref (h 3), .ref (h 4), .ref (h 9), .ref (h 12), .ref (h 14), .ref (h 16), .long x, .int und, .int 0, .int 0, .int 0, .int 0, .int 0])), (h 1, .inl (E.2.1, n, .inl (fun _ => -1))), (h 2, .inl (E.2.1, n, .inl (fun _ => -1))), (h 3, .inl (E.2.2.1, n, .inr (.inl oc))), (h 4, .inr (5, [.int (nI n), .ref (h 5), .ref (h 6), .ref (h 7), .ref (h 8)])), (h 5, .inl (E.2.2.1, n, .inr (.inl vals))), (h 6, .inl (E.2.1, n, .inl stp)), (h 7, .inl (E.2.1, n, .inl reg)), (h 8, .inl (E.2.2.2, n, .inl lo)), (h 9, .inr (0, [.ref (h 10), .int cnt, .ref (h 11)])), (h 10, .inl (E.2.1, n, .inl bo)), (h 11, .inl (E.2.1, n, .inl rg)), (h 12, .inr (3, [.int fc, .ref (h 13)])), (h 13, .inl (E.2.2.1, 16, .inr (.inl fs))), (h 14, .inr (4, [.ref (h 15), .int fr, .int en])), (h 15, .inl (E.2.1, n, .inl rw)), (h 16, .inr (2, [.ref (h 17), .ref (h 18), .ref (h 19), .int (nI wk), .ref (h 20)])), (h 17, .inl (E.2.1, 16, .inl so1)), (h 18, .inl (E.2.1, 16, .inl sm)), (h 19, .inl (E.2.2.1, 16, .inr (.inl md))), (h 20, .inl (E.2.1, 16, .inl lv1))] H := hP
  have hD : va_D AM [(h 0, .inr (1, [.ref (h 1), .ref (h 2), .ref (h 3), .ref (h 4), .ref (h 9), .ref (h 12), .ref (h 14), .ref (h 16), .long x, .int und, .int 0, .int 0, .int 0, .int 0, .int 0])), (h 1, .inl (E.2.1, n, .inl (fun _ => -1))), (h 2, .inl (E.2.1, n, .inl (fun _ => -1))), (h 3, .inl (E.2.2.1, n, .inr (.inl oc))), (h 4, .inr (5, [.int (nI n), .ref (h 5), .ref (h 6), .ref (h 7), .ref (h 8)])), (h 5, .inl (E.2.2.1, n, .inr (.inl vals))), (h 6, .inl (E.2.1, n, .inl stp)), (h 7, .inl (E.2.1, n, .inl reg)), (h 8, .inl (E.2.2.2, n, .inl lo)), (h 9, .inr (0, [.ref (h 10), .int cnt, .ref (h 11)])), (h 10, .inl (E.2.1, n, .inl bo)), (h 11, .inl (E.2.1, n, .inl rg)), (h 12, .inr (3, [.int fc, .ref (h 13)])), (h 13, .inl (E.2.2.1, 16, .inr (.inl fs))), (h 14, .inr (4, [.ref (h 15), .int fr, .int en])), (h 15, .inl (E.2.1, n, .inl rw)), (h 16, .inr (2, [.ref (h 17), .ref (h 18), .ref (h 19), .int (nI wk), .ref (h 20)])), (h 17, .inl (E.2.1, 16, .inl so1)), (h 18, .inl (E.2.1, 16, .inl sm)), (h 19, .inl (E.2.2.1, 16, .inr (.inl md))), (h 20, .inl (E.2.1, 16, .inl lv1))] := hD
  refine lv_aload_n hx hb dX1_start_12 rfl (lv_at hl 0 rfl) ?_
  refine lv_lload_n hx hb dX1_start_13 rfl (lv_at hl 2 rfl) ?_
  refine va_put (D := E.1) (ci := 1) (v := .long seed) (ty := .long) (C := RX1) (T := TX1) (N := 15) hx hb hts ux_X1' tyX1 tyX1_ok nmX1 hown hK.1 hP hD hS 0 rfl rfl 8 (by decide) (hts _ (ta_cons _ mw_190)) (fun _ h9 => h9) rfl (by decide +kernel) rfl rfl (Nat.le_of_ble_eq_true rfl) dX1_start_14 (fun H locs hP hD hS => ?_)
  have hP : va_P E.1 classes [(h 0, .inr (1, [.ref (h 1), .ref (h 2), .ref (h 3), .ref (h 4), .ref (h 9), .ref (h 12), .ref (h 14), .ref (h 16), .long seed, .int und, .int 0, .int 0, .int 0, .int 0, .int 0])), (h 1, .inl (E.2.1, n, .inl (fun _ => -1))), (h 2, .inl (E.2.1, n, .inl (fun _ => -1))), (h 3, .inl (E.2.2.1, n, .inr (.inl oc))), (h 4, .inr (5, [.int (nI n), .ref (h 5), .ref (h 6), .ref (h 7), .ref (h 8)])), (h 5, .inl (E.2.2.1, n, .inr (.inl vals))), (h 6, .inl (E.2.1, n, .inl stp)), (h 7, .inl (E.2.1, n, .inl reg)), (h 8, .inl (E.2.2.2, n, .inl lo)), (h 9, .inr (0, [.ref (h 10), .int cnt, .ref (h 11)])), (h 10, .inl (E.2.1, n, .inl bo)), (h 11, .inl (E.2.1, n, .inl rg)), (h 12, .inr (3, [.int fc, .ref (h 13)])), (h 13, .inl (E.2.2.1, 16, .inr (.inl fs))), (h 14, .inr (4, [.ref (h 15), .int fr, .int en])), (h 15, .inl (E.2.1, n, .inl rw)), (h 16, .inr (2, [.ref (h 17), .ref (h 18), .ref (h 19), .int (nI wk), .ref (h 20)])), (h 17, .inl (E.2.1, 16, .inl so1)), (h 18, .inl (E.2.1, 16, .inl sm)), (h 19, .inl (E.2.2.1, 16, .inr (.inl md))), (h 20, .inl (E.2.1, 16, .inl lv1))] H := hP
  have hD : va_D AM [(h 0, .inr (1, [.ref (h 1), .ref (h 2), .ref (h 3), .ref (h 4), .ref (h 9), .ref (h 12), .ref (h 14), .ref (h 16), .long seed, .int und, .int 0, .int 0, .int 0, .int 0, .int 0])), (h 1, .inl (E.2.1, n, .inl (fun _ => -1))), (h 2, .inl (E.2.1, n, .inl (fun _ => -1))), (h 3, .inl (E.2.2.1, n, .inr (.inl oc))), (h 4, .inr (5, [.int (nI n), .ref (h 5), .ref (h 6), .ref (h 7), .ref (h 8)])), (h 5, .inl (E.2.2.1, n, .inr (.inl vals))), (h 6, .inl (E.2.1, n, .inl stp)), (h 7, .inl (E.2.1, n, .inl reg)), (h 8, .inl (E.2.2.2, n, .inl lo)), (h 9, .inr (0, [.ref (h 10), .int cnt, .ref (h 11)])), (h 10, .inl (E.2.1, n, .inl bo)), (h 11, .inl (E.2.1, n, .inl rg)), (h 12, .inr (3, [.int fc, .ref (h 13)])), (h 13, .inl (E.2.2.1, 16, .inr (.inl fs))), (h 14, .inr (4, [.ref (h 15), .int fr, .int en])), (h 15, .inl (E.2.1, n, .inl rw)), (h 16, .inr (2, [.ref (h 17), .ref (h 18), .ref (h 19), .int (nI wk), .ref (h 20)])), (h 17, .inl (E.2.1, 16, .inl so1)), (h 18, .inl (E.2.1, 16, .inl sm)), (h 19, .inl (E.2.2.1, 16, .inr (.inl md))), (h 20, .inl (E.2.1, 16, .inl lv1))] := hD
  refine lv_aload_n hx hb dX1_start_17 rfl (lv_at hl 0 rfl) ?_
  refine va_get (D := E.1) (ci := 1) (v := .ref (h 9)) (C := RX1) (T := TX1) (N := 15) hx hb hts ux_X1' hown hK.1 hP 0 rfl rfl 4 (by decide) (hts _ (ta_cons _ mw_186)) (fun _ h9 => h9) rfl dX1_start_18 ?_
  refine lv_aload_n hx hb dX1_start_21 rfl (lv_at hl 0 rfl) ?_
  refine va_get (D := E.1) (ci := 1) (v := .ref (h 4)) (C := RX1) (T := TX1) (N := 15) hx hb hts ux_X1' hown hK.1 hP 0 rfl rfl 3 (by decide) (hts _ (ta_cons _ mw_185)) (fun _ h9 => h9) rfl dX1_start_22 ?_
  refine af_v (wc := [(h 9, .inr (0, [.ref (h 10), .int cnt, .ref (h 11)])), (h 10, .inl (E.2.1, n, .inl bo)), (h 11, .inl (E.2.1, n, .inl rg)), (h 4, .inr (5, [.int (nI n), .ref (h 5), .ref (h 6), .ref (h 7), .ref (h 8)])), (h 5, .inl (E.2.2.1, n, .inr (.inl vals))), (h 6, .inl (E.2.1, n, .inl stp)), (h 7, .inl (E.2.1, n, .inl reg)), (h 8, .inl (E.2.2.2, n, .inl lo))]) (wr := [(h 0, .inr (1, [.ref (h 1), .ref (h 2), .ref (h 3), .ref (h 4), .ref (h 9), .ref (h 12), .ref (h 14), .ref (h 16), .long seed, .int und, .int 0, .int 0, .int 0, .int 0, .int 0])), (h 1, .inl (E.2.1, n, .inl (fun _ => -1))), (h 2, .inl (E.2.1, n, .inl (fun _ => -1))), (h 3, .inl (E.2.2.1, n, .inr (.inl oc))), (h 12, .inr (3, [.int fc, .ref (h 13)])), (h 13, .inl (E.2.2.1, 16, .inr (.inl fs))), (h 14, .inr (4, [.ref (h 15), .int fr, .int en])), (h 15, .inl (E.2.1, n, .inl rw)), (h 16, .inr (2, [.ref (h 17), .ref (h 18), .ref (h 19), .int (nI wk), .ref (h 20)])), (h 17, .inl (E.2.1, 16, .inl so1)), (h 18, .inl (E.2.1, 16, .inl sm)), (h 19, .inl (E.2.2.1, 16, .inr (.inl md))), (h 20, .inl (E.2.1, 16, .inl lv1))]) (rn_V (b := h 9) (ci := 0) (As := [.ref (h 4)]) (rest := []) (n := 1) ⟨hx, hb, hml, hown, hts⟩ ta_cons wq_X1_95 (by decide +kernel) hK (c_form l E n (h 4) (h 5) (h 6) (h 7) (h 8) vals stp reg lo (h 9) (h 10) (h 11) bo rg cnt (hn) _) ⟨Nat.le_of_ble_eq_true rfl, Nat.le_of_ble_eq_true rfl⟩ hP hD [9, 10, 11, 4, 5, 6, 7, 8] rfl rfl rfl rfl rfl hl.1 rfl (Nat.le_of_ble_eq_true rfl) dX1_start_25 ⟨Nat.le_of_ble_eq_true rfl, Nat.le_of_ble_eq_true rfl⟩) hP hD hS hA [9, 10, 11, 4, 5, 6, 7, 8] [0, 1, 2, 3, 12, 13, 14, 15, 16, 17, 18, 19, 20] rfl rfl rfl (by decide) (fun u_25 H locs hwC hP hD hS => ?_)
  obtain ⟨bo1, rg1, c1⟩ := u_25
  have g2 : IsBat n lo reg bo1 ∧ IsCnt n bo1 c1 ∧ c1 ≤ n := hwC
  have hP : va_P E.1 classes [(h 0, .inr (1, [.ref (h 1), .ref (h 2), .ref (h 3), .ref (h 4), .ref (h 9), .ref (h 12), .ref (h 14), .ref (h 16), .long seed, .int und, .int 0, .int 0, .int 0, .int 0, .int 0])), (h 1, .inl (E.2.1, n, .inl (fun _ => -1))), (h 2, .inl (E.2.1, n, .inl (fun _ => -1))), (h 3, .inl (E.2.2.1, n, .inr (.inl oc))), (h 12, .inr (3, [.int fc, .ref (h 13)])), (h 13, .inl (E.2.2.1, 16, .inr (.inl fs))), (h 14, .inr (4, [.ref (h 15), .int fr, .int en])), (h 15, .inl (E.2.1, n, .inl rw)), (h 16, .inr (2, [.ref (h 17), .ref (h 18), .ref (h 19), .int (nI wk), .ref (h 20)])), (h 17, .inl (E.2.1, 16, .inl so1)), (h 18, .inl (E.2.1, 16, .inl sm)), (h 19, .inl (E.2.2.1, 16, .inr (.inl md))), (h 20, .inl (E.2.1, 16, .inl lv1)), (h 9, .inr (0, [.ref (h 10), .int (nI c1), .ref (h 11)])), (h 10, .inl (E.2.1, n, .inl bo1)), (h 11, .inl (E.2.1, n, .inl rg1)), (h 4, .inr (5, [.int (nI n), .ref (h 5), .ref (h 6), .ref (h 7), .ref (h 8)])), (h 5, .inl (E.2.2.1, n, .inr (.inl vals))), (h 6, .inl (E.2.1, n, .inl stp)), (h 7, .inl (E.2.1, n, .inl reg)), (h 8, .inl (E.2.2.2, n, .inl lo))] H := hP
  have hD : va_D AM [(h 0, .inr (1, [.ref (h 1), .ref (h 2), .ref (h 3), .ref (h 4), .ref (h 9), .ref (h 12), .ref (h 14), .ref (h 16), .long seed, .int und, .int 0, .int 0, .int 0, .int 0, .int 0])), (h 1, .inl (E.2.1, n, .inl (fun _ => -1))), (h 2, .inl (E.2.1, n, .inl (fun _ => -1))), (h 3, .inl (E.2.2.1, n, .inr (.inl oc))), (h 12, .inr (3, [.int fc, .ref (h 13)])), (h 13, .inl (E.2.2.1, 16, .inr (.inl fs))), (h 14, .inr (4, [.ref (h 15), .int fr, .int en])), (h 15, .inl (E.2.1, n, .inl rw)), (h 16, .inr (2, [.ref (h 17), .ref (h 18), .ref (h 19), .int (nI wk), .ref (h 20)])), (h 17, .inl (E.2.1, 16, .inl so1)), (h 18, .inl (E.2.1, 16, .inl sm)), (h 19, .inl (E.2.2.1, 16, .inr (.inl md))), (h 20, .inl (E.2.1, 16, .inl lv1)), (h 9, .inr (0, [.ref (h 10), .int (nI c1), .ref (h 11)])), (h 10, .inl (E.2.1, n, .inl bo1)), (h 11, .inl (E.2.1, n, .inl rg1)), (h 4, .inr (5, [.int (nI n), .ref (h 5), .ref (h 6), .ref (h 7), .ref (h 8)])), (h 5, .inl (E.2.2.1, n, .inr (.inl vals))), (h 6, .inl (E.2.1, n, .inl stp)), (h 7, .inl (E.2.1, n, .inl reg)), (h 8, .inl (E.2.2.2, n, .inl lo))] := hD
  refine lv_iconst (v := 0) hx hb dX1_start_28 (by decide) ?_
  refine lv_istore (lv' := [(4, .int 0), (0, .ref (h 0)), (1, .int (nI wk)), (2, .long seed)]) hx hb dX1_start_29 hl (by decide) rfl (fun ls hl => ?_)
  refine W.loop (σ := (Nat) × (Nat → Int32)) (fun a H locs ls => match a with | (i, a) => va_P E.1 classes [(h 0, .inr (1, [.ref (h 1), .ref (h 2), .ref (h 3), .ref (h 4), .ref (h 9), .ref (h 12), .ref (h 14), .ref (h 16), .long seed, .int und, .int 0, .int 0, .int 0, .int 0, .int 0])), (h 1, .inl (E.2.1, n, .inl a)), (h 2, .inl (E.2.1, n, .inl (fun _ => -1))), (h 3, .inl (E.2.2.1, n, .inr (.inl oc))), (h 4, .inr (5, [.int (nI n), .ref (h 5), .ref (h 6), .ref (h 7), .ref (h 8)])), (h 5, .inl (E.2.2.1, n, .inr (.inl vals))), (h 6, .inl (E.2.1, n, .inl stp)), (h 7, .inl (E.2.1, n, .inl reg)), (h 8, .inl (E.2.2.2, n, .inl lo)), (h 9, .inr (0, [.ref (h 10), .int (nI c1), .ref (h 11)])), (h 10, .inl (E.2.1, n, .inl bo1)), (h 11, .inl (E.2.1, n, .inl rg1)), (h 12, .inr (3, [.int fc, .ref (h 13)])), (h 13, .inl (E.2.2.1, 16, .inr (.inl fs))), (h 14, .inr (4, [.ref (h 15), .int fr, .int en])), (h 15, .inl (E.2.1, n, .inl rw)), (h 16, .inr (2, [.ref (h 17), .ref (h 18), .ref (h 19), .int (nI wk), .ref (h 20)])), (h 17, .inl (E.2.1, 16, .inl so1)), (h 18, .inl (E.2.1, 16, .inl sm)), (h 19, .inl (E.2.2.1, 16, .inr (.inl md))), (h 20, .inl (E.2.1, 16, .inl lv1))] H ∧ va_D AM [(h 0, .inr (1, [.ref (h 1), .ref (h 2), .ref (h 3), .ref (h 4), .ref (h 9), .ref (h 12), .ref (h 14), .ref (h 16), .long seed, .int und, .int 0, .int 0, .int 0, .int 0, .int 0])), (h 1, .inl (E.2.1, n, .inl a)), (h 2, .inl (E.2.1, n, .inl (fun _ => -1))), (h 3, .inl (E.2.2.1, n, .inr (.inl oc))), (h 4, .inr (5, [.int (nI n), .ref (h 5), .ref (h 6), .ref (h 7), .ref (h 8)])), (h 5, .inl (E.2.2.1, n, .inr (.inl vals))), (h 6, .inl (E.2.1, n, .inl stp)), (h 7, .inl (E.2.1, n, .inl reg)), (h 8, .inl (E.2.2.2, n, .inl lo)), (h 9, .inr (0, [.ref (h 10), .int (nI c1), .ref (h 11)])), (h 10, .inl (E.2.1, n, .inl bo1)), (h 11, .inl (E.2.1, n, .inl rg1)), (h 12, .inr (3, [.int fc, .ref (h 13)])), (h 13, .inl (E.2.2.1, 16, .inr (.inl fs))), (h 14, .inr (4, [.ref (h 15), .int fr, .int en])), (h 15, .inl (E.2.1, n, .inl rw)), (h 16, .inr (2, [.ref (h 17), .ref (h 18), .ref (h 19), .int (nI wk), .ref (h 20)])), (h 17, .inl (E.2.1, 16, .inl so1)), (h 18, .inl (E.2.1, 16, .inl sm)), (h 19, .inl (E.2.2.1, 16, .inr (.inl md))), (h 20, .inl (E.2.1, 16, .inl lv1))] ∧ va_S AM sM.heap H locs ∧ lv_has ls 5 [(4, .int (nI i)), (0, .ref (h 0)), (1, .int (nI wk)), (2, .long seed)] ∧ (i ≤ n) ∧ (∀ j, j < i → a j = bgS lo j) ∧ (∀ j, i ≤ j → a j = -1)) (fun a => match a with | (i, a) => n - i) (0, fun _ => -1) ⟨hP.sub [0, 1, 2, 3, 16, 17, 18, 19, 20, 13, 14, 15, 4, 5, 6, 7, 8, 9, 10, 11, 12] rfl, hD.sub [0, 1, 2, 3, 16, 17, 18, 19, 20, 13, 14, 15, 4, 5, 6, 7, 8, 9, 10, 11, 12] (by decide) rfl, hS, lv_sub hl [0, 1, 2, 3] rfl, Nat.zero_le _, fun j h => absurd h (Nat.not_lt_zero j), fun j _ => rfl⟩ ?_
  intro a H locs ls hI ih31
  obtain ⟨i, a⟩ := a
  obtain ⟨hP, hD, hS, hl, hi, p1, p2⟩ := hI
  have hP : va_P E.1 classes [(h 0, .inr (1, [.ref (h 1), .ref (h 2), .ref (h 3), .ref (h 4), .ref (h 9), .ref (h 12), .ref (h 14), .ref (h 16), .long seed, .int und, .int 0, .int 0, .int 0, .int 0, .int 0])), (h 1, .inl (E.2.1, n, .inl a)), (h 2, .inl (E.2.1, n, .inl (fun _ => -1))), (h 3, .inl (E.2.2.1, n, .inr (.inl oc))), (h 4, .inr (5, [.int (nI n), .ref (h 5), .ref (h 6), .ref (h 7), .ref (h 8)])), (h 5, .inl (E.2.2.1, n, .inr (.inl vals))), (h 6, .inl (E.2.1, n, .inl stp)), (h 7, .inl (E.2.1, n, .inl reg)), (h 8, .inl (E.2.2.2, n, .inl lo)), (h 9, .inr (0, [.ref (h 10), .int (nI c1), .ref (h 11)])), (h 10, .inl (E.2.1, n, .inl bo1)), (h 11, .inl (E.2.1, n, .inl rg1)), (h 12, .inr (3, [.int fc, .ref (h 13)])), (h 13, .inl (E.2.2.1, 16, .inr (.inl fs))), (h 14, .inr (4, [.ref (h 15), .int fr, .int en])), (h 15, .inl (E.2.1, n, .inl rw)), (h 16, .inr (2, [.ref (h 17), .ref (h 18), .ref (h 19), .int (nI wk), .ref (h 20)])), (h 17, .inl (E.2.1, 16, .inl so1)), (h 18, .inl (E.2.1, 16, .inl sm)), (h 19, .inl (E.2.2.1, 16, .inr (.inl md))), (h 20, .inl (E.2.1, 16, .inl lv1))] H := hP
  have hD : va_D AM [(h 0, .inr (1, [.ref (h 1), .ref (h 2), .ref (h 3), .ref (h 4), .ref (h 9), .ref (h 12), .ref (h 14), .ref (h 16), .long seed, .int und, .int 0, .int 0, .int 0, .int 0, .int 0])), (h 1, .inl (E.2.1, n, .inl a)), (h 2, .inl (E.2.1, n, .inl (fun _ => -1))), (h 3, .inl (E.2.2.1, n, .inr (.inl oc))), (h 4, .inr (5, [.int (nI n), .ref (h 5), .ref (h 6), .ref (h 7), .ref (h 8)])), (h 5, .inl (E.2.2.1, n, .inr (.inl vals))), (h 6, .inl (E.2.1, n, .inl stp)), (h 7, .inl (E.2.1, n, .inl reg)), (h 8, .inl (E.2.2.2, n, .inl lo)), (h 9, .inr (0, [.ref (h 10), .int (nI c1), .ref (h 11)])), (h 10, .inl (E.2.1, n, .inl bo1)), (h 11, .inl (E.2.1, n, .inl rg1)), (h 12, .inr (3, [.int fc, .ref (h 13)])), (h 13, .inl (E.2.2.1, 16, .inr (.inl fs))), (h 14, .inr (4, [.ref (h 15), .int fr, .int en])), (h 15, .inl (E.2.1, n, .inl rw)), (h 16, .inr (2, [.ref (h 17), .ref (h 18), .ref (h 19), .int (nI wk), .ref (h 20)])), (h 17, .inl (E.2.1, 16, .inl so1)), (h 18, .inl (E.2.1, 16, .inl sm)), (h 19, .inl (E.2.2.1, 16, .inr (.inl md))), (h 20, .inl (E.2.1, 16, .inl lv1))] := hD
  have hl : lv_has ls 5 [(4, .int (nI i)), (0, .ref (h 0)), (1, .int (nI wk)), (2, .long seed)] := hl
  have hi : i ≤ n := hi
  have p1 : ∀ j, j < i → a j = bgS lo j := p1
  have p2 : ∀ j, i ≤ j → a j = -1 := p2
  refine lv_iload hx hb dX1_start_31 (lv_at hl 0 rfl) ?_
  refine lv_aload_n hx hb dX1_start_33 rfl (lv_at hl 1 rfl) ?_
  refine va_get (D := E.1) (ci := 1) (v := .ref (h 4)) (C := RX1) (T := TX1) (N := 15) hx hb hts ux_X1' hown hK.1 hP 0 rfl rfl 3 (by decide) (hts _ (ta_cons _ mw_185)) (fun _ h9 => h9) rfl dX1_start_34 ?_
  refine va_get (D := E.1) (ci := 5) (v := .int (nI n)) (C := RX5) (T := TX5) (N := 5) hx hb hts ux_X5' hown hK.1 hP 4 rfl rfl 0 (by decide) (hts _ (ta_cons _ mw_59)) (fun _ h9 => h9) rfl dX1_start_37 ?_
  refine lv_icmp_ge (tgt := 70) hx hb dX1_start_40 (by decide) (fun c_40 => ?_) (fun c_40 => ?_)
  · have c_40 : n ≤ i := (nI_leI (by omega) (by omega)).mp c_40
    have e9 : i = n := by omega
    rw [e9] at p1
    obtain ⟨hP, hD⟩ := cg_i (g := bgS lo) hP hD 1 rfl (p1)
    have hP : va_P E.1 classes [(h 0, .inr (1, [.ref (h 1), .ref (h 2), .ref (h 3), .ref (h 4), .ref (h 9), .ref (h 12), .ref (h 14), .ref (h 16), .long seed, .int und, .int 0, .int 0, .int 0, .int 0, .int 0])), (h 1, .inl (E.2.1, n, .inl (bgS lo))), (h 2, .inl (E.2.1, n, .inl (fun _ => -1))), (h 3, .inl (E.2.2.1, n, .inr (.inl oc))), (h 4, .inr (5, [.int (nI n), .ref (h 5), .ref (h 6), .ref (h 7), .ref (h 8)])), (h 5, .inl (E.2.2.1, n, .inr (.inl vals))), (h 6, .inl (E.2.1, n, .inl stp)), (h 7, .inl (E.2.1, n, .inl reg)), (h 8, .inl (E.2.2.2, n, .inl lo)), (h 9, .inr (0, [.ref (h 10), .int (nI c1), .ref (h 11)])), (h 10, .inl (E.2.1, n, .inl bo1)), (h 11, .inl (E.2.1, n, .inl rg1)), (h 12, .inr (3, [.int fc, .ref (h 13)])), (h 13, .inl (E.2.2.1, 16, .inr (.inl fs))), (h 14, .inr (4, [.ref (h 15), .int fr, .int en])), (h 15, .inl (E.2.1, n, .inl rw)), (h 16, .inr (2, [.ref (h 17), .ref (h 18), .ref (h 19), .int (nI wk), .ref (h 20)])), (h 17, .inl (E.2.1, 16, .inl so1)), (h 18, .inl (E.2.1, 16, .inl sm)), (h 19, .inl (E.2.2.1, 16, .inr (.inl md))), (h 20, .inl (E.2.1, 16, .inl lv1))] H := hP
    have hD : va_D AM [(h 0, .inr (1, [.ref (h 1), .ref (h 2), .ref (h 3), .ref (h 4), .ref (h 9), .ref (h 12), .ref (h 14), .ref (h 16), .long seed, .int und, .int 0, .int 0, .int 0, .int 0, .int 0])), (h 1, .inl (E.2.1, n, .inl (bgS lo))), (h 2, .inl (E.2.1, n, .inl (fun _ => -1))), (h 3, .inl (E.2.2.1, n, .inr (.inl oc))), (h 4, .inr (5, [.int (nI n), .ref (h 5), .ref (h 6), .ref (h 7), .ref (h 8)])), (h 5, .inl (E.2.2.1, n, .inr (.inl vals))), (h 6, .inl (E.2.1, n, .inl stp)), (h 7, .inl (E.2.1, n, .inl reg)), (h 8, .inl (E.2.2.2, n, .inl lo)), (h 9, .inr (0, [.ref (h 10), .int (nI c1), .ref (h 11)])), (h 10, .inl (E.2.1, n, .inl bo1)), (h 11, .inl (E.2.1, n, .inl rg1)), (h 12, .inr (3, [.int fc, .ref (h 13)])), (h 13, .inl (E.2.2.1, 16, .inr (.inl fs))), (h 14, .inr (4, [.ref (h 15), .int fr, .int en])), (h 15, .inl (E.2.1, n, .inl rw)), (h 16, .inr (2, [.ref (h 17), .ref (h 18), .ref (h 19), .int (nI wk), .ref (h 20)])), (h 17, .inl (E.2.1, 16, .inl so1)), (h 18, .inl (E.2.1, 16, .inl sm)), (h 19, .inl (E.2.2.1, 16, .inr (.inl md))), (h 20, .inl (E.2.1, 16, .inl lv1))] := hD
    exact Rv hx hb hr hlocks hP hD hS (so1, lv1, bo1, rg1, c1) [0, 1, 2, 3, 4, 5, 6, 7, 8, 9, 10, 11, 12, 13, 14, 15, 16, 17, 18, 19, 20] rfl rfl (⟨g1, g2⟩) (Nat.le_of_ble_eq_true rfl) (Nat.le_of_ble_eq_true rfl) dX1_start_70
  · have c_40 : i < n := by
      rcases Nat.lt_or_ge i n with q | q
      · exact q
      · exact absurd ((nI_leI (by omega) (by omega)).mpr q) c_40
    refine lv_aload_n hx hb dX1_start_43 rfl (lv_at hl 1 rfl) ?_
    refine va_get (D := E.1) (ci := 1) (v := .ref (h 4)) (C := RX1) (T := TX1) (N := 15) hx hb hts ux_X1' hown hK.1 hP 0 rfl rfl 3 (by decide) (hts _ (ta_cons _ mw_185)) (fun _ h9 => h9) rfl dX1_start_44 ?_
    refine va_get (D := E.1) (ci := 5) (v := .ref (h 8)) (C := RX5) (T := TX5) (N := 5) hx hb hts ux_X5' hown hK.1 hP 4 rfl rfl 4 (by decide) (hts _ (ta_cons _ mw_74)) (fun _ h9 => h9) rfl dX1_start_47 ?_
    refine lv_iload hx hb dX1_start_50 (lv_at hl 0 rfl) ?_
    refine ia_z i hx hb hK hP 8 rfl (by first | assumption | omega) (by omega) dX1_start_52 ?_
    refine lv_if_ne (tgt := 64) hx hb dX1_start_53 (by decide) (fun c_53 => ?_) (fun c_53 => ?_)
    · refine lv_iinc (v := nI (i + 1)) (lv' := [(4, .int (nI (i + 1))), (0, .ref (h 0)), (1, .int (nI wk)), (2, .long seed)]) hx hb dX1_start_64 hl (k := 0) rfl (nI_1 i) (by decide) rfl (fun ls hl => ?_)
      refine lv_goto (tgt := 31) hx hb dX1_start_67 (by decide) ?_
      exact ih31 (i + 1, a) _ _ _ ⟨hP.sub [0, 1, 2, 3, 4, 5, 6, 7, 8, 9, 10, 11, 12, 13, 14, 15, 16, 17, 18, 19, 20] rfl, hD.sub [0, 1, 2, 3, 4, 5, 6, 7, 8, 9, 10, 11, 12, 13, 14, 15, 16, 17, 18, 19, 20] (by decide) rfl, hS, lv_sub hl [0, 1, 2, 3] rfl, by omega, fun j hj => by
          by_cases q : j = i
          · subst q; rw [p2 _ (Nat.le_refl _)]; exact (if_neg c_53).symm
          · exact p1 j (by omega), fun j hj => p2 j (by omega)⟩ (by show n - (i + 1) < n - i; omega)
    · refine lv_aload_n hx hb dX1_start_56 rfl (lv_at hl 1 rfl) ?_
      refine va_get (D := E.1) (ci := 1) (v := .ref (h 1)) (C := RX1) (T := TX1) (N := 15) hx hb hts ux_X1' hown hK.1 hP 0 rfl rfl 0 (by decide) (hts _ (ta_cons _ mw_179)) (fun _ h9 => h9) rfl dX1_start_57 ?_
      refine lv_iload hx hb dX1_start_60 (lv_at hl 0 rfl) ?_
      refine lv_iconst (v := 0) hx hb dX1_start_62 (by decide) ?_
      refine as_i i hx hb hK hP hD hS 1 rfl (by first | assumption | omega) (by omega) dX1_start_63 (fun H locs hP hD hS => ?_)
      have hP : va_P E.1 classes [(h 0, .inr (1, [.ref (h 1), .ref (h 2), .ref (h 3), .ref (h 4), .ref (h 9), .ref (h 12), .ref (h 14), .ref (h 16), .long seed, .int und, .int 0, .int 0, .int 0, .int 0, .int 0])), (h 1, .inl (E.2.1, n, .inl (upd a i 0))), (h 2, .inl (E.2.1, n, .inl (fun _ => -1))), (h 3, .inl (E.2.2.1, n, .inr (.inl oc))), (h 4, .inr (5, [.int (nI n), .ref (h 5), .ref (h 6), .ref (h 7), .ref (h 8)])), (h 5, .inl (E.2.2.1, n, .inr (.inl vals))), (h 6, .inl (E.2.1, n, .inl stp)), (h 7, .inl (E.2.1, n, .inl reg)), (h 8, .inl (E.2.2.2, n, .inl lo)), (h 9, .inr (0, [.ref (h 10), .int (nI c1), .ref (h 11)])), (h 10, .inl (E.2.1, n, .inl bo1)), (h 11, .inl (E.2.1, n, .inl rg1)), (h 12, .inr (3, [.int fc, .ref (h 13)])), (h 13, .inl (E.2.2.1, 16, .inr (.inl fs))), (h 14, .inr (4, [.ref (h 15), .int fr, .int en])), (h 15, .inl (E.2.1, n, .inl rw)), (h 16, .inr (2, [.ref (h 17), .ref (h 18), .ref (h 19), .int (nI wk), .ref (h 20)])), (h 17, .inl (E.2.1, 16, .inl so1)), (h 18, .inl (E.2.1, 16, .inl sm)), (h 19, .inl (E.2.2.1, 16, .inr (.inl md))), (h 20, .inl (E.2.1, 16, .inl lv1))] H := hP
      have hD : va_D AM [(h 0, .inr (1, [.ref (h 1), .ref (h 2), .ref (h 3), .ref (h 4), .ref (h 9), .ref (h 12), .ref (h 14), .ref (h 16), .long seed, .int und, .int 0, .int 0, .int 0, .int 0, .int 0])), (h 1, .inl (E.2.1, n, .inl (upd a i 0))), (h 2, .inl (E.2.1, n, .inl (fun _ => -1))), (h 3, .inl (E.2.2.1, n, .inr (.inl oc))), (h 4, .inr (5, [.int (nI n), .ref (h 5), .ref (h 6), .ref (h 7), .ref (h 8)])), (h 5, .inl (E.2.2.1, n, .inr (.inl vals))), (h 6, .inl (E.2.1, n, .inl stp)), (h 7, .inl (E.2.1, n, .inl reg)), (h 8, .inl (E.2.2.2, n, .inl lo)), (h 9, .inr (0, [.ref (h 10), .int (nI c1), .ref (h 11)])), (h 10, .inl (E.2.1, n, .inl bo1)), (h 11, .inl (E.2.1, n, .inl rg1)), (h 12, .inr (3, [.int fc, .ref (h 13)])), (h 13, .inl (E.2.2.1, 16, .inr (.inl fs))), (h 14, .inr (4, [.ref (h 15), .int fr, .int en])), (h 15, .inl (E.2.1, n, .inl rw)), (h 16, .inr (2, [.ref (h 17), .ref (h 18), .ref (h 19), .int (nI wk), .ref (h 20)])), (h 17, .inl (E.2.1, 16, .inl so1)), (h 18, .inl (E.2.1, 16, .inl sm)), (h 19, .inl (E.2.2.1, 16, .inr (.inl md))), (h 20, .inl (E.2.1, 16, .inl lv1))] := hD
      refine lv_iinc (v := nI (i + 1)) (lv' := [(4, .int (nI (i + 1))), (0, .ref (h 0)), (1, .int (nI wk)), (2, .long seed)]) hx hb dX1_start_64 hl (k := 0) rfl (nI_1 i) (by decide) rfl (fun ls hl => ?_)
      refine lv_goto (tgt := 31) hx hb dX1_start_67 (by decide) ?_
      exact ih31 (i + 1, upd a i 0) _ _ _ ⟨hP.sub [0, 1, 2, 3, 4, 5, 6, 7, 8, 9, 10, 11, 12, 13, 14, 15, 16, 17, 18, 19, 20] rfl, hD.sub [0, 1, 2, 3, 4, 5, 6, 7, 8, 9, 10, 11, 12, 13, 14, 15, 16, 17, 18, 19, 20] (by decide) rfl, hS, lv_sub hl [0, 1, 2, 3] rfl, by omega, fun j hj => by
          by_cases q : j = i
          · subst q; rw [pk_us]; exact (if_pos c_53).symm
          · rw [pk_un q]; exact p1 j (by omega), fun j hj => by rw [pk_un (by omega)]; exact p2 j (by omega)⟩ (by show n - (i + 1) < n - i; omega)
end
section
/-! pure rows: a run as a mathematical machine -/
def fu {α : Type} (f : Nat → α) (k : Nat) (v : α) : Nat → α := fun j => if j = k then v else f j
theorem fu_s {α : Type} {f : Nat → α} {k : Nat} {v : α} : fu f k v k = v := if_pos rfl
theorem fu_n {α : Type} {f : Nat → α} {k j : Nat} {v : α} (h : j ≠ k) : fu f k v j = f j := if_neg h
def hI : Option Nat → Int32
  | none => -1
  | some s => nI s
/-- how many of 0 .. n - 1 have a state of a kind -/
def cP (P : Nat → Bool) (sd : Nat → Nat) : Nat → Nat
  | 0 => 0
  | n + 1 => cP P sd n + (if P (sd n) = true then 1 else 0)
theorem cP_far {P : Nat → Bool} {sd : Nat → Nat} {s v : Nat} : ∀ n, n ≤ s → cP P (fu sd s v) n = cP P sd n := by
  intro n
  induction n with
  | zero => intro _; rfl
  | succ n ih => intro h; simp only [cP]; rw [ih (by omega), fu_n (by omega)]
theorem cP_upd {P : Nat → Bool} {sd : Nat → Nat} {s v : Nat} : ∀ n, s < n → cP P (fu sd s v) n + (if P (sd s) = true then 1 else 0) = cP P sd n + (if P v = true then 1 else 0) := by
  intro n
  induction n with
  | zero => intro h; exact absurd h (Nat.not_lt_zero s)
  | succ n ih =>
    intro h
    simp only [cP]
    by_cases q : s = n
    · subst q; rw [cP_far s (Nat.le_refl s), fu_s]; omega
    · rw [fu_n (by omega)]; have := ih (by omega); omega
theorem cP_zero {P : Nat → Bool} {sd : Nat → Nat} : ∀ n, cP P sd n = 0 ↔ ∀ s, s < n → P (sd s) = false := by
  intro n
  induction n with
  | zero => exact ⟨fun _ s h => absurd h (Nat.not_lt_zero s), fun _ => rfl⟩
  | succ n ih =>
    simp only [cP]
    constructor
    · intro h s hs
      have h1 : cP P sd n = 0 := by omega
      by_cases q : s = n
      · subst q
        cases hp : P (sd s) with
        | false => rfl
        | true => rw [hp] at h; simp at h
      · exact ih.mp h1 s (by omega)
    · intro h
      rw [ih.mpr (fun s hs => h s (by omega)), h n (by omega)]
      rfl
theorem cP_pos {P : Nat → Bool} {sd : Nat → Nat} {n s : Nat} (hs : s < n) (h : P (sd s) = true) : 0 < cP P sd n := by
  rcases Nat.eq_zero_or_pos (cP P sd n) with q | q
  · rw [(cP_zero n).mp q s hs] at h; cases h
  · exact q
theorem cP_le {P : Nat → Bool} {sd : Nat → Nat} : ∀ n, cP P sd n ≤ n := by
  intro n
  induction n with
  | zero => exact Nat.le_refl 0
  | succ n ih => simp only [cP]; split <;> omega
def oP : Nat → Bool := fun v => v != 0 && v != 3
def tP : Nat → Bool := fun v => v == 2 || v == 3
abbrev RS : Type := List Nat × List Nat × List Nat × (Nat → Option Nat) × (Nat → Nat) × (Nat → Nat) × (Nat → Int32) × (Nat → Int32) × List (Nat × Nat) × Int64 × Nat × Int32 × Int32 × Int32
abbrev rL (σ : RS) := σ.1
abbrev rK (σ : RS) := σ.2.1
abbrev rQ (σ : RS) := σ.2.2.1
abbrev rH (σ : RS) := σ.2.2.2.1
abbrev rM (σ : RS) := σ.2.2.2.2.1
abbrev rS (σ : RS) := σ.2.2.2.2.2.1
abbrev rBg (σ : RS) := σ.2.2.2.2.2.2.1
abbrev rDr (σ : RS) := σ.2.2.2.2.2.2.2.1
abbrev rF (σ : RS) := σ.2.2.2.2.2.2.2.2.1
abbrev rX (σ : RS) := σ.2.2.2.2.2.2.2.2.2.1
abbrev rTk (σ : RS) := σ.2.2.2.2.2.2.2.2.2.2.1
abbrev rSp (σ : RS) := σ.2.2.2.2.2.2.2.2.2.2.2.1
abbrev rFd (σ : RS) := σ.2.2.2.2.2.2.2.2.2.2.2.2.1
abbrev rBa (σ : RS) := σ.2.2.2.2.2.2.2.2.2.2.2.2.2
/-- worker w begins share s -/
def tkS (w s : Nat) (K Q : List Nat) : RS → RS
  | (L, _, _, hd, md, sd, bg, dr, F, x, tk, sp, fd, ba) => (L, K, Q, fu hd w (some s), fu md w 0, fu sd s 2, upd bg s (bg s + 1), dr, F, x, tk, sp, fd, ba + 1)
/-- what the worker at place p does -/
def actS (st : Nat → Nat) (p : Nat) : RS → RS
  | (L, K, Q, hd, md, sd, bg, dr, F, x, tk, sp, fd, ba) =>
    match hd (L.getD p 0) with
    | none => match K with
      | s :: K' => tkS (L.getD p 0) s K' Q (L, K, Q, hd, md, sd, bg, dr, F, x, tk, sp, fd, ba)
      | [] => match Q with
        | s :: Q' => tkS (L.getD p 0) s [] Q' (L, K, Q, hd, md, sd, bg, dr, F, x, tk, sp, fd, ba)
        | [] => (L, K, Q, hd, md, sd, bg, dr, F, x, tk, sp, fd, ba)
    | some s =>
      if md (L.getD p 0) + 1 = st s then
        if (L.getD p 0, s) ∈ F then (L.eraseIdx p, s :: K, Q, hd, md, fu sd s 4, bg, dr, F.erase (L.getD p 0, s), x, tk, sp, fd + 1, ba)
        else (L, K, Q, fu hd (L.getD p 0) none, fu md (L.getD p 0) (md (L.getD p 0) + 1), fu sd s 3, bg, upd dr s (nI (L.getD p 0)), F, x, tk, sp + 1, fd, ba)
      else (L, K, Q, hd, fu md (L.getD p 0) (md (L.getD p 0) + 1), sd, bg, dr, F, x, tk, sp + 1, fd, ba)
def tickS (st : Nat → Nat) : RS → RS
  | (L, K, Q, hd, md, sd, bg, dr, F, x, tk, sp, fd, ba) => actS st (pickN (nxtX x) L.length) (L, K, Q, hd, md, sd, bg, dr, F, nxtX x, tk + 1, sp, fd, ba)
def bRun (n : Nat) (st : Nat → Nat) : Nat → RS → Int32 × RS
  | 0, σ => (0, σ)
  | f + 1, σ => if cP oP (rS σ) n = 0 then (0, σ) else if rL σ = [] then (-1, σ) else if rTk σ = 20000 then (-2, σ) else bRun n st f (tickS st σ)
def bR (n : Nat) (st : Nat → Nat) (σ : RS) : Int32 × RS := bRun n st (20001 - rTk σ) σ
theorem tick_tk {st : Nat → Nat} {σ : RS} : rTk (tickS st σ) = rTk σ + 1 := by
  obtain ⟨L, K, Q, hd, md, sd, bg, dr, F, x, tk, sp, fd, ba⟩ := σ
  simp only [tickS, actS]
  split
  · split
    · rfl
    · split <;> rfl
  · split
    · split <;> rfl
    · rfl
theorem bR_done {n : Nat} {st : Nat → Nat} {σ : RS} (ht : rTk σ ≤ 20000) (h : cP oP (rS σ) n = 0) : bR n st σ = (0, σ) := by
  unfold bR
  rw [show 20001 - rTk σ = (20000 - rTk σ) + 1 by omega]
  simp only [bRun]
  rw [if_pos h]
theorem bR_none {n : Nat} {st : Nat → Nat} {σ : RS} (ht : rTk σ ≤ 20000) (h : ¬ cP oP (rS σ) n = 0) (hL : rL σ = []) : bR n st σ = (-1, σ) := by
  unfold bR
  rw [show 20001 - rTk σ = (20000 - rTk σ) + 1 by omega]
  simp only [bRun]
  rw [if_neg h, if_pos hL]
theorem bR_out {n : Nat} {st : Nat → Nat} {σ : RS} (ht : rTk σ = 20000) (h : ¬ cP oP (rS σ) n = 0) (hL : ¬ rL σ = []) : bR n st σ = (-2, σ) := by
  unfold bR
  rw [show 20001 - rTk σ = (20000 - rTk σ) + 1 by omega]
  simp only [bRun]
  rw [if_neg h, if_neg hL, if_pos ht]
theorem bR_step {n : Nat} {st : Nat → Nat} {σ : RS} (ht : rTk σ < 20000) (h : ¬ cP oP (rS σ) n = 0) (hL : ¬ rL σ = []) : bR n st σ = bR n st (tickS st σ) := by
  unfold bR
  rw [show 20001 - rTk σ = (20000 - rTk σ) + 1 by omega, tick_tk]
  simp only [bRun]
  rw [if_neg h, if_neg hL, if_neg (by omega), show 20001 - (rTk σ + 1) = 20000 - rTk σ by omega]
def sd0 (n : Nat) (bo : Nat → Int32) (b : Nat) : Nat → Nat := fun s => if s < n ∧ bo s = nI b then 1 else 0
def iniB (n : Nat) (bo : Nat → Int32) (b : Nat) : RS → RS
  | (L, _, _, hd, md, _, bg, dr, F, x, tk, sp, fd, ba) => (L, [], memB bo (nI b) n, hd, md, sd0 n bo b, bg, dr, F, x, tk, sp, fd, ba)
/-- the batches from b on, m of them -/
def gRun (n : Nat) (st : Nat → Nat) (bo : Nat → Int32) : Nat → Nat → RS → Int32 × Nat × RS
  | 0, b, σ => (0, b, σ)
  | m + 1, b, σ => if (bR n st (iniB n bo b σ)).1 = 0 then gRun n st bo m (b + 1) (bR n st (iniB n bo b σ)).2 else ((bR n st (iniB n bo b σ)).1, b, (bR n st (iniB n bo b σ)).2)
theorem mem_memB {bo : Nat → Int32} {b : Int32} {n s : Nat} : s ∈ memB bo b n ↔ s < n ∧ bo s = b := by
  unfold memB
  rw [List.mem_filter, List.mem_range]
  simp
theorem memB_sorted {bo : Nat → Int32} {b : Int32} {n : Nat} : (memB bo b n).Pairwise (· < ·) := by
  unfold memB
  exact List.Pairwise.filter _ List.pairwise_lt_range
theorem memB_cP {bo : Nat → Int32} {b : Nat} {n : Nat} : ∀ m, m ≤ n → cP oP (sd0 n bo b) m = (memB bo (nI b) m).length := by
  intro m
  induction m with
  | zero => intro _; rfl
  | succ m ih =>
    intro h
    simp only [cP]
    rw [ih (by omega)]
    by_cases q : bo m = nI b
    · rw [memB_in q, List.length_append]
      have : sd0 n bo b m = 1 := if_pos ⟨by omega, q⟩
      rw [this]; rfl
    · rw [memB_out q]
      have : sd0 n bo b m = 0 := if_neg (fun z => q z.2)
      rw [this]; rfl
theorem cP_sd0 {P : Nat → Bool} {bo : Nat → Int32} {b n : Nat} (h0 : P 0 = false) (h1 : P 1 = false) : ∀ m, cP P (sd0 n bo b) m = 0 := by
  intro m
  rw [cP_zero]
  intro s _
  unfold sd0
  split
  · exact h1
  · exact h0
end
section
/-! pure rows: what holds all along a run -/
def InvC (n : Nat) (st : Nat → Nat) (bo : Nat → Int32) (b : Nat) (L K Q : List Nat) (hd : Nat → Option Nat) (md sd : Nat → Nat) (dr : Nat → Int32) (F : List (Nat × Nat)) : Prop :=
  (L.Pairwise (· < ·) ∧ ∀ w, w ∈ L → w < 16) ∧ (K.Nodup ∧ ∀ s, s ∈ K → s < n ∧ sd s = 4) ∧ (∀ w, w ∈ L → ∀ s, hd w = some s → s < n ∧ sd s = 2 ∧ md w < st s) ∧ (∀ w w', w ∈ L → w' ∈ L → ∀ s, hd w = some s → hd w' = some s → w = w') ∧ (Q.Pairwise (· < ·) ∧ ∀ s, s ∈ Q ↔ s < n ∧ sd s = 1) ∧ (F.Nodup ∧ ∀ q, q ∈ F → q.1 < 16 ∧ q.2 < n) ∧ (∀ s, s < n → sd s = 3 → ¬ dr s = -1) ∧ (∀ s, s < n → (sd s = 0 ↔ ¬ bo s = nI b)) ∧ (∀ s, s < n → ∀ b', b' < b → bo s = nI b' → ¬ dr s = -1)
theorem inv_take {n : Nat} {st : Nat → Nat} {bo : Nat → Int32} {b : Nat} {L K Q K' Q' : List Nat} {hd : Nat → Option Nat} {md sd : Nat → Nat} {dr : Nat → Int32} {F : List (Nat × Nat)} {w s : Nat} (h : InvC n st bo b L K Q hd md sd dr F) (hst : ∀ s, s < n → 0 < st s) (hw : hd w = none) (hs : s < n) (h4 : sd s = 4 ∨ sd s = 1) (hK : K'.Nodup ∧ ∀ t, t ∈ K' → t ∈ K ∧ t ≠ s) (hQ : Q'.Pairwise (· < ·) ∧ ∀ t, t ∈ Q' ↔ t ∈ Q ∧ t ≠ s) : InvC n st bo b L K' Q' (fu hd w (some s)) (fu md w 0) (fu sd s 2) dr F := by
  obtain ⟨⟨a1, a2⟩, ⟨b1, b2⟩, c1, d1, ⟨e1, e2⟩, f1, g1, i1, j1⟩ := h
  have hold : ∀ v, v ∈ L → ∀ t, hd v = some t → t ≠ s := by
    intro v hv t ht e
    subst e
    have := (c1 v hv t ht).2.1
    omega
  refine ⟨⟨a1, a2⟩, ⟨hK.1, fun t ht => ?_⟩, fun v hv t ht => ?_, fun v v' hv hv' t ht ht' => ?_, ⟨hQ.1, fun t => ?_⟩, f1, fun t ht h3 => ?_, fun t ht => ?_, j1⟩
  · obtain ⟨q1, q2⟩ := hK.2 t ht
    rw [fu_n q2]
    exact b2 t q1
  · by_cases q : v = w
    · subst q
      rw [fu_s] at ht
      cases ht
      rw [fu_s, fu_s]
      exact ⟨hs, rfl, hst s hs⟩
    · rw [fu_n q] at ht ⊢
      rw [fu_n (hold v hv t ht)]
      exact c1 v hv t ht
  · by_cases q : v = w <;> by_cases q' : v' = w
    · rw [q, q']
    · rw [q, fu_s] at ht
      cases ht
      rw [fu_n q'] at ht'
      exact absurd rfl (hold v' hv' s ht')
    · rw [q', fu_s] at ht'
      cases ht'
      rw [fu_n q] at ht
      exact absurd rfl (hold v hv s ht)
    · rw [fu_n q] at ht
      rw [fu_n q'] at ht'
      exact d1 v v' hv hv' t ht ht'
  · rw [hQ.2 t, e2 t]
    by_cases q : t = s
    · subst q
      rw [fu_s]
      constructor
      · intro z; exact absurd rfl z.2
      · intro z; exact absurd z.2 (by decide)
    · rw [fu_n q]
      exact ⟨fun z => z.1, fun z => ⟨z, q⟩⟩
  · by_cases q : t = s
    · subst q
      rw [fu_s] at h3
      exact absurd h3 (by decide)
    · rw [fu_n q] at h3
      exact g1 t ht h3
  · by_cases q : t = s
    · subst q
      rw [fu_s]
      have := i1 t ht
      constructor
      · intro z; exact absurd z (by decide)
      · intro z
        have := this.mpr z
        omega
    · rw [fu_n q]
      exact i1 t ht
theorem inv_step {n : Nat} {st : Nat → Nat} {bo : Nat → Int32} {b : Nat} {L K Q : List Nat} {hd : Nat → Option Nat} {md sd : Nat → Nat} {dr : Nat → Int32} {F : List (Nat × Nat)} {w s : Nat} (h : InvC n st bo b L K Q hd md sd dr F) (hh : hd w = some s) (hm : md w + 1 < st s) : InvC n st bo b L K Q hd (fu md w (md w + 1)) sd dr F := by
  obtain ⟨a1, b1, c1, d1, e1, f1, g1, i1, j1⟩ := h
  refine ⟨a1, b1, fun v hv t ht => ?_, d1, e1, f1, g1, i1, j1⟩
  obtain ⟨q1, q2, q3⟩ := c1 v hv t ht
  refine ⟨q1, q2, ?_⟩
  by_cases q : v = w
  · subst q
    rw [fu_s]
    rw [hh] at ht
    cases ht
    exact hm
  · rw [fu_n q]; exact q3
theorem inv_last {n : Nat} {st : Nat → Nat} {bo : Nat → Int32} {b : Nat} {L K Q : List Nat} {hd : Nat → Option Nat} {md sd : Nat → Nat} {dr : Nat → Int32} {F : List (Nat × Nat)} {w s : Nat} (h : InvC n st bo b L K Q hd md sd dr F) (hw : w ∈ L) (hh : hd w = some s) : InvC n st bo b L K Q (fu hd w none) (fu md w (md w + 1)) (fu sd s 3) (upd dr s (nI w)) F := by
  obtain ⟨⟨a1, a2⟩, ⟨b1, b2⟩, c1, d1, ⟨e1, e2⟩, f1, g1, i1, j1⟩ := h
  have hw16 := a2 w hw
  have hs := c1 w hw s hh
  have hne : ¬ nI w = -1 := fun e => neg1_ne (b := w) (by omega) e.symm
  have hold : ∀ v, v ∈ L → v ≠ w → ∀ t, hd v = some t → t ≠ s := fun v hv hvw t ht e => hvw (d1 v w hv hw s (by rw [← e]; exact ht) hh)
  refine ⟨⟨a1, a2⟩, ⟨b1, fun t ht => ?_⟩, fun v hv t ht => ?_, fun v v' hv hv' t ht ht' => ?_, ⟨e1, fun t => ?_⟩, f1, fun t ht h3 => ?_, fun t ht => ?_, fun t ht b' hb' e => ?_⟩
  · have := b2 t ht
    rw [fu_n (fun e => by subst e; omega)]
    exact this
  · by_cases q : v = w
    · subst q
      rw [fu_s] at ht
      cases ht
    · rw [fu_n q] at ht ⊢
      rw [fu_n (hold v hv q t ht)]
      exact c1 v hv t ht
  · by_cases q : v = w
    · subst q; rw [fu_s] at ht; cases ht
    · by_cases q' : v' = w
      · subst q'; rw [fu_s] at ht'; cases ht'
      · rw [fu_n q] at ht
        rw [fu_n q'] at ht'
        exact d1 v v' hv hv' t ht ht'
  · rw [e2 t]
    by_cases q : t = s
    · subst q
      rw [fu_s]
      constructor
      · intro z; omega
      · intro z; exact absurd z.2 (by decide)
    · rw [fu_n q]
  · by_cases q : t = s
    · subst q; rw [pk_us]; exact hne
    · rw [fu_n q] at h3
      rw [pk_un q]
      exact g1 t ht h3
  · by_cases q : t = s
    · subst q
      rw [fu_s, ← i1 t ht]
      constructor
      · intro z; exact absurd z (by decide)
      · intro z; omega
    · rw [fu_n q]; exact i1 t ht
  · by_cases q : t = s
    · subst q; rw [pk_us]; exact hne
    · rw [pk_un q]; exact j1 t ht b' hb' e
theorem mem_erIdx {L : List Nat} {p w v : Nat} (hs : L.Pairwise (· < ·)) (hp : L[p]? = some w) : v ∈ L.eraseIdx p ↔ v ∈ L ∧ v ≠ w := by
  have hlt : p < L.length := (List.getElem?_eq_some_iff.mp hp).1
  rw [List.mem_eraseIdx_iff_getElem?]
  constructor
  · rintro ⟨i, hi, hv⟩
    refine ⟨List.mem_of_getElem? hv, fun e => ?_⟩
    subst e
    obtain ⟨h1, h2⟩ := List.getElem?_eq_some_iff.mp hp
    obtain ⟨h3, h4⟩ := List.getElem?_eq_some_iff.mp hv
    have hpw := List.pairwise_iff_getElem.mp hs
    rcases Nat.lt_trichotomy i p with q | q | q
    · have := hpw i p h3 h1 q; omega
    · exact hi q
    · have := hpw p i h1 h3 q; omega
  · rintro ⟨hv, hne⟩
    obtain ⟨i, hi⟩ := List.getElem?_of_mem hv
    exact ⟨i, fun e => hne (by subst e; rw [hp] at hi; exact (Option.some.inj hi).symm), hi⟩
theorem inv_fail {n : Nat} {st : Nat → Nat} {bo : Nat → Int32} {b : Nat} {L K Q : List Nat} {hd : Nat → Option Nat} {md sd : Nat → Nat} {dr : Nat → Int32} {F : List (Nat × Nat)} {w s p : Nat} (h : InvC n st bo b L K Q hd md sd dr F) (hp : L[p]? = some w) (hh : hd w = some s) : InvC n st bo b (L.eraseIdx p) (s :: K) Q hd md (fu sd s 4) dr (F.erase (w, s)) := by
  obtain ⟨⟨a1, a2⟩, ⟨b1, b2⟩, c1, d1, ⟨e1, e2⟩, ⟨f1, f2⟩, g1, i1, j1⟩ := h
  have hw : w ∈ L := List.mem_of_getElem? hp
  have hs := c1 w hw s hh
  have hme : ∀ v, v ∈ L.eraseIdx p → v ∈ L ∧ v ≠ w := fun v hv => (mem_erIdx a1 hp).mp hv
  have hold : ∀ v, v ∈ L → v ≠ w → ∀ t, hd v = some t → t ≠ s := fun v hv hvw t ht e => hvw (d1 v w hv hw s (by rw [← e]; exact ht) hh)
  refine ⟨⟨List.Pairwise.sublist (List.eraseIdx_sublist _ _) a1, fun v hv => a2 v (hme v hv).1⟩, ⟨List.nodup_cons.mpr ⟨fun z => by have := (b2 s z).2; omega, b1⟩, fun t ht => ?_⟩, fun v hv t ht => ?_, fun v v' hv hv' t ht ht' => d1 v v' (hme v hv).1 (hme v' hv').1 t ht ht', ⟨e1, fun t => ?_⟩, ⟨List.Pairwise.sublist List.erase_sublist f1, fun q hq => f2 q (List.mem_of_mem_erase hq)⟩, fun t ht h3 => ?_, fun t ht => ?_, j1⟩
  · rcases List.mem_cons.mp ht with q | q
    · subst q; rw [fu_s]; exact ⟨hs.1, rfl⟩
    · have := b2 t q
      rw [fu_n (fun e => by subst e; omega)]
      exact this
  · have hv2 := hme v hv
    rw [fu_n (hold v hv2.1 hv2.2 t ht)]
    exact c1 v hv2.1 t ht
  · rw [e2 t]
    by_cases q : t = s
    · subst q
      rw [fu_s]
      constructor
      · intro z; omega
      · intro z; exact absurd z.2 (by decide)
    · rw [fu_n q]
  · by_cases q : t = s
    · subst q; rw [fu_s] at h3; exact absurd h3 (by decide)
    · rw [fu_n q] at h3; exact g1 t ht h3
  · by_cases q : t = s
    · subst q
      rw [fu_s, ← i1 t ht]
      constructor
      · intro z; exact absurd z (by decide)
      · intro z; omega
    · rw [fu_n q]; exact i1 t ht
end
section
/-! pure rows: masks of failures; the class's cells against the pure machine -/
theorem bitm_bv : ∀ t, t < 64 → (bitm (nI t)).toBitVec = BitVec.twoPow 64 t := by decide +kernel
theorem bit_0 {x : Int64} {t : Nat} (ht : t < 64) : x &&& bitm (nI t) = 0 ↔ x.toBitVec.getLsbD t = false := by
  rw [← Int64.toBitVec_inj, Int64.toBitVec_and, bitm_bv t ht, BitVec.and_twoPow]
  constructor
  · intro h
    cases hb : x.toBitVec.getLsbD t with
    | false => rfl
    | true =>
      rw [hb, if_pos rfl] at h
      have h1 := congrArg (fun z : BitVec 64 => z.getLsbD t) h
      simp [ht] at h1
  · intro h
    rw [h]
    rfl
theorem bit_or {x : Int64} {t u : Nat} (ht : t < 64) (hu : u < 64) : (x ||| bitm (nI t)) &&& bitm (nI u) = 0 ↔ x &&& bitm (nI u) = 0 ∧ u ≠ t := by
  rw [bit_0 hu, bit_0 hu, Int64.toBitVec_or, BitVec.getLsbD_or, bitm_bv t ht, BitVec.getLsbD_twoPow]
  by_cases e : u = t
  · subst e; simp [hu]
  · simp [e, show t ≠ u from fun z => e z.symm]
theorem bit_an {x : Int64} {t u : Nat} (ht : t < 64) (hu : u < 64) : (x &&& (bitm (nI t) ^^^ (-1))) &&& bitm (nI u) = 0 ↔ x &&& bitm (nI u) = 0 ∨ u = t := by
  have hm : (-1 : Int64).toBitVec = BitVec.allOnes 64 := by decide
  rw [bit_0 hu, bit_0 hu, Int64.toBitVec_and, BitVec.getLsbD_and, Int64.toBitVec_xor, BitVec.getLsbD_xor, bitm_bv t ht, hm, BitVec.getLsbD_twoPow, BitVec.getLsbD_allOnes]
  by_cases e : u = t
  · subst e; simp [hu]
  · simp [e, hu, show t ≠ u from fun z => e z.symm]
def FRep (n : Nat) (F : List (Nat × Nat)) (fs : Nat → Int64) : Prop := ∀ w t, w < 16 → t < n → (fs w &&& bitm (nI t) = 0 ↔ ¬ (w, t) ∈ F)
theorem fr_has {n : Nat} {F : List (Nat × Nat)} {fs : Nat → Int64} {w t : Nat} (h : FRep n F fs) (hw : w < 16) (ht : t < n) : fhas (fs w) (nI t) = if (w, t) ∈ F then 1 else 0 := by
  unfold fhas
  by_cases q : (w, t) ∈ F
  · rw [if_pos q, if_neg (fun z => (h w t hw ht).mp z q)]
  · rw [if_neg q, if_pos ((h w t hw ht).mpr q)]
theorem fr_add {n : Nat} {F : List (Nat × Nat)} {fs : Nat → Int64} {w t : Nat} (hn : n ≤ 64) (h : FRep n F fs) (ht : t < n) : FRep n (F ++ [(w, t)]) (vp_updL fs w (fs w ||| bitm (nI t))) := by
  intro v u hv hu
  by_cases q : v = w
  · subst q
    rw [pk_uLs, bit_or (by omega) (by omega), h v u hv hu]
    simp
  · rw [pk_uLn q, h v u hv hu]
    simp [q]
theorem fr_rem {n : Nat} {F : List (Nat × Nat)} {fs : Nat → Int64} {w t : Nat} (hn : n ≤ 64) (h : FRep n F fs) (hN : F.Nodup) (ht : t < n) : FRep n (F.erase (w, t)) (vp_updL fs w (fs w &&& (bitm (nI t) ^^^ (-1)))) := by
  intro v u hv hu
  rw [hN.mem_erase_iff]
  by_cases q : v = w
  · subst q
    rw [pk_uLs, bit_an (by omega) (by omega), h v u hv hu]
    by_cases e : u = t
    · subst e; simp
    · simp [e]
  · rw [pk_uLn q, h v u hv hu]
    simp [q]
theorem fr_nil {n : Nat} : FRep n [] (fun _ => 0) := by
  intro w t _ _
  simp
/-- the class's cells and the machine's state -/
def RC (n : Nat) (vals : Nat → Int64) (st : Nat → Nat) (L K Q : List Nat) (hd : Nat → Option Nat) (mn sd : Nat → Nat) (dr : Nat → Int32) (F : List (Nat × Nat)) (oc fs md : Nat → Int64) (rw so sm lv : Nat → Int32) (und fc fr en lc : Int32) : Prop :=
  ∃ f : Nat, (lc = nI L.length ∧ fr = nI f ∧ en = nI (f + (K ++ Q).length) ∧ und = nI (cP oP sd n) ∧ fc = nI F.length) ∧ (∀ i w, L[i]? = some w → lv i = nI w) ∧ (∀ w, w ∈ L → so w = hI (hd w)) ∧ (∀ w, w ∈ L → ∀ s, hd w = some s → sm w = nI (mn w) ∧ md w = stpF (vals s) (mn w)) ∧ RowIs rw f (K ++ Q) ∧ f + (K ++ Q).length ≤ n ∧ cP tP sd n ≤ f ∧ (∀ s, s < n → ¬ dr s = -1 → oc s = stpF (vals s) (st s)) ∧ FRep n F fs
theorem rc_take {n : Nat} {vals : Nat → Int64} {st : Nat → Nat} {L K Q K' Q' : List Nat} {hd : Nat → Option Nat} {mn sd : Nat → Nat} {dr : Nat → Int32} {F : List (Nat × Nat)} {oc fs md : Nat → Int64} {rw so sm lv : Nat → Int32} {und fc fr en lc : Int32} {w s f : Nat}
    (h : RC n vals st L K Q hd mn sd dr F oc fs md rw so sm lv und fc fr en lc) (hf : fr = nI f) (hf2 : f < 2 ^ 31) (hn : n < 2 ^ 31) (hs : s < n) (h4 : sd s = 4 ∨ sd s = 1) (hq : K ++ Q = s :: (K' ++ Q')) :
    RC n vals st L K' Q' (fu hd w (some s)) (fu mn w 0) (fu sd s 2) dr F oc fs (vp_updL md w (vals s)) rw (upd so w (nI s)) (upd sm w 0) lv und fc (nI (f + 1)) en lc := by
  obtain ⟨f0, ⟨e1, e2, e3, e4, e5⟩, a1, a2, a3, a4, a5, a6, a7, a8⟩ := h
  have hl : (K ++ Q).length = (K' ++ Q').length + 1 := by rw [hq]; rfl
  have ef : f0 = f := by
    have : nI f0 = nI f := by rw [← e2, hf]
    exact (nI_eq (by omega) hf2).mp this
  subst ef
  have hu1 := cP_upd (P := oP) (sd := sd) (s := s) (v := 2) n hs
  have hu2 := cP_upd (P := tP) (sd := sd) (s := s) (v := 2) n hs
  have o2 : oP 2 = true := rfl
  have t2 : tP 2 = true := rfl
  have os : oP (sd s) = true := by rcases h4 with q | q <;> rw [q] <;> rfl
  have ts : tP (sd s) = false := by rcases h4 with q | q <;> rw [q] <;> rfl
  rw [os, o2, if_pos rfl] at hu1
  rw [ts, t2, if_pos rfl, if_neg (by decide)] at hu2
  rw [hq] at a4
  refine ⟨f0 + 1, ⟨e1, rfl, by rw [e3, hl]; congr 1; omega, by rw [e4]; congr 1; omega, e5⟩, a1, fun v hv => ?_, fun v hv t ht => ?_, (row_tail a4).2, by omega, by omega, a7, a8⟩
  · by_cases q : v = w
    · subst q; rw [pk_us, fu_s]; rfl
    · rw [pk_un q, fu_n q]; exact a2 v hv
  · by_cases q : v = w
    · subst q
      rw [fu_s] at ht
      cases ht
      rw [pk_us, fu_s, pk_uLs]
      exact ⟨rfl, rfl⟩
    · rw [fu_n q] at ht ⊢
      rw [pk_un q, pk_uLn q]
      exact a3 v hv t ht
theorem rc_step {n : Nat} {vals : Nat → Int64} {st : Nat → Nat} {L K Q : List Nat} {hd : Nat → Option Nat} {mn sd : Nat → Nat} {dr : Nat → Int32} {F : List (Nat × Nat)} {oc fs md : Nat → Int64} {rw so sm lv : Nat → Int32} {und fc fr en lc : Int32} {w s : Nat}
    (h : RC n vals st L K Q hd mn sd dr F oc fs md rw so sm lv und fc fr en lc) (hw : w ∈ L) (hh : hd w = some s) :
    RC n vals st L K Q hd (fu mn w (mn w + 1)) sd dr F oc fs (vp_updL md w (mkst (md w) (vals s) (sm w))) rw so (upd sm w (sm w + 1)) lv und fc fr en lc := by
  obtain ⟨f0, e0, a1, a2, a3, a4, a5, a6, a7, a8⟩ := h
  refine ⟨f0, e0, a1, a2, fun v hv t ht => ?_, a4, a5, a6, a7, a8⟩
  by_cases q : v = w
  · subst q
    rw [hh] at ht
    cases ht
    obtain ⟨q1, q2⟩ := a3 v hw s hh
    rw [pk_us, fu_s, pk_uLs, q1, q2]
    exact ⟨nI_1 _, rfl⟩
  · rw [fu_n q, pk_un q, pk_uLn q]
    exact a3 v hv t ht
theorem rc_last {n : Nat} {vals : Nat → Int64} {st : Nat → Nat} {L K Q : List Nat} {hd : Nat → Option Nat} {mn sd : Nat → Nat} {dr : Nat → Int32} {F : List (Nat × Nat)} {oc fs md : Nat → Int64} {rw so sm lv : Nat → Int32} {und fc fr en lc : Int32} {w s : Nat}
    (h : RC n vals st L K Q hd mn sd dr F oc fs md rw so sm lv und fc fr en lc) (hn : n < 2 ^ 31) (hw : w ∈ L) (hh : hd w = some s) (hs : s < n) (h2 : sd s = 2) (hm : mn w + 1 = st s) :
    RC n vals st L K Q (fu hd w none) (fu mn w (mn w + 1)) (fu sd s 3) (upd dr s (nI w)) F (vp_updL oc s (vp_updL md w (mkst (md w) (vals s) (sm w)) w)) fs (vp_updL md w (mkst (md w) (vals s) (sm w))) rw (upd so w (-1)) (upd sm w (sm w + 1)) lv (und - 1) fc fr en lc := by
  obtain ⟨f0, ⟨e1, e2, e3, e4, e5⟩, a1, a2, a3, a4, a5, a6, a7, a8⟩ := h
  obtain ⟨q1, q2⟩ := a3 w hw s hh
  have hu1 := cP_upd (P := oP) (sd := sd) (s := s) (v := 3) n hs
  have hu2 := cP_upd (P := tP) (sd := sd) (s := s) (v := 3) n hs
  have o3 : oP 3 = false := rfl
  have t3 : tP 3 = true := rfl
  have os : oP (sd s) = true := by rw [h2]; rfl
  have ts : tP (sd s) = true := by rw [h2]; rfl
  rw [os, o3, if_pos rfl, if_neg (by decide)] at hu1
  rw [ts, t3, if_pos rfl] at hu2
  refine ⟨f0, ⟨e1, e2, e3, ?_, e5⟩, a1, fun v hv => ?_, fun v hv t ht => ?_, a4, a5, by omega, fun t ht hne => ?_, a8⟩
  · rw [e4, show cP oP sd n = cP oP (fu sd s 3) n + 1 by omega]
    exact nI_pred _
  · by_cases q : v = w
    · subst q; rw [pk_us, fu_s]; rfl
    · rw [pk_un q, fu_n q]; exact a2 v hv
  · by_cases q : v = w
    · subst q; rw [fu_s] at ht; cases ht
    · rw [fu_n q] at ht ⊢
      rw [pk_un q, pk_uLn q]
      exact a3 v hv t ht
  · by_cases q : t = s
    · subst q
      rw [pk_uLs, pk_uLs, q1, q2, ← hm]
      rfl
    · rw [pk_un q] at hne
      rw [pk_uLn q]
      exact a7 t ht hne
theorem rc_fail {n : Nat} {vals : Nat → Int64} {st : Nat → Nat} {L K Q : List Nat} {hd : Nat → Option Nat} {mn sd : Nat → Nat} {dr : Nat → Int32} {F : List (Nat × Nat)} {oc fs md : Nat → Int64} {rw so sm lv u : Nat → Int32} {und fc fr en lc : Int32} {w s p f : Nat}
    (h : RC n vals st L K Q hd mn sd dr F oc fs md rw so sm lv und fc fr en lc) (hf : fr = nI (f + 1)) (hf2 : f + 1 < 2 ^ 31) (hn : n ≤ 64) (hL : L.Pairwise (· < ·)) (hp : L[p]? = some w) (hs : s < n) (h2 : sd s = 2) (hN : F.Nodup) (hF : (w, s) ∈ F)
    (hu : (∀ j, j < p → u j = lv j) ∧ ∀ j, p ≤ j → j < L.length - 1 → u j = lv (j + 1)) :
    RC n vals st (L.eraseIdx p) (s :: K) Q hd mn (fu sd s 4) dr (F.erase (w, s)) oc (vp_updL fs w (fs w &&& (bitm (nI s) ^^^ (-1)))) md (upd rw f (nI s)) so sm u und (fc - 1) (nI f) en (nI (L.length - 1)) := by
  obtain ⟨f0, ⟨e1, e2, e3, e4, e5⟩, a1, a2, a3, a4, a5, a6, a7, a8⟩ := h
  have hpl : p < L.length := (List.getElem?_eq_some_iff.mp hp).1
  have ef : f0 = f + 1 := by
    have : nI f0 = nI (f + 1) := by rw [← e2, hf]
    exact (nI_eq (by omega) hf2).mp this
  subst ef
  have hu1 := cP_upd (P := oP) (sd := sd) (s := s) (v := 4) n hs
  have hu2 := cP_upd (P := tP) (sd := sd) (s := s) (v := 4) n hs
  have o3 : oP 4 = true := rfl
  have t3 : tP 4 = false := rfl
  have os : oP (sd s) = true := by rw [h2]; rfl
  have ts : tP (sd s) = true := by rw [h2]; rfl
  rw [os, o3, if_pos rfl] at hu1
  rw [ts, t3, if_pos rfl, if_neg (by decide)] at hu2
  have hlen : (s :: K ++ Q).length = (K ++ Q).length + 1 := rfl
  have hFl : F.length = (F.erase (w, s)).length + 1 := by
    rw [List.length_erase_of_mem hF]
    have := List.length_pos_of_mem hF
    omega
  have hme : ∀ v, v ∈ L.eraseIdx p → v ∈ L := fun v hv => ((mem_erIdx hL hp).mp hv).1
  refine ⟨f, ⟨?_, rfl, ?_, ?_, ?_⟩, fun i v hi => ?_, fun v hv => a2 v (hme v hv), fun v hv t ht => a3 v (hme v hv) t ht, row_cons a4, by omega, by omega, a7, fr_rem hn a8 hN hs⟩
  · rw [List.length_eraseIdx_of_lt hpl]
  · rw [e3, hlen]; congr 1; omega
  · rw [e4]; congr 1; omega
  · rw [e5, hFl]; exact nI_pred _
  · have hil : i < (L.eraseIdx p).length := (List.getElem?_eq_some_iff.mp hi).1
    rw [List.length_eraseIdx_of_lt hpl] at hil
    rw [List.getElem?_eraseIdx] at hi
    split at hi
    · rename_i q
      rw [hu.1 i q]; exact a1 i v hi
    · rename_i q
      rw [hu.2 i (by omega) hil]
      exact a1 (i + 1) v hi
/-- a batch begins -/
theorem rc_ini {n : Nat} {vals : Nat → Int64} {st : Nat → Nat} {L : List Nat} {hd : Nat → Option Nat} {mn : Nat → Nat} {dr bo : Nat → Int32} {b : Nat} {F : List (Nat × Nat)} {oc fs md : Nat → Int64} {rw so sm lv : Nat → Int32} {fc lc : Int32}
    (h1 : lc = nI L.length) (h2 : fc = nI F.length) (a1 : ∀ i w, L[i]? = some w → lv i = nI w) (a2 : ∀ w, w ∈ L → so w = hI (hd w)) (hh : ∀ w, w ∈ L → hd w = none) (a4 : RowIs rw 0 (memB bo (nI b) n)) (a7 : ∀ s, s < n → ¬ dr s = -1 → oc s = stpF (vals s) (st s)) (a8 : FRep n F fs) :
    RC n vals st L [] (memB bo (nI b) n) hd mn (sd0 n bo b) dr F oc fs md rw so sm lv (nI (memB bo (nI b) n).length) fc 0 (nI (memB bo (nI b) n).length) lc := by
  refine ⟨0, ⟨h1, rfl, by rw [Nat.zero_add]; rfl, by rw [memB_cP n (Nat.le_refl n)], h2⟩, a1, a2, fun w hw s hs => (by rw [hh w hw] at hs; cases hs), a4, ?_, ?_, a7, a8⟩
  · rw [Nat.zero_add]; exact memB_le n
  · rw [cP_sd0 rfl rfl]; exact Nat.le_refl 0
/-- where all is done, nobody has a share and none waits -/
theorem inv_end {n : Nat} {st : Nat → Nat} {bo : Nat → Int32} {b : Nat} {L K Q : List Nat} {hd : Nat → Option Nat} {md sd : Nat → Nat} {dr : Nat → Int32} {F : List (Nat × Nat)} (h : InvC n st bo b L K Q hd md sd dr F) (h0 : cP oP sd n = 0) : K = [] ∧ Q = [] ∧ (∀ w, w ∈ L → hd w = none) ∧ ∀ s, s < n → ∀ b', b' < b + 1 → bo s = nI b' → ¬ dr s = -1 := by
  obtain ⟨a1, ⟨b1, b2⟩, c1, d1, ⟨e1, e2⟩, f1, g1, i1, j1⟩ := h
  have hz := (cP_zero n).mp h0
  refine ⟨?_, ?_, fun w hw => ?_, fun s hs b' hb' e => ?_⟩
  · cases K with
    | nil => rfl
    | cons s K =>
      obtain ⟨q1, q2⟩ := b2 s List.mem_cons_self
      have := hz s q1
      rw [q2] at this; exact absurd this (by decide)
  · cases Q with
    | nil => rfl
    | cons s Q =>
      obtain ⟨q1, q2⟩ := (e2 s).mp List.mem_cons_self
      have := hz s q1
      rw [q2] at this; exact absurd this (by decide)
  · cases hh : hd w with
    | none => rfl
    | some s =>
      obtain ⟨q1, q2, _⟩ := c1 w hw s hh
      have := hz s q1
      rw [q2] at this; exact absurd this (by decide)
  · by_cases q : b' = b
    · subst q
      refine g1 s hs ?_
      have h1 := hz s hs
      have h2 : ¬ sd s = 0 := fun z => (i1 s hs).mp z e
      unfold oP at h1
      simp at h1
      exact h1 h2
    · exact j1 s hs b' (by omega) e
theorem inv_ini {n : Nat} {st : Nat → Nat} {bo : Nat → Int32} {b : Nat} {L : List Nat} {hd : Nat → Option Nat} {md : Nat → Nat} {dr : Nat → Int32} {F : List (Nat × Nat)} (a1 : L.Pairwise (· < ·) ∧ ∀ w, w ∈ L → w < 16) (hh : ∀ w, w ∈ L → hd w = none) (f1 : F.Nodup ∧ ∀ q, q ∈ F → q.1 < 16 ∧ q.2 < n) (j1 : ∀ s, s < n → ∀ b', b' < b → bo s = nI b' → ¬ dr s = -1) : InvC n st bo b L [] (memB bo (nI b) n) hd md (sd0 n bo b) dr F := by
  refine ⟨a1, ⟨List.nodup_nil, fun s h => absurd h List.not_mem_nil⟩, fun w hw s hs => (by rw [hh w hw] at hs; cases hs), fun w w' hw hw' s hs => (by rw [hh w hw] at hs; cases hs), ⟨memB_sorted, fun s => ?_⟩, f1, fun s hs h3 => ?_, fun s hs => ?_, j1⟩
  · rw [mem_memB]
    unfold sd0
    by_cases q : s < n ∧ bo s = nI b
    · rw [if_pos q]; exact ⟨fun _ => ⟨q.1, rfl⟩, fun _ => q⟩
    · rw [if_neg q]; exact ⟨fun z => absurd z q, fun z => absurd z.2 (by decide)⟩
  · unfold sd0 at h3
    split at h3 <;> exact absurd h3 (by decide)
  · unfold sd0
    by_cases q : s < n ∧ bo s = nI b
    · rw [if_pos q]; exact ⟨fun z => absurd z (by decide), fun z => absurd q.2 z⟩
    · rw [if_neg q]; exact ⟨fun _ z => q ⟨hs, z⟩, fun _ => rfl⟩
end
section
/-! pure rows: what a tick is, case by case -/
theorem gd_w {L : List Nat} {p w : Nat} (h : L[p]? = some w) : L.getD p 0 = w := by rw [List.getD_eq_getElem?_getD, h]; rfl
section TK
variable {st : Nat → Nat} {L K Q : List Nat} {hd : Nat → Option Nat} {md sd : Nat → Nat} {bg dr : Nat → Int32} {F : List (Nat × Nat)} {x : Int64} {tk w s : Nat} {sp fd ba : Int32}
theorem tk_idle (hw : L[pickN (nxtX x) L.length]? = some w) (hh : hd w = none) : tickS st (L, [], [], hd, md, sd, bg, dr, F, x, tk, sp, fd, ba) = (L, [], [], hd, md, sd, bg, dr, F, nxtX x, tk + 1, sp, fd, ba) := by
  simp only [tickS, actS, gd_w hw, hh]
theorem tk_K (hw : L[pickN (nxtX x) L.length]? = some w) (hh : hd w = none) : tickS st (L, s :: K, Q, hd, md, sd, bg, dr, F, x, tk, sp, fd, ba) = (L, K, Q, fu hd w (some s), fu md w 0, fu sd s 2, upd bg s (bg s + 1), dr, F, nxtX x, tk + 1, sp, fd, ba + 1) := by
  simp only [tickS, actS, gd_w hw, hh, tkS]
theorem tk_Q (hw : L[pickN (nxtX x) L.length]? = some w) (hh : hd w = none) : tickS st (L, [], s :: Q, hd, md, sd, bg, dr, F, x, tk, sp, fd, ba) = (L, [], Q, fu hd w (some s), fu md w 0, fu sd s 2, upd bg s (bg s + 1), dr, F, nxtX x, tk + 1, sp, fd, ba + 1) := by
  simp only [tickS, actS, gd_w hw, hh, tkS]
theorem tk_step (hw : L[pickN (nxtX x) L.length]? = some w) (hh : hd w = some s) (hm : ¬ md w + 1 = st s) : tickS st (L, K, Q, hd, md, sd, bg, dr, F, x, tk, sp, fd, ba) = (L, K, Q, hd, fu md w (md w + 1), sd, bg, dr, F, nxtX x, tk + 1, sp + 1, fd, ba) := by
  simp only [tickS, actS, gd_w hw, hh, if_neg hm]
theorem tk_last (hw : L[pickN (nxtX x) L.length]? = some w) (hh : hd w = some s) (hm : md w + 1 = st s) (hF : ¬ (w, s) ∈ F) : tickS st (L, K, Q, hd, md, sd, bg, dr, F, x, tk, sp, fd, ba) = (L, K, Q, fu hd w none, fu md w (md w + 1), fu sd s 3, bg, upd dr s (nI w), F, nxtX x, tk + 1, sp + 1, fd, ba) := by
  simp only [tickS, actS, gd_w hw, hh, if_pos hm, if_neg hF]
theorem tk_fail (hw : L[pickN (nxtX x) L.length]? = some w) (hh : hd w = some s) (hm : md w + 1 = st s) (hF : (w, s) ∈ F) : tickS st (L, K, Q, hd, md, sd, bg, dr, F, x, tk, sp, fd, ba) = (L.eraseIdx (pickN (nxtX x) L.length), s :: K, Q, hd, md, fu sd s 4, bg, dr, F.erase (w, s), nxtX x, tk + 1, sp, fd + 1, ba) := by
  simp only [tickS, actS, gd_w hw, hh, if_pos hm, if_pos hF]
variable {n b : Nat} {bo : Nat → Int32}
theorem inv_takeK (h : InvC n st bo b L (s :: K) Q hd md sd dr F) (hst : ∀ s, s < n → 0 < st s) (hw : hd w = none) : InvC n st bo b L K Q (fu hd w (some s)) (fu md w 0) (fu sd s 2) dr F := by
  obtain ⟨hs, h4⟩ := h.2.1.2 s List.mem_cons_self
  have hN := List.nodup_cons.mp h.2.1.1
  refine inv_take h hst hw hs (Or.inl h4) ⟨hN.2, fun t ht => ⟨List.mem_cons_of_mem _ ht, fun e => hN.1 (e ▸ ht)⟩⟩ ⟨h.2.2.2.2.1.1, fun t => ⟨fun ht => ⟨ht, fun e => ?_⟩, fun z => z.1⟩⟩
  subst e
  have := ((h.2.2.2.2.1.2 t).mp ht).2
  omega
theorem inv_takeQ (h : InvC n st bo b L [] (s :: Q) hd md sd dr F) (hst : ∀ s, s < n → 0 < st s) (hw : hd w = none) : InvC n st bo b L [] Q (fu hd w (some s)) (fu md w 0) (fu sd s 2) dr F := by
  obtain ⟨hs, h4⟩ := (h.2.2.2.2.1.2 s).mp List.mem_cons_self
  have hN := List.pairwise_cons.mp h.2.2.2.2.1.1
  refine inv_take h hst hw hs (Or.inr h4) ⟨List.nodup_nil, fun t ht => absurd ht List.not_mem_nil⟩ ⟨hN.2, fun t => ⟨fun ht => ⟨List.mem_cons_of_mem _ ht, fun e => ?_⟩, fun z => ?_⟩⟩
  · subst e
    exact Nat.lt_irrefl _ (hN.1 t ht)
  · rcases List.mem_cons.mp z.1 with q | q
    · exact absurd q z.2
    · exact q
end TK
theorem len16 : ∀ (L : List Nat) (m : Nat), L.Pairwise (· < ·) → (∀ w, w ∈ L → w < m) → L.length ≤ m := by
  intro L m h1 h2
  have h3 : ∀ (L : List Nat) (a : Nat), L.Pairwise (· < ·) → (∀ w, w ∈ L → a ≤ w ∧ w < m) → L.length + a ≤ m ∨ L = [] := by
    intro L
    induction L with
    | nil => intro a _ _; exact Or.inr rfl
    | cons x L ih =>
      intro a hp hm
      have hx := hm x List.mem_cons_self
      obtain ⟨q1, q2⟩ := List.pairwise_cons.mp hp
      left
      rcases ih (x + 1) q2 (fun w hw => ⟨q1 w hw, (hm w (List.mem_cons_of_mem _ hw)).2⟩) with q | q
      · simp only [List.length_cons]; omega
      · subst q; simp only [List.length_cons, List.length_nil]; omega
  rcases h3 L 0 h1 (fun w hw => ⟨Nat.zero_le _, h2 w hw⟩) with q | q
  · omega
  · subst q; exact Nat.zero_le _
end
section
set_option maxHeartbeats 4000000 in
theorem d_act_idle (l : Launch) (E : EE) (h : Nat → Nat) (n : Nat) (bg : Nat → Int32) (dr : Nat → Int32) (oc : Nat → Int64) (x : Int64) (und : Int32) (tk : Int32) (sp : Int32) (fd : Int32) (bd : Int32) (ba : Int32) (bo : Nat → Int32) (rg : Nat → Int32) (cnt : Int32) (fc : Int32) (fs : Nat → Int64) (rw : Nat → Int32) (fr : Int32) (en : Int32) (lc : Int32) (so : Nat → Int32) (sm : Nat → Int32) (lv : Nat → Int32) (md : Nat → Int64) (vals : Nat → Int64) (stp : Nat → Int32) (reg : Nat → Int32) (lo : Nat → Int32) (k : Nat) (w : Nat) (f : Nat) (g : Nat) (hn : n < 2 ^ 31) (hk : k < 16) (hlv : lv k = nI w) (hw16 : w < 16) (hso : so w = -1) (hfr : fr = nI f) (hen : en = nI g) (hf : f < 2 ^ 31) (hg : g ≤ f) : Mv (S := Unit) l E yX1_act (.code yX1_act cX1_act 5 none) ({ frames := 3, cells := 0, slots := 0, locals := 68 }) [.ref (h 0), .int (nI k)] [(h 0, .inr (1, [.ref (h 1), .ref (h 2), .ref (h 3), .ref (h 4), .ref (h 9), .ref (h 12), .ref (h 14), .ref (h 16), .long x, .int und, .int tk, .int sp, .int fd, .int bd, .int ba])), (h 1, .inl (E.2.1, n, .inl bg)), (h 2, .inl (E.2.1, n, .inl dr)), (h 3, .inl (E.2.2.1, n, .inr (.inl oc))), (h 4, .inr (5, [.int (nI n), .ref (h 5), .ref (h 6), .ref (h 7), .ref (h 8)])), (h 5, .inl (E.2.2.1, n, .inr (.inl vals))), (h 6, .inl (E.2.1, n, .inl stp)), (h 7, .inl (E.2.1, n, .inl reg)), (h 8, .inl (E.2.2.2, n, .inl lo)), (h 9, .inr (0, [.ref (h 10), .int cnt, .ref (h 11)])), (h 10, .inl (E.2.1, n, .inl bo)), (h 11, .inl (E.2.1, n, .inl rg)), (h 12, .inr (3, [.int fc, .ref (h 13)])), (h 13, .inl (E.2.2.1, 16, .inr (.inl fs))), (h 14, .inr (4, [.ref (h 15), .int fr, .int en])), (h 15, .inl (E.2.1, n, .inl rw)), (h 16, .inr (2, [.ref (h 17), .ref (h 18), .ref (h 19), .int lc, .ref (h 20)])), (h 17, .inl (E.2.1, 16, .inl so)), (h 18, .inl (E.2.1, 16, .inl sm)), (h 19, .inl (E.2.2.1, 16, .inr (.inl md))), (h 20, .inl (E.2.1, 16, .inl lv))] (fun _ : Unit => True) (fun u : Unit => [(h 0, .inr (1, [.ref (h 1), .ref (h 2), .ref (h 3), .ref (h 4), .ref (h 9), .ref (h 12), .ref (h 14), .ref (h 16), .long x, .int und, .int tk, .int sp, .int fd, .int bd, .int ba])), (h 1, .inl (E.2.1, n, .inl bg)), (h 2, .inl (E.2.1, n, .inl dr)), (h 3, .inl (E.2.2.1, n, .inr (.inl oc))), (h 4, .inr (5, [.int (nI n), .ref (h 5), .ref (h 6), .ref (h 7), .ref (h 8)])), (h 5, .inl (E.2.2.1, n, .inr (.inl vals))), (h 6, .inl (E.2.1, n, .inl stp)), (h 7, .inl (E.2.1, n, .inl reg)), (h 8, .inl (E.2.2.2, n, .inl lo)), (h 9, .inr (0, [.ref (h 10), .int cnt, .ref (h 11)])), (h 10, .inl (E.2.1, n, .inl bo)), (h 11, .inl (E.2.1, n, .inl rg)), (h 12, .inr (3, [.int fc, .ref (h 13)])), (h 13, .inl (E.2.2.1, 16, .inr (.inl fs))), (h 14, .inr (4, [.ref (h 15), .int fr, .int en])), (h 15, .inl (E.2.1, n, .inl rw)), (h 16, .inr (2, [.ref (h 17), .ref (h 18), .ref (h 19), .int lc, .ref (h 20)])), (h 17, .inl (E.2.1, 16, .inl so)), (h 18, .inl (E.2.1, 16, .inl sm)), (h 19, .inl (E.2.2.1, 16, .inr (.inl md))), (h 20, .inl (E.2.1, 16, .inl lv))]) := by
  subst hfr
  subst hen
  exact c_act_idle l E h n bg dr oc x und tk sp fd bd ba bo rg cnt fc fs rw lc so sm lv md vals stp reg lo k w f g hn hk hlv hw16 hso hf hg

set_option maxHeartbeats 4000000 in
theorem d_act_take (l : Launch) (E : EE) (h : Nat → Nat) (n : Nat) (bg : Nat → Int32) (dr : Nat → Int32) (oc : Nat → Int64) (x : Int64) (und : Int32) (tk : Int32) (sp : Int32) (fd : Int32) (bd : Int32) (ba : Int32) (bo : Nat → Int32) (rg : Nat → Int32) (cnt : Int32) (fc : Int32) (fs : Nat → Int64) (rw : Nat → Int32) (fr : Int32) (en : Int32) (lc : Int32) (so : Nat → Int32) (sm : Nat → Int32) (lv : Nat → Int32) (md : Nat → Int64) (vals : Nat → Int64) (stp : Nat → Int32) (reg : Nat → Int32) (lo : Nat → Int32) (k : Nat) (w : Nat) (f : Nat) (g : Nat) (s : Nat) (hn : n < 2 ^ 31) (hk : k < 16) (hlv : lv k = nI w) (hw16 : w < 16) (hso : so w = -1) (hfr : fr = nI f) (hen : en = nI g) (hf : f < g) (hg : g ≤ n) (hrw : rw f = nI s) (hsn : s < n) : Mv (S := Unit) l E yX1_act (.code yX1_act cX1_act 5 none) ({ frames := 3, cells := 0, slots := 0, locals := 68 }) [.ref (h 0), .int (nI k)] [(h 0, .inr (1, [.ref (h 1), .ref (h 2), .ref (h 3), .ref (h 4), .ref (h 9), .ref (h 12), .ref (h 14), .ref (h 16), .long x, .int und, .int tk, .int sp, .int fd, .int bd, .int ba])), (h 1, .inl (E.2.1, n, .inl bg)), (h 2, .inl (E.2.1, n, .inl dr)), (h 3, .inl (E.2.2.1, n, .inr (.inl oc))), (h 4, .inr (5, [.int (nI n), .ref (h 5), .ref (h 6), .ref (h 7), .ref (h 8)])), (h 5, .inl (E.2.2.1, n, .inr (.inl vals))), (h 6, .inl (E.2.1, n, .inl stp)), (h 7, .inl (E.2.1, n, .inl reg)), (h 8, .inl (E.2.2.2, n, .inl lo)), (h 9, .inr (0, [.ref (h 10), .int cnt, .ref (h 11)])), (h 10, .inl (E.2.1, n, .inl bo)), (h 11, .inl (E.2.1, n, .inl rg)), (h 12, .inr (3, [.int fc, .ref (h 13)])), (h 13, .inl (E.2.2.1, 16, .inr (.inl fs))), (h 14, .inr (4, [.ref (h 15), .int fr, .int en])), (h 15, .inl (E.2.1, n, .inl rw)), (h 16, .inr (2, [.ref (h 17), .ref (h 18), .ref (h 19), .int lc, .ref (h 20)])), (h 17, .inl (E.2.1, 16, .inl so)), (h 18, .inl (E.2.1, 16, .inl sm)), (h 19, .inl (E.2.2.1, 16, .inr (.inl md))), (h 20, .inl (E.2.1, 16, .inl lv))] (fun _ : Unit => True) (fun u : Unit => [(h 0, .inr (1, [.ref (h 1), .ref (h 2), .ref (h 3), .ref (h 4), .ref (h 9), .ref (h 12), .ref (h 14), .ref (h 16), .long x, .int und, .int tk, .int sp, .int fd, .int bd, .int (ba + 1)])), (h 1, .inl (E.2.1, n, .inl (upd bg s (bg s + 1)))), (h 2, .inl (E.2.1, n, .inl dr)), (h 3, .inl (E.2.2.1, n, .inr (.inl oc))), (h 4, .inr (5, [.int (nI n), .ref (h 5), .ref (h 6), .ref (h 7), .ref (h 8)])), (h 5, .inl (E.2.2.1, n, .inr (.inl vals))), (h 6, .inl (E.2.1, n, .inl stp)), (h 7, .inl (E.2.1, n, .inl reg)), (h 8, .inl (E.2.2.2, n, .inl lo)), (h 9, .inr (0, [.ref (h 10), .int cnt, .ref (h 11)])), (h 10, .inl (E.2.1, n, .inl bo)), (h 11, .inl (E.2.1, n, .inl rg)), (h 12, .inr (3, [.int fc, .ref (h 13)])), (h 13, .inl (E.2.2.1, 16, .inr (.inl fs))), (h 14, .inr (4, [.ref (h 15), .int (nI (f + 1)), .int en])), (h 15, .inl (E.2.1, n, .inl rw)), (h 16, .inr (2, [.ref (h 17), .ref (h 18), .ref (h 19), .int lc, .ref (h 20)])), (h 17, .inl (E.2.1, 16, .inl (upd so w (nI s)))), (h 18, .inl (E.2.1, 16, .inl (upd sm w 0))), (h 19, .inl (E.2.2.1, 16, .inr (.inl (vp_updL md w (vals s))))), (h 20, .inl (E.2.1, 16, .inl lv))]) := by
  subst hfr
  subst hen
  exact c_act_take l E h n bg dr oc x und tk sp fd bd ba bo rg cnt fc fs rw lc so sm lv md vals stp reg lo k w f g s hn hk hlv hw16 hso hf hg hrw hsn

set_option maxHeartbeats 4000000 in
theorem d_act_fail (l : Launch) (E : EE) (h : Nat → Nat) (n : Nat) (bg : Nat → Int32) (dr : Nat → Int32) (oc : Nat → Int64) (x : Int64) (und : Int32) (tk : Int32) (sp : Int32) (fd : Int32) (bd : Int32) (ba : Int32) (bo : Nat → Int32) (rg : Nat → Int32) (cnt : Int32) (fc : Int32) (fs : Nat → Int64) (rw : Nat → Int32) (fr : Int32) (en : Int32) (lc : Int32) (so : Nat → Int32) (sm : Nat → Int32) (lv : Nat → Int32) (md : Nat → Int64) (vals : Nat → Int64) (stp : Nat → Int32) (reg : Nat → Int32) (lo : Nat → Int32) (k : Nat) (w : Nat) (s : Nat) (d : Nat) (L : Nat) (f : Nat) (hn : n < 2 ^ 31) (hk : k < 16) (hlv : lv k = nI w) (hw16 : w < 16) (hso : so w = nI s) (hsn : s < n) (hsm : sm w = nI d) (hst : stp s = nI (d + 1)) (hd : d + 1 < 2 ^ 31) (hfh : fhas (fs w) (nI s) = 1) (hlc : lc = nI (L + 1)) (hfr : fr = nI (f + 1)) (hkL : k ≤ L) (hL : L < 16) (hf : f < n) : Mv (S := Nat → Int32) l E yX1_act (.code yX1_act cX1_act 5 none) ({ frames := 3, cells := 0, slots := 0, locals := 68 }) [.ref (h 0), .int (nI k)] [(h 0, .inr (1, [.ref (h 1), .ref (h 2), .ref (h 3), .ref (h 4), .ref (h 9), .ref (h 12), .ref (h 14), .ref (h 16), .long x, .int und, .int tk, .int sp, .int fd, .int bd, .int ba])), (h 1, .inl (E.2.1, n, .inl bg)), (h 2, .inl (E.2.1, n, .inl dr)), (h 3, .inl (E.2.2.1, n, .inr (.inl oc))), (h 4, .inr (5, [.int (nI n), .ref (h 5), .ref (h 6), .ref (h 7), .ref (h 8)])), (h 5, .inl (E.2.2.1, n, .inr (.inl vals))), (h 6, .inl (E.2.1, n, .inl stp)), (h 7, .inl (E.2.1, n, .inl reg)), (h 8, .inl (E.2.2.2, n, .inl lo)), (h 9, .inr (0, [.ref (h 10), .int cnt, .ref (h 11)])), (h 10, .inl (E.2.1, n, .inl bo)), (h 11, .inl (E.2.1, n, .inl rg)), (h 12, .inr (3, [.int fc, .ref (h 13)])), (h 13, .inl (E.2.2.1, 16, .inr (.inl fs))), (h 14, .inr (4, [.ref (h 15), .int fr, .int en])), (h 15, .inl (E.2.1, n, .inl rw)), (h 16, .inr (2, [.ref (h 17), .ref (h 18), .ref (h 19), .int lc, .ref (h 20)])), (h 17, .inl (E.2.1, 16, .inl so)), (h 18, .inl (E.2.1, 16, .inl sm)), (h 19, .inl (E.2.2.1, 16, .inr (.inl md))), (h 20, .inl (E.2.1, 16, .inl lv))] (fun u : Nat → Int32 => (∀ j, j < k → u j = lv j) ∧ ∀ j, k ≤ j → j < L → u j = lv (j + 1)) (fun u : Nat → Int32 => [(h 0, .inr (1, [.ref (h 1), .ref (h 2), .ref (h 3), .ref (h 4), .ref (h 9), .ref (h 12), .ref (h 14), .ref (h 16), .long x, .int und, .int tk, .int sp, .int (fd + 1), .int bd, .int ba])), (h 1, .inl (E.2.1, n, .inl bg)), (h 2, .inl (E.2.1, n, .inl dr)), (h 3, .inl (E.2.2.1, n, .inr (.inl oc))), (h 4, .inr (5, [.int (nI n), .ref (h 5), .ref (h 6), .ref (h 7), .ref (h 8)])), (h 5, .inl (E.2.2.1, n, .inr (.inl vals))), (h 6, .inl (E.2.1, n, .inl stp)), (h 7, .inl (E.2.1, n, .inl reg)), (h 8, .inl (E.2.2.2, n, .inl lo)), (h 9, .inr (0, [.ref (h 10), .int cnt, .ref (h 11)])), (h 10, .inl (E.2.1, n, .inl bo)), (h 11, .inl (E.2.1, n, .inl rg)), (h 12, .inr (3, [.int (fc - 1), .ref (h 13)])), (h 13, .inl (E.2.2.1, 16, .inr (.inl (vp_updL fs w (fs w &&& (bitm (nI s) ^^^ (-1))))))), (h 14, .inr (4, [.ref (h 15), .int (nI f), .int en])), (h 15, .inl (E.2.1, n, .inl (upd rw f (nI s)))), (h 16, .inr (2, [.ref (h 17), .ref (h 18), .ref (h 19), .int (nI L), .ref (h 20)])), (h 17, .inl (E.2.1, 16, .inl so)), (h 18, .inl (E.2.1, 16, .inl sm)), (h 19, .inl (E.2.2.1, 16, .inr (.inl md))), (h 20, .inl (E.2.1, 16, .inl u))]) := by
  subst hlc
  subst hfr
  exact c_act_fail l E h n bg dr oc x und tk sp fd bd ba bo rg cnt fc fs rw en so sm lv md vals stp reg lo k w s d L f hn hk hlv hw16 hso hsn hsm hst hd hfh hkL hL hf

set_option maxHeartbeats 4000000 in
set_option maxRecDepth 100000 in
theorem c_doBatch (l : Launch) (E : EE) (h : Nat → Nat) (n : Nat) (b : Nat) (st : Nat → Nat) (bo : Nat → Int32) (rg : Nat → Int32) (cnt : Int32) (vals : Nat → Int64) (stp : Nat → Int32) (reg : Nat → Int32) (lo : Nat → Int32) (bd : Int32) (L : List Nat) (hd : Nat → Option Nat) (mn : Nat → Nat) (bg : Nat → Int32) (dr : Nat → Int32) (F : List (Nat × Nat)) (x : Int64) (tk : Nat) (sp : Int32) (fd : Int32) (ba : Int32) (oc : Nat → Int64) (fs : Nat → Int64) (md : Nat → Int64) (rw : Nat → Int32) (so : Nat → Int32) (sm : Nat → Int32) (lv : Nat → Int32) (und : Int32) (fc : Int32) (fr : Int32) (en : Int32) (lc : Int32) (hn : n ≤ 64) (hst : ∀ s, s < n → stp s = nI (st s) ∧ 0 < st s ∧ st s ≤ 20) (htk : tk ≤ 20000) (hLs : L.Pairwise (· < ·) ∧ ∀ w, w ∈ L → w < 16) (hhd : ∀ w, w ∈ L → hd w = none) (hFs : F.Nodup ∧ ∀ q, q ∈ F → q.1 < 16 ∧ q.2 < n) (hj : ∀ s, s < n → ∀ b', b' < b → bo s = nI b' → ¬ dr s = -1) (hlc : lc = nI L.length) (hfc : fc = nI F.length) (ha1 : ∀ i w, L[i]? = some w → lv i = nI w) (ha2 : ∀ w, w ∈ L → so w = hI (hd w)) (ha7 : ∀ s, s < n → ¬ dr s = -1 → oc s = stpF (vals s) (st s)) (ha8 : FRep n F fs) : Mi (S := RS × (Nat → Int64) × (Nat → Int64) × (Nat → Int64) × (Nat → Int32) × (Nat → Int32) × (Nat → Int32) × (Nat → Int32) × Int32 × Int32 × Int32 × Int32 × Int32) l E yX1_doBatch (.code yX1_doBatch cX1_doBatch 2 (some .int)) ({ frames := 4, cells := 0, slots := 0, locals := 92 }) [.ref (h 0), .int (nI b)] [(h 0, .inr (1, [.ref (h 1), .ref (h 2), .ref (h 3), .ref (h 4), .ref (h 9), .ref (h 12), .ref (h 14), .ref (h 16), .long x, .int und, .int (nI tk), .int sp, .int fd, .int bd, .int ba])), (h 1, .inl (E.2.1, n, .inl bg)), (h 2, .inl (E.2.1, n, .inl dr)), (h 3, .inl (E.2.2.1, n, .inr (.inl oc))), (h 4, .inr (5, [.int (nI n), .ref (h 5), .ref (h 6), .ref (h 7), .ref (h 8)])), (h 5, .inl (E.2.2.1, n, .inr (.inl vals))), (h 6, .inl (E.2.1, n, .inl stp)), (h 7, .inl (E.2.1, n, .inl reg)), (h 8, .inl (E.2.2.2, n, .inl lo)), (h 9, .inr (0, [.ref (h 10), .int cnt, .ref (h 11)])), (h 10, .inl (E.2.1, n, .inl bo)), (h 11, .inl (E.2.1, n, .inl rg)), (h 12, .inr (3, [.int fc, .ref (h 13)])), (h 13, .inl (E.2.2.1, 16, .inr (.inl fs))), (h 14, .inr (4, [.ref (h 15), .int fr, .int en])), (h 15, .inl (E.2.1, n, .inl rw)), (h 16, .inr (2, [.ref (h 17), .ref (h 18), .ref (h 19), .int lc, .ref (h 20)])), (h 17, .inl (E.2.1, 16, .inl so)), (h 18, .inl (E.2.1, 16, .inl sm)), (h 19, .inl (E.2.2.1, 16, .inr (.inl md))), (h 20, .inl (E.2.1, 16, .inl lv))] (fun (ans : Int32) (u : RS × (Nat → Int64) × (Nat → Int64) × (Nat → Int64) × (Nat → Int32) × (Nat → Int32) × (Nat → Int32) × (Nat → Int32) × Int32 × Int32 × Int32 × Int32 × Int32) => bR n st (L, [], memB bo (nI b) n, hd, mn, sd0 n bo b, bg, dr, F, x, tk, sp, fd, ba) = (ans, u.1) ∧ InvC n st bo b (rL u.1) (rK u.1) (rQ u.1) (rH u.1) (rM u.1) (rS u.1) (rDr u.1) (rF u.1) ∧ RC n vals st (rL u.1) (rK u.1) (rQ u.1) (rH u.1) (rM u.1) (rS u.1) (rDr u.1) (rF u.1) u.2.1 u.2.2.1 u.2.2.2.1 u.2.2.2.2.1 u.2.2.2.2.2.1 u.2.2.2.2.2.2.1 u.2.2.2.2.2.2.2.1 u.2.2.2.2.2.2.2.2.1 u.2.2.2.2.2.2.2.2.2.1 u.2.2.2.2.2.2.2.2.2.2.1 u.2.2.2.2.2.2.2.2.2.2.2.1 u.2.2.2.2.2.2.2.2.2.2.2.2 ∧ rTk u.1 ≤ 20000) (fun u : RS × (Nat → Int64) × (Nat → Int64) × (Nat → Int64) × (Nat → Int32) × (Nat → Int32) × (Nat → Int32) × (Nat → Int32) × Int32 × Int32 × Int32 × Int32 × Int32 => [(h 0, .inr (1, [.ref (h 1), .ref (h 2), .ref (h 3), .ref (h 4), .ref (h 9), .ref (h 12), .ref (h 14), .ref (h 16), .long (rX u.1), .int u.2.2.2.2.2.2.2.2.1, .int (nI (rTk u.1)), .int (rSp u.1), .int (rFd u.1), .int bd, .int (rBa u.1)])), (h 1, .inl (E.2.1, n, .inl (rBg u.1))), (h 2, .inl (E.2.1, n, .inl (rDr u.1))), (h 3, .inl (E.2.2.1, n, .inr (.inl u.2.1))), (h 4, .inr (5, [.int (nI n), .ref (h 5), .ref (h 6), .ref (h 7), .ref (h 8)])), (h 5, .inl (E.2.2.1, n, .inr (.inl vals))), (h 6, .inl (E.2.1, n, .inl stp)), (h 7, .inl (E.2.1, n, .inl reg)), (h 8, .inl (E.2.2.2, n, .inl lo)), (h 9, .inr (0, [.ref (h 10), .int cnt, .ref (h 11)])), (h 10, .inl (E.2.1, n, .inl bo)), (h 11, .inl (E.2.1, n, .inl rg)), (h 12, .inr (3, [.int u.2.2.2.2.2.2.2.2.2.1, .ref (h 13)])), (h 13, .inl (E.2.2.1, 16, .inr (.inl u.2.2.1))), (h 14, .inr (4, [.ref (h 15), .int u.2.2.2.2.2.2.2.2.2.2.1, .int u.2.2.2.2.2.2.2.2.2.2.2.1])), (h 15, .inl (E.2.1, n, .inl u.2.2.2.2.1)), (h 16, .inr (2, [.ref (h 17), .ref (h 18), .ref (h 19), .int u.2.2.2.2.2.2.2.2.2.2.2.2, .ref (h 20)])), (h 17, .inl (E.2.1, 16, .inl u.2.2.2.2.2.1)), (h 18, .inl (E.2.1, 16, .inl u.2.2.2.2.2.2.1)), (h 19, .inl (E.2.2.1, 16, .inr (.inl u.2.2.2.1))), (h 20, .inl (E.2.1, 16, .inl u.2.2.2.2.2.2.2.1))]) := by
  refine Mi.ofW (by decide) (Nat.le_of_ble_eq_true rfl) ?_
  intro pM eM sM mM bM meM cM AM ls hB hA hP hD hS hl
  obtain ⟨hx, hb, hr, hml, hown, hlocks, hnm, hts, hK⟩ := hB
  have hl : lv_has ls 2 [(0, .ref (h 0)), (1, .int (nI b))] := hl
  refine lv_aload_n hx hb dX1_doBatch_0 rfl (lv_at hl 0 rfl) ?_
  refine lv_aload_n hx hb dX1_doBatch_1 rfl (lv_at hl 0 rfl) ?_
  refine va_get (D := E.1) (ci := 1) (v := .ref (h 14)) (C := RX1) (T := TX1) (N := 15) hx hb hts ux_X1' hown hK.1 hP 0 rfl rfl 6 (by decide) (hts _ (ta_cons _ mw_188)) (fun _ h9 => h9) rfl dX1_doBatch_2 ?_
  refine lv_aload_n hx hb dX1_doBatch_5 rfl (lv_at hl 0 rfl) ?_
  refine va_get (D := E.1) (ci := 1) (v := .ref (h 9)) (C := RX1) (T := TX1) (N := 15) hx hb hts ux_X1' hown hK.1 hP 0 rfl rfl 4 (by decide) (hts _ (ta_cons _ mw_186)) (fun _ h9 => h9) rfl dX1_doBatch_6 ?_
  refine lv_iload_n hx hb dX1_doBatch_9 rfl (lv_at hl 1 rfl) ?_
  refine af_i (wc := [(h 14, .inr (4, [.ref (h 15), .int fr, .int en])), (h 15, .inl (E.2.1, n, .inl rw)), (h 9, .inr (0, [.ref (h 10), .int cnt, .ref (h 11)])), (h 10, .inl (E.2.1, n, .inl bo))]) (wr := [(h 0, .inr (1, [.ref (h 1), .ref (h 2), .ref (h 3), .ref (h 4), .ref (h 9), .ref (h 12), .ref (h 14), .ref (h 16), .long x, .int und, .int (nI tk), .int sp, .int fd, .int bd, .int ba])), (h 1, .inl (E.2.1, n, .inl bg)), (h 2, .inl (E.2.1, n, .inl dr)), (h 3, .inl (E.2.2.1, n, .inr (.inl oc))), (h 4, .inr (5, [.int (nI n), .ref (h 5), .ref (h 6), .ref (h 7), .ref (h 8)])), (h 5, .inl (E.2.2.1, n, .inr (.inl vals))), (h 6, .inl (E.2.1, n, .inl stp)), (h 7, .inl (E.2.1, n, .inl reg)), (h 8, .inl (E.2.2.2, n, .inl lo)), (h 11, .inl (E.2.1, n, .inl rg)), (h 12, .inr (3, [.int fc, .ref (h 13)])), (h 13, .inl (E.2.2.1, 16, .inr (.inl fs))), (h 16, .inr (2, [.ref (h 17), .ref (h 18), .ref (h 19), .int lc, .ref (h 20)])), (h 17, .inl (E.2.1, 16, .inl so)), (h 18, .inl (E.2.1, 16, .inl sm)), (h 19, .inl (E.2.2.1, 16, .inr (.inl md))), (h 20, .inl (E.2.1, 16, .inl lv))]) (rn_V (b := h 14) (ci := 4) (As := [.ref (h 9), .int (nI b)]) (rest := [.ref (h 0)]) (n := 2) ⟨hx, hb, hml, hown, hts⟩ ta_cons wq_X1_103 (by decide +kernel) hK (c_fill l E n (h 14) (h 15) (h 9) (h 10) (h 11) fr en cnt (nI b) rw bo (by omega) _) ⟨Nat.le_of_ble_eq_true rfl, Nat.le_of_ble_eq_true rfl⟩ hP hD [14, 15, 9, 10] rfl rfl rfl rfl rfl hl.1 rfl (Nat.le_of_ble_eq_true rfl) dX1_doBatch_10 ⟨Nat.le_of_ble_eq_true rfl, Nat.le_of_ble_eq_true rfl⟩) hP hD hS hA [14, 15, 9, 10] [0, 1, 2, 3, 4, 5, 6, 7, 8, 11, 12, 13, 16, 17, 18, 19, 20] rfl rfl rfl (by decide) (fun r_10 u_10 H locs hwC hP hD hS => ?_)
  obtain ⟨g10, rfl⟩ : ∃ z, z = u_10 := ⟨_, rfl⟩
  obtain ⟨hwC, z10⟩ : r_10 = nI (memB bo (nI b) n).length ∧ RowIs g10 0 (memB bo (nI b) n) := hwC
  subst hwC
  have hP : va_P E.1 classes [(h 0, .inr (1, [.ref (h 1), .ref (h 2), .ref (h 3), .ref (h 4), .ref (h 9), .ref (h 12), .ref (h 14), .ref (h 16), .long x, .int und, .int (nI tk), .int sp, .int fd, .int bd, .int ba])), (h 1, .inl (E.2.1, n, .inl bg)), (h 2, .inl (E.2.1, n, .inl dr)), (h 3, .inl (E.2.2.1, n, .inr (.inl oc))), (h 4, .inr (5, [.int (nI n), .ref (h 5), .ref (h 6), .ref (h 7), .ref (h 8)])), (h 5, .inl (E.2.2.1, n, .inr (.inl vals))), (h 6, .inl (E.2.1, n, .inl stp)), (h 7, .inl (E.2.1, n, .inl reg)), (h 8, .inl (E.2.2.2, n, .inl lo)), (h 11, .inl (E.2.1, n, .inl rg)), (h 12, .inr (3, [.int fc, .ref (h 13)])), (h 13, .inl (E.2.2.1, 16, .inr (.inl fs))), (h 16, .inr (2, [.ref (h 17), .ref (h 18), .ref (h 19), .int lc, .ref (h 20)])), (h 17, .inl (E.2.1, 16, .inl so)), (h 18, .inl (E.2.1, 16, .inl sm)), (h 19, .inl (E.2.2.1, 16, .inr (.inl md))), (h 20, .inl (E.2.1, 16, .inl lv)), (h 14, .inr (4, [.ref (h 15), .int 0, .int (nI (memB bo (nI b) n).length)])), (h 15, .inl (E.2.1, n, .inl g10)), (h 9, .inr (0, [.ref (h 10), .int cnt, .ref (h 11)])), (h 10, .inl (E.2.1, n, .inl bo))] H := hP
  have hD : va_D AM [(h 0, .inr (1, [.ref (h 1), .ref (h 2), .ref (h 3), .ref (h 4), .ref (h 9), .ref (h 12), .ref (h 14), .ref (h 16), .long x, .int und, .int (nI tk), .int sp, .int fd, .int bd, .int ba])), (h 1, .inl (E.2.1, n, .inl bg)), (h 2, .inl (E.2.1, n, .inl dr)), (h 3, .inl (E.2.2.1, n, .inr (.inl oc))), (h 4, .inr (5, [.int (nI n), .ref (h 5), .ref (h 6), .ref (h 7), .ref (h 8)])), (h 5, .inl (E.2.2.1, n, .inr (.inl vals))), (h 6, .inl (E.2.1, n, .inl stp)), (h 7, .inl (E.2.1, n, .inl reg)), (h 8, .inl (E.2.2.2, n, .inl lo)), (h 11, .inl (E.2.1, n, .inl rg)), (h 12, .inr (3, [.int fc, .ref (h 13)])), (h 13, .inl (E.2.2.1, 16, .inr (.inl fs))), (h 16, .inr (2, [.ref (h 17), .ref (h 18), .ref (h 19), .int lc, .ref (h 20)])), (h 17, .inl (E.2.1, 16, .inl so)), (h 18, .inl (E.2.1, 16, .inl sm)), (h 19, .inl (E.2.2.1, 16, .inr (.inl md))), (h 20, .inl (E.2.1, 16, .inl lv)), (h 14, .inr (4, [.ref (h 15), .int 0, .int (nI (memB bo (nI b) n).length)])), (h 15, .inl (E.2.1, n, .inl g10)), (h 9, .inr (0, [.ref (h 10), .int cnt, .ref (h 11)])), (h 10, .inl (E.2.1, n, .inl bo))] := hD
  refine va_put (D := E.1) (ci := 1) (v := .int (nI (memB bo (nI b) n).length)) (ty := .int) (C := RX1) (T := TX1) (N := 15) hx hb hts ux_X1' tyX1 tyX1_ok nmX1 hown hK.1 hP hD hS 0 rfl rfl 9 (by decide) (hts _ (ta_cons _ mw_191)) (fun _ h9 => h9) rfl (by decide +kernel) rfl rfl (Nat.le_of_ble_eq_true rfl) dX1_doBatch_13 (fun H locs hP hD hS => ?_)
  have hP : va_P E.1 classes [(h 0, .inr (1, [.ref (h 1), .ref (h 2), .ref (h 3), .ref (h 4), .ref (h 9), .ref (h 12), .ref (h 14), .ref (h 16), .long x, .int (nI (memB bo (nI b) n).length), .int (nI tk), .int sp, .int fd, .int bd, .int ba])), (h 1, .inl (E.2.1, n, .inl bg)), (h 2, .inl (E.2.1, n, .inl dr)), (h 3, .inl (E.2.2.1, n, .inr (.inl oc))), (h 4, .inr (5, [.int (nI n), .ref (h 5), .ref (h 6), .ref (h 7), .ref (h 8)])), (h 5, .inl (E.2.2.1, n, .inr (.inl vals))), (h 6, .inl (E.2.1, n, .inl stp)), (h 7, .inl (E.2.1, n, .inl reg)), (h 8, .inl (E.2.2.2, n, .inl lo)), (h 11, .inl (E.2.1, n, .inl rg)), (h 12, .inr (3, [.int fc, .ref (h 13)])), (h 13, .inl (E.2.2.1, 16, .inr (.inl fs))), (h 16, .inr (2, [.ref (h 17), .ref (h 18), .ref (h 19), .int lc, .ref (h 20)])), (h 17, .inl (E.2.1, 16, .inl so)), (h 18, .inl (E.2.1, 16, .inl sm)), (h 19, .inl (E.2.2.1, 16, .inr (.inl md))), (h 20, .inl (E.2.1, 16, .inl lv)), (h 14, .inr (4, [.ref (h 15), .int 0, .int (nI (memB bo (nI b) n).length)])), (h 15, .inl (E.2.1, n, .inl g10)), (h 9, .inr (0, [.ref (h 10), .int cnt, .ref (h 11)])), (h 10, .inl (E.2.1, n, .inl bo))] H := hP
  have hD : va_D AM [(h 0, .inr (1, [.ref (h 1), .ref (h 2), .ref (h 3), .ref (h 4), .ref (h 9), .ref (h 12), .ref (h 14), .ref (h 16), .long x, .int (nI (memB bo (nI b) n).length), .int (nI tk), .int sp, .int fd, .int bd, .int ba])), (h 1, .inl (E.2.1, n, .inl bg)), (h 2, .inl (E.2.1, n, .inl dr)), (h 3, .inl (E.2.2.1, n, .inr (.inl oc))), (h 4, .inr (5, [.int (nI n), .ref (h 5), .ref (h 6), .ref (h 7), .ref (h 8)])), (h 5, .inl (E.2.2.1, n, .inr (.inl vals))), (h 6, .inl (E.2.1, n, .inl stp)), (h 7, .inl (E.2.1, n, .inl reg)), (h 8, .inl (E.2.2.2, n, .inl lo)), (h 11, .inl (E.2.1, n, .inl rg)), (h 12, .inr (3, [.int fc, .ref (h 13)])), (h 13, .inl (E.2.2.1, 16, .inr (.inl fs))), (h 16, .inr (2, [.ref (h 17), .ref (h 18), .ref (h 19), .int lc, .ref (h 20)])), (h 17, .inl (E.2.1, 16, .inl so)), (h 18, .inl (E.2.1, 16, .inl sm)), (h 19, .inl (E.2.2.1, 16, .inr (.inl md))), (h 20, .inl (E.2.1, 16, .inl lv)), (h 14, .inr (4, [.ref (h 15), .int 0, .int (nI (memB bo (nI b) n).length)])), (h 15, .inl (E.2.1, n, .inl g10)), (h 9, .inr (0, [.ref (h 10), .int cnt, .ref (h 11)])), (h 10, .inl (E.2.1, n, .inl bo))] := hD
  refine W.loop (σ := (List Nat) × (List Nat) × (List Nat) × (Nat → Option Nat) × (Nat → Nat) × (Nat → Nat) × (Nat → Int32) × (Nat → Int32) × (List (Nat × Nat)) × (Int64) × (Nat) × (Int32) × (Int32) × (Int32) × (Nat → Int64) × (Nat → Int64) × (Nat → Int64) × (Nat → Int32) × (Nat → Int32) × (Nat → Int32) × (Nat → Int32) × (Int32) × (Int32) × (Int32) × (Int32) × (Int32)) (fun a H locs ls => match a with | (L1, K1, Q1, hd1, mn1, sd1, bg1, dr1, F1, x1, tk1, sp1, fd1, ba1, oc1, fs1, md1, rw1, so1, sm1, lv1, und1, fc1, fr1, en1, lc1) => va_P E.1 classes [(h 0, .inr (1, [.ref (h 1), .ref (h 2), .ref (h 3), .ref (h 4), .ref (h 9), .ref (h 12), .ref (h 14), .ref (h 16), .long x1, .int und1, .int (nI tk1), .int sp1, .int fd1, .int bd, .int ba1])), (h 1, .inl (E.2.1, n, .inl bg1)), (h 2, .inl (E.2.1, n, .inl dr1)), (h 3, .inl (E.2.2.1, n, .inr (.inl oc1))), (h 4, .inr (5, [.int (nI n), .ref (h 5), .ref (h 6), .ref (h 7), .ref (h 8)])), (h 5, .inl (E.2.2.1, n, .inr (.inl vals))), (h 6, .inl (E.2.1, n, .inl stp)), (h 7, .inl (E.2.1, n, .inl reg)), (h 8, .inl (E.2.2.2, n, .inl lo)), (h 9, .inr (0, [.ref (h 10), .int cnt, .ref (h 11)])), (h 10, .inl (E.2.1, n, .inl bo)), (h 11, .inl (E.2.1, n, .inl rg)), (h 12, .inr (3, [.int fc1, .ref (h 13)])), (h 13, .inl (E.2.2.1, 16, .inr (.inl fs1))), (h 14, .inr (4, [.ref (h 15), .int fr1, .int en1])), (h 15, .inl (E.2.1, n, .inl rw1)), (h 16, .inr (2, [.ref (h 17), .ref (h 18), .ref (h 19), .int lc1, .ref (h 20)])), (h 17, .inl (E.2.1, 16, .inl so1)), (h 18, .inl (E.2.1, 16, .inl sm1)), (h 19, .inl (E.2.2.1, 16, .inr (.inl md1))), (h 20, .inl (E.2.1, 16, .inl lv1))] H ∧ va_D AM [(h 0, .inr (1, [.ref (h 1), .ref (h 2), .ref (h 3), .ref (h 4), .ref (h 9), .ref (h 12), .ref (h 14), .ref (h 16), .long x1, .int und1, .int (nI tk1), .int sp1, .int fd1, .int bd, .int ba1])), (h 1, .inl (E.2.1, n, .inl bg1)), (h 2, .inl (E.2.1, n, .inl dr1)), (h 3, .inl (E.2.2.1, n, .inr (.inl oc1))), (h 4, .inr (5, [.int (nI n), .ref (h 5), .ref (h 6), .ref (h 7), .ref (h 8)])), (h 5, .inl (E.2.2.1, n, .inr (.inl vals))), (h 6, .inl (E.2.1, n, .inl stp)), (h 7, .inl (E.2.1, n, .inl reg)), (h 8, .inl (E.2.2.2, n, .inl lo)), (h 9, .inr (0, [.ref (h 10), .int cnt, .ref (h 11)])), (h 10, .inl (E.2.1, n, .inl bo)), (h 11, .inl (E.2.1, n, .inl rg)), (h 12, .inr (3, [.int fc1, .ref (h 13)])), (h 13, .inl (E.2.2.1, 16, .inr (.inl fs1))), (h 14, .inr (4, [.ref (h 15), .int fr1, .int en1])), (h 15, .inl (E.2.1, n, .inl rw1)), (h 16, .inr (2, [.ref (h 17), .ref (h 18), .ref (h 19), .int lc1, .ref (h 20)])), (h 17, .inl (E.2.1, 16, .inl so1)), (h 18, .inl (E.2.1, 16, .inl sm1)), (h 19, .inl (E.2.2.1, 16, .inr (.inl md1))), (h 20, .inl (E.2.1, 16, .inl lv1))] ∧ va_S AM sM.heap H locs ∧ lv_has ls 2 [(0, .ref (h 0)), (1, .int (nI b))] ∧ (InvC n st bo b L1 K1 Q1 hd1 mn1 sd1 dr1 F1) ∧ (RC n vals st L1 K1 Q1 hd1 mn1 sd1 dr1 F1 oc1 fs1 md1 rw1 so1 sm1 lv1 und1 fc1 fr1 en1 lc1) ∧ (tk1 ≤ 20000) ∧ (bR n st (L, [], memB bo (nI b) n, hd, mn, sd0 n bo b, bg, dr, F, x, tk, sp, fd, ba) = bR n st (L1, K1, Q1, hd1, mn1, sd1, bg1, dr1, F1, x1, tk1, sp1, fd1, ba1))) (fun a => match a with | (L1, K1, Q1, hd1, mn1, sd1, bg1, dr1, F1, x1, tk1, sp1, fd1, ba1, oc1, fs1, md1, rw1, so1, sm1, lv1, und1, fc1, fr1, en1, lc1) => 20000 - tk1) (L, [], memB bo (nI b) n, hd, mn, sd0 n bo b, bg, dr, F, x, tk, sp, fd, ba, oc, fs, md, g10, so, sm, lv, nI (memB bo (nI b) n).length, fc, 0, nI (memB bo (nI b) n).length, lc) ⟨hP.sub [0, 1, 2, 3, 4, 5, 6, 7, 8, 19, 20, 9, 10, 11, 17, 18, 12, 13, 14, 15, 16] rfl, hD.sub [0, 1, 2, 3, 4, 5, 6, 7, 8, 19, 20, 9, 10, 11, 17, 18, 12, 13, 14, 15, 16] (by decide) rfl, hS, lv_sub hl [0, 1] rfl, inv_ini hLs hhd hFs hj, rc_ini hlc hfc ha1 ha2 hhd z10 ha7 ha8, htk, rfl⟩ ?_
  intro a H locs ls hI ih16
  obtain ⟨L1, K1, Q1, hd1, mn1, sd1, bg1, dr1, F1, x1, tk1, sp1, fd1, ba1, oc1, fs1, md1, rw1, so1, sm1, lv1, und1, fc1, fr1, en1, lc1⟩ := a
  obtain ⟨hP, hD, hS, hl, hI, hR, hT, hB⟩ := hI
  have hP : va_P E.1 classes [(h 0, .inr (1, [.ref (h 1), .ref (h 2), .ref (h 3), .ref (h 4), .ref (h 9), .ref (h 12), .ref (h 14), .ref (h 16), .long x1, .int und1, .int (nI tk1), .int sp1, .int fd1, .int bd, .int ba1])), (h 1, .inl (E.2.1, n, .inl bg1)), (h 2, .inl (E.2.1, n, .inl dr1)), (h 3, .inl (E.2.2.1, n, .inr (.inl oc1))), (h 4, .inr (5, [.int (nI n), .ref (h 5), .ref (h 6), .ref (h 7), .ref (h 8)])), (h 5, .inl (E.2.2.1, n, .inr (.inl vals))), (h 6, .inl (E.2.1, n, .inl stp)), (h 7, .inl (E.2.1, n, .inl reg)), (h 8, .inl (E.2.2.2, n, .inl lo)), (h 9, .inr (0, [.ref (h 10), .int cnt, .ref (h 11)])), (h 10, .inl (E.2.1, n, .inl bo)), (h 11, .inl (E.2.1, n, .inl rg)), (h 12, .inr (3, [.int fc1, .ref (h 13)])), (h 13, .inl (E.2.2.1, 16, .inr (.inl fs1))), (h 14, .inr (4, [.ref (h 15), .int fr1, .int en1])), (h 15, .inl (E.2.1, n, .inl rw1)), (h 16, .inr (2, [.ref (h 17), .ref (h 18), .ref (h 19), .int lc1, .ref (h 20)])), (h 17, .inl (E.2.1, 16, .inl so1)), (h 18, .inl (E.2.1, 16, .inl sm1)), (h 19, .inl (E.2.2.1, 16, .inr (.inl md1))), (h 20, .inl (E.2.1, 16, .inl lv1))] H := hP
  have hD : va_D AM [(h 0, .inr (1, [.ref (h 1), .ref (h 2), .ref (h 3), .ref (h 4), .ref (h 9), .ref (h 12), .ref (h 14), .ref (h 16), .long x1, .int und1, .int (nI tk1), .int sp1, .int fd1, .int bd, .int ba1])), (h 1, .inl (E.2.1, n, .inl bg1)), (h 2, .inl (E.2.1, n, .inl dr1)), (h 3, .inl (E.2.2.1, n, .inr (.inl oc1))), (h 4, .inr (5, [.int (nI n), .ref (h 5), .ref (h 6), .ref (h 7), .ref (h 8)])), (h 5, .inl (E.2.2.1, n, .inr (.inl vals))), (h 6, .inl (E.2.1, n, .inl stp)), (h 7, .inl (E.2.1, n, .inl reg)), (h 8, .inl (E.2.2.2, n, .inl lo)), (h 9, .inr (0, [.ref (h 10), .int cnt, .ref (h 11)])), (h 10, .inl (E.2.1, n, .inl bo)), (h 11, .inl (E.2.1, n, .inl rg)), (h 12, .inr (3, [.int fc1, .ref (h 13)])), (h 13, .inl (E.2.2.1, 16, .inr (.inl fs1))), (h 14, .inr (4, [.ref (h 15), .int fr1, .int en1])), (h 15, .inl (E.2.1, n, .inl rw1)), (h 16, .inr (2, [.ref (h 17), .ref (h 18), .ref (h 19), .int lc1, .ref (h 20)])), (h 17, .inl (E.2.1, 16, .inl so1)), (h 18, .inl (E.2.1, 16, .inl sm1)), (h 19, .inl (E.2.2.1, 16, .inr (.inl md1))), (h 20, .inl (E.2.1, 16, .inl lv1))] := hD
  have hl : lv_has ls 2 [(0, .ref (h 0)), (1, .int (nI b))] := hl
  have hI : InvC n st bo b L1 K1 Q1 hd1 mn1 sd1 dr1 F1 := hI
  have hR : RC n vals st L1 K1 Q1 hd1 mn1 sd1 dr1 F1 oc1 fs1 md1 rw1 so1 sm1 lv1 und1 fc1 fr1 en1 lc1 := hR
  have hT : tk1 ≤ 20000 := hT
  have hB : bR n st (L, [], memB bo (nI b) n, hd, mn, sd0 n bo b, bg, dr, F, x, tk, sp, fd, ba) = bR n st (L1, K1, Q1, hd1, mn1, sd1, bg1, dr1, F1, x1, tk1, sp1, fd1, ba1) := hB
  obtain ⟨f, ⟨e1, e2, e3, e4, e5⟩, a1, a2, a3, a4, a5, a6, a7, a8⟩ := id hR
  have hc0 := cP_le (P := oP) (sd := sd1) n
  have hL16 := len16 L1 16 hI.1.1 hI.1.2
  refine lv_aload_n hx hb dX1_doBatch_16 rfl (lv_at hl 0 rfl) ?_
  refine va_get (D := E.1) (ci := 1) (v := .int und1) (C := RX1) (T := TX1) (N := 15) hx hb hts ux_X1' hown hK.1 hP 0 rfl rfl 9 (by decide) (hts _ (ta_cons _ mw_191)) (fun _ h9 => h9) rfl dX1_doBatch_17 ?_
  refine tp_i (y := nI (cP oP sd1 n)) (e4) ?_
  refine lv_if_le (tgt := 71) hx hb dX1_doBatch_20 (by decide) (fun c_20 => ?_) (fun c_20 => ?_)
  · have z0 : cP oP sd1 n = 0 := by
      rcases Nat.eq_zero_or_pos (cP oP sd1 n) with q | q
      · exact q
      · exact absurd c_20 (nI_nle q (by omega))
    refine lv_aload_n hx hb dX1_doBatch_71 rfl (lv_at hl 0 rfl) ?_
    refine va_get (D := E.1) (ci := 1) (v := .int und1) (C := RX1) (T := TX1) (N := 15) hx hb hts ux_X1' hown hK.1 hP 0 rfl rfl 9 (by decide) (hts _ (ta_cons _ mw_191)) (fun _ h9 => h9) rfl dX1_doBatch_72 ?_
    refine tp_i (y := 0) (by rw [e4, z0]; rfl) ?_
    refine lv_if_ne (tgt := 80) hx hb dX1_doBatch_75 (by decide) (fun c_75 => ?_) (fun c_75 => ?_)
    · exact absurd rfl c_75
    · refine lv_iconst (v := 0) hx hb dX1_doBatch_78 (by decide) ?_
      exact Ri hx hb hr hlocks hP hD hS ((L1, K1, Q1, hd1, mn1, sd1, bg1, dr1, F1, x1, tk1, sp1, fd1, ba1), oc1, fs1, md1, rw1, so1, sm1, lv1, und1, fc1, fr1, en1, lc1) [0, 1, 2, 3, 4, 5, 6, 7, 8, 9, 10, 11, 12, 13, 14, 15, 16, 17, 18, 19, 20] rfl rfl (⟨hB.trans (bR_done (σ := (L1, K1, Q1, hd1, mn1, sd1, bg1, dr1, F1, x1, tk1, sp1, fd1, ba1)) hT z0), hI, hR, hT⟩) (Nat.le_of_ble_eq_true rfl) (Nat.le_of_ble_eq_true rfl) dX1_doBatch_79
  · have z1 : 0 < cP oP sd1 n := by
      rcases Nat.eq_zero_or_pos (cP oP sd1 n) with q | q
      · exact absurd (by rw [q]; decide) c_20
      · exact q
    refine lv_aload_n hx hb dX1_doBatch_23 rfl (lv_at hl 0 rfl) ?_
    refine va_get (D := E.1) (ci := 1) (v := .ref (h 16)) (C := RX1) (T := TX1) (N := 15) hx hb hts ux_X1' hown hK.1 hP 0 rfl rfl 7 (by decide) (hts _ (ta_cons _ mw_189)) (fun _ h9 => h9) rfl dX1_doBatch_24 ?_
    refine va_get (D := E.1) (ci := 2) (v := .int lc1) (C := RX2) (T := TX2) (N := 5) hx hb hts ux_X2' hown hK.1 hP 16 rfl rfl 3 (by decide) (hts _ (ta_cons _ mw_158)) (fun _ h9 => h9) rfl dX1_doBatch_27 ?_
    refine tp_i (y := nI L1.length) (e1) ?_
    refine lv_if_le (tgt := 71) hx hb dX1_doBatch_30 (by decide) (fun c_30 => ?_) (fun c_30 => ?_)
    · have zL : L1 = [] := by
        rcases Nat.eq_zero_or_pos L1.length with q | q
        · exact List.eq_nil_of_length_eq_zero q
        · exact absurd c_30 (nI_nle q (by omega))
      refine lv_aload_n hx hb dX1_doBatch_71 rfl (lv_at hl 0 rfl) ?_
      refine va_get (D := E.1) (ci := 1) (v := .int und1) (C := RX1) (T := TX1) (N := 15) hx hb hts ux_X1' hown hK.1 hP 0 rfl rfl 9 (by decide) (hts _ (ta_cons _ mw_191)) (fun _ h9 => h9) rfl dX1_doBatch_72 ?_
      refine lv_if_ne (tgt := 80) hx hb dX1_doBatch_75 (by decide) (fun c_75 => ?_) (fun c_75 => ?_)
      · refine lv_aload_n hx hb dX1_doBatch_80 rfl (lv_at hl 0 rfl) ?_
        refine va_get (D := E.1) (ci := 1) (v := .ref (h 16)) (C := RX1) (T := TX1) (N := 15) hx hb hts ux_X1' hown hK.1 hP 0 rfl rfl 7 (by decide) (hts _ (ta_cons _ mw_189)) (fun _ h9 => h9) rfl dX1_doBatch_81 ?_
        refine va_get (D := E.1) (ci := 2) (v := .int lc1) (C := RX2) (T := TX2) (N := 5) hx hb hts ux_X2' hown hK.1 hP 16 rfl rfl 3 (by decide) (hts _ (ta_cons _ mw_158)) (fun _ h9 => h9) rfl dX1_doBatch_84 ?_
        refine tp_i (y := 0) (by rw [e1, zL]; rfl) ?_
        refine lv_if_ne (tgt := 94) hx hb dX1_doBatch_87 (by decide) (fun c_87 => ?_) (fun c_87 => ?_)
        · exact absurd rfl c_87
        · refine lv_iconst (v := (-1)) hx hb dX1_doBatch_90 (by decide) ?_
          refine lv_goto (tgt := 96) hx hb dX1_doBatch_91 (by decide) ?_
          exact Ri hx hb hr hlocks hP hD hS ((L1, K1, Q1, hd1, mn1, sd1, bg1, dr1, F1, x1, tk1, sp1, fd1, ba1), oc1, fs1, md1, rw1, so1, sm1, lv1, und1, fc1, fr1, en1, lc1) [0, 1, 2, 3, 4, 5, 6, 7, 8, 9, 10, 11, 12, 13, 14, 15, 16, 17, 18, 19, 20] rfl rfl (⟨hB.trans (bR_none (σ := (L1, K1, Q1, hd1, mn1, sd1, bg1, dr1, F1, x1, tk1, sp1, fd1, ba1)) hT (Nat.ne_of_gt z1) zL), hI, hR, hT⟩) (Nat.le_of_ble_eq_true rfl) (Nat.le_of_ble_eq_true rfl) dX1_doBatch_96
      · exact absurd c_75 (by rw [e4]; exact nI_ne0 z1 (by omega))
    · have hp0 : 0 < L1.length := by
        rcases Nat.eq_zero_or_pos L1.length with q | q
        · exact absurd (by rw [q]; decide) c_30
        · exact q
      have zL : ¬ L1 = [] := fun z => by rw [z] at hp0; exact absurd hp0 (by decide)
      refine lv_aload_n hx hb dX1_doBatch_33 rfl (lv_at hl 0 rfl) ?_
      refine va_get (D := E.1) (ci := 1) (v := .int (nI tk1)) (C := RX1) (T := TX1) (N := 15) hx hb hts ux_X1' hown hK.1 hP 0 rfl rfl 10 (by decide) (hts _ (ta_cons _ mw_192)) (fun _ h9 => h9) rfl dX1_doBatch_34 ?_
      refine lv_sipush (v := 20000) hx hb dX1_doBatch_37 (by decide) ?_
      refine lv_icmp_ge (tgt := 71) hx hb dX1_doBatch_40 (by decide) (fun c_40 => ?_) (fun c_40 => ?_)
      · have zT : tk1 = 20000 := by
          have := (nI_leI (a := 20000) (b := tk1) (by omega) (by omega)).mp c_40
          omega
        refine lv_aload_n hx hb dX1_doBatch_71 rfl (lv_at hl 0 rfl) ?_
        refine va_get (D := E.1) (ci := 1) (v := .int und1) (C := RX1) (T := TX1) (N := 15) hx hb hts ux_X1' hown hK.1 hP 0 rfl rfl 9 (by decide) (hts _ (ta_cons _ mw_191)) (fun _ h9 => h9) rfl dX1_doBatch_72 ?_
        refine lv_if_ne (tgt := 80) hx hb dX1_doBatch_75 (by decide) (fun c_75 => ?_) (fun c_75 => ?_)
        · refine lv_aload_n hx hb dX1_doBatch_80 rfl (lv_at hl 0 rfl) ?_
          refine va_get (D := E.1) (ci := 1) (v := .ref (h 16)) (C := RX1) (T := TX1) (N := 15) hx hb hts ux_X1' hown hK.1 hP 0 rfl rfl 7 (by decide) (hts _ (ta_cons _ mw_189)) (fun _ h9 => h9) rfl dX1_doBatch_81 ?_
          refine va_get (D := E.1) (ci := 2) (v := .int lc1) (C := RX2) (T := TX2) (N := 5) hx hb hts ux_X2' hown hK.1 hP 16 rfl rfl 3 (by decide) (hts _ (ta_cons _ mw_158)) (fun _ h9 => h9) rfl dX1_doBatch_84 ?_
          refine lv_if_ne (tgt := 94) hx hb dX1_doBatch_87 (by decide) (fun c_87 => ?_) (fun c_87 => ?_)
          · refine lv_bipush (v := (-2)) hx hb dX1_doBatch_94 (by decide) ?_
            exact Ri hx hb hr hlocks hP hD hS ((L1, K1, Q1, hd1, mn1, sd1, bg1, dr1, F1, x1, tk1, sp1, fd1, ba1), oc1, fs1, md1, rw1, so1, sm1, lv1, und1, fc1, fr1, en1, lc1) [0, 1, 2, 3, 4, 5, 6, 7, 8, 9, 10, 11, 12, 13, 14, 15, 16, 17, 18, 19, 20] rfl rfl (⟨hB.trans (bR_out (σ := (L1, K1, Q1, hd1, mn1, sd1, bg1, dr1, F1, x1, tk1, sp1, fd1, ba1)) zT (Nat.ne_of_gt z1) zL), hI, hR, hT⟩) (Nat.le_of_ble_eq_true rfl) (Nat.le_of_ble_eq_true rfl) dX1_doBatch_96
          · exact absurd c_87 (by rw [e1]; exact nI_ne0 hp0 (by omega))
        · exact absurd c_75 (by rw [e4]; exact nI_ne0 z1 (by omega))
      · have zT : tk1 < 20000 := by
          rcases Nat.lt_or_ge tk1 20000 with q | q
          · exact q
          · exact absurd ((nI_leI (a := 20000) (b := tk1) (by omega) (by omega)).mpr q) c_40
        refine lv_aload_n hx hb dX1_doBatch_43 rfl (lv_at hl 0 rfl) ?_
        refine lv_dup hx hb dX1_doBatch_44 rfl ?_
        refine va_get (D := E.1) (ci := 1) (v := .int (nI tk1)) (C := RX1) (T := TX1) (N := 15) hx hb hts ux_X1' hown hK.1 hP 0 rfl rfl 10 (by decide) (hts _ (ta_cons _ mw_192)) (fun _ h9 => h9) rfl dX1_doBatch_45 ?_
        refine lv_iconst (v := 1) hx hb dX1_doBatch_48 (by decide) ?_
        refine lv_iadd hx hb dX1_doBatch_49 ?_
        refine tp_i (y := nI (tk1 + 1)) (nI_1 tk1) ?_
        refine va_put (D := E.1) (ci := 1) (v := .int (nI (tk1 + 1))) (ty := .int) (C := RX1) (T := TX1) (N := 15) hx hb hts ux_X1' tyX1 tyX1_ok nmX1 hown hK.1 hP hD hS 0 rfl rfl 10 (by decide) (hts _ (ta_cons _ mw_192)) (fun _ h9 => h9) rfl (by decide +kernel) rfl rfl (Nat.le_of_ble_eq_true rfl) dX1_doBatch_50 (fun H locs hP hD hS => ?_)
        have hP : va_P E.1 classes [(h 0, .inr (1, [.ref (h 1), .ref (h 2), .ref (h 3), .ref (h 4), .ref (h 9), .ref (h 12), .ref (h 14), .ref (h 16), .long x1, .int und1, .int (nI (tk1 + 1)), .int sp1, .int fd1, .int bd, .int ba1])), (h 1, .inl (E.2.1, n, .inl bg1)), (h 2, .inl (E.2.1, n, .inl dr1)), (h 3, .inl (E.2.2.1, n, .inr (.inl oc1))), (h 4, .inr (5, [.int (nI n), .ref (h 5), .ref (h 6), .ref (h 7), .ref (h 8)])), (h 5, .inl (E.2.2.1, n, .inr (.inl vals))), (h 6, .inl (E.2.1, n, .inl stp)), (h 7, .inl (E.2.1, n, .inl reg)), (h 8, .inl (E.2.2.2, n, .inl lo)), (h 9, .inr (0, [.ref (h 10), .int cnt, .ref (h 11)])), (h 10, .inl (E.2.1, n, .inl bo)), (h 11, .inl (E.2.1, n, .inl rg)), (h 12, .inr (3, [.int fc1, .ref (h 13)])), (h 13, .inl (E.2.2.1, 16, .inr (.inl fs1))), (h 14, .inr (4, [.ref (h 15), .int fr1, .int en1])), (h 15, .inl (E.2.1, n, .inl rw1)), (h 16, .inr (2, [.ref (h 17), .ref (h 18), .ref (h 19), .int lc1, .ref (h 20)])), (h 17, .inl (E.2.1, 16, .inl so1)), (h 18, .inl (E.2.1, 16, .inl sm1)), (h 19, .inl (E.2.2.1, 16, .inr (.inl md1))), (h 20, .inl (E.2.1, 16, .inl lv1))] H := hP
        have hD : va_D AM [(h 0, .inr (1, [.ref (h 1), .ref (h 2), .ref (h 3), .ref (h 4), .ref (h 9), .ref (h 12), .ref (h 14), .ref (h 16), .long x1, .int und1, .int (nI (tk1 + 1)), .int sp1, .int fd1, .int bd, .int ba1])), (h 1, .inl (E.2.1, n, .inl bg1)), (h 2, .inl (E.2.1, n, .inl dr1)), (h 3, .inl (E.2.2.1, n, .inr (.inl oc1))), (h 4, .inr (5, [.int (nI n), .ref (h 5), .ref (h 6), .ref (h 7), .ref (h 8)])), (h 5, .inl (E.2.2.1, n, .inr (.inl vals))), (h 6, .inl (E.2.1, n, .inl stp)), (h 7, .inl (E.2.1, n, .inl reg)), (h 8, .inl (E.2.2.2, n, .inl lo)), (h 9, .inr (0, [.ref (h 10), .int cnt, .ref (h 11)])), (h 10, .inl (E.2.1, n, .inl bo)), (h 11, .inl (E.2.1, n, .inl rg)), (h 12, .inr (3, [.int fc1, .ref (h 13)])), (h 13, .inl (E.2.2.1, 16, .inr (.inl fs1))), (h 14, .inr (4, [.ref (h 15), .int fr1, .int en1])), (h 15, .inl (E.2.1, n, .inl rw1)), (h 16, .inr (2, [.ref (h 17), .ref (h 18), .ref (h 19), .int lc1, .ref (h 20)])), (h 17, .inl (E.2.1, 16, .inl so1)), (h 18, .inl (E.2.1, 16, .inl sm1)), (h 19, .inl (E.2.2.1, 16, .inr (.inl md1))), (h 20, .inl (E.2.1, 16, .inl lv1))] := hD
        refine lv_aload_n hx hb dX1_doBatch_53 rfl (lv_at hl 0 rfl) ?_
        refine lv_aload_n hx hb dX1_doBatch_54 rfl (lv_at hl 0 rfl) ?_
        refine lv_aload_n hx hb dX1_doBatch_55 rfl (lv_at hl 0 rfl) ?_
        refine va_get (D := E.1) (ci := 1) (v := .ref (h 16)) (C := RX1) (T := TX1) (N := 15) hx hb hts ux_X1' hown hK.1 hP 0 rfl rfl 7 (by decide) (hts _ (ta_cons _ mw_189)) (fun _ h9 => h9) rfl dX1_doBatch_56 ?_
        refine va_get (D := E.1) (ci := 2) (v := .int lc1) (C := RX2) (T := TX2) (N := 5) hx hb hts ux_X2' hown hK.1 hP 16 rfl rfl 3 (by decide) (hts _ (ta_cons _ mw_158)) (fun _ h9 => h9) rfl dX1_doBatch_59 ?_
        refine tp_i (y := nI L1.length) (e1) ?_
        refine af_i (wc := [(h 0, .inr (1, [.ref (h 1), .ref (h 2), .ref (h 3), .ref (h 4), .ref (h 9), .ref (h 12), .ref (h 14), .ref (h 16), .long x1, .int und1, .int (nI (tk1 + 1)), .int sp1, .int fd1, .int bd, .int ba1])), (h 1, .inl (E.2.1, n, .inl bg1)), (h 2, .inl (E.2.1, n, .inl dr1)), (h 3, .inl (E.2.2.1, n, .inr (.inl oc1))), (h 4, .inr (5, [.int (nI n), .ref (h 5), .ref (h 6), .ref (h 7), .ref (h 8)])), (h 5, .inl (E.2.2.1, n, .inr (.inl vals))), (h 6, .inl (E.2.1, n, .inl stp)), (h 7, .inl (E.2.1, n, .inl reg)), (h 8, .inl (E.2.2.2, n, .inl lo)), (h 9, .inr (0, [.ref (h 10), .int cnt, .ref (h 11)])), (h 10, .inl (E.2.1, n, .inl bo)), (h 11, .inl (E.2.1, n, .inl rg)), (h 12, .inr (3, [.int fc1, .ref (h 13)])), (h 13, .inl (E.2.2.1, 16, .inr (.inl fs1))), (h 14, .inr (4, [.ref (h 15), .int fr1, .int en1])), (h 15, .inl (E.2.1, n, .inl rw1)), (h 16, .inr (2, [.ref (h 17), .ref (h 18), .ref (h 19), .int lc1, .ref (h 20)])), (h 17, .inl (E.2.1, 16, .inl so1)), (h 18, .inl (E.2.1, 16, .inl sm1)), (h 19, .inl (E.2.2.1, 16, .inr (.inl md1))), (h 20, .inl (E.2.1, 16, .inl lv1))]) (wr := []) (rn_V (b := h 0) (ci := 1) (As := [.int (nI L1.length)]) (rest := [.ref (h 0)]) (n := 1) ⟨hx, hb, hml, hown, hts⟩ ta_cons wq_X1_110 (by decide +kernel) hK (c_choose l E h n bg1 dr1 oc1 x1 und1 (nI (tk1 + 1)) sp1 fd1 bd ba1 bo rg cnt fc1 fs1 rw1 fr1 en1 lc1 so1 sm1 lv1 md1 vals stp reg lo L1.length (hp0) (by omega) _) ⟨Nat.le_of_ble_eq_true rfl, Nat.le_of_ble_eq_true rfl⟩ hP hD [0, 1, 2, 3, 4, 5, 6, 7, 8, 9, 10, 11, 12, 13, 14, 15, 16, 17, 18, 19, 20] rfl rfl rfl rfl rfl hl.1 rfl (Nat.le_of_ble_eq_true rfl) dX1_doBatch_62 ⟨Nat.le_of_ble_eq_true rfl, Nat.le_of_ble_eq_true rfl⟩) hP hD hS hA [0, 1, 2, 3, 4, 5, 6, 7, 8, 9, 10, 11, 12, 13, 14, 15, 16, 17, 18, 19, 20] [] rfl rfl rfl (by decide) (fun r_62 u_62 H locs hwC hP hD hS => ?_)
        subst hwC
        have hP : va_P E.1 classes [(h 0, .inr (1, [.ref (h 1), .ref (h 2), .ref (h 3), .ref (h 4), .ref (h 9), .ref (h 12), .ref (h 14), .ref (h 16), .long (nxtX x1), .int und1, .int (nI (tk1 + 1)), .int sp1, .int fd1, .int bd, .int ba1])), (h 1, .inl (E.2.1, n, .inl bg1)), (h 2, .inl (E.2.1, n, .inl dr1)), (h 3, .inl (E.2.2.1, n, .inr (.inl oc1))), (h 4, .inr (5, [.int (nI n), .ref (h 5), .ref (h 6), .ref (h 7), .ref (h 8)])), (h 5, .inl (E.2.2.1, n, .inr (.inl vals))), (h 6, .inl (E.2.1, n, .inl stp)), (h 7, .inl (E.2.1, n, .inl reg)), (h 8, .inl (E.2.2.2, n, .inl lo)), (h 9, .inr (0, [.ref (h 10), .int cnt, .ref (h 11)])), (h 10, .inl (E.2.1, n, .inl bo)), (h 11, .inl (E.2.1, n, .inl rg)), (h 12, .inr (3, [.int fc1, .ref (h 13)])), (h 13, .inl (E.2.2.1, 16, .inr (.inl fs1))), (h 14, .inr (4, [.ref (h 15), .int fr1, .int en1])), (h 15, .inl (E.2.1, n, .inl rw1)), (h 16, .inr (2, [.ref (h 17), .ref (h 18), .ref (h 19), .int lc1, .ref (h 20)])), (h 17, .inl (E.2.1, 16, .inl so1)), (h 18, .inl (E.2.1, 16, .inl sm1)), (h 19, .inl (E.2.2.1, 16, .inr (.inl md1))), (h 20, .inl (E.2.1, 16, .inl lv1))] H := hP
        have hD : va_D AM [(h 0, .inr (1, [.ref (h 1), .ref (h 2), .ref (h 3), .ref (h 4), .ref (h 9), .ref (h 12), .ref (h 14), .ref (h 16), .long (nxtX x1), .int und1, .int (nI (tk1 + 1)), .int sp1, .int fd1, .int bd, .int ba1])), (h 1, .inl (E.2.1, n, .inl bg1)), (h 2, .inl (E.2.1, n, .inl dr1)), (h 3, .inl (E.2.2.1, n, .inr (.inl oc1))), (h 4, .inr (5, [.int (nI n), .ref (h 5), .ref (h 6), .ref (h 7), .ref (h 8)])), (h 5, .inl (E.2.2.1, n, .inr (.inl vals))), (h 6, .inl (E.2.1, n, .inl stp)), (h 7, .inl (E.2.1, n, .inl reg)), (h 8, .inl (E.2.2.2, n, .inl lo)), (h 9, .inr (0, [.ref (h 10), .int cnt, .ref (h 11)])), (h 10, .inl (E.2.1, n, .inl bo)), (h 11, .inl (E.2.1, n, .inl rg)), (h 12, .inr (3, [.int fc1, .ref (h 13)])), (h 13, .inl (E.2.2.1, 16, .inr (.inl fs1))), (h 14, .inr (4, [.ref (h 15), .int fr1, .int en1])), (h 15, .inl (E.2.1, n, .inl rw1)), (h 16, .inr (2, [.ref (h 17), .ref (h 18), .ref (h 19), .int lc1, .ref (h 20)])), (h 17, .inl (E.2.1, 16, .inl so1)), (h 18, .inl (E.2.1, 16, .inl sm1)), (h 19, .inl (E.2.2.1, 16, .inr (.inl md1))), (h 20, .inl (E.2.1, 16, .inl lv1))] := hD
        have hp := pick_lt (nxtX x1) hp0
        obtain ⟨w, hw⟩ : ∃ w, L1[pickN (nxtX x1) L1.length]? = some w := ⟨_, List.getElem?_eq_getElem hp⟩
        have hwL := List.mem_of_getElem? hw
        have hw16 := hI.1.2 w hwL
        have hsow := a2 w hwL
        have hBs := hB.trans (bR_step (σ := (L1, K1, Q1, hd1, mn1, sd1, bg1, dr1, F1, x1, tk1, sp1, fd1, ba1)) zT (Nat.ne_of_gt z1) zL)
        rcases hho : hd1 w with _ | s
        · rcases hK1 : K1 with _ | ⟨s, K2⟩
          · subst hK1
            rcases hQ1 : Q1 with _ | ⟨s, Q2⟩
            · subst hQ1
              refine af_v (wc := [(h 0, .inr (1, [.ref (h 1), .ref (h 2), .ref (h 3), .ref (h 4), .ref (h 9), .ref (h 12), .ref (h 14), .ref (h 16), .long (nxtX x1), .int und1, .int (nI (tk1 + 1)), .int sp1, .int fd1, .int bd, .int ba1])), (h 1, .inl (E.2.1, n, .inl bg1)), (h 2, .inl (E.2.1, n, .inl dr1)), (h 3, .inl (E.2.2.1, n, .inr (.inl oc1))), (h 4, .inr (5, [.int (nI n), .ref (h 5), .ref (h 6), .ref (h 7), .ref (h 8)])), (h 5, .inl (E.2.2.1, n, .inr (.inl vals))), (h 6, .inl (E.2.1, n, .inl stp)), (h 7, .inl (E.2.1, n, .inl reg)), (h 8, .inl (E.2.2.2, n, .inl lo)), (h 9, .inr (0, [.ref (h 10), .int cnt, .ref (h 11)])), (h 10, .inl (E.2.1, n, .inl bo)), (h 11, .inl (E.2.1, n, .inl rg)), (h 12, .inr (3, [.int fc1, .ref (h 13)])), (h 13, .inl (E.2.2.1, 16, .inr (.inl fs1))), (h 14, .inr (4, [.ref (h 15), .int fr1, .int en1])), (h 15, .inl (E.2.1, n, .inl rw1)), (h 16, .inr (2, [.ref (h 17), .ref (h 18), .ref (h 19), .int lc1, .ref (h 20)])), (h 17, .inl (E.2.1, 16, .inl so1)), (h 18, .inl (E.2.1, 16, .inl sm1)), (h 19, .inl (E.2.2.1, 16, .inr (.inl md1))), (h 20, .inl (E.2.1, 16, .inl lv1))]) (wr := []) (rn_V (b := h 0) (ci := 1) (As := [.int (nI (pickN (nxtX x1) L1.length))]) (rest := []) (n := 1) ⟨hx, hb, hml, hown, hts⟩ ta_cons wq_X1_113 (by decide +kernel) hK (d_act_idle l E h n bg1 dr1 oc1 (nxtX x1) und1 (nI (tk1 + 1)) sp1 fd1 bd ba1 bo rg cnt fc1 fs1 rw1 fr1 en1 lc1 so1 sm1 lv1 md1 vals stp reg lo (pickN (nxtX x1) L1.length) w f (f + ([] ++ [] : List Nat).length) (by omega) (by omega) (a1 _ w hw) (hw16) (by rw [hsow, hho]; rfl) (e2) (e3) (by omega) (by simp) _) ⟨Nat.le_of_ble_eq_true rfl, Nat.le_of_ble_eq_true rfl⟩ hP hD [0, 1, 2, 3, 4, 5, 6, 7, 8, 9, 10, 11, 12, 13, 14, 15, 16, 17, 18, 19, 20] rfl rfl rfl rfl rfl hl.1 rfl (Nat.le_of_ble_eq_true rfl) dX1_doBatch_65 ⟨Nat.le_of_ble_eq_true rfl, Nat.le_of_ble_eq_true rfl⟩) hP hD hS hA [0, 1, 2, 3, 4, 5, 6, 7, 8, 9, 10, 11, 12, 13, 14, 15, 16, 17, 18, 19, 20] [] rfl rfl rfl (by decide) (fun u_65 H locs hwC hP hD hS => ?_)
              have hP : va_P E.1 classes [(h 0, .inr (1, [.ref (h 1), .ref (h 2), .ref (h 3), .ref (h 4), .ref (h 9), .ref (h 12), .ref (h 14), .ref (h 16), .long (nxtX x1), .int und1, .int (nI (tk1 + 1)), .int sp1, .int fd1, .int bd, .int ba1])), (h 1, .inl (E.2.1, n, .inl bg1)), (h 2, .inl (E.2.1, n, .inl dr1)), (h 3, .inl (E.2.2.1, n, .inr (.inl oc1))), (h 4, .inr (5, [.int (nI n), .ref (h 5), .ref (h 6), .ref (h 7), .ref (h 8)])), (h 5, .inl (E.2.2.1, n, .inr (.inl vals))), (h 6, .inl (E.2.1, n, .inl stp)), (h 7, .inl (E.2.1, n, .inl reg)), (h 8, .inl (E.2.2.2, n, .inl lo)), (h 9, .inr (0, [.ref (h 10), .int cnt, .ref (h 11)])), (h 10, .inl (E.2.1, n, .inl bo)), (h 11, .inl (E.2.1, n, .inl rg)), (h 12, .inr (3, [.int fc1, .ref (h 13)])), (h 13, .inl (E.2.2.1, 16, .inr (.inl fs1))), (h 14, .inr (4, [.ref (h 15), .int fr1, .int en1])), (h 15, .inl (E.2.1, n, .inl rw1)), (h 16, .inr (2, [.ref (h 17), .ref (h 18), .ref (h 19), .int lc1, .ref (h 20)])), (h 17, .inl (E.2.1, 16, .inl so1)), (h 18, .inl (E.2.1, 16, .inl sm1)), (h 19, .inl (E.2.2.1, 16, .inr (.inl md1))), (h 20, .inl (E.2.1, 16, .inl lv1))] H := hP
              have hD : va_D AM [(h 0, .inr (1, [.ref (h 1), .ref (h 2), .ref (h 3), .ref (h 4), .ref (h 9), .ref (h 12), .ref (h 14), .ref (h 16), .long (nxtX x1), .int und1, .int (nI (tk1 + 1)), .int sp1, .int fd1, .int bd, .int ba1])), (h 1, .inl (E.2.1, n, .inl bg1)), (h 2, .inl (E.2.1, n, .inl dr1)), (h 3, .inl (E.2.2.1, n, .inr (.inl oc1))), (h 4, .inr (5, [.int (nI n), .ref (h 5), .ref (h 6), .ref (h 7), .ref (h 8)])), (h 5, .inl (E.2.2.1, n, .inr (.inl vals))), (h 6, .inl (E.2.1, n, .inl stp)), (h 7, .inl (E.2.1, n, .inl reg)), (h 8, .inl (E.2.2.2, n, .inl lo)), (h 9, .inr (0, [.ref (h 10), .int cnt, .ref (h 11)])), (h 10, .inl (E.2.1, n, .inl bo)), (h 11, .inl (E.2.1, n, .inl rg)), (h 12, .inr (3, [.int fc1, .ref (h 13)])), (h 13, .inl (E.2.2.1, 16, .inr (.inl fs1))), (h 14, .inr (4, [.ref (h 15), .int fr1, .int en1])), (h 15, .inl (E.2.1, n, .inl rw1)), (h 16, .inr (2, [.ref (h 17), .ref (h 18), .ref (h 19), .int lc1, .ref (h 20)])), (h 17, .inl (E.2.1, 16, .inl so1)), (h 18, .inl (E.2.1, 16, .inl sm1)), (h 19, .inl (E.2.2.1, 16, .inr (.inl md1))), (h 20, .inl (E.2.1, 16, .inl lv1))] := hD
              refine lv_goto (tgt := 16) hx hb dX1_doBatch_68 (by decide) ?_
              exact ih16 (L1, [], [], hd1, mn1, sd1, bg1, dr1, F1, nxtX x1, tk1 + 1, sp1, fd1, ba1, oc1, fs1, md1, rw1, so1, sm1, lv1, und1, fc1, fr1, en1, lc1) _ _ _ ⟨hP.sub [0, 1, 2, 3, 4, 5, 6, 7, 8, 9, 10, 11, 12, 13, 14, 15, 16, 17, 18, 19, 20] rfl, hD.sub [0, 1, 2, 3, 4, 5, 6, 7, 8, 9, 10, 11, 12, 13, 14, 15, 16, 17, 18, 19, 20] (by decide) rfl, hS, lv_sub hl [0, 1] rfl, hI, hR, by omega, hBs.trans (by rw [tk_idle hw hho])⟩ (by show 20000 - (tk1 + 1) < 20000 - tk1; omega)
            · subst hQ1
              obtain ⟨hsn, h4⟩ := (hI.2.2.2.2.1.2 s).mp List.mem_cons_self
              have hlen : ([] ++ s :: Q2 : List Nat).length = Q2.length + 1 := rfl
              refine af_v (wc := [(h 0, .inr (1, [.ref (h 1), .ref (h 2), .ref (h 3), .ref (h 4), .ref (h 9), .ref (h 12), .ref (h 14), .ref (h 16), .long (nxtX x1), .int und1, .int (nI (tk1 + 1)), .int sp1, .int fd1, .int bd, .int ba1])), (h 1, .inl (E.2.1, n, .inl bg1)), (h 2, .inl (E.2.1, n, .inl dr1)), (h 3, .inl (E.2.2.1, n, .inr (.inl oc1))), (h 4, .inr (5, [.int (nI n), .ref (h 5), .ref (h 6), .ref (h 7), .ref (h 8)])), (h 5, .inl (E.2.2.1, n, .inr (.inl vals))), (h 6, .inl (E.2.1, n, .inl stp)), (h 7, .inl (E.2.1, n, .inl reg)), (h 8, .inl (E.2.2.2, n, .inl lo)), (h 9, .inr (0, [.ref (h 10), .int cnt, .ref (h 11)])), (h 10, .inl (E.2.1, n, .inl bo)), (h 11, .inl (E.2.1, n, .inl rg)), (h 12, .inr (3, [.int fc1, .ref (h 13)])), (h 13, .inl (E.2.2.1, 16, .inr (.inl fs1))), (h 14, .inr (4, [.ref (h 15), .int fr1, .int en1])), (h 15, .inl (E.2.1, n, .inl rw1)), (h 16, .inr (2, [.ref (h 17), .ref (h 18), .ref (h 19), .int lc1, .ref (h 20)])), (h 17, .inl (E.2.1, 16, .inl so1)), (h 18, .inl (E.2.1, 16, .inl sm1)), (h 19, .inl (E.2.2.1, 16, .inr (.inl md1))), (h 20, .inl (E.2.1, 16, .inl lv1))]) (wr := []) (rn_V (b := h 0) (ci := 1) (As := [.int (nI (pickN (nxtX x1) L1.length))]) (rest := []) (n := 1) ⟨hx, hb, hml, hown, hts⟩ ta_cons wq_X1_113 (by decide +kernel) hK (d_act_take l E h n bg1 dr1 oc1 (nxtX x1) und1 (nI (tk1 + 1)) sp1 fd1 bd ba1 bo rg cnt fc1 fs1 rw1 fr1 en1 lc1 so1 sm1 lv1 md1 vals stp reg lo (pickN (nxtX x1) L1.length) w f (f + ([] ++ s :: Q2).length) s (by omega) (by omega) (a1 _ w hw) (hw16) (by rw [hsow, hho]; rfl) (e2) (e3) (by omega) (a5) ((row_tail a4).1) (hsn) _) ⟨Nat.le_of_ble_eq_true rfl, Nat.le_of_ble_eq_true rfl⟩ hP hD [0, 1, 2, 3, 4, 5, 6, 7, 8, 9, 10, 11, 12, 13, 14, 15, 16, 17, 18, 19, 20] rfl rfl rfl rfl rfl hl.1 rfl (Nat.le_of_ble_eq_true rfl) dX1_doBatch_65 ⟨Nat.le_of_ble_eq_true rfl, Nat.le_of_ble_eq_true rfl⟩) hP hD hS hA [0, 1, 2, 3, 4, 5, 6, 7, 8, 9, 10, 11, 12, 13, 14, 15, 16, 17, 18, 19, 20] [] rfl rfl rfl (by decide) (fun u_65 H locs hwC hP hD hS => ?_)
              have hP : va_P E.1 classes [(h 0, .inr (1, [.ref (h 1), .ref (h 2), .ref (h 3), .ref (h 4), .ref (h 9), .ref (h 12), .ref (h 14), .ref (h 16), .long (nxtX x1), .int und1, .int (nI (tk1 + 1)), .int sp1, .int fd1, .int bd, .int (ba1 + 1)])), (h 1, .inl (E.2.1, n, .inl (upd bg1 s (bg1 s + 1)))), (h 2, .inl (E.2.1, n, .inl dr1)), (h 3, .inl (E.2.2.1, n, .inr (.inl oc1))), (h 4, .inr (5, [.int (nI n), .ref (h 5), .ref (h 6), .ref (h 7), .ref (h 8)])), (h 5, .inl (E.2.2.1, n, .inr (.inl vals))), (h 6, .inl (E.2.1, n, .inl stp)), (h 7, .inl (E.2.1, n, .inl reg)), (h 8, .inl (E.2.2.2, n, .inl lo)), (h 9, .inr (0, [.ref (h 10), .int cnt, .ref (h 11)])), (h 10, .inl (E.2.1, n, .inl bo)), (h 11, .inl (E.2.1, n, .inl rg)), (h 12, .inr (3, [.int fc1, .ref (h 13)])), (h 13, .inl (E.2.2.1, 16, .inr (.inl fs1))), (h 14, .inr (4, [.ref (h 15), .int (nI (f + 1)), .int en1])), (h 15, .inl (E.2.1, n, .inl rw1)), (h 16, .inr (2, [.ref (h 17), .ref (h 18), .ref (h 19), .int lc1, .ref (h 20)])), (h 17, .inl (E.2.1, 16, .inl (upd so1 w (nI s)))), (h 18, .inl (E.2.1, 16, .inl (upd sm1 w 0))), (h 19, .inl (E.2.2.1, 16, .inr (.inl (vp_updL md1 w (vals s))))), (h 20, .inl (E.2.1, 16, .inl lv1))] H := hP
              have hD : va_D AM [(h 0, .inr (1, [.ref (h 1), .ref (h 2), .ref (h 3), .ref (h 4), .ref (h 9), .ref (h 12), .ref (h 14), .ref (h 16), .long (nxtX x1), .int und1, .int (nI (tk1 + 1)), .int sp1, .int fd1, .int bd, .int (ba1 + 1)])), (h 1, .inl (E.2.1, n, .inl (upd bg1 s (bg1 s + 1)))), (h 2, .inl (E.2.1, n, .inl dr1)), (h 3, .inl (E.2.2.1, n, .inr (.inl oc1))), (h 4, .inr (5, [.int (nI n), .ref (h 5), .ref (h 6), .ref (h 7), .ref (h 8)])), (h 5, .inl (E.2.2.1, n, .inr (.inl vals))), (h 6, .inl (E.2.1, n, .inl stp)), (h 7, .inl (E.2.1, n, .inl reg)), (h 8, .inl (E.2.2.2, n, .inl lo)), (h 9, .inr (0, [.ref (h 10), .int cnt, .ref (h 11)])), (h 10, .inl (E.2.1, n, .inl bo)), (h 11, .inl (E.2.1, n, .inl rg)), (h 12, .inr (3, [.int fc1, .ref (h 13)])), (h 13, .inl (E.2.2.1, 16, .inr (.inl fs1))), (h 14, .inr (4, [.ref (h 15), .int (nI (f + 1)), .int en1])), (h 15, .inl (E.2.1, n, .inl rw1)), (h 16, .inr (2, [.ref (h 17), .ref (h 18), .ref (h 19), .int lc1, .ref (h 20)])), (h 17, .inl (E.2.1, 16, .inl (upd so1 w (nI s)))), (h 18, .inl (E.2.1, 16, .inl (upd sm1 w 0))), (h 19, .inl (E.2.2.1, 16, .inr (.inl (vp_updL md1 w (vals s))))), (h 20, .inl (E.2.1, 16, .inl lv1))] := hD
              refine lv_goto (tgt := 16) hx hb dX1_doBatch_68 (by decide) ?_
              exact ih16 (L1, [], Q2, fu hd1 w (some s), fu mn1 w 0, fu sd1 s 2, upd bg1 s (bg1 s + 1), dr1, F1, nxtX x1, tk1 + 1, sp1, fd1, ba1 + 1, oc1, fs1, vp_updL md1 w (vals s), rw1, upd so1 w (nI s), upd sm1 w 0, lv1, und1, fc1, nI (f + 1), en1, lc1) _ _ _ ⟨hP.sub [0, 1, 2, 3, 4, 5, 6, 7, 8, 9, 10, 11, 12, 13, 14, 15, 16, 17, 18, 19, 20] rfl, hD.sub [0, 1, 2, 3, 4, 5, 6, 7, 8, 9, 10, 11, 12, 13, 14, 15, 16, 17, 18, 19, 20] (by decide) rfl, hS, lv_sub hl [0, 1] rfl, inv_takeQ hI (fun s hs => (hst s hs).2.1) hho, rc_take hR e2 (by omega) (by omega) hsn (Or.inr h4) rfl, by omega, hBs.trans (by rw [tk_Q hw hho])⟩ (by show 20000 - (tk1 + 1) < 20000 - tk1; omega)
          · subst hK1
            obtain ⟨hsn, h4⟩ := hI.2.1.2 s List.mem_cons_self
            have hlen : (s :: K2 ++ Q1).length = (K2 ++ Q1).length + 1 := rfl
            refine af_v (wc := [(h 0, .inr (1, [.ref (h 1), .ref (h 2), .ref (h 3), .ref (h 4), .ref (h 9), .ref (h 12), .ref (h 14), .ref (h 16), .long (nxtX x1), .int und1, .int (nI (tk1 + 1)), .int sp1, .int fd1, .int bd, .int ba1])), (h 1, .inl (E.2.1, n, .inl bg1)), (h 2, .inl (E.2.1, n, .inl dr1)), (h 3, .inl (E.2.2.1, n, .inr (.inl oc1))), (h 4, .inr (5, [.int (nI n), .ref (h 5), .ref (h 6), .ref (h 7), .ref (h 8)])), (h 5, .inl (E.2.2.1, n, .inr (.inl vals))), (h 6, .inl (E.2.1, n, .inl stp)), (h 7, .inl (E.2.1, n, .inl reg)), (h 8, .inl (E.2.2.2, n, .inl lo)), (h 9, .inr (0, [.ref (h 10), .int cnt, .ref (h 11)])), (h 10, .inl (E.2.1, n, .inl bo)), (h 11, .inl (E.2.1, n, .inl rg)), (h 12, .inr (3, [.int fc1, .ref (h 13)])), (h 13, .inl (E.2.2.1, 16, .inr (.inl fs1))), (h 14, .inr (4, [.ref (h 15), .int fr1, .int en1])), (h 15, .inl (E.2.1, n, .inl rw1)), (h 16, .inr (2, [.ref (h 17), .ref (h 18), .ref (h 19), .int lc1, .ref (h 20)])), (h 17, .inl (E.2.1, 16, .inl so1)), (h 18, .inl (E.2.1, 16, .inl sm1)), (h 19, .inl (E.2.2.1, 16, .inr (.inl md1))), (h 20, .inl (E.2.1, 16, .inl lv1))]) (wr := []) (rn_V (b := h 0) (ci := 1) (As := [.int (nI (pickN (nxtX x1) L1.length))]) (rest := []) (n := 1) ⟨hx, hb, hml, hown, hts⟩ ta_cons wq_X1_113 (by decide +kernel) hK (d_act_take l E h n bg1 dr1 oc1 (nxtX x1) und1 (nI (tk1 + 1)) sp1 fd1 bd ba1 bo rg cnt fc1 fs1 rw1 fr1 en1 lc1 so1 sm1 lv1 md1 vals stp reg lo (pickN (nxtX x1) L1.length) w f (f + (s :: K2 ++ Q1).length) s (by omega) (by omega) (a1 _ w hw) (hw16) (by rw [hsow, hho]; rfl) (e2) (e3) (by omega) (a5) ((row_tail a4).1) (hsn) _) ⟨Nat.le_of_ble_eq_true rfl, Nat.le_of_ble_eq_true rfl⟩ hP hD [0, 1, 2, 3, 4, 5, 6, 7, 8, 9, 10, 11, 12, 13, 14, 15, 16, 17, 18, 19, 20] rfl rfl rfl rfl rfl hl.1 rfl (Nat.le_of_ble_eq_true rfl) dX1_doBatch_65 ⟨Nat.le_of_ble_eq_true rfl, Nat.le_of_ble_eq_true rfl⟩) hP hD hS hA [0, 1, 2, 3, 4, 5, 6, 7, 8, 9, 10, 11, 12, 13, 14, 15, 16, 17, 18, 19, 20] [] rfl rfl rfl (by decide) (fun u_65 H locs hwC hP hD hS => ?_)
            have hP : va_P E.1 classes [(h 0, .inr (1, [.ref (h 1), .ref (h 2), .ref (h 3), .ref (h 4), .ref (h 9), .ref (h 12), .ref (h 14), .ref (h 16), .long (nxtX x1), .int und1, .int (nI (tk1 + 1)), .int sp1, .int fd1, .int bd, .int (ba1 + 1)])), (h 1, .inl (E.2.1, n, .inl (upd bg1 s (bg1 s + 1)))), (h 2, .inl (E.2.1, n, .inl dr1)), (h 3, .inl (E.2.2.1, n, .inr (.inl oc1))), (h 4, .inr (5, [.int (nI n), .ref (h 5), .ref (h 6), .ref (h 7), .ref (h 8)])), (h 5, .inl (E.2.2.1, n, .inr (.inl vals))), (h 6, .inl (E.2.1, n, .inl stp)), (h 7, .inl (E.2.1, n, .inl reg)), (h 8, .inl (E.2.2.2, n, .inl lo)), (h 9, .inr (0, [.ref (h 10), .int cnt, .ref (h 11)])), (h 10, .inl (E.2.1, n, .inl bo)), (h 11, .inl (E.2.1, n, .inl rg)), (h 12, .inr (3, [.int fc1, .ref (h 13)])), (h 13, .inl (E.2.2.1, 16, .inr (.inl fs1))), (h 14, .inr (4, [.ref (h 15), .int (nI (f + 1)), .int en1])), (h 15, .inl (E.2.1, n, .inl rw1)), (h 16, .inr (2, [.ref (h 17), .ref (h 18), .ref (h 19), .int lc1, .ref (h 20)])), (h 17, .inl (E.2.1, 16, .inl (upd so1 w (nI s)))), (h 18, .inl (E.2.1, 16, .inl (upd sm1 w 0))), (h 19, .inl (E.2.2.1, 16, .inr (.inl (vp_updL md1 w (vals s))))), (h 20, .inl (E.2.1, 16, .inl lv1))] H := hP
            have hD : va_D AM [(h 0, .inr (1, [.ref (h 1), .ref (h 2), .ref (h 3), .ref (h 4), .ref (h 9), .ref (h 12), .ref (h 14), .ref (h 16), .long (nxtX x1), .int und1, .int (nI (tk1 + 1)), .int sp1, .int fd1, .int bd, .int (ba1 + 1)])), (h 1, .inl (E.2.1, n, .inl (upd bg1 s (bg1 s + 1)))), (h 2, .inl (E.2.1, n, .inl dr1)), (h 3, .inl (E.2.2.1, n, .inr (.inl oc1))), (h 4, .inr (5, [.int (nI n), .ref (h 5), .ref (h 6), .ref (h 7), .ref (h 8)])), (h 5, .inl (E.2.2.1, n, .inr (.inl vals))), (h 6, .inl (E.2.1, n, .inl stp)), (h 7, .inl (E.2.1, n, .inl reg)), (h 8, .inl (E.2.2.2, n, .inl lo)), (h 9, .inr (0, [.ref (h 10), .int cnt, .ref (h 11)])), (h 10, .inl (E.2.1, n, .inl bo)), (h 11, .inl (E.2.1, n, .inl rg)), (h 12, .inr (3, [.int fc1, .ref (h 13)])), (h 13, .inl (E.2.2.1, 16, .inr (.inl fs1))), (h 14, .inr (4, [.ref (h 15), .int (nI (f + 1)), .int en1])), (h 15, .inl (E.2.1, n, .inl rw1)), (h 16, .inr (2, [.ref (h 17), .ref (h 18), .ref (h 19), .int lc1, .ref (h 20)])), (h 17, .inl (E.2.1, 16, .inl (upd so1 w (nI s)))), (h 18, .inl (E.2.1, 16, .inl (upd sm1 w 0))), (h 19, .inl (E.2.2.1, 16, .inr (.inl (vp_updL md1 w (vals s))))), (h 20, .inl (E.2.1, 16, .inl lv1))] := hD
            refine lv_goto (tgt := 16) hx hb dX1_doBatch_68 (by decide) ?_
            exact ih16 (L1, K2, Q1, fu hd1 w (some s), fu mn1 w 0, fu sd1 s 2, upd bg1 s (bg1 s + 1), dr1, F1, nxtX x1, tk1 + 1, sp1, fd1, ba1 + 1, oc1, fs1, vp_updL md1 w (vals s), rw1, upd so1 w (nI s), upd sm1 w 0, lv1, und1, fc1, nI (f + 1), en1, lc1) _ _ _ ⟨hP.sub [0, 1, 2, 3, 4, 5, 6, 7, 8, 9, 10, 11, 12, 13, 14, 15, 16, 17, 18, 19, 20] rfl, hD.sub [0, 1, 2, 3, 4, 5, 6, 7, 8, 9, 10, 11, 12, 13, 14, 15, 16, 17, 18, 19, 20] (by decide) rfl, hS, lv_sub hl [0, 1] rfl, inv_takeK hI (fun s hs => (hst s hs).2.1) hho, rc_take hR e2 (by omega) (by omega) hsn (Or.inl h4) rfl, by omega, hBs.trans (by rw [tk_K hw hho])⟩ (by show 20000 - (tk1 + 1) < 20000 - tk1; omega)
        · obtain ⟨hsn, h2, hmn⟩ := hI.2.2.1 w hwL s hho
          obtain ⟨q1, q2⟩ := a3 w hwL s hho
          obtain ⟨t1, t2, t3⟩ := hst s hsn
          by_cases hm : mn1 w + 1 = st s
          · by_cases hF : (w, s) ∈ F1
            · have hf0 := cP_pos (P := tP) (sd := sd1) hsn (by rw [h2]; rfl)
              have hwx := hw
              refine af_v (wc := [(h 0, .inr (1, [.ref (h 1), .ref (h 2), .ref (h 3), .ref (h 4), .ref (h 9), .ref (h 12), .ref (h 14), .ref (h 16), .long (nxtX x1), .int und1, .int (nI (tk1 + 1)), .int sp1, .int fd1, .int bd, .int ba1])), (h 1, .inl (E.2.1, n, .inl bg1)), (h 2, .inl (E.2.1, n, .inl dr1)), (h 3, .inl (E.2.2.1, n, .inr (.inl oc1))), (h 4, .inr (5, [.int (nI n), .ref (h 5), .ref (h 6), .ref (h 7), .ref (h 8)])), (h 5, .inl (E.2.2.1, n, .inr (.inl vals))), (h 6, .inl (E.2.1, n, .inl stp)), (h 7, .inl (E.2.1, n, .inl reg)), (h 8, .inl (E.2.2.2, n, .inl lo)), (h 9, .inr (0, [.ref (h 10), .int cnt, .ref (h 11)])), (h 10, .inl (E.2.1, n, .inl bo)), (h 11, .inl (E.2.1, n, .inl rg)), (h 12, .inr (3, [.int fc1, .ref (h 13)])), (h 13, .inl (E.2.2.1, 16, .inr (.inl fs1))), (h 14, .inr (4, [.ref (h 15), .int fr1, .int en1])), (h 15, .inl (E.2.1, n, .inl rw1)), (h 16, .inr (2, [.ref (h 17), .ref (h 18), .ref (h 19), .int lc1, .ref (h 20)])), (h 17, .inl (E.2.1, 16, .inl so1)), (h 18, .inl (E.2.1, 16, .inl sm1)), (h 19, .inl (E.2.2.1, 16, .inr (.inl md1))), (h 20, .inl (E.2.1, 16, .inl lv1))]) (wr := []) (rn_V (b := h 0) (ci := 1) (As := [.int (nI (pickN (nxtX x1) L1.length))]) (rest := []) (n := 1) ⟨hx, hb, hml, hown, hts⟩ ta_cons wq_X1_113 (by decide +kernel) hK (d_act_fail l E h n bg1 dr1 oc1 (nxtX x1) und1 (nI (tk1 + 1)) sp1 fd1 bd ba1 bo rg cnt fc1 fs1 rw1 fr1 en1 lc1 so1 sm1 lv1 md1 vals stp reg lo (pickN (nxtX x1) L1.length) w s (mn1 w) (L1.length - 1) (f - 1) (by omega) (by omega) (a1 _ w hw) (hw16) (by rw [hsow, hho]; rfl) (hsn) (q1) (by rw [t1, hm]) (by omega) (by rw [fr_has a8 hw16 hsn, if_pos hF]) (by rw [e1]; congr 1; omega) (by rw [e2]; congr 1; omega) (by omega) (by omega) (by omega) _) ⟨Nat.le_of_ble_eq_true rfl, Nat.le_of_ble_eq_true rfl⟩ hP hD [0, 1, 2, 3, 4, 5, 6, 7, 8, 9, 10, 11, 12, 13, 14, 15, 16, 17, 18, 19, 20] rfl rfl rfl rfl rfl hl.1 rfl (Nat.le_of_ble_eq_true rfl) dX1_doBatch_65 ⟨Nat.le_of_ble_eq_true rfl, Nat.le_of_ble_eq_true rfl⟩) hP hD hS hA [0, 1, 2, 3, 4, 5, 6, 7, 8, 9, 10, 11, 12, 13, 14, 15, 16, 17, 18, 19, 20] [] rfl rfl rfl (by decide) (fun u_65 H locs hwC hP hD hS => ?_)
              have hdr := hwC
              have hP : va_P E.1 classes [(h 0, .inr (1, [.ref (h 1), .ref (h 2), .ref (h 3), .ref (h 4), .ref (h 9), .ref (h 12), .ref (h 14), .ref (h 16), .long (nxtX x1), .int und1, .int (nI (tk1 + 1)), .int sp1, .int (fd1 + 1), .int bd, .int ba1])), (h 1, .inl (E.2.1, n, .inl bg1)), (h 2, .inl (E.2.1, n, .inl dr1)), (h 3, .inl (E.2.2.1, n, .inr (.inl oc1))), (h 4, .inr (5, [.int (nI n), .ref (h 5), .ref (h 6), .ref (h 7), .ref (h 8)])), (h 5, .inl (E.2.2.1, n, .inr (.inl vals))), (h 6, .inl (E.2.1, n, .inl stp)), (h 7, .inl (E.2.1, n, .inl reg)), (h 8, .inl (E.2.2.2, n, .inl lo)), (h 9, .inr (0, [.ref (h 10), .int cnt, .ref (h 11)])), (h 10, .inl (E.2.1, n, .inl bo)), (h 11, .inl (E.2.1, n, .inl rg)), (h 12, .inr (3, [.int (fc1 - 1), .ref (h 13)])), (h 13, .inl (E.2.2.1, 16, .inr (.inl (vp_updL fs1 w (fs1 w &&& (bitm (nI s) ^^^ (-1))))))), (h 14, .inr (4, [.ref (h 15), .int (nI (f - 1)), .int en1])), (h 15, .inl (E.2.1, n, .inl (upd rw1 (f - 1) (nI s)))), (h 16, .inr (2, [.ref (h 17), .ref (h 18), .ref (h 19), .int (nI (L1.length - 1)), .ref (h 20)])), (h 17, .inl (E.2.1, 16, .inl so1)), (h 18, .inl (E.2.1, 16, .inl sm1)), (h 19, .inl (E.2.2.1, 16, .inr (.inl md1))), (h 20, .inl (E.2.1, 16, .inl u_65))] H := hP
              have hD : va_D AM [(h 0, .inr (1, [.ref (h 1), .ref (h 2), .ref (h 3), .ref (h 4), .ref (h 9), .ref (h 12), .ref (h 14), .ref (h 16), .long (nxtX x1), .int und1, .int (nI (tk1 + 1)), .int sp1, .int (fd1 + 1), .int bd, .int ba1])), (h 1, .inl (E.2.1, n, .inl bg1)), (h 2, .inl (E.2.1, n, .inl dr1)), (h 3, .inl (E.2.2.1, n, .inr (.inl oc1))), (h 4, .inr (5, [.int (nI n), .ref (h 5), .ref (h 6), .ref (h 7), .ref (h 8)])), (h 5, .inl (E.2.2.1, n, .inr (.inl vals))), (h 6, .inl (E.2.1, n, .inl stp)), (h 7, .inl (E.2.1, n, .inl reg)), (h 8, .inl (E.2.2.2, n, .inl lo)), (h 9, .inr (0, [.ref (h 10), .int cnt, .ref (h 11)])), (h 10, .inl (E.2.1, n, .inl bo)), (h 11, .inl (E.2.1, n, .inl rg)), (h 12, .inr (3, [.int (fc1 - 1), .ref (h 13)])), (h 13, .inl (E.2.2.1, 16, .inr (.inl (vp_updL fs1 w (fs1 w &&& (bitm (nI s) ^^^ (-1))))))), (h 14, .inr (4, [.ref (h 15), .int (nI (f - 1)), .int en1])), (h 15, .inl (E.2.1, n, .inl (upd rw1 (f - 1) (nI s)))), (h 16, .inr (2, [.ref (h 17), .ref (h 18), .ref (h 19), .int (nI (L1.length - 1)), .ref (h 20)])), (h 17, .inl (E.2.1, 16, .inl so1)), (h 18, .inl (E.2.1, 16, .inl sm1)), (h 19, .inl (E.2.2.1, 16, .inr (.inl md1))), (h 20, .inl (E.2.1, 16, .inl u_65))] := hD
              refine lv_goto (tgt := 16) hx hb dX1_doBatch_68 (by decide) ?_
              exact ih16 (L1.eraseIdx (pickN (nxtX x1) L1.length), s :: K1, Q1, hd1, mn1, fu sd1 s 4, bg1, dr1, F1.erase (w, s), nxtX x1, tk1 + 1, sp1, fd1 + 1, ba1, oc1, vp_updL fs1 w (fs1 w &&& (bitm (nI s) ^^^ (-1))), md1, upd rw1 (f - 1) (nI s), so1, sm1, u_65, und1, fc1 - 1, nI (f - 1), en1, nI (L1.length - 1)) _ _ _ ⟨hP.sub [0, 1, 2, 3, 4, 5, 6, 7, 8, 9, 10, 11, 12, 13, 14, 15, 16, 17, 18, 19, 20] rfl, hD.sub [0, 1, 2, 3, 4, 5, 6, 7, 8, 9, 10, 11, 12, 13, 14, 15, 16, 17, 18, 19, 20] (by decide) rfl, hS, lv_sub hl [0, 1] rfl, inv_fail hI hwx hho, rc_fail hR (by rw [e2]; congr 1; omega) (by omega) hn hI.1.1 hwx hsn h2 hI.2.2.2.2.2.1.1 hF hdr, by omega, hBs.trans (by rw [tk_fail hwx hho hm hF])⟩ (by show 20000 - (tk1 + 1) < 20000 - tk1; omega)
            · refine af_v (wc := [(h 0, .inr (1, [.ref (h 1), .ref (h 2), .ref (h 3), .ref (h 4), .ref (h 9), .ref (h 12), .ref (h 14), .ref (h 16), .long (nxtX x1), .int und1, .int (nI (tk1 + 1)), .int sp1, .int fd1, .int bd, .int ba1])), (h 1, .inl (E.2.1, n, .inl bg1)), (h 2, .inl (E.2.1, n, .inl dr1)), (h 3, .inl (E.2.2.1, n, .inr (.inl oc1))), (h 4, .inr (5, [.int (nI n), .ref (h 5), .ref (h 6), .ref (h 7), .ref (h 8)])), (h 5, .inl (E.2.2.1, n, .inr (.inl vals))), (h 6, .inl (E.2.1, n, .inl stp)), (h 7, .inl (E.2.1, n, .inl reg)), (h 8, .inl (E.2.2.2, n, .inl lo)), (h 9, .inr (0, [.ref (h 10), .int cnt, .ref (h 11)])), (h 10, .inl (E.2.1, n, .inl bo)), (h 11, .inl (E.2.1, n, .inl rg)), (h 12, .inr (3, [.int fc1, .ref (h 13)])), (h 13, .inl (E.2.2.1, 16, .inr (.inl fs1))), (h 14, .inr (4, [.ref (h 15), .int fr1, .int en1])), (h 15, .inl (E.2.1, n, .inl rw1)), (h 16, .inr (2, [.ref (h 17), .ref (h 18), .ref (h 19), .int lc1, .ref (h 20)])), (h 17, .inl (E.2.1, 16, .inl so1)), (h 18, .inl (E.2.1, 16, .inl sm1)), (h 19, .inl (E.2.2.1, 16, .inr (.inl md1))), (h 20, .inl (E.2.1, 16, .inl lv1))]) (wr := []) (rn_V (b := h 0) (ci := 1) (As := [.int (nI (pickN (nxtX x1) L1.length))]) (rest := []) (n := 1) ⟨hx, hb, hml, hown, hts⟩ ta_cons wq_X1_113 (by decide +kernel) hK (c_act_last l E h n bg1 dr1 oc1 (nxtX x1) und1 (nI (tk1 + 1)) sp1 fd1 bd ba1 bo rg cnt fc1 fs1 rw1 fr1 en1 lc1 so1 sm1 lv1 md1 vals stp reg lo (pickN (nxtX x1) L1.length) w s (mn1 w) (by omega) (by omega) (a1 _ w hw) (hw16) (by rw [hsow, hho]; rfl) (hsn) (q1) (by rw [t1, hm]) (by omega) (by rw [fr_has a8 hw16 hsn, if_neg hF]) _) ⟨Nat.le_of_ble_eq_true rfl, Nat.le_of_ble_eq_true rfl⟩ hP hD [0, 1, 2, 3, 4, 5, 6, 7, 8, 9, 10, 11, 12, 13, 14, 15, 16, 17, 18, 19, 20] rfl rfl rfl rfl rfl hl.1 rfl (Nat.le_of_ble_eq_true rfl) dX1_doBatch_65 ⟨Nat.le_of_ble_eq_true rfl, Nat.le_of_ble_eq_true rfl⟩) hP hD hS hA [0, 1, 2, 3, 4, 5, 6, 7, 8, 9, 10, 11, 12, 13, 14, 15, 16, 17, 18, 19, 20] [] rfl rfl rfl (by decide) (fun u_65 H locs hwC hP hD hS => ?_)
              have hP : va_P E.1 classes [(h 0, .inr (1, [.ref (h 1), .ref (h 2), .ref (h 3), .ref (h 4), .ref (h 9), .ref (h 12), .ref (h 14), .ref (h 16), .long (nxtX x1), .int (und1 - 1), .int (nI (tk1 + 1)), .int (sp1 + 1), .int fd1, .int bd, .int ba1])), (h 1, .inl (E.2.1, n, .inl bg1)), (h 2, .inl (E.2.1, n, .inl (upd dr1 s (nI w)))), (h 3, .inl (E.2.2.1, n, .inr (.inl (vp_updL oc1 s ((vp_updL md1 w (mkst (md1 w) (vals s) (sm1 w))) w))))), (h 4, .inr (5, [.int (nI n), .ref (h 5), .ref (h 6), .ref (h 7), .ref (h 8)])), (h 5, .inl (E.2.2.1, n, .inr (.inl vals))), (h 6, .inl (E.2.1, n, .inl stp)), (h 7, .inl (E.2.1, n, .inl reg)), (h 8, .inl (E.2.2.2, n, .inl lo)), (h 9, .inr (0, [.ref (h 10), .int cnt, .ref (h 11)])), (h 10, .inl (E.2.1, n, .inl bo)), (h 11, .inl (E.2.1, n, .inl rg)), (h 12, .inr (3, [.int fc1, .ref (h 13)])), (h 13, .inl (E.2.2.1, 16, .inr (.inl fs1))), (h 14, .inr (4, [.ref (h 15), .int fr1, .int en1])), (h 15, .inl (E.2.1, n, .inl rw1)), (h 16, .inr (2, [.ref (h 17), .ref (h 18), .ref (h 19), .int lc1, .ref (h 20)])), (h 17, .inl (E.2.1, 16, .inl (upd so1 w (-1)))), (h 18, .inl (E.2.1, 16, .inl (upd sm1 w (sm1 w + 1)))), (h 19, .inl (E.2.2.1, 16, .inr (.inl (vp_updL md1 w (mkst (md1 w) (vals s) (sm1 w)))))), (h 20, .inl (E.2.1, 16, .inl lv1))] H := hP
              have hD : va_D AM [(h 0, .inr (1, [.ref (h 1), .ref (h 2), .ref (h 3), .ref (h 4), .ref (h 9), .ref (h 12), .ref (h 14), .ref (h 16), .long (nxtX x1), .int (und1 - 1), .int (nI (tk1 + 1)), .int (sp1 + 1), .int fd1, .int bd, .int ba1])), (h 1, .inl (E.2.1, n, .inl bg1)), (h 2, .inl (E.2.1, n, .inl (upd dr1 s (nI w)))), (h 3, .inl (E.2.2.1, n, .inr (.inl (vp_updL oc1 s ((vp_updL md1 w (mkst (md1 w) (vals s) (sm1 w))) w))))), (h 4, .inr (5, [.int (nI n), .ref (h 5), .ref (h 6), .ref (h 7), .ref (h 8)])), (h 5, .inl (E.2.2.1, n, .inr (.inl vals))), (h 6, .inl (E.2.1, n, .inl stp)), (h 7, .inl (E.2.1, n, .inl reg)), (h 8, .inl (E.2.2.2, n, .inl lo)), (h 9, .inr (0, [.ref (h 10), .int cnt, .ref (h 11)])), (h 10, .inl (E.2.1, n, .inl bo)), (h 11, .inl (E.2.1, n, .inl rg)), (h 12, .inr (3, [.int fc1, .ref (h 13)])), (h 13, .inl (E.2.2.1, 16, .inr (.inl fs1))), (h 14, .inr (4, [.ref (h 15), .int fr1, .int en1])), (h 15, .inl (E.2.1, n, .inl rw1)), (h 16, .inr (2, [.ref (h 17), .ref (h 18), .ref (h 19), .int lc1, .ref (h 20)])), (h 17, .inl (E.2.1, 16, .inl (upd so1 w (-1)))), (h 18, .inl (E.2.1, 16, .inl (upd sm1 w (sm1 w + 1)))), (h 19, .inl (E.2.2.1, 16, .inr (.inl (vp_updL md1 w (mkst (md1 w) (vals s) (sm1 w)))))), (h 20, .inl (E.2.1, 16, .inl lv1))] := hD
              refine lv_goto (tgt := 16) hx hb dX1_doBatch_68 (by decide) ?_
              exact ih16 (L1, K1, Q1, fu hd1 w none, fu mn1 w (mn1 w + 1), fu sd1 s 3, bg1, upd dr1 s (nI w), F1, nxtX x1, tk1 + 1, sp1 + 1, fd1, ba1, vp_updL oc1 s (vp_updL md1 w (mkst (md1 w) (vals s) (sm1 w)) w), fs1, vp_updL md1 w (mkst (md1 w) (vals s) (sm1 w)), rw1, upd so1 w (-1), upd sm1 w (sm1 w + 1), lv1, und1 - 1, fc1, fr1, en1, lc1) _ _ _ ⟨hP.sub [0, 1, 2, 3, 4, 5, 6, 7, 8, 9, 10, 11, 12, 13, 14, 15, 16, 17, 18, 19, 20] rfl, hD.sub [0, 1, 2, 3, 4, 5, 6, 7, 8, 9, 10, 11, 12, 13, 14, 15, 16, 17, 18, 19, 20] (by decide) rfl, hS, lv_sub hl [0, 1] rfl, inv_last hI hwL hho, rc_last hR (by omega) hwL hho hsn h2 hm, by omega, hBs.trans (by rw [tk_last hw hho hm hF])⟩ (by show 20000 - (tk1 + 1) < 20000 - tk1; omega)
          · refine af_v (wc := [(h 0, .inr (1, [.ref (h 1), .ref (h 2), .ref (h 3), .ref (h 4), .ref (h 9), .ref (h 12), .ref (h 14), .ref (h 16), .long (nxtX x1), .int und1, .int (nI (tk1 + 1)), .int sp1, .int fd1, .int bd, .int ba1])), (h 1, .inl (E.2.1, n, .inl bg1)), (h 2, .inl (E.2.1, n, .inl dr1)), (h 3, .inl (E.2.2.1, n, .inr (.inl oc1))), (h 4, .inr (5, [.int (nI n), .ref (h 5), .ref (h 6), .ref (h 7), .ref (h 8)])), (h 5, .inl (E.2.2.1, n, .inr (.inl vals))), (h 6, .inl (E.2.1, n, .inl stp)), (h 7, .inl (E.2.1, n, .inl reg)), (h 8, .inl (E.2.2.2, n, .inl lo)), (h 9, .inr (0, [.ref (h 10), .int cnt, .ref (h 11)])), (h 10, .inl (E.2.1, n, .inl bo)), (h 11, .inl (E.2.1, n, .inl rg)), (h 12, .inr (3, [.int fc1, .ref (h 13)])), (h 13, .inl (E.2.2.1, 16, .inr (.inl fs1))), (h 14, .inr (4, [.ref (h 15), .int fr1, .int en1])), (h 15, .inl (E.2.1, n, .inl rw1)), (h 16, .inr (2, [.ref (h 17), .ref (h 18), .ref (h 19), .int lc1, .ref (h 20)])), (h 17, .inl (E.2.1, 16, .inl so1)), (h 18, .inl (E.2.1, 16, .inl sm1)), (h 19, .inl (E.2.2.1, 16, .inr (.inl md1))), (h 20, .inl (E.2.1, 16, .inl lv1))]) (wr := []) (rn_V (b := h 0) (ci := 1) (As := [.int (nI (pickN (nxtX x1) L1.length))]) (rest := []) (n := 1) ⟨hx, hb, hml, hown, hts⟩ ta_cons wq_X1_113 (by decide +kernel) hK (c_act_step l E h n bg1 dr1 oc1 (nxtX x1) und1 (nI (tk1 + 1)) sp1 fd1 bd ba1 bo rg cnt fc1 fs1 rw1 fr1 en1 lc1 so1 sm1 lv1 md1 vals stp reg lo (pickN (nxtX x1) L1.length) w s (mn1 w) (st s) (by omega) (by omega) (a1 _ w hw) (hw16) (by rw [hsow, hho]; rfl) (hsn) (q1) (t1) (by omega) (by omega) _) ⟨Nat.le_of_ble_eq_true rfl, Nat.le_of_ble_eq_true rfl⟩ hP hD [0, 1, 2, 3, 4, 5, 6, 7, 8, 9, 10, 11, 12, 13, 14, 15, 16, 17, 18, 19, 20] rfl rfl rfl rfl rfl hl.1 rfl (Nat.le_of_ble_eq_true rfl) dX1_doBatch_65 ⟨Nat.le_of_ble_eq_true rfl, Nat.le_of_ble_eq_true rfl⟩) hP hD hS hA [0, 1, 2, 3, 4, 5, 6, 7, 8, 9, 10, 11, 12, 13, 14, 15, 16, 17, 18, 19, 20] [] rfl rfl rfl (by decide) (fun u_65 H locs hwC hP hD hS => ?_)
            have hP : va_P E.1 classes [(h 0, .inr (1, [.ref (h 1), .ref (h 2), .ref (h 3), .ref (h 4), .ref (h 9), .ref (h 12), .ref (h 14), .ref (h 16), .long (nxtX x1), .int und1, .int (nI (tk1 + 1)), .int (sp1 + 1), .int fd1, .int bd, .int ba1])), (h 1, .inl (E.2.1, n, .inl bg1)), (h 2, .inl (E.2.1, n, .inl dr1)), (h 3, .inl (E.2.2.1, n, .inr (.inl oc1))), (h 4, .inr (5, [.int (nI n), .ref (h 5), .ref (h 6), .ref (h 7), .ref (h 8)])), (h 5, .inl (E.2.2.1, n, .inr (.inl vals))), (h 6, .inl (E.2.1, n, .inl stp)), (h 7, .inl (E.2.1, n, .inl reg)), (h 8, .inl (E.2.2.2, n, .inl lo)), (h 9, .inr (0, [.ref (h 10), .int cnt, .ref (h 11)])), (h 10, .inl (E.2.1, n, .inl bo)), (h 11, .inl (E.2.1, n, .inl rg)), (h 12, .inr (3, [.int fc1, .ref (h 13)])), (h 13, .inl (E.2.2.1, 16, .inr (.inl fs1))), (h 14, .inr (4, [.ref (h 15), .int fr1, .int en1])), (h 15, .inl (E.2.1, n, .inl rw1)), (h 16, .inr (2, [.ref (h 17), .ref (h 18), .ref (h 19), .int lc1, .ref (h 20)])), (h 17, .inl (E.2.1, 16, .inl so1)), (h 18, .inl (E.2.1, 16, .inl (upd sm1 w (sm1 w + 1)))), (h 19, .inl (E.2.2.1, 16, .inr (.inl (vp_updL md1 w (mkst (md1 w) (vals s) (sm1 w)))))), (h 20, .inl (E.2.1, 16, .inl lv1))] H := hP
            have hD : va_D AM [(h 0, .inr (1, [.ref (h 1), .ref (h 2), .ref (h 3), .ref (h 4), .ref (h 9), .ref (h 12), .ref (h 14), .ref (h 16), .long (nxtX x1), .int und1, .int (nI (tk1 + 1)), .int (sp1 + 1), .int fd1, .int bd, .int ba1])), (h 1, .inl (E.2.1, n, .inl bg1)), (h 2, .inl (E.2.1, n, .inl dr1)), (h 3, .inl (E.2.2.1, n, .inr (.inl oc1))), (h 4, .inr (5, [.int (nI n), .ref (h 5), .ref (h 6), .ref (h 7), .ref (h 8)])), (h 5, .inl (E.2.2.1, n, .inr (.inl vals))), (h 6, .inl (E.2.1, n, .inl stp)), (h 7, .inl (E.2.1, n, .inl reg)), (h 8, .inl (E.2.2.2, n, .inl lo)), (h 9, .inr (0, [.ref (h 10), .int cnt, .ref (h 11)])), (h 10, .inl (E.2.1, n, .inl bo)), (h 11, .inl (E.2.1, n, .inl rg)), (h 12, .inr (3, [.int fc1, .ref (h 13)])), (h 13, .inl (E.2.2.1, 16, .inr (.inl fs1))), (h 14, .inr (4, [.ref (h 15), .int fr1, .int en1])), (h 15, .inl (E.2.1, n, .inl rw1)), (h 16, .inr (2, [.ref (h 17), .ref (h 18), .ref (h 19), .int lc1, .ref (h 20)])), (h 17, .inl (E.2.1, 16, .inl so1)), (h 18, .inl (E.2.1, 16, .inl (upd sm1 w (sm1 w + 1)))), (h 19, .inl (E.2.2.1, 16, .inr (.inl (vp_updL md1 w (mkst (md1 w) (vals s) (sm1 w)))))), (h 20, .inl (E.2.1, 16, .inl lv1))] := hD
            refine lv_goto (tgt := 16) hx hb dX1_doBatch_68 (by decide) ?_
            exact ih16 (L1, K1, Q1, hd1, fu mn1 w (mn1 w + 1), sd1, bg1, dr1, F1, nxtX x1, tk1 + 1, sp1 + 1, fd1, ba1, oc1, fs1, vp_updL md1 w (mkst (md1 w) (vals s) (sm1 w)), rw1, so1, upd sm1 w (sm1 w + 1), lv1, und1, fc1, fr1, en1, lc1) _ _ _ ⟨hP.sub [0, 1, 2, 3, 4, 5, 6, 7, 8, 9, 10, 11, 12, 13, 14, 15, 16, 17, 18, 19, 20] rfl, hD.sub [0, 1, 2, 3, 4, 5, 6, 7, 8, 9, 10, 11, 12, 13, 14, 15, 16, 17, 18, 19, 20] (by decide) rfl, hS, lv_sub hl [0, 1] rfl, inv_step hI hho (by omega), rc_step hR hwL hho, by omega, hBs.trans (by rw [tk_step hw hho hm])⟩ (by show 20000 - (tk1 + 1) < 20000 - tk1; omega)
end
section
/-! pure rows: the batches one after the other -/
theorem bRun_zero {n : Nat} {st : Nat → Nat} : ∀ (f : Nat) (σ σ' : RS), f + rTk σ = 20001 → rTk σ ≤ 20000 → bRun n st f σ = (0, σ') → cP oP (rS σ') n = 0 := by
  intro f
  induction f with
  | zero => intro σ σ' h1 h2; omega
  | succ f ih =>
    intro σ σ' h1 h2 h
    simp only [bRun] at h
    split at h
    · rename_i q
      cases h
      exact q
    · split at h
      · cases h
      · split at h
        · cases h
        · rename_i q
          exact ih (tickS st σ) σ' (by rw [tick_tk]; omega) (by rw [tick_tk]; omega) h
theorem bR_zero {n : Nat} {st : Nat → Nat} {σ σ' : RS} (h2 : rTk σ ≤ 20000) (h : bR n st σ = (0, σ')) : cP oP (rS σ') n = 0 := bRun_zero (20001 - rTk σ) σ σ' (by omega) h2 h
theorem g_ok {n : Nat} {st : Nat → Nat} {bo : Nat → Int32} {m b : Nat} {σ σ' : RS} (h : bR n st (iniB n bo b σ) = (0, σ')) : gRun n st bo (m + 1) b σ = gRun n st bo m (b + 1) σ' := by
  simp only [gRun]
  rw [h, if_pos rfl]
theorem g_bad {n : Nat} {st : Nat → Nat} {bo : Nat → Int32} {m b : Nat} {r : Int32} {σ σ' : RS} (h : bR n st (iniB n bo b σ) = (r, σ')) (hr : ¬ r = 0) : gRun n st bo (m + 1) b σ = (r, b, σ') := by
  simp only [gRun]
  rw [h, if_neg hr]
theorem memB_cg {bo bo' : Nat → Int32} {b : Int32} : ∀ n, (∀ s, s < n → bo s = bo' s) → memB bo b n = memB bo' b n := by
  intro n
  induction n with
  | zero => intro _; rfl
  | succ n ih =>
    intro h
    have e := ih (fun s hs => h s (by omega))
    by_cases q : bo n = b
    · rw [memB_in q, memB_in (by rw [← h n (by omega)]; exact q), e]
    · rw [memB_out q, memB_out (by rw [← h n (by omega)]; exact q), e]
theorem iniB_cg {n : Nat} {bo bo' : Nat → Int32} (h : ∀ s, s < n → bo s = bo' s) (b : Nat) (σ : RS) : iniB n bo b σ = iniB n bo' b σ := by
  obtain ⟨L, K, Q, hd, md, sd, bg, dr, F, x, tk, sp, fd, ba⟩ := σ
  have e : sd0 n bo b = sd0 n bo' b := by
    funext s
    unfold sd0
    by_cases q : s < n
    · simp [q, h s q]
    · simp [q]
  simp only [iniB]
  rw [memB_cg n h, e]
theorem gRun_cg {n : Nat} {st : Nat → Nat} {bo bo' : Nat → Int32} (h : ∀ s, s < n → bo s = bo' s) : ∀ (m b : Nat) (σ : RS), gRun n st bo m b σ = gRun n st bo' m b σ := by
  intro m
  induction m with
  | zero => intro b σ; rfl
  | succ m ih => intro b σ; simp only [gRun]; rw [iniB_cg h b σ, ih]
def rs0 (wk : Nat) (lo : Nat → Int32) (F : List (Nat × Nat)) (seed : Int64) : RS := (List.range wk, [], [], fun _ => none, fun _ => 0, fun _ => 0, bgS lo, fun _ => -1, F, seed, 0, 0, 0, 0)
theorem range_sorted (w : Nat) (h : w ≤ 16) : (List.range w).Pairwise (· < ·) ∧ ∀ v, v ∈ List.range w → v < 16 := ⟨List.pairwise_lt_range, fun v hv => by have := List.mem_range.mp hv; omega⟩
theorem range_at {w i v : Nat} (h : (List.range w)[i]? = some v) : v = i ∧ i < w := by
  obtain ⟨h1, h2⟩ := List.getElem?_eq_some_iff.mp h
  simp at h1 h2
  exact ⟨h2.symm, h1⟩
end
section
set_option maxHeartbeats 4000000 in
set_option maxRecDepth 100000 in
theorem c_goThrough (l : Launch) (E : EE) (h : Nat → Nat) (n : Nat) (bg : Nat → Int32) (dr : Nat → Int32) (oc : Nat → Int64) (x : Int64) (und : Int32) (tk : Int32) (sp : Int32) (fd : Int32) (bd : Int32) (ba : Int32) (bo : Nat → Int32) (rg : Nat → Int32) (cnt : Int32) (fc : Int32) (fs : Nat → Int64) (rw : Nat → Int32) (fr : Int32) (en : Int32) (lc : Int32) (so : Nat → Int32) (sm : Nat → Int32) (lv : Nat → Int32) (md : Nat → Int64) (vals : Nat → Int64) (stp : Nat → Int32) (reg : Nat → Int32) (lo : Nat → Int32) (st : Nat → Nat) (F : List (Nat × Nat)) (wk : Nat) (seed : Int64) (hn : n ≤ 64) (hst : ∀ s, s < n → stp s = nI (st s) ∧ 0 < st s ∧ st s ≤ 20) (hW : wk ≤ 16) (hFs : F.Nodup ∧ ∀ q, q ∈ F → q.1 < 16 ∧ q.2 < n) (hfc : fc = nI F.length) (ha8 : FRep n F fs) : Mi (S := (RS × (Nat → Int64) × (Nat → Int64) × (Nat → Int64) × (Nat → Int32) × (Nat → Int32) × (Nat → Int32) × (Nat → Int32) × Int32 × Int32 × Int32 × Int32 × Int32) × (Nat → Int32) × (Nat → Int32) × Nat × Nat) l E yX1_goThrough (.code yX1_goThrough cX1_goThrough 6 (some .int)) ({ frames := 5, cells := 0, slots := 0, locals := 113 }) [.ref (h 0), .int (nI wk), .long seed] [(h 0, .inr (1, [.ref (h 1), .ref (h 2), .ref (h 3), .ref (h 4), .ref (h 9), .ref (h 12), .ref (h 14), .ref (h 16), .long x, .int und, .int tk, .int sp, .int fd, .int bd, .int ba])), (h 1, .inl (E.2.1, n, .inl bg)), (h 2, .inl (E.2.1, n, .inl dr)), (h 3, .inl (E.2.2.1, n, .inr (.inl oc))), (h 4, .inr (5, [.int (nI n), .ref (h 5), .ref (h 6), .ref (h 7), .ref (h 8)])), (h 5, .inl (E.2.2.1, n, .inr (.inl vals))), (h 6, .inl (E.2.1, n, .inl stp)), (h 7, .inl (E.2.1, n, .inl reg)), (h 8, .inl (E.2.2.2, n, .inl lo)), (h 9, .inr (0, [.ref (h 10), .int cnt, .ref (h 11)])), (h 10, .inl (E.2.1, n, .inl bo)), (h 11, .inl (E.2.1, n, .inl rg)), (h 12, .inr (3, [.int fc, .ref (h 13)])), (h 13, .inl (E.2.2.1, 16, .inr (.inl fs))), (h 14, .inr (4, [.ref (h 15), .int fr, .int en])), (h 15, .inl (E.2.1, n, .inl rw)), (h 16, .inr (2, [.ref (h 17), .ref (h 18), .ref (h 19), .int lc, .ref (h 20)])), (h 17, .inl (E.2.1, 16, .inl so)), (h 18, .inl (E.2.1, 16, .inl sm)), (h 19, .inl (E.2.2.1, 16, .inr (.inl md))), (h 20, .inl (E.2.1, 16, .inl lv))] (fun (ans : Int32) (u : ((RS × (Nat → Int64) × (Nat → Int64) × (Nat → Int64) × (Nat → Int32) × (Nat → Int32) × (Nat → Int32) × (Nat → Int32) × Int32 × Int32 × Int32 × Int32 × Int32) × (Nat → Int32) × (Nat → Int32) × Nat × Nat)) => IsBat n lo reg u.2.1 ∧ IsCnt n u.2.1 u.2.2.2.1 ∧ u.2.2.2.1 ≤ n ∧ gRun n st u.2.1 u.2.2.2.1 0 (rs0 wk lo F seed) = (ans, u.2.2.2.2, u.1.1) ∧ rTk u.1.1 ≤ 20000 ∧ ((rF u.1.1).Nodup ∧ ∀ q, q ∈ rF u.1.1 → q.1 < 16 ∧ q.2 < n) ∧ u.1.2.2.2.2.2.2.2.2.2.1 = nI (rF u.1.1).length ∧ FRep n (rF u.1.1) u.1.2.2.1 ∧ u.1.2.2.2.2.2.2.2.2.2.2.2.2 = nI (rL u.1.1).length ∧ (∀ s, s < n → ¬ rDr u.1.1 s = -1 → u.1.2.1 s = stpF (vals s) (st s)) ∧ (ans = 0 → ∀ s, s < n → lo s = 0 → ¬ rDr u.1.1 s = -1)) (fun u : (RS × (Nat → Int64) × (Nat → Int64) × (Nat → Int64) × (Nat → Int32) × (Nat → Int32) × (Nat → Int32) × (Nat → Int32) × Int32 × Int32 × Int32 × Int32 × Int32) × (Nat → Int32) × (Nat → Int32) × Nat × Nat => [(h 0, .inr (1, [.ref (h 1), .ref (h 2), .ref (h 3), .ref (h 4), .ref (h 9), .ref (h 12), .ref (h 14), .ref (h 16), .long (rX u.1.1), .int u.1.2.2.2.2.2.2.2.2.1, .int (nI (rTk u.1.1)), .int (rSp u.1.1), .int (rFd u.1.1), .int (nI u.2.2.2.2), .int (rBa u.1.1)])), (h 1, .inl (E.2.1, n, .inl (rBg u.1.1))), (h 2, .inl (E.2.1, n, .inl (rDr u.1.1))), (h 3, .inl (E.2.2.1, n, .inr (.inl u.1.2.1))), (h 4, .inr (5, [.int (nI n), .ref (h 5), .ref (h 6), .ref (h 7), .ref (h 8)])), (h 5, .inl (E.2.2.1, n, .inr (.inl vals))), (h 6, .inl (E.2.1, n, .inl stp)), (h 7, .inl (E.2.1, n, .inl reg)), (h 8, .inl (E.2.2.2, n, .inl lo)), (h 9, .inr (0, [.ref (h 10), .int (nI u.2.2.2.1), .ref (h 11)])), (h 10, .inl (E.2.1, n, .inl u.2.1)), (h 11, .inl (E.2.1, n, .inl u.2.2.1)), (h 12, .inr (3, [.int u.1.2.2.2.2.2.2.2.2.2.1, .ref (h 13)])), (h 13, .inl (E.2.2.1, 16, .inr (.inl u.1.2.2.1))), (h 14, .inr (4, [.ref (h 15), .int u.1.2.2.2.2.2.2.2.2.2.2.1, .int u.1.2.2.2.2.2.2.2.2.2.2.2.1])), (h 15, .inl (E.2.1, n, .inl u.1.2.2.2.2.1)), (h 16, .inr (2, [.ref (h 17), .ref (h 18), .ref (h 19), .int u.1.2.2.2.2.2.2.2.2.2.2.2.2, .ref (h 20)])), (h 17, .inl (E.2.1, 16, .inl u.1.2.2.2.2.2.1)), (h 18, .inl (E.2.1, 16, .inl u.1.2.2.2.2.2.2.1)), (h 19, .inl (E.2.2.1, 16, .inr (.inl u.1.2.2.2.1))), (h 20, .inl (E.2.1, 16, .inl u.1.2.2.2.2.2.2.2.1))]) := by
  refine Mi.ofW (by decide) (Nat.le_of_ble_eq_true rfl) ?_
  intro pM eM sM mM bM meM cM AM ls hB hA hP hD hS hl
  obtain ⟨hx, hb, hr, hml, hown, hlocks, hnm, hts, hK⟩ := hB
  have hl : lv_has ls 6 [(0, .ref (h 0)), (1, .int (nI wk)), (2, .long seed)] := hl
  have hn31 : n < 2 ^ 31 := by omega
  refine lv_aload_n hx hb dX1_goThrough_0 rfl (lv_at hl 0 rfl) ?_
  refine lv_iload_n hx hb dX1_goThrough_1 rfl (lv_at hl 1 rfl) ?_
  refine lv_lload_n hx hb dX1_goThrough_2 rfl (lv_at hl 2 rfl) ?_
  refine af_v (wc := [(h 0, .inr (1, [.ref (h 1), .ref (h 2), .ref (h 3), .ref (h 4), .ref (h 9), .ref (h 12), .ref (h 14), .ref (h 16), .long x, .int und, .int tk, .int sp, .int fd, .int bd, .int ba])), (h 1, .inl (E.2.1, n, .inl bg)), (h 2, .inl (E.2.1, n, .inl dr)), (h 3, .inl (E.2.2.1, n, .inr (.inl oc))), (h 4, .inr (5, [.int (nI n), .ref (h 5), .ref (h 6), .ref (h 7), .ref (h 8)])), (h 5, .inl (E.2.2.1, n, .inr (.inl vals))), (h 6, .inl (E.2.1, n, .inl stp)), (h 7, .inl (E.2.1, n, .inl reg)), (h 8, .inl (E.2.2.2, n, .inl lo)), (h 9, .inr (0, [.ref (h 10), .int cnt, .ref (h 11)])), (h 10, .inl (E.2.1, n, .inl bo)), (h 11, .inl (E.2.1, n, .inl rg)), (h 12, .inr (3, [.int fc, .ref (h 13)])), (h 13, .inl (E.2.2.1, 16, .inr (.inl fs))), (h 14, .inr (4, [.ref (h 15), .int fr, .int en])), (h 15, .inl (E.2.1, n, .inl rw)), (h 16, .inr (2, [.ref (h 17), .ref (h 18), .ref (h 19), .int lc, .ref (h 20)])), (h 17, .inl (E.2.1, 16, .inl so)), (h 18, .inl (E.2.1, 16, .inl sm)), (h 19, .inl (E.2.2.1, 16, .inr (.inl md))), (h 20, .inl (E.2.1, 16, .inl lv))]) (wr := []) (rn_V (b := h 0) (ci := 1) (As := [.int (nI wk), .long seed]) (rest := []) (n := 2) ⟨hx, hb, hml, hown, hts⟩ ta_cons wq_X1_80 (by decide +kernel) hK (c_start l E h n bg dr oc x und tk sp fd bd ba bo rg cnt fc fs rw fr en lc so sm lv md vals stp reg lo wk seed (by omega) (hW) _) ⟨Nat.le_of_ble_eq_true rfl, Nat.le_of_ble_eq_true rfl⟩ hP hD [0, 1, 2, 3, 4, 5, 6, 7, 8, 9, 10, 11, 12, 13, 14, 15, 16, 17, 18, 19, 20] rfl rfl rfl rfl rfl hl.1 rfl (Nat.le_of_ble_eq_true rfl) dX1_goThrough_3 ⟨Nat.le_of_ble_eq_true rfl, Nat.le_of_ble_eq_true rfl⟩) hP hD hS hA [0, 1, 2, 3, 4, 5, 6, 7, 8, 9, 10, 11, 12, 13, 14, 15, 16, 17, 18, 19, 20] [] rfl rfl rfl (by decide) (fun u_3 H locs hwC hP hD hS => ?_)
  obtain ⟨so0, lv0, bo0, rg0, c0⟩ := u_3
  have g0 : (∀ j, j < wk → so0 j = -1 ∧ lv0 j = nI j) ∧ IsBat n lo reg bo0 ∧ IsCnt n bo0 c0 ∧ c0 ≤ n := hwC
  have hP : va_P E.1 classes [(h 0, .inr (1, [.ref (h 1), .ref (h 2), .ref (h 3), .ref (h 4), .ref (h 9), .ref (h 12), .ref (h 14), .ref (h 16), .long seed, .int und, .int 0, .int 0, .int 0, .int 0, .int 0])), (h 1, .inl (E.2.1, n, .inl (bgS lo))), (h 2, .inl (E.2.1, n, .inl (fun _ => -1))), (h 3, .inl (E.2.2.1, n, .inr (.inl oc))), (h 4, .inr (5, [.int (nI n), .ref (h 5), .ref (h 6), .ref (h 7), .ref (h 8)])), (h 5, .inl (E.2.2.1, n, .inr (.inl vals))), (h 6, .inl (E.2.1, n, .inl stp)), (h 7, .inl (E.2.1, n, .inl reg)), (h 8, .inl (E.2.2.2, n, .inl lo)), (h 9, .inr (0, [.ref (h 10), .int (nI c0), .ref (h 11)])), (h 10, .inl (E.2.1, n, .inl bo0)), (h 11, .inl (E.2.1, n, .inl rg0)), (h 12, .inr (3, [.int fc, .ref (h 13)])), (h 13, .inl (E.2.2.1, 16, .inr (.inl fs))), (h 14, .inr (4, [.ref (h 15), .int fr, .int en])), (h 15, .inl (E.2.1, n, .inl rw)), (h 16, .inr (2, [.ref (h 17), .ref (h 18), .ref (h 19), .int (nI wk), .ref (h 20)])), (h 17, .inl (E.2.1, 16, .inl so0)), (h 18, .inl (E.2.1, 16, .inl sm)), (h 19, .inl (E.2.2.1, 16, .inr (.inl md))), (h 20, .inl (E.2.1, 16, .inl lv0))] H := hP
  have hD : va_D AM [(h 0, .inr (1, [.ref (h 1), .ref (h 2), .ref (h 3), .ref (h 4), .ref (h 9), .ref (h 12), .ref (h 14), .ref (h 16), .long seed, .int und, .int 0, .int 0, .int 0, .int 0, .int 0])), (h 1, .inl (E.2.1, n, .inl (bgS lo))), (h 2, .inl (E.2.1, n, .inl (fun _ => -1))), (h 3, .inl (E.2.2.1, n, .inr (.inl oc))), (h 4, .inr (5, [.int (nI n), .ref (h 5), .ref (h 6), .ref (h 7), .ref (h 8)])), (h 5, .inl (E.2.2.1, n, .inr (.inl vals))), (h 6, .inl (E.2.1, n, .inl stp)), (h 7, .inl (E.2.1, n, .inl reg)), (h 8, .inl (E.2.2.2, n, .inl lo)), (h 9, .inr (0, [.ref (h 10), .int (nI c0), .ref (h 11)])), (h 10, .inl (E.2.1, n, .inl bo0)), (h 11, .inl (E.2.1, n, .inl rg0)), (h 12, .inr (3, [.int fc, .ref (h 13)])), (h 13, .inl (E.2.2.1, 16, .inr (.inl fs))), (h 14, .inr (4, [.ref (h 15), .int fr, .int en])), (h 15, .inl (E.2.1, n, .inl rw)), (h 16, .inr (2, [.ref (h 17), .ref (h 18), .ref (h 19), .int (nI wk), .ref (h 20)])), (h 17, .inl (E.2.1, 16, .inl so0)), (h 18, .inl (E.2.1, 16, .inl sm)), (h 19, .inl (E.2.2.1, 16, .inr (.inl md))), (h 20, .inl (E.2.1, 16, .inl lv0))] := hD
  refine lv_iconst (v := 0) hx hb dX1_goThrough_6 (by decide) ?_
  refine lv_istore (lv' := [(4, .int 0), (0, .ref (h 0)), (1, .int (nI wk)), (2, .long seed)]) hx hb dX1_goThrough_7 hl (by decide) rfl (fun ls hl => ?_)
  refine W.loop (σ := (Nat) × (List Nat) × (List Nat) × (List Nat) × (Nat → Option Nat) × (Nat → Nat) × (Nat → Nat) × (Nat → Int32) × (Nat → Int32) × (List (Nat × Nat)) × (Int64) × (Nat) × (Int32) × (Int32) × (Int32) × (Nat → Int64) × (Nat → Int64) × (Nat → Int64) × (Nat → Int32) × (Nat → Int32) × (Nat → Int32) × (Nat → Int32) × (Int32) × (Int32) × (Int32) × (Int32) × (Int32)) (fun a H locs ls => match a with | (b, L1, K1, Q1, hd1, mn1, sd1, bg1, dr1, F1, x1, tk1, sp1, fd1, ba1, oc1, fs1, md1, rw1, so1, sm1, lv1, und1, fc1, fr1, en1, lc1) => va_P E.1 classes [(h 0, .inr (1, [.ref (h 1), .ref (h 2), .ref (h 3), .ref (h 4), .ref (h 9), .ref (h 12), .ref (h 14), .ref (h 16), .long x1, .int und1, .int (nI tk1), .int sp1, .int fd1, .int (nI b), .int ba1])), (h 1, .inl (E.2.1, n, .inl bg1)), (h 2, .inl (E.2.1, n, .inl dr1)), (h 3, .inl (E.2.2.1, n, .inr (.inl oc1))), (h 4, .inr (5, [.int (nI n), .ref (h 5), .ref (h 6), .ref (h 7), .ref (h 8)])), (h 5, .inl (E.2.2.1, n, .inr (.inl vals))), (h 6, .inl (E.2.1, n, .inl stp)), (h 7, .inl (E.2.1, n, .inl reg)), (h 8, .inl (E.2.2.2, n, .inl lo)), (h 9, .inr (0, [.ref (h 10), .int (nI c0), .ref (h 11)])), (h 10, .inl (E.2.1, n, .inl bo0)), (h 11, .inl (E.2.1, n, .inl rg0)), (h 12, .inr (3, [.int fc1, .ref (h 13)])), (h 13, .inl (E.2.2.1, 16, .inr (.inl fs1))), (h 14, .inr (4, [.ref (h 15), .int fr1, .int en1])), (h 15, .inl (E.2.1, n, .inl rw1)), (h 16, .inr (2, [.ref (h 17), .ref (h 18), .ref (h 19), .int lc1, .ref (h 20)])), (h 17, .inl (E.2.1, 16, .inl so1)), (h 18, .inl (E.2.1, 16, .inl sm1)), (h 19, .inl (E.2.2.1, 16, .inr (.inl md1))), (h 20, .inl (E.2.1, 16, .inl lv1))] H ∧ va_D AM [(h 0, .inr (1, [.ref (h 1), .ref (h 2), .ref (h 3), .ref (h 4), .ref (h 9), .ref (h 12), .ref (h 14), .ref (h 16), .long x1, .int und1, .int (nI tk1), .int sp1, .int fd1, .int (nI b), .int ba1])), (h 1, .inl (E.2.1, n, .inl bg1)), (h 2, .inl (E.2.1, n, .inl dr1)), (h 3, .inl (E.2.2.1, n, .inr (.inl oc1))), (h 4, .inr (5, [.int (nI n), .ref (h 5), .ref (h 6), .ref (h 7), .ref (h 8)])), (h 5, .inl (E.2.2.1, n, .inr (.inl vals))), (h 6, .inl (E.2.1, n, .inl stp)), (h 7, .inl (E.2.1, n, .inl reg)), (h 8, .inl (E.2.2.2, n, .inl lo)), (h 9, .inr (0, [.ref (h 10), .int (nI c0), .ref (h 11)])), (h 10, .inl (E.2.1, n, .inl bo0)), (h 11, .inl (E.2.1, n, .inl rg0)), (h 12, .inr (3, [.int fc1, .ref (h 13)])), (h 13, .inl (E.2.2.1, 16, .inr (.inl fs1))), (h 14, .inr (4, [.ref (h 15), .int fr1, .int en1])), (h 15, .inl (E.2.1, n, .inl rw1)), (h 16, .inr (2, [.ref (h 17), .ref (h 18), .ref (h 19), .int lc1, .ref (h 20)])), (h 17, .inl (E.2.1, 16, .inl so1)), (h 18, .inl (E.2.1, 16, .inl sm1)), (h 19, .inl (E.2.2.1, 16, .inr (.inl md1))), (h 20, .inl (E.2.1, 16, .inl lv1))] ∧ va_S AM sM.heap H locs ∧ lv_has ls 6 [(4, .int (nI b)), (0, .ref (h 0))] ∧ (b ≤ c0) ∧ (tk1 ≤ 20000) ∧ ((L1).Pairwise (· < ·) ∧ ∀ w, w ∈ L1 → w < 16) ∧ (∀ w, w ∈ L1 → hd1 w = none) ∧ ((F1).Nodup ∧ ∀ q, q ∈ F1 → q.1 < 16 ∧ q.2 < n) ∧ (∀ s, s < n → ∀ b', b' < b → bo0 s = nI b' → ¬ dr1 s = -1) ∧ (lc1 = nI (L1).length) ∧ (fc1 = nI (F1).length) ∧ (∀ i w, (L1)[i]? = some w → lv1 i = nI w) ∧ (∀ w, w ∈ L1 → so1 w = hI (hd1 w)) ∧ (∀ s, s < n → ¬ dr1 s = -1 → oc1 s = stpF (vals s) (st s)) ∧ (FRep n F1 fs1) ∧ (gRun n st bo0 c0 0 (rs0 wk lo F seed) = gRun n st bo0 (c0 - b) b (L1, K1, Q1, hd1, mn1, sd1, bg1, dr1, F1, x1, tk1, sp1, fd1, ba1))) (fun a => match a with | (b, L1, K1, Q1, hd1, mn1, sd1, bg1, dr1, F1, x1, tk1, sp1, fd1, ba1, oc1, fs1, md1, rw1, so1, sm1, lv1, und1, fc1, fr1, en1, lc1) => c0 - b) (0, List.range wk, [], [], fun _ => none, fun _ => 0, fun _ => 0, bgS lo, fun _ => -1, F, seed, 0, 0, 0, 0, oc, fs, md, rw, so0, sm, lv0, und, fc, fr, en, nI wk) ⟨hP.sub [0, 1, 2, 3, 4, 5, 6, 7, 8, 9, 10, 11, 12, 13, 14, 15, 16, 17, 18, 19, 20] rfl, hD.sub [0, 1, 2, 3, 4, 5, 6, 7, 8, 9, 10, 11, 12, 13, 14, 15, 16, 17, 18, 19, 20] (by decide) rfl, hS, lv_sub hl [0, 1] rfl, Nat.zero_le _, Nat.zero_le _, range_sorted wk hW, fun _ _ => rfl, hFs, fun s _ b' hb' => absurd hb' (Nat.not_lt_zero _), by rw [List.length_range], hfc, fun i w hi => by
      obtain ⟨q1, q2⟩ := range_at hi
      rw [q1]; exact (g0.1 i q2).2, fun w hw => (g0.1 w (List.mem_range.mp hw)).1, fun s _ z => absurd rfl z, ha8, rfl⟩ ?_
  intro a H locs ls hI ih9
  obtain ⟨b, L1, K1, Q1, hd1, mn1, sd1, bg1, dr1, F1, x1, tk1, sp1, fd1, ba1, oc1, fs1, md1, rw1, so1, sm1, lv1, und1, fc1, fr1, en1, lc1⟩ := a
  obtain ⟨hP, hD, hS, hl, hb0, hT, hLs, hhd, hF1, hj, hlc, hfc1, ha1, ha2, ha7, ha81, hB⟩ := hI
  have hP : va_P E.1 classes [(h 0, .inr (1, [.ref (h 1), .ref (h 2), .ref (h 3), .ref (h 4), .ref (h 9), .ref (h 12), .ref (h 14), .ref (h 16), .long x1, .int und1, .int (nI tk1), .int sp1, .int fd1, .int (nI b), .int ba1])), (h 1, .inl (E.2.1, n, .inl bg1)), (h 2, .inl (E.2.1, n, .inl dr1)), (h 3, .inl (E.2.2.1, n, .inr (.inl oc1))), (h 4, .inr (5, [.int (nI n), .ref (h 5), .ref (h 6), .ref (h 7), .ref (h 8)])), (h 5, .inl (E.2.2.1, n, .inr (.inl vals))), (h 6, .inl (E.2.1, n, .inl stp)), (h 7, .inl (E.2.1, n, .inl reg)), (h 8, .inl (E.2.2.2, n, .inl lo)), (h 9, .inr (0, [.ref (h 10), .int (nI c0), .ref (h 11)])), (h 10, .inl (E.2.1, n, .inl bo0)), (h 11, .inl (E.2.1, n, .inl rg0)), (h 12, .inr (3, [.int fc1, .ref (h 13)])), (h 13, .inl (E.2.2.1, 16, .inr (.inl fs1))), (h 14, .inr (4, [.ref (h 15), .int fr1, .int en1])), (h 15, .inl (E.2.1, n, .inl rw1)), (h 16, .inr (2, [.ref (h 17), .ref (h 18), .ref (h 19), .int lc1, .ref (h 20)])), (h 17, .inl (E.2.1, 16, .inl so1)), (h 18, .inl (E.2.1, 16, .inl sm1)), (h 19, .inl (E.2.2.1, 16, .inr (.inl md1))), (h 20, .inl (E.2.1, 16, .inl lv1))] H := hP
  have hD : va_D AM [(h 0, .inr (1, [.ref (h 1), .ref (h 2), .ref (h 3), .ref (h 4), .ref (h 9), .ref (h 12), .ref (h 14), .ref (h 16), .long x1, .int und1, .int (nI tk1), .int sp1, .int fd1, .int (nI b), .int ba1])), (h 1, .inl (E.2.1, n, .inl bg1)), (h 2, .inl (E.2.1, n, .inl dr1)), (h 3, .inl (E.2.2.1, n, .inr (.inl oc1))), (h 4, .inr (5, [.int (nI n), .ref (h 5), .ref (h 6), .ref (h 7), .ref (h 8)])), (h 5, .inl (E.2.2.1, n, .inr (.inl vals))), (h 6, .inl (E.2.1, n, .inl stp)), (h 7, .inl (E.2.1, n, .inl reg)), (h 8, .inl (E.2.2.2, n, .inl lo)), (h 9, .inr (0, [.ref (h 10), .int (nI c0), .ref (h 11)])), (h 10, .inl (E.2.1, n, .inl bo0)), (h 11, .inl (E.2.1, n, .inl rg0)), (h 12, .inr (3, [.int fc1, .ref (h 13)])), (h 13, .inl (E.2.2.1, 16, .inr (.inl fs1))), (h 14, .inr (4, [.ref (h 15), .int fr1, .int en1])), (h 15, .inl (E.2.1, n, .inl rw1)), (h 16, .inr (2, [.ref (h 17), .ref (h 18), .ref (h 19), .int lc1, .ref (h 20)])), (h 17, .inl (E.2.1, 16, .inl so1)), (h 18, .inl (E.2.1, 16, .inl sm1)), (h 19, .inl (E.2.2.1, 16, .inr (.inl md1))), (h 20, .inl (E.2.1, 16, .inl lv1))] := hD
  have hl : lv_has ls 6 [(4, .int (nI b)), (0, .ref (h 0))] := hl
  have hb0 : b ≤ c0 := hb0
  have hT : tk1 ≤ 20000 := hT
  have hLs : (L1).Pairwise (· < ·) ∧ ∀ w, w ∈ L1 → w < 16 := hLs
  have hhd : ∀ w, w ∈ L1 → hd1 w = none := hhd
  have hF1 : (F1).Nodup ∧ ∀ q, q ∈ F1 → q.1 < 16 ∧ q.2 < n := hF1
  have hj : ∀ s, s < n → ∀ b', b' < b → bo0 s = nI b' → ¬ dr1 s = -1 := hj
  have hlc : lc1 = nI (L1).length := hlc
  have hfc1 : fc1 = nI (F1).length := hfc1
  have ha1 : ∀ i w, (L1)[i]? = some w → lv1 i = nI w := ha1
  have ha2 : ∀ w, w ∈ L1 → so1 w = hI (hd1 w) := ha2
  have ha7 : ∀ s, s < n → ¬ dr1 s = -1 → oc1 s = stpF (vals s) (st s) := ha7
  have ha81 : FRep n F1 fs1 := ha81
  have hB : gRun n st bo0 c0 0 (rs0 wk lo F seed) = gRun n st bo0 (c0 - b) b (L1, K1, Q1, hd1, mn1, sd1, bg1, dr1, F1, x1, tk1, sp1, fd1, ba1) := hB
  refine lv_iload hx hb dX1_goThrough_9 (lv_at hl 0 rfl) ?_
  refine lv_aload_n hx hb dX1_goThrough_11 rfl (lv_at hl 1 rfl) ?_
  refine va_get (D := E.1) (ci := 1) (v := .ref (h 9)) (C := RX1) (T := TX1) (N := 15) hx hb hts ux_X1' hown hK.1 hP 0 rfl rfl 4 (by decide) (hts _ (ta_cons _ mw_186)) (fun _ h9 => h9) rfl dX1_goThrough_12 ?_
  refine va_get (D := E.1) (ci := 0) (v := .int (nI c0)) (C := RX0) (T := TX0) (N := 3) hx hb hts ux_X0' hown hK.1 hP 9 rfl rfl 1 (by decide) (hts _ (ta_cons _ mw_99)) (fun _ h9 => h9) rfl dX1_goThrough_15 ?_
  refine lv_icmp_ge (tgt := 53) hx hb dX1_goThrough_18 (by decide) (fun c_18 => ?_) (fun c_18 => ?_)
  · have c_18 : c0 ≤ b := (nI_leI (by omega) (by omega)).mp c_18
    have e9 : b = c0 := by omega
    subst e9
    refine lv_iconst (v := 0) hx hb dX1_goThrough_53 (by decide) ?_
    exact Ri hx hb hr hlocks hP hD hS (((L1, K1, Q1, hd1, mn1, sd1, bg1, dr1, F1, x1, tk1, sp1, fd1, ba1), oc1, fs1, md1, rw1, so1, sm1, lv1, und1, fc1, fr1, en1, lc1), bo0, rg0, b, b) [0, 1, 2, 3, 4, 5, 6, 7, 8, 9, 10, 11, 12, 13, 14, 15, 16, 17, 18, 19, 20] rfl rfl (⟨g0.2.1, g0.2.2.1, g0.2.2.2, hB.trans (by rw [Nat.sub_self]; rfl), hT, hF1, hfc1, ha81, hlc, ha7, fun _ s hs hl => by
        rcases g0.2.1 s hs with z | ⟨z1, b9, z2, z3, z4⟩
        · exact absurd hl z.1
        · exact hj s hs b9 (g0.2.2.1.1 s b9 hs (by omega) z3) z3⟩) (Nat.le_of_ble_eq_true rfl) (Nat.le_of_ble_eq_true rfl) dX1_goThrough_54
  · have c_18 : b < c0 := by
      rcases Nat.lt_or_ge b c0 with q | q
      · exact q
      · exact absurd ((nI_leI (by omega) (by omega)).mpr q) c_18
    refine lv_aload_n hx hb dX1_goThrough_21 rfl (lv_at hl 1 rfl) ?_
    refine lv_iload hx hb dX1_goThrough_22 (lv_at hl 0 rfl) ?_
    refine af_i (wc := [(h 0, .inr (1, [.ref (h 1), .ref (h 2), .ref (h 3), .ref (h 4), .ref (h 9), .ref (h 12), .ref (h 14), .ref (h 16), .long x1, .int und1, .int (nI tk1), .int sp1, .int fd1, .int (nI b), .int ba1])), (h 1, .inl (E.2.1, n, .inl bg1)), (h 2, .inl (E.2.1, n, .inl dr1)), (h 3, .inl (E.2.2.1, n, .inr (.inl oc1))), (h 4, .inr (5, [.int (nI n), .ref (h 5), .ref (h 6), .ref (h 7), .ref (h 8)])), (h 5, .inl (E.2.2.1, n, .inr (.inl vals))), (h 6, .inl (E.2.1, n, .inl stp)), (h 7, .inl (E.2.1, n, .inl reg)), (h 8, .inl (E.2.2.2, n, .inl lo)), (h 9, .inr (0, [.ref (h 10), .int (nI c0), .ref (h 11)])), (h 10, .inl (E.2.1, n, .inl bo0)), (h 11, .inl (E.2.1, n, .inl rg0)), (h 12, .inr (3, [.int fc1, .ref (h 13)])), (h 13, .inl (E.2.2.1, 16, .inr (.inl fs1))), (h 14, .inr (4, [.ref (h 15), .int fr1, .int en1])), (h 15, .inl (E.2.1, n, .inl rw1)), (h 16, .inr (2, [.ref (h 17), .ref (h 18), .ref (h 19), .int lc1, .ref (h 20)])), (h 17, .inl (E.2.1, 16, .inl so1)), (h 18, .inl (E.2.1, 16, .inl sm1)), (h 19, .inl (E.2.2.1, 16, .inr (.inl md1))), (h 20, .inl (E.2.1, 16, .inl lv1))]) (wr := []) (rn_V (b := h 0) (ci := 1) (As := [.int (nI b)]) (rest := []) (n := 1) ⟨hx, hb, hml, hown, hts⟩ ta_cons wq_X1_87 (by decide +kernel) hK (c_doBatch l E h n b st bo0 rg0 (nI c0) vals stp reg lo (nI b) L1 hd1 mn1 bg1 dr1 F1 x1 tk1 sp1 fd1 ba1 oc1 fs1 md1 rw1 so1 sm1 lv1 und1 fc1 fr1 en1 lc1 (hn) (hst) (hT) (hLs) (hhd) (hF1) (hj) (hlc) (hfc1) (ha1) (ha2) (ha7) (ha81) _) ⟨Nat.le_of_ble_eq_true rfl, Nat.le_of_ble_eq_true rfl⟩ hP hD [0, 1, 2, 3, 4, 5, 6, 7, 8, 9, 10, 11, 12, 13, 14, 15, 16, 17, 18, 19, 20] rfl rfl rfl rfl rfl hl.1 rfl (Nat.le_of_ble_eq_true rfl) dX1_goThrough_24 ⟨Nat.le_of_ble_eq_true rfl, Nat.le_of_ble_eq_true rfl⟩) hP hD hS hA [0, 1, 2, 3, 4, 5, 6, 7, 8, 9, 10, 11, 12, 13, 14, 15, 16, 17, 18, 19, 20] [] rfl rfl rfl (by decide) (fun r_24 u_24 H locs hwC hP hD hS => ?_)
    obtain ⟨⟨L2, K2, Q2, hd2, mn2, sd2, bg2, dr2, F2, x2, tk2, sp2, fd2, ba2⟩, oc2, fs2, md2, rw2, so2, sm2, lv2, und2, fc2, fr2, en2, lc2⟩ := u_24
    obtain ⟨hb2, hI2, hR2, hT2⟩ : bR n st (iniB n bo0 b (L1, K1, Q1, hd1, mn1, sd1, bg1, dr1, F1, x1, tk1, sp1, fd1, ba1)) = (r_24, (L2, K2, Q2, hd2, mn2, sd2, bg2, dr2, F2, x2, tk2, sp2, fd2, ba2)) ∧ InvC n st bo0 b L2 K2 Q2 hd2 mn2 sd2 dr2 F2 ∧ RC n vals st L2 K2 Q2 hd2 mn2 sd2 dr2 F2 oc2 fs2 md2 rw2 so2 sm2 lv2 und2 fc2 fr2 en2 lc2 ∧ tk2 ≤ 20000 := hwC
    obtain ⟨f2, ⟨e1, e2, e3, e4, e5⟩, a1, a2, a3, a4, a5, a6, a7, a8⟩ := id hR2
    have hP : va_P E.1 classes [(h 0, .inr (1, [.ref (h 1), .ref (h 2), .ref (h 3), .ref (h 4), .ref (h 9), .ref (h 12), .ref (h 14), .ref (h 16), .long x2, .int und2, .int (nI tk2), .int sp2, .int fd2, .int (nI b), .int ba2])), (h 1, .inl (E.2.1, n, .inl bg2)), (h 2, .inl (E.2.1, n, .inl dr2)), (h 3, .inl (E.2.2.1, n, .inr (.inl oc2))), (h 4, .inr (5, [.int (nI n), .ref (h 5), .ref (h 6), .ref (h 7), .ref (h 8)])), (h 5, .inl (E.2.2.1, n, .inr (.inl vals))), (h 6, .inl (E.2.1, n, .inl stp)), (h 7, .inl (E.2.1, n, .inl reg)), (h 8, .inl (E.2.2.2, n, .inl lo)), (h 9, .inr (0, [.ref (h 10), .int (nI c0), .ref (h 11)])), (h 10, .inl (E.2.1, n, .inl bo0)), (h 11, .inl (E.2.1, n, .inl rg0)), (h 12, .inr (3, [.int fc2, .ref (h 13)])), (h 13, .inl (E.2.2.1, 16, .inr (.inl fs2))), (h 14, .inr (4, [.ref (h 15), .int fr2, .int en2])), (h 15, .inl (E.2.1, n, .inl rw2)), (h 16, .inr (2, [.ref (h 17), .ref (h 18), .ref (h 19), .int lc2, .ref (h 20)])), (h 17, .inl (E.2.1, 16, .inl so2)), (h 18, .inl (E.2.1, 16, .inl sm2)), (h 19, .inl (E.2.2.1, 16, .inr (.inl md2))), (h 20, .inl (E.2.1, 16, .inl lv2))] H := hP
    have hD : va_D AM [(h 0, .inr (1, [.ref (h 1), .ref (h 2), .ref (h 3), .ref (h 4), .ref (h 9), .ref (h 12), .ref (h 14), .ref (h 16), .long x2, .int und2, .int (nI tk2), .int sp2, .int fd2, .int (nI b), .int ba2])), (h 1, .inl (E.2.1, n, .inl bg2)), (h 2, .inl (E.2.1, n, .inl dr2)), (h 3, .inl (E.2.2.1, n, .inr (.inl oc2))), (h 4, .inr (5, [.int (nI n), .ref (h 5), .ref (h 6), .ref (h 7), .ref (h 8)])), (h 5, .inl (E.2.2.1, n, .inr (.inl vals))), (h 6, .inl (E.2.1, n, .inl stp)), (h 7, .inl (E.2.1, n, .inl reg)), (h 8, .inl (E.2.2.2, n, .inl lo)), (h 9, .inr (0, [.ref (h 10), .int (nI c0), .ref (h 11)])), (h 10, .inl (E.2.1, n, .inl bo0)), (h 11, .inl (E.2.1, n, .inl rg0)), (h 12, .inr (3, [.int fc2, .ref (h 13)])), (h 13, .inl (E.2.2.1, 16, .inr (.inl fs2))), (h 14, .inr (4, [.ref (h 15), .int fr2, .int en2])), (h 15, .inl (E.2.1, n, .inl rw2)), (h 16, .inr (2, [.ref (h 17), .ref (h 18), .ref (h 19), .int lc2, .ref (h 20)])), (h 17, .inl (E.2.1, 16, .inl so2)), (h 18, .inl (E.2.1, 16, .inl sm2)), (h 19, .inl (E.2.2.1, 16, .inr (.inl md2))), (h 20, .inl (E.2.1, 16, .inl lv2))] := hD
    refine lv_istore (lv' := [(5, .int r_24), (4, .int (nI b)), (0, .ref (h 0))]) hx hb dX1_goThrough_27 hl (by decide) rfl (fun ls hl => ?_)
    refine lv_iload hx hb dX1_goThrough_29 (lv_at hl 0 rfl) ?_
    refine lv_if_eq (tgt := 37) hx hb dX1_goThrough_31 (by decide) (fun c_31 => ?_) (fun c_31 => ?_)
    · subst c_31
      have z0 := bR_zero (σ := iniB n bo0 b (L1, K1, Q1, hd1, mn1, sd1, bg1, dr1, F1, x1, tk1, sp1, fd1, ba1)) hT hb2
      obtain ⟨y1, y2, y3, y4⟩ := inv_end hI2 z0
      refine lv_aload_n hx hb dX1_goThrough_37 rfl (lv_at hl 2 rfl) ?_
      refine lv_dup hx hb dX1_goThrough_38 rfl ?_
      refine va_get (D := E.1) (ci := 1) (v := .int (nI b)) (C := RX1) (T := TX1) (N := 15) hx hb hts ux_X1' hown hK.1 hP 0 rfl rfl 13 (by decide) (hts _ (ta_cons _ mw_195)) (fun _ h9 => h9) rfl dX1_goThrough_39 ?_
      refine lv_iconst (v := 1) hx hb dX1_goThrough_42 (by decide) ?_
      refine lv_iadd hx hb dX1_goThrough_43 ?_
      refine tp_i (y := nI (b + 1)) (nI_1 b) ?_
      refine va_put (D := E.1) (ci := 1) (v := .int (nI (b + 1))) (ty := .int) (C := RX1) (T := TX1) (N := 15) hx hb hts ux_X1' tyX1 tyX1_ok nmX1 hown hK.1 hP hD hS 0 rfl rfl 13 (by decide) (hts _ (ta_cons _ mw_195)) (fun _ h9 => h9) rfl (by decide +kernel) rfl rfl (Nat.le_of_ble_eq_true rfl) dX1_goThrough_44 (fun H locs hP hD hS => ?_)
      have hP : va_P E.1 classes [(h 0, .inr (1, [.ref (h 1), .ref (h 2), .ref (h 3), .ref (h 4), .ref (h 9), .ref (h 12), .ref (h 14), .ref (h 16), .long x2, .int und2, .int (nI tk2), .int sp2, .int fd2, .int (nI (b + 1)), .int ba2])), (h 1, .inl (E.2.1, n, .inl bg2)), (h 2, .inl (E.2.1, n, .inl dr2)), (h 3, .inl (E.2.2.1, n, .inr (.inl oc2))), (h 4, .inr (5, [.int (nI n), .ref (h 5), .ref (h 6), .ref (h 7), .ref (h 8)])), (h 5, .inl (E.2.2.1, n, .inr (.inl vals))), (h 6, .inl (E.2.1, n, .inl stp)), (h 7, .inl (E.2.1, n, .inl reg)), (h 8, .inl (E.2.2.2, n, .inl lo)), (h 9, .inr (0, [.ref (h 10), .int (nI c0), .ref (h 11)])), (h 10, .inl (E.2.1, n, .inl bo0)), (h 11, .inl (E.2.1, n, .inl rg0)), (h 12, .inr (3, [.int fc2, .ref (h 13)])), (h 13, .inl (E.2.2.1, 16, .inr (.inl fs2))), (h 14, .inr (4, [.ref (h 15), .int fr2, .int en2])), (h 15, .inl (E.2.1, n, .inl rw2)), (h 16, .inr (2, [.ref (h 17), .ref (h 18), .ref (h 19), .int lc2, .ref (h 20)])), (h 17, .inl (E.2.1, 16, .inl so2)), (h 18, .inl (E.2.1, 16, .inl sm2)), (h 19, .inl (E.2.2.1, 16, .inr (.inl md2))), (h 20, .inl (E.2.1, 16, .inl lv2))] H := hP
      have hD : va_D AM [(h 0, .inr (1, [.ref (h 1), .ref (h 2), .ref (h 3), .ref (h 4), .ref (h 9), .ref (h 12), .ref (h 14), .ref (h 16), .long x2, .int und2, .int (nI tk2), .int sp2, .int fd2, .int (nI (b + 1)), .int ba2])), (h 1, .inl (E.2.1, n, .inl bg2)), (h 2, .inl (E.2.1, n, .inl dr2)), (h 3, .inl (E.2.2.1, n, .inr (.inl oc2))), (h 4, .inr (5, [.int (nI n), .ref (h 5), .ref (h 6), .ref (h 7), .ref (h 8)])), (h 5, .inl (E.2.2.1, n, .inr (.inl vals))), (h 6, .inl (E.2.1, n, .inl stp)), (h 7, .inl (E.2.1, n, .inl reg)), (h 8, .inl (E.2.2.2, n, .inl lo)), (h 9, .inr (0, [.ref (h 10), .int (nI c0), .ref (h 11)])), (h 10, .inl (E.2.1, n, .inl bo0)), (h 11, .inl (E.2.1, n, .inl rg0)), (h 12, .inr (3, [.int fc2, .ref (h 13)])), (h 13, .inl (E.2.2.1, 16, .inr (.inl fs2))), (h 14, .inr (4, [.ref (h 15), .int fr2, .int en2])), (h 15, .inl (E.2.1, n, .inl rw2)), (h 16, .inr (2, [.ref (h 17), .ref (h 18), .ref (h 19), .int lc2, .ref (h 20)])), (h 17, .inl (E.2.1, 16, .inl so2)), (h 18, .inl (E.2.1, 16, .inl sm2)), (h 19, .inl (E.2.2.1, 16, .inr (.inl md2))), (h 20, .inl (E.2.1, 16, .inl lv2))] := hD
      refine lv_iinc (v := nI (b + 1)) (lv' := [(4, .int (nI (b + 1))), (5, .int 0), (0, .ref (h 0))]) hx hb dX1_goThrough_47 hl (k := 1) rfl (nI_1 b) (by decide) rfl (fun ls hl => ?_)
      refine lv_goto (tgt := 9) hx hb dX1_goThrough_50 (by decide) ?_
      exact ih9 (b + 1, L2, K2, Q2, hd2, mn2, sd2, bg2, dr2, F2, x2, tk2, sp2, fd2, ba2, oc2, fs2, md2, rw2, so2, sm2, lv2, und2, fc2, fr2, en2, lc2) _ _ _ ⟨hP.sub [0, 1, 2, 3, 4, 5, 6, 7, 8, 9, 10, 11, 12, 13, 14, 15, 16, 17, 18, 19, 20] rfl, hD.sub [0, 1, 2, 3, 4, 5, 6, 7, 8, 9, 10, 11, 12, 13, 14, 15, 16, 17, 18, 19, 20] (by decide) rfl, hS, lv_sub hl [0, 2] rfl, by omega, hT2, hI2.1, y3, hI2.2.2.2.2.2.1, y4, e1, e5, a1, a2, a7, a8, hB.trans (by rw [show c0 - b = (c0 - (b + 1)) + 1 by omega]; exact g_ok hb2)⟩ (by show c0 - (b + 1) < c0 - b; omega)
    · refine lv_iload hx hb dX1_goThrough_34 (lv_at hl 0 rfl) ?_
      exact Ri hx hb hr hlocks hP hD hS (((L2, K2, Q2, hd2, mn2, sd2, bg2, dr2, F2, x2, tk2, sp2, fd2, ba2), oc2, fs2, md2, rw2, so2, sm2, lv2, und2, fc2, fr2, en2, lc2), bo0, rg0, c0, b) [0, 1, 2, 3, 4, 5, 6, 7, 8, 9, 10, 11, 12, 13, 14, 15, 16, 17, 18, 19, 20] rfl rfl (⟨g0.2.1, g0.2.2.1, g0.2.2.2, hB.trans (by rw [show c0 - b = (c0 - (b + 1)) + 1 by omega]; exact g_bad hb2 c_31), hT2, hI2.2.2.2.2.2.1, e5, a8, e1, a7, fun z => absurd z c_31⟩) (Nat.le_of_ble_eq_true rfl) (Nat.le_of_ble_eq_true rfl) dX1_goThrough_36
end
