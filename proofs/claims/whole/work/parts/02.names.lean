def TX0 : u_T := fun k => match k with
  | 0 => ("RedoJournal$Disk", "down", "[B", true)
  | 1 => ("RedoJournal$Disk", "written", "[B", true)
  | 2 => ("RedoJournal$Disk", "order", "[I", true)
  | 3 => ("RedoJournal$Disk", "underWay", "I", false)
  | 4 => ("RedoJournal$Disk", "homesUnderWay", "J", false)
  | 5 => ("RedoJournal$Disk", "on", "Z", false)
  | 6 => ("RedoJournal$Disk", "stepsLeft", "I", false)
  | _ => ("RedoJournal$Disk", "steps", "I", false)
def tyX0 : Nat → FieldType := fun k => match k with
  | 0 => .array .byte
  | 1 => .array .byte
  | 2 => .array .int
  | 3 => .int
  | 4 => .long
  | 5 => .boolean
  | 6 => .int
  | _ => .int
theorem nmX0 : ∀ a, a < 8 → ∀ b, b < 8 → a ≠ b → (TX0 a).2.1 ≠ (TX0 b).2.1 := by decide +kernel
theorem tyX0_ok : ∀ k, k < 8 → parseFieldDescriptor (TX0 k).2.2.1 = some (tyX0 k) := by decide +kernel
def TX1 : u_T := fun k => match k with
  | 0 => ("RedoJournal$Log", "blocks", "[J", true)
  | 1 => ("RedoJournal$Log", "revokes", "[J", true)
  | 2 => ("RedoJournal$Log", "uses", "[I", true)
  | 3 => ("RedoJournal$Log", "firstImages", "[I", true)
  | 4 => ("RedoJournal$Log", "size", "I", false)
  | 5 => ("RedoJournal$Log", "images", "[B", true)
  | _ => ("RedoJournal$Log", "imagesUsed", "I", false)
def tyX1 : Nat → FieldType := fun k => match k with
  | 0 => .array .long
  | 1 => .array .long
  | 2 => .array .int
  | 3 => .array .int
  | 4 => .int
  | 5 => .array .byte
  | _ => .int
theorem nmX1 : ∀ a, a < 7 → ∀ b, b < 7 → a ≠ b → (TX1 a).2.1 ≠ (TX1 b).2.1 := by decide +kernel
theorem tyX1_ok : ∀ k, k < 7 → parseFieldDescriptor (TX1 k).2.2.1 = some (tyX1 k) := by decide +kernel
def TX2 : u_T := fun k => match k with
  | 0 => ("RedoJournal", "disk", "LRedoJournal$Disk;", true)
  | 1 => ("RedoJournal", "log", "LRedoJournal$Log;", true)
  | 2 => ("RedoJournal", "now", "[B", true)
  | 3 => ("RedoJournal", "ringBlocks", "I", false)
  | 4 => ("RedoJournal", "running", "J", false)
  | _ => ("RedoJournal", "revoked", "J", false)
def tyX2 : Nat → FieldType := fun k => match k with
  | 0 => .object "RedoJournal$Disk"
  | 1 => .object "RedoJournal$Log"
  | 2 => .array .byte
  | 3 => .int
  | 4 => .long
  | _ => .long
theorem nmX2 : ∀ a, a < 6 → ∀ b, b < 6 → a ≠ b → (TX2 a).2.1 ≠ (TX2 b).2.1 := by decide +kernel
theorem tyX2_ok : ∀ k, k < 6 → parseFieldDescriptor (TX2 k).2.2.1 = some (tyX2 k) := by decide +kernel
def TX3 : u_T := fun k => match k with
  | 0 => ("RedoJournalModel", "thrown", "I", false)
  | 1 => ("RedoJournalModel", "ring", "I", false)
  | 2 => ("RedoJournalModel", "off", "Z", false)
  | 3 => ("RedoJournalModel", "fuse", "I", false)
  | 4 => ("RedoJournalModel", "steps", "I", false)
  | 5 => ("RedoJournalModel", "home", "[B", true)
  | 6 => ("RedoJournalModel", "base", "[B", true)
  | 7 => ("RedoJournalModel", "now", "[B", true)
  | 8 => ("RedoJournalModel", "many", "I", false)
  | 9 => ("RedoJournalModel", "kinds", "[I", true)
  | 10 => ("RedoJournalModel", "blocks", "[I", true)
  | 11 => ("RedoJournalModel", "runs", "[Z", true)
  | 12 => ("RedoJournalModel", "revokes", "[Z", true)
  | 13 => ("RedoJournalModel", "log", "I", false)
  | 14 => ("RedoJournalModel", "before", "I", false)
  | 15 => ("RedoJournalModel", "from", "[I", true)
  | 16 => ("RedoJournalModel", "uses", "[I", true)
  | 17 => ("RedoJournalModel", "revoked", "[Z", true)
  | 18 => ("RedoJournalModel", "had", "[I", true)
  | _ => ("RedoJournalModel", "data", "[B", true)
def tyX3 : Nat → FieldType := fun k => match k with
  | 0 => .int
  | 1 => .int
  | 2 => .boolean
  | 3 => .int
  | 4 => .int
  | 5 => .array .byte
  | 6 => .array .byte
  | 7 => .array .byte
  | 8 => .int
  | 9 => .array .int
  | 10 => .array .int
  | 11 => .array .boolean
  | 12 => .array .boolean
  | 13 => .int
  | 14 => .int
  | 15 => .array .int
  | 16 => .array .int
  | 17 => .array .boolean
  | 18 => .array .int
  | _ => .array .byte
theorem nmX3 : ∀ a, a < 20 → ∀ b, b < 20 → a ≠ b → (TX3 a).2.1 ≠ (TX3 b).2.1 := by decide +kernel
theorem tyX3_ok : ∀ k, k < 20 → parseFieldDescriptor (TX3 k).2.2.1 = some (tyX3 k) := by decide +kernel
abbrev vwCl : List vw_C := [("RedoJournal$Disk", TX0, 8), ("RedoJournal$Log", TX1, 7), ("RedoJournal", TX2, 6), ("RedoJournalModel", TX3, 20)]
abbrev y_J_init : MethodName := ({ cls := "RedoJournal", name := "<init>", desc := "()V" } : Jvm.MethodName)
abbrev b_J_init : ByteArray := prog_1_method_1_code
abbrev y_Disk_init : MethodName := ({ cls := "RedoJournal$Disk", name := "<init>", desc := "()V" } : Jvm.MethodName)
abbrev b_Disk_init : ByteArray := prog_2_method_1_code
abbrev y_Log_init : MethodName := ({ cls := "RedoJournal$Log", name := "<init>", desc := "()V" } : Jvm.MethodName)
abbrev b_Log_init : ByteArray := prog_3_method_1_code
abbrev y_J_lay : MethodName := ({ cls := "RedoJournal", name := "lay", desc := "(I)I" } : Jvm.MethodName)
abbrev b_J_lay : ByteArray := prog_1_method_2_code
abbrev y_Disk_makeNew : MethodName := ({ cls := "RedoJournal$Disk", name := "makeNew", desc := "()V" } : Jvm.MethodName)
abbrev b_Disk_makeNew : ByteArray := prog_2_method_2_code
abbrev y_Arr_fillA : MethodName := ({ cls := "java/util/Arrays", name := "fill", desc := "([BB)V" } : Jvm.MethodName)
abbrev b_Arr_fillA : ByteArray := prog_8_method_109_code
abbrev y_Disk_forgetUnderWay : MethodName := ({ cls := "RedoJournal$Disk", name := "forgetUnderWay", desc := "()V" } : Jvm.MethodName)
abbrev b_Disk_forgetUnderWay : ByteArray := prog_2_method_13_code
abbrev y_Log_makeEmpty : MethodName := ({ cls := "RedoJournal$Log", name := "makeEmpty", desc := "()V" } : Jvm.MethodName)
abbrev b_Log_makeEmpty : ByteArray := prog_3_method_2_code
abbrev y_J_dropRunning : MethodName := ({ cls := "RedoJournal", name := "dropRunning", desc := "()V" } : Jvm.MethodName)
abbrev b_J_dropRunning : ByteArray := prog_1_method_18_code
abbrev y_J_write : MethodName := ({ cls := "RedoJournal", name := "write", desc := "(IIII)I" } : Jvm.MethodName)
abbrev b_J_write : ByteArray := prog_1_method_3_code
abbrev y_J_isByte : MethodName := ({ cls := "RedoJournal", name := "isByte", desc := "(II)Z" } : Jvm.MethodName)
abbrev b_J_isByte : ByteArray := prog_1_method_14_code
abbrev y_J_isHome : MethodName := ({ cls := "RedoJournal", name := "isHome", desc := "(I)Z" } : Jvm.MethodName)
abbrev b_J_isHome : ByteArray := prog_1_method_13_code
abbrev y_J_isValue : MethodName := ({ cls := "RedoJournal", name := "isValue", desc := "(I)Z" } : Jvm.MethodName)
abbrev b_J_isValue : ByteArray := prog_1_method_15_code
abbrev y_J_holds : MethodName := ({ cls := "RedoJournal", name := "holds", desc := "(JI)Z" } : Jvm.MethodName)
abbrev b_J_holds : ByteArray := prog_1_method_17_code
abbrev y_J_bit : MethodName := ({ cls := "RedoJournal", name := "bit", desc := "(I)J" } : Jvm.MethodName)
abbrev b_J_bit : ByteArray := prog_1_method_16_code
abbrev y_Long_bitCount : MethodName := ({ cls := "java/lang/Long", name := "bitCount", desc := "(J)I" } : Jvm.MethodName)
abbrev b_Long_bitCount : ByteArray := prog_6_method_50_code
abbrev y_Arr_fillR : MethodName := ({ cls := "java/util/Arrays", name := "fill", desc := "([BIIB)V" } : Jvm.MethodName)
abbrev b_Arr_fillR : ByteArray := prog_8_method_110_code
abbrev y_Arr_rangeCheck : MethodName := ({ cls := "java/util/Arrays", name := "rangeCheck", desc := "(III)V" } : Jvm.MethodName)
abbrev b_Arr_rangeCheck : ByteArray := prog_8_method_30_code
abbrev y_J_read : MethodName := ({ cls := "RedoJournal", name := "read", desc := "(II)I" } : Jvm.MethodName)
abbrev b_J_read : ByteArray := prog_1_method_4_code
abbrev y_J_forget : MethodName := ({ cls := "RedoJournal", name := "forget", desc := "(I)I" } : Jvm.MethodName)
abbrev b_J_forget : ByteArray := prog_1_method_5_code
abbrev y_J_direct : MethodName := ({ cls := "RedoJournal", name := "direct", desc := "(II)I" } : Jvm.MethodName)
abbrev b_J_direct : ByteArray := prog_1_method_6_code
abbrev y_Log_lying : MethodName := ({ cls := "RedoJournal$Log", name := "lying", desc := "()J" } : Jvm.MethodName)
abbrev b_Log_lying : ByteArray := prog_3_method_6_code
abbrev y_Disk_barrier : MethodName := ({ cls := "RedoJournal$Disk", name := "barrier", desc := "()Z" } : Jvm.MethodName)
abbrev b_Disk_barrier : ByteArray := prog_2_method_5_code
abbrev y_Disk_makeStep : MethodName := ({ cls := "RedoJournal$Disk", name := "makeStep", desc := "()Z" } : Jvm.MethodName)
abbrev b_Disk_makeStep : ByteArray := prog_2_method_14_code
abbrev y_Disk_bringDown : MethodName := ({ cls := "RedoJournal$Disk", name := "bringDown", desc := "(III)V" } : Jvm.MethodName)
abbrev b_Disk_bringDown : ByteArray := prog_2_method_11_code
abbrev y_Disk_writeHome : MethodName := ({ cls := "RedoJournal$Disk", name := "writeHome", desc := "(I[BI)Z" } : Jvm.MethodName)
abbrev b_Disk_writeHome : ByteArray := prog_2_method_3_code
abbrev y_Disk_putUnderWay : MethodName := ({ cls := "RedoJournal$Disk", name := "putUnderWay", desc := "(I)V" } : Jvm.MethodName)
abbrev b_Disk_putUnderWay : ByteArray := prog_2_method_12_code
abbrev y_J_commit : MethodName := ({ cls := "RedoJournal", name := "commit", desc := "()I" } : Jvm.MethodName)
abbrev b_J_commit : ByteArray := prog_1_method_7_code
abbrev y_J_useOfRunning : MethodName := ({ cls := "RedoJournal", name := "useOfRunning", desc := "()I" } : Jvm.MethodName)
abbrev b_J_useOfRunning : ByteArray := prog_1_method_19_code
abbrev y_Log_used : MethodName := ({ cls := "RedoJournal$Log", name := "used", desc := "()I" } : Jvm.MethodName)
abbrev b_Log_used : ByteArray := prog_3_method_5_code
abbrev y_J_bringLogHome : MethodName := ({ cls := "RedoJournal", name := "bringLogHome", desc := "()I" } : Jvm.MethodName)
abbrev b_J_bringLogHome : ByteArray := prog_1_method_21_code
abbrev y_Log_latestImage : MethodName := ({ cls := "RedoJournal$Log", name := "latestImage", desc := "(I)I" } : Jvm.MethodName)
abbrev b_Log_latestImage : ByteArray := prog_3_method_9_code
abbrev y_Log_imageOf : MethodName := ({ cls := "RedoJournal$Log", name := "imageOf", desc := "(II)I" } : Jvm.MethodName)
abbrev b_Log_imageOf : ByteArray := prog_3_method_8_code
abbrev y_J_endLog : MethodName := ({ cls := "RedoJournal", name := "endLog", desc := "()Z" } : Jvm.MethodName)
abbrev b_J_endLog : ByteArray := prog_1_method_23_code
abbrev y_Disk_writeRing : MethodName := ({ cls := "RedoJournal$Disk", name := "writeRing", desc := "(I)Z" } : Jvm.MethodName)
abbrev b_Disk_writeRing : ByteArray := prog_2_method_4_code
abbrev y_J_writeTransaction : MethodName := ({ cls := "RedoJournal", name := "writeTransaction", desc := "(I)Z" } : Jvm.MethodName)
abbrev b_J_writeTransaction : ByteArray := prog_1_method_20_code
abbrev y_Log_append : MethodName := ({ cls := "RedoJournal$Log", name := "append", desc := "(JJI[B)V" } : Jvm.MethodName)
abbrev b_Log_append : ByteArray := prog_3_method_3_code
abbrev y_J_clear : MethodName := ({ cls := "RedoJournal", name := "clear", desc := "()I" } : Jvm.MethodName)
abbrev b_J_clear : ByteArray := prog_1_method_8_code
abbrev y_J_fuse : MethodName := ({ cls := "RedoJournal", name := "fuse", desc := "(I)I" } : Jvm.MethodName)
abbrev b_J_fuse : ByteArray := prog_1_method_9_code
abbrev y_J_fail : MethodName := ({ cls := "RedoJournal", name := "fail", desc := "()I" } : Jvm.MethodName)
abbrev b_J_fail : ByteArray := prog_1_method_10_code
abbrev y_J_mount : MethodName := ({ cls := "RedoJournal", name := "mount", desc := "(J)I" } : Jvm.MethodName)
abbrev b_J_mount : ByteArray := prog_1_method_11_code
abbrev y_J_settleLog : MethodName := ({ cls := "RedoJournal", name := "settleLog", desc := "(J)V" } : Jvm.MethodName)
abbrev b_J_settleLog : ByteArray := prog_1_method_24_code
abbrev y_Disk_placeUnderWay : MethodName := ({ cls := "RedoJournal$Disk", name := "placeUnderWay", desc := "(I)I" } : Jvm.MethodName)
abbrev b_Disk_placeUnderWay : ByteArray := prog_2_method_7_code
abbrev y_Disk_isFirstHalfDown : MethodName := ({ cls := "RedoJournal$Disk", name := "isFirstHalfDown", desc := "(IJ)Z" } : Jvm.MethodName)
abbrev b_Disk_isFirstHalfDown : ByteArray := prog_2_method_8_code
abbrev y_Disk_partDown : MethodName := ({ cls := "RedoJournal$Disk", name := "partDown", desc := "(IJ)I" } : Jvm.MethodName)
abbrev b_Disk_partDown : ByteArray := prog_2_method_10_code
abbrev y_Log_dropLatest : MethodName := ({ cls := "RedoJournal$Log", name := "dropLatest", desc := "()V" } : Jvm.MethodName)
abbrev b_Log_dropLatest : ByteArray := prog_3_method_4_code
abbrev y_Disk_settle : MethodName := ({ cls := "RedoJournal$Disk", name := "settle", desc := "(J)V" } : Jvm.MethodName)
abbrev b_Disk_settle : ByteArray := prog_2_method_6_code
abbrev y_Disk_isLastHalfDown : MethodName := ({ cls := "RedoJournal$Disk", name := "isLastHalfDown", desc := "(IJ)Z" } : Jvm.MethodName)
abbrev b_Disk_isLastHalfDown : ByteArray := prog_2_method_9_code
abbrev y_J_replay : MethodName := ({ cls := "RedoJournal", name := "replay", desc := "()I" } : Jvm.MethodName)
abbrev b_J_replay : ByteArray := prog_1_method_22_code
abbrev y_Log_living : MethodName := ({ cls := "RedoJournal$Log", name := "living", desc := "(I)J" } : Jvm.MethodName)
abbrev b_Log_living : ByteArray := prog_3_method_7_code
abbrev y_J_count : MethodName := ({ cls := "RedoJournal", name := "count", desc := "(I)I" } : Jvm.MethodName)
abbrev b_J_count : ByteArray := prog_1_method_12_code
abbrev y_M_init : MethodName := ({ cls := "RedoJournalModel", name := "<init>", desc := "()V" } : Jvm.MethodName)
abbrev b_M_init : ByteArray := prog_5_method_1_code
abbrev y_M_lay : MethodName := ({ cls := "RedoJournalModel", name := "lay", desc := "(I)I" } : Jvm.MethodName)
abbrev b_M_lay : ByteArray := prog_5_method_3_code
abbrev y_M_drop : MethodName := ({ cls := "RedoJournalModel", name := "drop", desc := "()V" } : Jvm.MethodName)
abbrev b_M_drop : ByteArray := prog_5_method_4_code
abbrev y_M_write : MethodName := ({ cls := "RedoJournalModel", name := "write", desc := "(IIII)I" } : Jvm.MethodName)
abbrev b_M_write : ByteArray := prog_5_method_11_code
abbrev y_M_noBlock : MethodName := ({ cls := "RedoJournalModel", name := "noBlock", desc := "(I)Z" } : Jvm.MethodName)
abbrev b_M_noBlock : ByteArray := prog_5_method_10_code
abbrev y_M_size : MethodName := ({ cls := "RedoJournalModel", name := "size", desc := "([Z)I" } : Jvm.MethodName)
abbrev b_M_size : ByteArray := prog_5_method_5_code
abbrev y_M_read : MethodName := ({ cls := "RedoJournalModel", name := "read", desc := "(II)I" } : Jvm.MethodName)
abbrev b_M_read : ByteArray := prog_5_method_12_code
abbrev y_M_forget : MethodName := ({ cls := "RedoJournalModel", name := "forget", desc := "(I)I" } : Jvm.MethodName)
abbrev b_M_forget : ByteArray := prog_5_method_13_code
abbrev y_M_copy : MethodName := ({ cls := "RedoJournalModel", name := "copy", desc := "([BI[BII)V" } : Jvm.MethodName)
abbrev b_M_copy : ByteArray := prog_5_method_6_code
abbrev y_M_direct : MethodName := ({ cls := "RedoJournalModel", name := "direct", desc := "(II)I" } : Jvm.MethodName)
abbrev b_M_direct : ByteArray := prog_5_method_15_code
abbrev y_M_told : MethodName := ({ cls := "RedoJournalModel", name := "told", desc := "(I)I" } : Jvm.MethodName)
abbrev b_M_told : ByteArray := prog_5_method_14_code
abbrev y_M_step : MethodName := ({ cls := "RedoJournalModel", name := "step", desc := "(II)Z" } : Jvm.MethodName)
abbrev b_M_step : ByteArray := prog_5_method_8_code
abbrev y_M_powerOff : MethodName := ({ cls := "RedoJournalModel", name := "powerOff", desc := "()V" } : Jvm.MethodName)
abbrev b_M_powerOff : ByteArray := prog_5_method_7_code
abbrev y_M_settle : MethodName := ({ cls := "RedoJournalModel", name := "settle", desc := "()V" } : Jvm.MethodName)
abbrev b_M_settle : ByteArray := prog_5_method_9_code
abbrev y_M_commit : MethodName := ({ cls := "RedoJournalModel", name := "commit", desc := "()I" } : Jvm.MethodName)
abbrev b_M_commit : ByteArray := prog_5_method_18_code
abbrev y_M_used : MethodName := ({ cls := "RedoJournalModel", name := "used", desc := "()I" } : Jvm.MethodName)
abbrev b_M_used : ByteArray := prog_5_method_16_code
abbrev y_M_clearing : MethodName := ({ cls := "RedoJournalModel", name := "clearing", desc := "()I" } : Jvm.MethodName)
abbrev b_M_clearing : ByteArray := prog_5_method_19_code
abbrev y_M_empty : MethodName := ({ cls := "RedoJournalModel", name := "empty", desc := "()Z" } : Jvm.MethodName)
abbrev b_M_empty : ByteArray := prog_5_method_20_code
abbrev y_M_enter : MethodName := ({ cls := "RedoJournalModel", name := "enter", desc := "(I)V" } : Jvm.MethodName)
abbrev b_M_enter : ByteArray := prog_5_method_17_code
abbrev y_M_clear : MethodName := ({ cls := "RedoJournalModel", name := "clear", desc := "()I" } : Jvm.MethodName)
abbrev b_M_clear : ByteArray := prog_5_method_21_code
abbrev y_M_fuse : MethodName := ({ cls := "RedoJournalModel", name := "fuse", desc := "(I)I" } : Jvm.MethodName)
abbrev b_M_fuse : ByteArray := prog_5_method_22_code
abbrev y_M_fail : MethodName := ({ cls := "RedoJournalModel", name := "fail", desc := "()I" } : Jvm.MethodName)
abbrev b_M_fail : ByteArray := prog_5_method_23_code
abbrev y_M_mount : MethodName := ({ cls := "RedoJournalModel", name := "mount", desc := "(J)I" } : Jvm.MethodName)
abbrev b_M_mount : ByteArray := prog_5_method_26_code
abbrev y_M_down : MethodName := ({ cls := "RedoJournalModel", name := "down", desc := "(J)V" } : Jvm.MethodName)
abbrev b_M_down : ByteArray := prog_5_method_24_code
abbrev y_M_isRevoked : MethodName := ({ cls := "RedoJournalModel", name := "isRevoked", desc := "(II)Z" } : Jvm.MethodName)
abbrev b_M_isRevoked : ByteArray := prog_5_method_25_code
abbrev y_M_count : MethodName := ({ cls := "RedoJournalModel", name := "count", desc := "(I)I" } : Jvm.MethodName)
abbrev b_M_count : ByteArray := prog_5_method_27_code
abbrev y_Law_law : MethodName := ({ cls := "RedoJournalLaw", name := "law", desc := "([I)Z" } : Jvm.MethodName)
abbrev b_Law_law : ByteArray := code
/-- the words of the tables that every method may use -/
def wA : List Cond := [(Jvm.Cond.laysFinal "RedoJournal$Disk" "RedoJournal$Disk" "down" "[B"),
  (Jvm.Cond.laysFinal "RedoJournal$Disk" "RedoJournal$Disk" "written" "[B"),
  (Jvm.Cond.laysFinal "RedoJournal$Disk" "RedoJournal$Disk" "order" "[I"),
  (Jvm.Cond.lays "RedoJournal$Disk" "RedoJournal$Disk" "underWay" "I"),
  (Jvm.Cond.lays "RedoJournal$Disk" "RedoJournal$Disk" "homesUnderWay" "J"),
  (Jvm.Cond.lays "RedoJournal$Disk" "RedoJournal$Disk" "on" "Z"),
  (Jvm.Cond.lays "RedoJournal$Disk" "RedoJournal$Disk" "stepsLeft" "I"),
  (Jvm.Cond.lays "RedoJournal$Disk" "RedoJournal$Disk" "steps" "I"),
  (Jvm.Cond.laysFinal "RedoJournal$Log" "RedoJournal$Log" "blocks" "[J"),
  (Jvm.Cond.laysFinal "RedoJournal$Log" "RedoJournal$Log" "revokes" "[J"),
  (Jvm.Cond.laysFinal "RedoJournal$Log" "RedoJournal$Log" "uses" "[I"),
  (Jvm.Cond.laysFinal "RedoJournal$Log" "RedoJournal$Log" "firstImages" "[I"),
  (Jvm.Cond.lays "RedoJournal$Log" "RedoJournal$Log" "size" "I"),
  (Jvm.Cond.laysFinal "RedoJournal$Log" "RedoJournal$Log" "images" "[B"),
  (Jvm.Cond.lays "RedoJournal$Log" "RedoJournal$Log" "imagesUsed" "I"),
  (Jvm.Cond.laysFinal "RedoJournal" "RedoJournal" "disk" "LRedoJournal$Disk;"),
  (Jvm.Cond.laysFinal "RedoJournal" "RedoJournal" "log" "LRedoJournal$Log;"),
  (Jvm.Cond.laysFinal "RedoJournal" "RedoJournal" "now" "[B"),
  (Jvm.Cond.lays "RedoJournal" "RedoJournal" "ringBlocks" "I"),
  (Jvm.Cond.lays "RedoJournal" "RedoJournal" "running" "J"),
  (Jvm.Cond.lays "RedoJournal" "RedoJournal" "revoked" "J"),
  (Jvm.Cond.lays "RedoJournalModel" "RedoJournalModel" "thrown" "I"),
  (Jvm.Cond.lays "RedoJournalModel" "RedoJournalModel" "ring" "I"),
  (Jvm.Cond.lays "RedoJournalModel" "RedoJournalModel" "off" "Z"),
  (Jvm.Cond.lays "RedoJournalModel" "RedoJournalModel" "fuse" "I"),
  (Jvm.Cond.lays "RedoJournalModel" "RedoJournalModel" "steps" "I"),
  (Jvm.Cond.laysFinal "RedoJournalModel" "RedoJournalModel" "home" "[B"),
  (Jvm.Cond.laysFinal "RedoJournalModel" "RedoJournalModel" "base" "[B"),
  (Jvm.Cond.laysFinal "RedoJournalModel" "RedoJournalModel" "now" "[B"),
  (Jvm.Cond.lays "RedoJournalModel" "RedoJournalModel" "many" "I"),
  (Jvm.Cond.laysFinal "RedoJournalModel" "RedoJournalModel" "kinds" "[I"),
  (Jvm.Cond.laysFinal "RedoJournalModel" "RedoJournalModel" "blocks" "[I"),
  (Jvm.Cond.laysFinal "RedoJournalModel" "RedoJournalModel" "runs" "[Z"),
  (Jvm.Cond.laysFinal "RedoJournalModel" "RedoJournalModel" "revokes" "[Z"),
  (Jvm.Cond.lays "RedoJournalModel" "RedoJournalModel" "log" "I"),
  (Jvm.Cond.lays "RedoJournalModel" "RedoJournalModel" "before" "I"),
  (Jvm.Cond.laysFinal "RedoJournalModel" "RedoJournalModel" "from" "[I"),
  (Jvm.Cond.laysFinal "RedoJournalModel" "RedoJournalModel" "uses" "[I"),
  (Jvm.Cond.laysFinal "RedoJournalModel" "RedoJournalModel" "revoked" "[Z"),
  (Jvm.Cond.laysFinal "RedoJournalModel" "RedoJournalModel" "had" "[I"),
  (Jvm.Cond.laysFinal "RedoJournalModel" "RedoJournalModel" "data" "[B"),
  (Jvm.Cond.selects "RedoJournal" ({ cls := "RedoJournal", name := "dropRunning", desc := "()V" } : Jvm.MethodName) ({ cls := "RedoJournal", name := "dropRunning", desc := "()V" } : Jvm.MethodName)),
  (Jvm.Cond.selects "RedoJournal" ({ cls := "RedoJournal", name := "useOfRunning", desc := "()I" } : Jvm.MethodName) ({ cls := "RedoJournal", name := "useOfRunning", desc := "()I" } : Jvm.MethodName)),
  (Jvm.Cond.selects "RedoJournal" ({ cls := "RedoJournal", name := "bringLogHome", desc := "()I" } : Jvm.MethodName) ({ cls := "RedoJournal", name := "bringLogHome", desc := "()I" } : Jvm.MethodName)),
  (Jvm.Cond.selects "RedoJournal" ({ cls := "RedoJournal", name := "endLog", desc := "()Z" } : Jvm.MethodName) ({ cls := "RedoJournal", name := "endLog", desc := "()Z" } : Jvm.MethodName)),
  (Jvm.Cond.selects "RedoJournal" ({ cls := "RedoJournal", name := "writeTransaction", desc := "(I)Z" } : Jvm.MethodName) ({ cls := "RedoJournal", name := "writeTransaction", desc := "(I)Z" } : Jvm.MethodName)),
  (Jvm.Cond.selects "RedoJournal" ({ cls := "RedoJournal", name := "settleLog", desc := "(J)V" } : Jvm.MethodName) ({ cls := "RedoJournal", name := "settleLog", desc := "(J)V" } : Jvm.MethodName)),
  (Jvm.Cond.selects "RedoJournal" ({ cls := "RedoJournal", name := "replay", desc := "()I" } : Jvm.MethodName) ({ cls := "RedoJournal", name := "replay", desc := "()I" } : Jvm.MethodName)),
  (Jvm.Cond.selects "RedoJournalModel" ({ cls := "RedoJournalModel", name := "drop", desc := "()V" } : Jvm.MethodName) ({ cls := "RedoJournalModel", name := "drop", desc := "()V" } : Jvm.MethodName)),
  (Jvm.Cond.selects "RedoJournalModel" ({ cls := "RedoJournalModel", name := "noBlock", desc := "(I)Z" } : Jvm.MethodName) ({ cls := "RedoJournalModel", name := "noBlock", desc := "(I)Z" } : Jvm.MethodName)),
  (Jvm.Cond.selects "RedoJournalModel" ({ cls := "RedoJournalModel", name := "size", desc := "([Z)I" } : Jvm.MethodName) ({ cls := "RedoJournalModel", name := "size", desc := "([Z)I" } : Jvm.MethodName)),
  (Jvm.Cond.selects "RedoJournalModel" ({ cls := "RedoJournalModel", name := "copy", desc := "([BI[BII)V" } : Jvm.MethodName) ({ cls := "RedoJournalModel", name := "copy", desc := "([BI[BII)V" } : Jvm.MethodName)),
  (Jvm.Cond.selects "RedoJournalModel" ({ cls := "RedoJournalModel", name := "told", desc := "(I)I" } : Jvm.MethodName) ({ cls := "RedoJournalModel", name := "told", desc := "(I)I" } : Jvm.MethodName)),
  (Jvm.Cond.selects "RedoJournalModel" ({ cls := "RedoJournalModel", name := "step", desc := "(II)Z" } : Jvm.MethodName) ({ cls := "RedoJournalModel", name := "step", desc := "(II)Z" } : Jvm.MethodName)),
  (Jvm.Cond.selects "RedoJournalModel" ({ cls := "RedoJournalModel", name := "powerOff", desc := "()V" } : Jvm.MethodName) ({ cls := "RedoJournalModel", name := "powerOff", desc := "()V" } : Jvm.MethodName)),
  (Jvm.Cond.selects "RedoJournalModel" ({ cls := "RedoJournalModel", name := "settle", desc := "()V" } : Jvm.MethodName) ({ cls := "RedoJournalModel", name := "settle", desc := "()V" } : Jvm.MethodName)),
  (Jvm.Cond.selects "RedoJournalModel" ({ cls := "RedoJournalModel", name := "used", desc := "()I" } : Jvm.MethodName) ({ cls := "RedoJournalModel", name := "used", desc := "()I" } : Jvm.MethodName)),
  (Jvm.Cond.selects "RedoJournalModel" ({ cls := "RedoJournalModel", name := "clearing", desc := "()I" } : Jvm.MethodName) ({ cls := "RedoJournalModel", name := "clearing", desc := "()I" } : Jvm.MethodName)),
  (Jvm.Cond.selects "RedoJournalModel" ({ cls := "RedoJournalModel", name := "empty", desc := "()Z" } : Jvm.MethodName) ({ cls := "RedoJournalModel", name := "empty", desc := "()Z" } : Jvm.MethodName)),
  (Jvm.Cond.selects "RedoJournalModel" ({ cls := "RedoJournalModel", name := "enter", desc := "(I)V" } : Jvm.MethodName) ({ cls := "RedoJournalModel", name := "enter", desc := "(I)V" } : Jvm.MethodName)),
  (Jvm.Cond.selects "RedoJournalModel" ({ cls := "RedoJournalModel", name := "down", desc := "(J)V" } : Jvm.MethodName) ({ cls := "RedoJournalModel", name := "down", desc := "(J)V" } : Jvm.MethodName)),
  (Jvm.Cond.selects "RedoJournalModel" ({ cls := "RedoJournalModel", name := "isRevoked", desc := "(II)Z" } : Jvm.MethodName) ({ cls := "RedoJournalModel", name := "isRevoked", desc := "(II)Z" } : Jvm.MethodName)),
  (Jvm.Cond.initialized "RedoJournalLaw"),
  (Jvm.Cond.initialized "RedoJournal"),
  (Jvm.Cond.initialized "RedoJournal$Disk"),
  (Jvm.Cond.initialized "RedoJournal$Log"),
  (Jvm.Cond.initialized "RedoJournalModel"),
  (Jvm.Cond.initialized "java/util/Arrays"),
  (Jvm.Cond.initialized "java/lang/Long"),
  (Jvm.Cond.initialized "java/lang/System"),
  (Jvm.Cond.classLink "RedoJournalLaw" (7 : Nat) "RedoJournal"),
  (Jvm.Cond.instantiable "RedoJournal" (6 : Nat)),
  (Jvm.Cond.methodLink "RedoJournalLaw" (9 : Nat) ({ cls := "RedoJournal", name := "<init>", desc := "()V" } : Jvm.MethodName)),
  (Jvm.Cond.instanceMethod ({ cls := "RedoJournal", name := "<init>", desc := "()V" } : Jvm.MethodName)),
  (Jvm.Cond.code ({ cls := "RedoJournal", name := "<init>", desc := "()V" } : Jvm.MethodName) prog_1_method_1_code (1 : Nat) (Option.none : Option Jvm.ClassFile.FieldType)),
  (Jvm.Cond.methodLink "RedoJournal" (1 : Nat) ({ cls := "java/lang/Object", name := "<init>", desc := "()V" } : Jvm.MethodName)),
  (Jvm.Cond.instanceMethod ({ cls := "java/lang/Object", name := "<init>", desc := "()V" } : Jvm.MethodName)),
  (Jvm.Cond.code ({ cls := "java/lang/Object", name := "<init>", desc := "()V" } : Jvm.MethodName) object_method_1_code (1 : Nat) (Option.none : Option Jvm.ClassFile.FieldType)),
  (Jvm.Cond.classLink "RedoJournal" (7 : Nat) "RedoJournal$Disk"),
  (Jvm.Cond.instantiable "RedoJournal$Disk" (8 : Nat)),
  (Jvm.Cond.instanceMethod ({ cls := "RedoJournal$Disk", name := "<init>", desc := "()V" } : Jvm.MethodName)),
  (Jvm.Cond.code ({ cls := "RedoJournal$Disk", name := "<init>", desc := "()V" } : Jvm.MethodName) prog_2_method_1_code (1 : Nat) (Option.none : Option Jvm.ClassFile.FieldType)),
  (Jvm.Cond.methodLink "RedoJournal$Disk" (3 : Nat) ({ cls := "java/lang/Object", name := "<init>", desc := "()V" } : Jvm.MethodName)),
  (Jvm.Cond.fieldLink "RedoJournal$Disk" (9 : Nat) "RedoJournal$Disk" "down" "[B"),
  (Jvm.Cond.fieldLink "RedoJournal$Disk" (15 : Nat) "RedoJournal$Disk" "written" "[B"),
  (Jvm.Cond.fieldLink "RedoJournal" (87 : Nat) "RedoJournal$Disk" "written" "[B"),
  (Jvm.Cond.fieldLink "RedoJournal$Disk" (18 : Nat) "RedoJournal$Disk" "order" "[I"),
  (Jvm.Cond.fieldLink "RedoJournal$Disk" (72 : Nat) "RedoJournal$Disk" "underWay" "I"),
  (Jvm.Cond.fieldLink "RedoJournal" (128 : Nat) "RedoJournal$Disk" "underWay" "I"),
  (Jvm.Cond.fieldLink "RedoJournal$Disk" (56 : Nat) "RedoJournal$Disk" "homesUnderWay" "J"),
  (Jvm.Cond.fieldLink "RedoJournal$Disk" (22 : Nat) "RedoJournal$Disk" "on" "Z"),
  (Jvm.Cond.fieldLink "RedoJournal" (46 : Nat) "RedoJournal$Disk" "on" "Z"),
  (Jvm.Cond.fieldLink "RedoJournal$Disk" (26 : Nat) "RedoJournal$Disk" "stepsLeft" "I"),
  (Jvm.Cond.fieldLink "RedoJournal" (125 : Nat) "RedoJournal$Disk" "stepsLeft" "I"),
  (Jvm.Cond.fieldLink "RedoJournal$Disk" (39 : Nat) "RedoJournal$Disk" "steps" "I"),
  (Jvm.Cond.fieldLink "RedoJournal" (141 : Nat) "RedoJournal$Disk" "steps" "I"),
  (Jvm.Cond.arrayClass Jvm.ClassFile.FieldType.byte),
  (Jvm.Cond.arrayClass Jvm.ClassFile.FieldType.int),
  (Jvm.Cond.classLink "RedoJournal" (16 : Nat) "RedoJournal$Log"),
  (Jvm.Cond.instantiable "RedoJournal$Log" (7 : Nat)),
  (Jvm.Cond.instanceMethod ({ cls := "RedoJournal$Log", name := "<init>", desc := "()V" } : Jvm.MethodName)),
  (Jvm.Cond.code ({ cls := "RedoJournal$Log", name := "<init>", desc := "()V" } : Jvm.MethodName) prog_3_method_1_code (1 : Nat) (Option.none : Option Jvm.ClassFile.FieldType)),
  (Jvm.Cond.methodLink "RedoJournal$Log" (3 : Nat) ({ cls := "java/lang/Object", name := "<init>", desc := "()V" } : Jvm.MethodName)),
  (Jvm.Cond.constant "RedoJournal$Log" (25 : Nat) (51200 : Int32)),
  (Jvm.Cond.fieldLink "RedoJournal$Log" (9 : Nat) "RedoJournal$Log" "blocks" "[J"),
  (Jvm.Cond.fieldLink "RedoJournal$Log" (15 : Nat) "RedoJournal$Log" "revokes" "[J"),
  (Jvm.Cond.fieldLink "RedoJournal$Log" (18 : Nat) "RedoJournal$Log" "uses" "[I"),
  (Jvm.Cond.fieldLink "RedoJournal$Log" (22 : Nat) "RedoJournal$Log" "firstImages" "[I"),
  (Jvm.Cond.fieldLink "RedoJournal$Log" (30 : Nat) "RedoJournal$Log" "size" "I"),
  (Jvm.Cond.fieldLink "RedoJournal" (121 : Nat) "RedoJournal$Log" "size" "I"),
  (Jvm.Cond.fieldLink "RedoJournal$Log" (26 : Nat) "RedoJournal$Log" "images" "[B"),
  (Jvm.Cond.fieldLink "RedoJournal" (151 : Nat) "RedoJournal$Log" "images" "[B"),
  (Jvm.Cond.fieldLink "RedoJournal$Log" (34 : Nat) "RedoJournal$Log" "imagesUsed" "I"),
  (Jvm.Cond.arrayClass Jvm.ClassFile.FieldType.long),
  (Jvm.Cond.fieldLink "RedoJournal" (10 : Nat) "RedoJournal" "disk" "LRedoJournal$Disk;"),
  (Jvm.Cond.fieldLink "RedoJournal" (19 : Nat) "RedoJournal" "log" "LRedoJournal$Log;"),
  (Jvm.Cond.fieldLink "RedoJournal" (23 : Nat) "RedoJournal" "now" "[B"),
  (Jvm.Cond.fieldLink "RedoJournal" (27 : Nat) "RedoJournal" "ringBlocks" "I"),
  (Jvm.Cond.fieldLink "RedoJournal" (58 : Nat) "RedoJournal" "running" "J"),
  (Jvm.Cond.fieldLink "RedoJournal" (79 : Nat) "RedoJournal" "revoked" "J"),
  (Jvm.Cond.methodLink "RedoJournalLaw" (13 : Nat) ({ cls := "RedoJournal", name := "lay", desc := "(I)I" } : Jvm.MethodName)),
  (Jvm.Cond.instanceMethod ({ cls := "RedoJournal", name := "lay", desc := "(I)I" } : Jvm.MethodName)),
  (Jvm.Cond.selects "RedoJournal" ({ cls := "RedoJournal", name := "lay", desc := "(I)I" } : Jvm.MethodName) ({ cls := "RedoJournal", name := "lay", desc := "(I)I" } : Jvm.MethodName)),
  (Jvm.Cond.code ({ cls := "RedoJournal", name := "lay", desc := "(I)I" } : Jvm.MethodName) prog_1_method_2_code (2 : Nat) (Option.some Jvm.ClassFile.FieldType.int)),
  (Jvm.Cond.methodLink "RedoJournal" (31 : Nat) ({ cls := "RedoJournal$Disk", name := "makeNew", desc := "()V" } : Jvm.MethodName)),
  (Jvm.Cond.instanceMethod ({ cls := "RedoJournal$Disk", name := "makeNew", desc := "()V" } : Jvm.MethodName)),
  (Jvm.Cond.selects "RedoJournal$Disk" ({ cls := "RedoJournal$Disk", name := "makeNew", desc := "()V" } : Jvm.MethodName) ({ cls := "RedoJournal$Disk", name := "makeNew", desc := "()V" } : Jvm.MethodName)),
  (Jvm.Cond.code ({ cls := "RedoJournal$Disk", name := "makeNew", desc := "()V" } : Jvm.MethodName) prog_2_method_2_code (1 : Nat) (Option.none : Option Jvm.ClassFile.FieldType)),
  (Jvm.Cond.methodLink "RedoJournal$Disk" (30 : Nat) ({ cls := "java/util/Arrays", name := "fill", desc := "([BB)V" } : Jvm.MethodName)),
  (Jvm.Cond.static ({ cls := "java/util/Arrays", name := "fill", desc := "([BB)V" } : Jvm.MethodName)),
  (Jvm.Cond.code ({ cls := "java/util/Arrays", name := "fill", desc := "([BB)V" } : Jvm.MethodName) prog_8_method_109_code (4 : Nat) (Option.none : Option Jvm.ClassFile.FieldType)),
  (Jvm.Cond.methodLink "RedoJournal$Disk" (36 : Nat) ({ cls := "RedoJournal$Disk", name := "forgetUnderWay", desc := "()V" } : Jvm.MethodName)),
  (Jvm.Cond.instanceMethod ({ cls := "RedoJournal$Disk", name := "forgetUnderWay", desc := "()V" } : Jvm.MethodName)),
  (Jvm.Cond.selects "RedoJournal$Disk" ({ cls := "RedoJournal$Disk", name := "forgetUnderWay", desc := "()V" } : Jvm.MethodName) ({ cls := "RedoJournal$Disk", name := "forgetUnderWay", desc := "()V" } : Jvm.MethodName)),
  (Jvm.Cond.code ({ cls := "RedoJournal$Disk", name := "forgetUnderWay", desc := "()V" } : Jvm.MethodName) prog_2_method_13_code (1 : Nat) (Option.none : Option Jvm.ClassFile.FieldType)),
  (Jvm.Cond.methodLink "RedoJournal" (34 : Nat) ({ cls := "RedoJournal$Log", name := "makeEmpty", desc := "()V" } : Jvm.MethodName)),
  (Jvm.Cond.instanceMethod ({ cls := "RedoJournal$Log", name := "makeEmpty", desc := "()V" } : Jvm.MethodName)),
  (Jvm.Cond.selects "RedoJournal$Log" ({ cls := "RedoJournal$Log", name := "makeEmpty", desc := "()V" } : Jvm.MethodName) ({ cls := "RedoJournal$Log", name := "makeEmpty", desc := "()V" } : Jvm.MethodName)),
  (Jvm.Cond.code ({ cls := "RedoJournal$Log", name := "makeEmpty", desc := "()V" } : Jvm.MethodName) prog_3_method_2_code (1 : Nat) (Option.none : Option Jvm.ClassFile.FieldType)),
  (Jvm.Cond.methodLink "RedoJournal" (37 : Nat) ({ cls := "java/util/Arrays", name := "fill", desc := "([BB)V" } : Jvm.MethodName)),
  (Jvm.Cond.methodLink "RedoJournal" (43 : Nat) ({ cls := "RedoJournal", name := "dropRunning", desc := "()V" } : Jvm.MethodName)),
  (Jvm.Cond.instanceMethod ({ cls := "RedoJournal", name := "dropRunning", desc := "()V" } : Jvm.MethodName)),
  (Jvm.Cond.code ({ cls := "RedoJournal", name := "dropRunning", desc := "()V" } : Jvm.MethodName) prog_1_method_18_code (1 : Nat) (Option.none : Option Jvm.ClassFile.FieldType)),
  (Jvm.Cond.methodLink "RedoJournalLaw" (18 : Nat) ({ cls := "RedoJournal", name := "write", desc := "(IIII)I" } : Jvm.MethodName)),
  (Jvm.Cond.instanceMethod ({ cls := "RedoJournal", name := "write", desc := "(IIII)I" } : Jvm.MethodName)),
  (Jvm.Cond.selects "RedoJournal" ({ cls := "RedoJournal", name := "write", desc := "(IIII)I" } : Jvm.MethodName) ({ cls := "RedoJournal", name := "write", desc := "(IIII)I" } : Jvm.MethodName)),
  (Jvm.Cond.code ({ cls := "RedoJournal", name := "write", desc := "(IIII)I" } : Jvm.MethodName) prog_1_method_3_code (6 : Nat) (Option.some Jvm.ClassFile.FieldType.int)),
  (Jvm.Cond.methodLink "RedoJournal" (50 : Nat) ({ cls := "RedoJournal", name := "isByte", desc := "(II)Z" } : Jvm.MethodName)),
  (Jvm.Cond.static ({ cls := "RedoJournal", name := "isByte", desc := "(II)Z" } : Jvm.MethodName)),
  (Jvm.Cond.code ({ cls := "RedoJournal", name := "isByte", desc := "(II)Z" } : Jvm.MethodName) prog_1_method_14_code (2 : Nat) (Option.some Jvm.ClassFile.FieldType.boolean)),
  (Jvm.Cond.methodLink "RedoJournal" (84 : Nat) ({ cls := "RedoJournal", name := "isHome", desc := "(I)Z" } : Jvm.MethodName)),
  (Jvm.Cond.static ({ cls := "RedoJournal", name := "isHome", desc := "(I)Z" } : Jvm.MethodName)),
  (Jvm.Cond.code ({ cls := "RedoJournal", name := "isHome", desc := "(I)Z" } : Jvm.MethodName) prog_1_method_13_code (1 : Nat) (Option.some Jvm.ClassFile.FieldType.boolean)),
  (Jvm.Cond.methodLink "RedoJournal" (54 : Nat) ({ cls := "RedoJournal", name := "isValue", desc := "(I)Z" } : Jvm.MethodName)),
  (Jvm.Cond.static ({ cls := "RedoJournal", name := "isValue", desc := "(I)Z" } : Jvm.MethodName)),
  (Jvm.Cond.code ({ cls := "RedoJournal", name := "isValue", desc := "(I)Z" } : Jvm.MethodName) prog_1_method_15_code (1 : Nat) (Option.some Jvm.ClassFile.FieldType.boolean)),
  (Jvm.Cond.methodLink "RedoJournal" (62 : Nat) ({ cls := "RedoJournal", name := "holds", desc := "(JI)Z" } : Jvm.MethodName)),
  (Jvm.Cond.static ({ cls := "RedoJournal", name := "holds", desc := "(JI)Z" } : Jvm.MethodName)),
  (Jvm.Cond.code ({ cls := "RedoJournal", name := "holds", desc := "(JI)Z" } : Jvm.MethodName) prog_1_method_17_code (3 : Nat) (Option.some Jvm.ClassFile.FieldType.boolean)),
  (Jvm.Cond.methodLink "RedoJournal" (75 : Nat) ({ cls := "RedoJournal", name := "bit", desc := "(I)J" } : Jvm.MethodName)),
  (Jvm.Cond.static ({ cls := "RedoJournal", name := "bit", desc := "(I)J" } : Jvm.MethodName)),
  (Jvm.Cond.code ({ cls := "RedoJournal", name := "bit", desc := "(I)J" } : Jvm.MethodName) prog_1_method_16_code (1 : Nat) (Option.some Jvm.ClassFile.FieldType.long)),
  (Jvm.Cond.methodLink "RedoJournal" (66 : Nat) ({ cls := "java/lang/Long", name := "bitCount", desc := "(J)I" } : Jvm.MethodName)),
  (Jvm.Cond.static ({ cls := "java/lang/Long", name := "bitCount", desc := "(J)I" } : Jvm.MethodName)),
  (Jvm.Cond.code ({ cls := "java/lang/Long", name := "bitCount", desc := "(J)I" } : Jvm.MethodName) prog_6_method_50_code (2 : Nat) (Option.some Jvm.ClassFile.FieldType.int)),
  (Jvm.Cond.constantLong "java/lang/Long" (314 : Nat) (6148914691236517205 : Int64)),
  (Jvm.Cond.constantLong "java/lang/Long" (316 : Nat) (3689348814741910323 : Int64)),
  (Jvm.Cond.constantLong "java/lang/Long" (318 : Nat) (1085102592571150095 : Int64)),
  (Jvm.Cond.methodLink "RedoJournal" (72 : Nat) ({ cls := "java/util/Arrays", name := "fill", desc := "([BIIB)V" } : Jvm.MethodName)),
  (Jvm.Cond.static ({ cls := "java/util/Arrays", name := "fill", desc := "([BIIB)V" } : Jvm.MethodName)),
  (Jvm.Cond.code ({ cls := "java/util/Arrays", name := "fill", desc := "([BIIB)V" } : Jvm.MethodName) prog_8_method_110_code (5 : Nat) (Option.none : Option Jvm.ClassFile.FieldType)),
  (Jvm.Cond.methodLink "java/util/Arrays" (13 : Nat) ({ cls := "java/util/Arrays", name := "rangeCheck", desc := "(III)V" } : Jvm.MethodName)),
  (Jvm.Cond.static ({ cls := "java/util/Arrays", name := "rangeCheck", desc := "(III)V" } : Jvm.MethodName)),
  (Jvm.Cond.code ({ cls := "java/util/Arrays", name := "rangeCheck", desc := "(III)V" } : Jvm.MethodName) prog_8_method_30_code (3 : Nat) (Option.none : Option Jvm.ClassFile.FieldType)),
  (Jvm.Cond.constantLong "RedoJournal" (82 : Nat) (-1 : Int64)),
  (Jvm.Cond.methodLink "RedoJournalLaw" (23 : Nat) ({ cls := "RedoJournal", name := "read", desc := "(II)I" } : Jvm.MethodName)),
  (Jvm.Cond.instanceMethod ({ cls := "RedoJournal", name := "read", desc := "(II)I" } : Jvm.MethodName)),
  (Jvm.Cond.selects "RedoJournal" ({ cls := "RedoJournal", name := "read", desc := "(II)I" } : Jvm.MethodName) ({ cls := "RedoJournal", name := "read", desc := "(II)I" } : Jvm.MethodName)),
  (Jvm.Cond.code ({ cls := "RedoJournal", name := "read", desc := "(II)I" } : Jvm.MethodName) prog_1_method_4_code (3 : Nat) (Option.some Jvm.ClassFile.FieldType.int)),
  (Jvm.Cond.methodLink "RedoJournalLaw" (28 : Nat) ({ cls := "RedoJournal", name := "forget", desc := "(I)I" } : Jvm.MethodName)),
  (Jvm.Cond.instanceMethod ({ cls := "RedoJournal", name := "forget", desc := "(I)I" } : Jvm.MethodName)),
  (Jvm.Cond.selects "RedoJournal" ({ cls := "RedoJournal", name := "forget", desc := "(I)I" } : Jvm.MethodName) ({ cls := "RedoJournal", name := "forget", desc := "(I)I" } : Jvm.MethodName)),
  (Jvm.Cond.code ({ cls := "RedoJournal", name := "forget", desc := "(I)I" } : Jvm.MethodName) prog_1_method_5_code (2 : Nat) (Option.some Jvm.ClassFile.FieldType.int)),
  (Jvm.Cond.methodLink "RedoJournal" (90 : Nat) ({ cls := "java/lang/System", name := "arraycopy", desc := "(Ljava/lang/Object;ILjava/lang/Object;II)V" } : Jvm.MethodName)),
  (Jvm.Cond.static ({ cls := "java/lang/System", name := "arraycopy", desc := "(Ljava/lang/Object;ILjava/lang/Object;II)V" } : Jvm.MethodName)),
  (Jvm.Cond.native ({ cls := "java/lang/System", name := "arraycopy", desc := "(Ljava/lang/Object;ILjava/lang/Object;II)V" } : Jvm.MethodName)),
  (Jvm.Cond.methodLink "RedoJournalLaw" (32 : Nat) ({ cls := "RedoJournal", name := "direct", desc := "(II)I" } : Jvm.MethodName)),
  (Jvm.Cond.instanceMethod ({ cls := "RedoJournal", name := "direct", desc := "(II)I" } : Jvm.MethodName)),
  (Jvm.Cond.selects "RedoJournal" ({ cls := "RedoJournal", name := "direct", desc := "(II)I" } : Jvm.MethodName) ({ cls := "RedoJournal", name := "direct", desc := "(II)I" } : Jvm.MethodName)),
  (Jvm.Cond.code ({ cls := "RedoJournal", name := "direct", desc := "(II)I" } : Jvm.MethodName) prog_1_method_6_code (3 : Nat) (Option.some Jvm.ClassFile.FieldType.int)),
  (Jvm.Cond.methodLink "RedoJournal" (96 : Nat) ({ cls := "RedoJournal$Log", name := "lying", desc := "()J" } : Jvm.MethodName)),
  (Jvm.Cond.instanceMethod ({ cls := "RedoJournal$Log", name := "lying", desc := "()J" } : Jvm.MethodName)),
  (Jvm.Cond.selects "RedoJournal$Log" ({ cls := "RedoJournal$Log", name := "lying", desc := "()J" } : Jvm.MethodName) ({ cls := "RedoJournal$Log", name := "lying", desc := "()J" } : Jvm.MethodName)),
  (Jvm.Cond.code ({ cls := "RedoJournal$Log", name := "lying", desc := "()J" } : Jvm.MethodName) prog_3_method_6_code (4 : Nat) (Option.some Jvm.ClassFile.FieldType.long)),
  (Jvm.Cond.constantLong "RedoJournal$Log" (53 : Nat) (-1 : Int64)),
  (Jvm.Cond.methodLink "RedoJournal" (100 : Nat) ({ cls := "RedoJournal$Disk", name := "barrier", desc := "()Z" } : Jvm.MethodName)),
  (Jvm.Cond.instanceMethod ({ cls := "RedoJournal$Disk", name := "barrier", desc := "()Z" } : Jvm.MethodName)),
  (Jvm.Cond.selects "RedoJournal$Disk" ({ cls := "RedoJournal$Disk", name := "barrier", desc := "()Z" } : Jvm.MethodName) ({ cls := "RedoJournal$Disk", name := "barrier", desc := "()Z" } : Jvm.MethodName)),
  (Jvm.Cond.code ({ cls := "RedoJournal$Disk", name := "barrier", desc := "()Z" } : Jvm.MethodName) prog_2_method_5_code (2 : Nat) (Option.some Jvm.ClassFile.FieldType.boolean)),
  (Jvm.Cond.methodLink "RedoJournal$Disk" (46 : Nat) ({ cls := "RedoJournal$Disk", name := "makeStep", desc := "()Z" } : Jvm.MethodName)),
  (Jvm.Cond.instanceMethod ({ cls := "RedoJournal$Disk", name := "makeStep", desc := "()Z" } : Jvm.MethodName)),
  (Jvm.Cond.selects "RedoJournal$Disk" ({ cls := "RedoJournal$Disk", name := "makeStep", desc := "()Z" } : Jvm.MethodName) ({ cls := "RedoJournal$Disk", name := "makeStep", desc := "()Z" } : Jvm.MethodName)),
  (Jvm.Cond.code ({ cls := "RedoJournal$Disk", name := "makeStep", desc := "()Z" } : Jvm.MethodName) prog_2_method_14_code (1 : Nat) (Option.some Jvm.ClassFile.FieldType.boolean)),
  (Jvm.Cond.methodLink "RedoJournal$Disk" (75 : Nat) ({ cls := "RedoJournal$Disk", name := "bringDown", desc := "(III)V" } : Jvm.MethodName)),
  (Jvm.Cond.instanceMethod ({ cls := "RedoJournal$Disk", name := "bringDown", desc := "(III)V" } : Jvm.MethodName)),
  (Jvm.Cond.selects "RedoJournal$Disk" ({ cls := "RedoJournal$Disk", name := "bringDown", desc := "(III)V" } : Jvm.MethodName) ({ cls := "RedoJournal$Disk", name := "bringDown", desc := "(III)V" } : Jvm.MethodName)),
  (Jvm.Cond.code ({ cls := "RedoJournal$Disk", name := "bringDown", desc := "(III)V" } : Jvm.MethodName) prog_2_method_11_code (5 : Nat) (Option.none : Option Jvm.ClassFile.FieldType)),
  (Jvm.Cond.methodLink "RedoJournal$Disk" (50 : Nat) ({ cls := "java/lang/System", name := "arraycopy", desc := "(Ljava/lang/Object;ILjava/lang/Object;II)V" } : Jvm.MethodName)),
  (Jvm.Cond.methodLink "RedoJournal" (104 : Nat) ({ cls := "RedoJournal$Disk", name := "writeHome", desc := "(I[BI)Z" } : Jvm.MethodName)),
  (Jvm.Cond.instanceMethod ({ cls := "RedoJournal$Disk", name := "writeHome", desc := "(I[BI)Z" } : Jvm.MethodName)),
  (Jvm.Cond.selects "RedoJournal$Disk" ({ cls := "RedoJournal$Disk", name := "writeHome", desc := "(I[BI)Z" } : Jvm.MethodName) ({ cls := "RedoJournal$Disk", name := "writeHome", desc := "(I[BI)Z" } : Jvm.MethodName)),
  (Jvm.Cond.code ({ cls := "RedoJournal$Disk", name := "writeHome", desc := "(I[BI)Z" } : Jvm.MethodName) prog_2_method_3_code (4 : Nat) (Option.some Jvm.ClassFile.FieldType.boolean)),
  (Jvm.Cond.methodLink "RedoJournal$Disk" (68 : Nat) ({ cls := "RedoJournal$Disk", name := "putUnderWay", desc := "(I)V" } : Jvm.MethodName)),
  (Jvm.Cond.instanceMethod ({ cls := "RedoJournal$Disk", name := "putUnderWay", desc := "(I)V" } : Jvm.MethodName)),
  (Jvm.Cond.selects "RedoJournal$Disk" ({ cls := "RedoJournal$Disk", name := "putUnderWay", desc := "(I)V" } : Jvm.MethodName) ({ cls := "RedoJournal$Disk", name := "putUnderWay", desc := "(I)V" } : Jvm.MethodName)),
  (Jvm.Cond.code ({ cls := "RedoJournal$Disk", name := "putUnderWay", desc := "(I)V" } : Jvm.MethodName) prog_2_method_12_code (2 : Nat) (Option.none : Option Jvm.ClassFile.FieldType)),
  (Jvm.Cond.methodLink "RedoJournalLaw" (36 : Nat) ({ cls := "RedoJournal", name := "commit", desc := "()I" } : Jvm.MethodName)),
  (Jvm.Cond.instanceMethod ({ cls := "RedoJournal", name := "commit", desc := "()I" } : Jvm.MethodName)),
  (Jvm.Cond.selects "RedoJournal" ({ cls := "RedoJournal", name := "commit", desc := "()I" } : Jvm.MethodName) ({ cls := "RedoJournal", name := "commit", desc := "()I" } : Jvm.MethodName)),
  (Jvm.Cond.code ({ cls := "RedoJournal", name := "commit", desc := "()I" } : Jvm.MethodName) prog_1_method_7_code (2 : Nat) (Option.some Jvm.ClassFile.FieldType.int)),
  (Jvm.Cond.methodLink "RedoJournal" (108 : Nat) ({ cls := "RedoJournal", name := "useOfRunning", desc := "()I" } : Jvm.MethodName)),
  (Jvm.Cond.instanceMethod ({ cls := "RedoJournal", name := "useOfRunning", desc := "()I" } : Jvm.MethodName)),
  (Jvm.Cond.code ({ cls := "RedoJournal", name := "useOfRunning", desc := "()I" } : Jvm.MethodName) prog_1_method_19_code (4 : Nat) (Option.some Jvm.ClassFile.FieldType.int)),
  (Jvm.Cond.methodLink "RedoJournal" (112 : Nat) ({ cls := "RedoJournal$Log", name := "used", desc := "()I" } : Jvm.MethodName)),
  (Jvm.Cond.instanceMethod ({ cls := "RedoJournal$Log", name := "used", desc := "()I" } : Jvm.MethodName)),
  (Jvm.Cond.selects "RedoJournal$Log" ({ cls := "RedoJournal$Log", name := "used", desc := "()I" } : Jvm.MethodName) ({ cls := "RedoJournal$Log", name := "used", desc := "()I" } : Jvm.MethodName)),
  (Jvm.Cond.code ({ cls := "RedoJournal$Log", name := "used", desc := "()I" } : Jvm.MethodName) prog_3_method_5_code (3 : Nat) (Option.some Jvm.ClassFile.FieldType.int)),
  (Jvm.Cond.methodLink "RedoJournal" (115 : Nat) ({ cls := "RedoJournal", name := "bringLogHome", desc := "()I" } : Jvm.MethodName)),
  (Jvm.Cond.instanceMethod ({ cls := "RedoJournal", name := "bringLogHome", desc := "()I" } : Jvm.MethodName)),
  (Jvm.Cond.code ({ cls := "RedoJournal", name := "bringLogHome", desc := "()I" } : Jvm.MethodName) prog_1_method_21_code (4 : Nat) (Option.some Jvm.ClassFile.FieldType.int)),
  (Jvm.Cond.methodLink "RedoJournal" (154 : Nat) ({ cls := "RedoJournal$Log", name := "latestImage", desc := "(I)I" } : Jvm.MethodName)),
  (Jvm.Cond.instanceMethod ({ cls := "RedoJournal$Log", name := "latestImage", desc := "(I)I" } : Jvm.MethodName)),
  (Jvm.Cond.selects "RedoJournal$Log" ({ cls := "RedoJournal$Log", name := "latestImage", desc := "(I)I" } : Jvm.MethodName) ({ cls := "RedoJournal$Log", name := "latestImage", desc := "(I)I" } : Jvm.MethodName)),
  (Jvm.Cond.code ({ cls := "RedoJournal$Log", name := "latestImage", desc := "(I)I" } : Jvm.MethodName) prog_3_method_9_code (3 : Nat) (Option.some Jvm.ClassFile.FieldType.int)),
  (Jvm.Cond.methodLink "RedoJournal$Log" (59 : Nat) ({ cls := "RedoJournal$Log", name := "imageOf", desc := "(II)I" } : Jvm.MethodName)),
  (Jvm.Cond.instanceMethod ({ cls := "RedoJournal$Log", name := "imageOf", desc := "(II)I" } : Jvm.MethodName)),
  (Jvm.Cond.selects "RedoJournal$Log" ({ cls := "RedoJournal$Log", name := "imageOf", desc := "(II)I" } : Jvm.MethodName) ({ cls := "RedoJournal$Log", name := "imageOf", desc := "(II)I" } : Jvm.MethodName)),
  (Jvm.Cond.code ({ cls := "RedoJournal$Log", name := "imageOf", desc := "(II)I" } : Jvm.MethodName) prog_3_method_8_code (4 : Nat) (Option.some Jvm.ClassFile.FieldType.int)),
  (Jvm.Cond.methodLink "RedoJournal$Log" (37 : Nat) ({ cls := "java/lang/Long", name := "bitCount", desc := "(J)I" } : Jvm.MethodName)),
  (Jvm.Cond.methodLink "RedoJournal" (158 : Nat) ({ cls := "RedoJournal", name := "endLog", desc := "()Z" } : Jvm.MethodName)),
  (Jvm.Cond.instanceMethod ({ cls := "RedoJournal", name := "endLog", desc := "()Z" } : Jvm.MethodName)),
  (Jvm.Cond.code ({ cls := "RedoJournal", name := "endLog", desc := "()Z" } : Jvm.MethodName) prog_1_method_23_code (1 : Nat) (Option.some Jvm.ClassFile.FieldType.boolean)),
  (Jvm.Cond.methodLink "RedoJournal" (144 : Nat) ({ cls := "RedoJournal$Disk", name := "writeRing", desc := "(I)Z" } : Jvm.MethodName)),
  (Jvm.Cond.instanceMethod ({ cls := "RedoJournal$Disk", name := "writeRing", desc := "(I)Z" } : Jvm.MethodName)),
  (Jvm.Cond.selects "RedoJournal$Disk" ({ cls := "RedoJournal$Disk", name := "writeRing", desc := "(I)Z" } : Jvm.MethodName) ({ cls := "RedoJournal$Disk", name := "writeRing", desc := "(I)Z" } : Jvm.MethodName)),
  (Jvm.Cond.code ({ cls := "RedoJournal$Disk", name := "writeRing", desc := "(I)Z" } : Jvm.MethodName) prog_2_method_4_code (2 : Nat) (Option.some Jvm.ClassFile.FieldType.boolean)),
  (Jvm.Cond.methodLink "RedoJournal" (118 : Nat) ({ cls := "RedoJournal", name := "writeTransaction", desc := "(I)Z" } : Jvm.MethodName)),
  (Jvm.Cond.instanceMethod ({ cls := "RedoJournal", name := "writeTransaction", desc := "(I)Z" } : Jvm.MethodName)),
  (Jvm.Cond.code ({ cls := "RedoJournal", name := "writeTransaction", desc := "(I)Z" } : Jvm.MethodName) prog_1_method_20_code (3 : Nat) (Option.some Jvm.ClassFile.FieldType.boolean)),
  (Jvm.Cond.methodLink "RedoJournal" (147 : Nat) ({ cls := "RedoJournal$Log", name := "append", desc := "(JJI[B)V" } : Jvm.MethodName)),
  (Jvm.Cond.instanceMethod ({ cls := "RedoJournal$Log", name := "append", desc := "(JJI[B)V" } : Jvm.MethodName)),
  (Jvm.Cond.selects "RedoJournal$Log" ({ cls := "RedoJournal$Log", name := "append", desc := "(JJI[B)V" } : Jvm.MethodName) ({ cls := "RedoJournal$Log", name := "append", desc := "(JJI[B)V" } : Jvm.MethodName)),
  (Jvm.Cond.code ({ cls := "RedoJournal$Log", name := "append", desc := "(JJI[B)V" } : Jvm.MethodName) prog_3_method_3_code (8 : Nat) (Option.none : Option Jvm.ClassFile.FieldType)),
  (Jvm.Cond.methodLink "RedoJournal$Log" (47 : Nat) ({ cls := "java/lang/System", name := "arraycopy", desc := "(Ljava/lang/Object;ILjava/lang/Object;II)V" } : Jvm.MethodName)),
  (Jvm.Cond.methodLink "RedoJournalLaw" (41 : Nat) ({ cls := "RedoJournal", name := "clear", desc := "()I" } : Jvm.MethodName)),
  (Jvm.Cond.instanceMethod ({ cls := "RedoJournal", name := "clear", desc := "()I" } : Jvm.MethodName)),
  (Jvm.Cond.selects "RedoJournal" ({ cls := "RedoJournal", name := "clear", desc := "()I" } : Jvm.MethodName) ({ cls := "RedoJournal", name := "clear", desc := "()I" } : Jvm.MethodName)),
  (Jvm.Cond.code ({ cls := "RedoJournal", name := "clear", desc := "()I" } : Jvm.MethodName) prog_1_method_8_code (1 : Nat) (Option.some Jvm.ClassFile.FieldType.int)),
  (Jvm.Cond.methodLink "RedoJournalLaw" (45 : Nat) ({ cls := "RedoJournal", name := "fuse", desc := "(I)I" } : Jvm.MethodName)),
  (Jvm.Cond.instanceMethod ({ cls := "RedoJournal", name := "fuse", desc := "(I)I" } : Jvm.MethodName)),
  (Jvm.Cond.selects "RedoJournal" ({ cls := "RedoJournal", name := "fuse", desc := "(I)I" } : Jvm.MethodName) ({ cls := "RedoJournal", name := "fuse", desc := "(I)I" } : Jvm.MethodName)),
  (Jvm.Cond.code ({ cls := "RedoJournal", name := "fuse", desc := "(I)I" } : Jvm.MethodName) prog_1_method_9_code (3 : Nat) (Option.some Jvm.ClassFile.FieldType.int)),
  (Jvm.Cond.constant "RedoJournal" (124 : Nat) (100000 : Int32)),
  (Jvm.Cond.methodLink "RedoJournalLaw" (49 : Nat) ({ cls := "RedoJournal", name := "fail", desc := "()I" } : Jvm.MethodName)),
  (Jvm.Cond.instanceMethod ({ cls := "RedoJournal", name := "fail", desc := "()I" } : Jvm.MethodName)),
  (Jvm.Cond.selects "RedoJournal" ({ cls := "RedoJournal", name := "fail", desc := "()I" } : Jvm.MethodName) ({ cls := "RedoJournal", name := "fail", desc := "()I" } : Jvm.MethodName)),
  (Jvm.Cond.code ({ cls := "RedoJournal", name := "fail", desc := "()I" } : Jvm.MethodName) prog_1_method_10_code (1 : Nat) (Option.some Jvm.ClassFile.FieldType.int)),
  (Jvm.Cond.methodLink "RedoJournalLaw" (55 : Nat) ({ cls := "RedoJournal", name := "mount", desc := "(J)I" } : Jvm.MethodName)),
  (Jvm.Cond.instanceMethod ({ cls := "RedoJournal", name := "mount", desc := "(J)I" } : Jvm.MethodName)),
  (Jvm.Cond.selects "RedoJournal" ({ cls := "RedoJournal", name := "mount", desc := "(J)I" } : Jvm.MethodName) ({ cls := "RedoJournal", name := "mount", desc := "(J)I" } : Jvm.MethodName)),
  (Jvm.Cond.code ({ cls := "RedoJournal", name := "mount", desc := "(J)I" } : Jvm.MethodName) prog_1_method_11_code (4 : Nat) (Option.some Jvm.ClassFile.FieldType.int)),
  (Jvm.Cond.methodLink "RedoJournal" (131 : Nat) ({ cls := "RedoJournal", name := "settleLog", desc := "(J)V" } : Jvm.MethodName)),
  (Jvm.Cond.instanceMethod ({ cls := "RedoJournal", name := "settleLog", desc := "(J)V" } : Jvm.MethodName)),
  (Jvm.Cond.code ({ cls := "RedoJournal", name := "settleLog", desc := "(J)V" } : Jvm.MethodName) prog_1_method_24_code (5 : Nat) (Option.none : Option Jvm.ClassFile.FieldType)),
  (Jvm.Cond.methodLink "RedoJournal" (168 : Nat) ({ cls := "RedoJournal$Disk", name := "placeUnderWay", desc := "(I)I" } : Jvm.MethodName)),
  (Jvm.Cond.instanceMethod ({ cls := "RedoJournal$Disk", name := "placeUnderWay", desc := "(I)I" } : Jvm.MethodName)),
  (Jvm.Cond.selects "RedoJournal$Disk" ({ cls := "RedoJournal$Disk", name := "placeUnderWay", desc := "(I)I" } : Jvm.MethodName) ({ cls := "RedoJournal$Disk", name := "placeUnderWay", desc := "(I)I" } : Jvm.MethodName)),
  (Jvm.Cond.code ({ cls := "RedoJournal$Disk", name := "placeUnderWay", desc := "(I)I" } : Jvm.MethodName) prog_2_method_7_code (3 : Nat) (Option.some Jvm.ClassFile.FieldType.int)),
  (Jvm.Cond.methodLink "RedoJournal" (171 : Nat) ({ cls := "RedoJournal$Disk", name := "isFirstHalfDown", desc := "(IJ)Z" } : Jvm.MethodName)),
  (Jvm.Cond.static ({ cls := "RedoJournal$Disk", name := "isFirstHalfDown", desc := "(IJ)Z" } : Jvm.MethodName)),
  (Jvm.Cond.code ({ cls := "RedoJournal$Disk", name := "isFirstHalfDown", desc := "(IJ)Z" } : Jvm.MethodName) prog_2_method_8_code (4 : Nat) (Option.some Jvm.ClassFile.FieldType.boolean)),
  (Jvm.Cond.methodLink "RedoJournal$Disk" (86 : Nat) ({ cls := "RedoJournal$Disk", name := "partDown", desc := "(IJ)I" } : Jvm.MethodName)),
  (Jvm.Cond.static ({ cls := "RedoJournal$Disk", name := "partDown", desc := "(IJ)I" } : Jvm.MethodName)),
  (Jvm.Cond.code ({ cls := "RedoJournal$Disk", name := "partDown", desc := "(IJ)I" } : Jvm.MethodName) prog_2_method_10_code (3 : Nat) (Option.some Jvm.ClassFile.FieldType.int)),
  (Jvm.Cond.methodLink "RedoJournal" (175 : Nat) ({ cls := "RedoJournal$Log", name := "dropLatest", desc := "()V" } : Jvm.MethodName)),
  (Jvm.Cond.instanceMethod ({ cls := "RedoJournal$Log", name := "dropLatest", desc := "()V" } : Jvm.MethodName)),
  (Jvm.Cond.selects "RedoJournal$Log" ({ cls := "RedoJournal$Log", name := "dropLatest", desc := "()V" } : Jvm.MethodName) ({ cls := "RedoJournal$Log", name := "dropLatest", desc := "()V" } : Jvm.MethodName)),
  (Jvm.Cond.code ({ cls := "RedoJournal$Log", name := "dropLatest", desc := "()V" } : Jvm.MethodName) prog_3_method_4_code (1 : Nat) (Option.none : Option Jvm.ClassFile.FieldType)),
  (Jvm.Cond.methodLink "RedoJournal" (135 : Nat) ({ cls := "RedoJournal$Disk", name := "settle", desc := "(J)V" } : Jvm.MethodName)),
  (Jvm.Cond.instanceMethod ({ cls := "RedoJournal$Disk", name := "settle", desc := "(J)V" } : Jvm.MethodName)),
  (Jvm.Cond.selects "RedoJournal$Disk" ({ cls := "RedoJournal$Disk", name := "settle", desc := "(J)V" } : Jvm.MethodName) ({ cls := "RedoJournal$Disk", name := "settle", desc := "(J)V" } : Jvm.MethodName)),
  (Jvm.Cond.code ({ cls := "RedoJournal$Disk", name := "settle", desc := "(J)V" } : Jvm.MethodName) prog_2_method_6_code (5 : Nat) (Option.none : Option Jvm.ClassFile.FieldType)),
  (Jvm.Cond.methodLink "RedoJournal$Disk" (79 : Nat) ({ cls := "RedoJournal$Disk", name := "isFirstHalfDown", desc := "(IJ)Z" } : Jvm.MethodName)),
  (Jvm.Cond.methodLink "RedoJournal$Disk" (83 : Nat) ({ cls := "RedoJournal$Disk", name := "isLastHalfDown", desc := "(IJ)Z" } : Jvm.MethodName)),
  (Jvm.Cond.static ({ cls := "RedoJournal$Disk", name := "isLastHalfDown", desc := "(IJ)Z" } : Jvm.MethodName)),
  (Jvm.Cond.code ({ cls := "RedoJournal$Disk", name := "isLastHalfDown", desc := "(IJ)Z" } : Jvm.MethodName) prog_2_method_9_code (4 : Nat) (Option.some Jvm.ClassFile.FieldType.boolean)),
  (Jvm.Cond.methodLink "RedoJournal" (138 : Nat) ({ cls := "RedoJournal", name := "replay", desc := "()I" } : Jvm.MethodName)),
  (Jvm.Cond.instanceMethod ({ cls := "RedoJournal", name := "replay", desc := "()I" } : Jvm.MethodName)),
  (Jvm.Cond.code ({ cls := "RedoJournal", name := "replay", desc := "()I" } : Jvm.MethodName) prog_1_method_22_code (6 : Nat) (Option.some Jvm.ClassFile.FieldType.int)),
  (Jvm.Cond.methodLink "RedoJournal" (161 : Nat) ({ cls := "RedoJournal$Log", name := "living", desc := "(I)J" } : Jvm.MethodName)),
  (Jvm.Cond.instanceMethod ({ cls := "RedoJournal$Log", name := "living", desc := "(I)J" } : Jvm.MethodName)),
  (Jvm.Cond.selects "RedoJournal$Log" ({ cls := "RedoJournal$Log", name := "living", desc := "(I)J" } : Jvm.MethodName) ({ cls := "RedoJournal$Log", name := "living", desc := "(I)J" } : Jvm.MethodName)),
  (Jvm.Cond.code ({ cls := "RedoJournal$Log", name := "living", desc := "(I)J" } : Jvm.MethodName) prog_3_method_7_code (5 : Nat) (Option.some Jvm.ClassFile.FieldType.long)),
  (Jvm.Cond.methodLink "RedoJournal" (164 : Nat) ({ cls := "RedoJournal$Log", name := "imageOf", desc := "(II)I" } : Jvm.MethodName)),
  (Jvm.Cond.methodLink "RedoJournalLaw" (60 : Nat) ({ cls := "RedoJournal", name := "count", desc := "(I)I" } : Jvm.MethodName)),
  (Jvm.Cond.instanceMethod ({ cls := "RedoJournal", name := "count", desc := "(I)I" } : Jvm.MethodName)),
  (Jvm.Cond.selects "RedoJournal" ({ cls := "RedoJournal", name := "count", desc := "(I)I" } : Jvm.MethodName) ({ cls := "RedoJournal", name := "count", desc := "(I)I" } : Jvm.MethodName)),
  (Jvm.Cond.code ({ cls := "RedoJournal", name := "count", desc := "(I)I" } : Jvm.MethodName) prog_1_method_12_code (2 : Nat) (Option.some Jvm.ClassFile.FieldType.int)),
  (Jvm.Cond.classLink "RedoJournalLaw" (10 : Nat) "RedoJournalModel"),
  (Jvm.Cond.instantiable "RedoJournalModel" (20 : Nat)),
  (Jvm.Cond.methodLink "RedoJournalLaw" (12 : Nat) ({ cls := "RedoJournalModel", name := "<init>", desc := "()V" } : Jvm.MethodName)),
  (Jvm.Cond.instanceMethod ({ cls := "RedoJournalModel", name := "<init>", desc := "()V" } : Jvm.MethodName)),
  (Jvm.Cond.code ({ cls := "RedoJournalModel", name := "<init>", desc := "()V" } : Jvm.MethodName) prog_5_method_1_code (1 : Nat) (Option.none : Option Jvm.ClassFile.FieldType)),
  (Jvm.Cond.methodLink "RedoJournalModel" (1 : Nat) ({ cls := "java/lang/Object", name := "<init>", desc := "()V" } : Jvm.MethodName)),
  (Jvm.Cond.constant "RedoJournalModel" (45 : Nat) (51200 : Int32)),
  (Jvm.Cond.methodLink "RedoJournalModel" (49 : Nat) ({ cls := "RedoJournalModel", name := "lay", desc := "(I)I" } : Jvm.MethodName)),
  (Jvm.Cond.instanceMethod ({ cls := "RedoJournalModel", name := "lay", desc := "(I)I" } : Jvm.MethodName)),
  (Jvm.Cond.selects "RedoJournalModel" ({ cls := "RedoJournalModel", name := "lay", desc := "(I)I" } : Jvm.MethodName) ({ cls := "RedoJournalModel", name := "lay", desc := "(I)I" } : Jvm.MethodName)),
  (Jvm.Cond.code ({ cls := "RedoJournalModel", name := "lay", desc := "(I)I" } : Jvm.MethodName) prog_5_method_3_code (3 : Nat) (Option.some Jvm.ClassFile.FieldType.int)),
  (Jvm.Cond.methodLink "RedoJournalModel" (76 : Nat) ({ cls := "RedoJournalModel", name := "drop", desc := "()V" } : Jvm.MethodName)),
  (Jvm.Cond.instanceMethod ({ cls := "RedoJournalModel", name := "drop", desc := "()V" } : Jvm.MethodName)),
  (Jvm.Cond.code ({ cls := "RedoJournalModel", name := "drop", desc := "()V" } : Jvm.MethodName) prog_5_method_4_code (2 : Nat) (Option.none : Option Jvm.ClassFile.FieldType)),
  (Jvm.Cond.fieldLink "RedoJournalModel" (53 : Nat) "RedoJournalModel" "thrown" "I"),
  (Jvm.Cond.fieldLink "RedoJournalModel" (57 : Nat) "RedoJournalModel" "ring" "I"),
  (Jvm.Cond.fieldLink "RedoJournalModel" (60 : Nat) "RedoJournalModel" "off" "Z"),
  (Jvm.Cond.fieldLink "RedoJournalModel" (64 : Nat) "RedoJournalModel" "fuse" "I"),
  (Jvm.Cond.fieldLink "RedoJournalModel" (67 : Nat) "RedoJournalModel" "steps" "I"),
  (Jvm.Cond.fieldLink "RedoJournalModel" (7 : Nat) "RedoJournalModel" "home" "[B"),
  (Jvm.Cond.fieldLink "RedoJournalModel" (13 : Nat) "RedoJournalModel" "base" "[B"),
  (Jvm.Cond.fieldLink "RedoJournalModel" (16 : Nat) "RedoJournalModel" "now" "[B"),
  (Jvm.Cond.fieldLink "RedoJournalModel" (70 : Nat) "RedoJournalModel" "many" "I"),
  (Jvm.Cond.fieldLink "RedoJournalModel" (19 : Nat) "RedoJournalModel" "kinds" "[I"),
  (Jvm.Cond.fieldLink "RedoJournalModel" (23 : Nat) "RedoJournalModel" "blocks" "[I"),
  (Jvm.Cond.fieldLink "RedoJournalModel" (26 : Nat) "RedoJournalModel" "runs" "[Z"),
  (Jvm.Cond.fieldLink "RedoJournalModel" (30 : Nat) "RedoJournalModel" "revokes" "[Z"),
  (Jvm.Cond.fieldLink "RedoJournalModel" (73 : Nat) "RedoJournalModel" "log" "I"),
  (Jvm.Cond.fieldLink "RedoJournalModel" (119 : Nat) "RedoJournalModel" "before" "I"),
  (Jvm.Cond.fieldLink "RedoJournalModel" (33 : Nat) "RedoJournalModel" "from" "[I"),
  (Jvm.Cond.fieldLink "RedoJournalModel" (36 : Nat) "RedoJournalModel" "uses" "[I"),
  (Jvm.Cond.fieldLink "RedoJournalModel" (39 : Nat) "RedoJournalModel" "revoked" "[Z"),
  (Jvm.Cond.fieldLink "RedoJournalModel" (42 : Nat) "RedoJournalModel" "had" "[I"),
  (Jvm.Cond.fieldLink "RedoJournalModel" (46 : Nat) "RedoJournalModel" "data" "[B"),
  (Jvm.Cond.arrayClass Jvm.ClassFile.FieldType.boolean),
  (Jvm.Cond.methodLink "RedoJournalLaw" (17 : Nat) ({ cls := "RedoJournalModel", name := "lay", desc := "(I)I" } : Jvm.MethodName)),
  (Jvm.Cond.methodLink "RedoJournalLaw" (22 : Nat) ({ cls := "RedoJournalModel", name := "write", desc := "(IIII)I" } : Jvm.MethodName)),
  (Jvm.Cond.instanceMethod ({ cls := "RedoJournalModel", name := "write", desc := "(IIII)I" } : Jvm.MethodName)),
  (Jvm.Cond.selects "RedoJournalModel" ({ cls := "RedoJournalModel", name := "write", desc := "(IIII)I" } : Jvm.MethodName) ({ cls := "RedoJournalModel", name := "write", desc := "(IIII)I" } : Jvm.MethodName)),
  (Jvm.Cond.code ({ cls := "RedoJournalModel", name := "write", desc := "(IIII)I" } : Jvm.MethodName) prog_5_method_11_code (7 : Nat) (Option.some Jvm.ClassFile.FieldType.int)),
  (Jvm.Cond.methodLink "RedoJournalModel" (89 : Nat) ({ cls := "RedoJournalModel", name := "noBlock", desc := "(I)Z" } : Jvm.MethodName)),
  (Jvm.Cond.instanceMethod ({ cls := "RedoJournalModel", name := "noBlock", desc := "(I)Z" } : Jvm.MethodName)),
  (Jvm.Cond.code ({ cls := "RedoJournalModel", name := "noBlock", desc := "(I)Z" } : Jvm.MethodName) prog_5_method_10_code (2 : Nat) (Option.some Jvm.ClassFile.FieldType.boolean)),
  (Jvm.Cond.methodLink "RedoJournalModel" (93 : Nat) ({ cls := "RedoJournalModel", name := "size", desc := "([Z)I" } : Jvm.MethodName)),
  (Jvm.Cond.instanceMethod ({ cls := "RedoJournalModel", name := "size", desc := "([Z)I" } : Jvm.MethodName)),
  (Jvm.Cond.code ({ cls := "RedoJournalModel", name := "size", desc := "([Z)I" } : Jvm.MethodName) prog_5_method_5_code (4 : Nat) (Option.some Jvm.ClassFile.FieldType.int)),
  (Jvm.Cond.methodLink "RedoJournalLaw" (27 : Nat) ({ cls := "RedoJournalModel", name := "read", desc := "(II)I" } : Jvm.MethodName)),
  (Jvm.Cond.instanceMethod ({ cls := "RedoJournalModel", name := "read", desc := "(II)I" } : Jvm.MethodName)),
  (Jvm.Cond.selects "RedoJournalModel" ({ cls := "RedoJournalModel", name := "read", desc := "(II)I" } : Jvm.MethodName) ({ cls := "RedoJournalModel", name := "read", desc := "(II)I" } : Jvm.MethodName)),
  (Jvm.Cond.code ({ cls := "RedoJournalModel", name := "read", desc := "(II)I" } : Jvm.MethodName) prog_5_method_12_code (3 : Nat) (Option.some Jvm.ClassFile.FieldType.int)),
  (Jvm.Cond.methodLink "RedoJournalLaw" (31 : Nat) ({ cls := "RedoJournalModel", name := "forget", desc := "(I)I" } : Jvm.MethodName)),
  (Jvm.Cond.instanceMethod ({ cls := "RedoJournalModel", name := "forget", desc := "(I)I" } : Jvm.MethodName)),
  (Jvm.Cond.selects "RedoJournalModel" ({ cls := "RedoJournalModel", name := "forget", desc := "(I)I" } : Jvm.MethodName) ({ cls := "RedoJournalModel", name := "forget", desc := "(I)I" } : Jvm.MethodName)),
  (Jvm.Cond.code ({ cls := "RedoJournalModel", name := "forget", desc := "(I)I" } : Jvm.MethodName) prog_5_method_13_code (2 : Nat) (Option.some Jvm.ClassFile.FieldType.int)),
  (Jvm.Cond.methodLink "RedoJournalModel" (85 : Nat) ({ cls := "RedoJournalModel", name := "copy", desc := "([BI[BII)V" } : Jvm.MethodName)),
  (Jvm.Cond.instanceMethod ({ cls := "RedoJournalModel", name := "copy", desc := "([BI[BII)V" } : Jvm.MethodName)),
  (Jvm.Cond.code ({ cls := "RedoJournalModel", name := "copy", desc := "([BI[BII)V" } : Jvm.MethodName) prog_5_method_6_code (7 : Nat) (Option.none : Option Jvm.ClassFile.FieldType)),
  (Jvm.Cond.methodLink "RedoJournalLaw" (35 : Nat) ({ cls := "RedoJournalModel", name := "direct", desc := "(II)I" } : Jvm.MethodName)),
  (Jvm.Cond.instanceMethod ({ cls := "RedoJournalModel", name := "direct", desc := "(II)I" } : Jvm.MethodName)),
  (Jvm.Cond.selects "RedoJournalModel" ({ cls := "RedoJournalModel", name := "direct", desc := "(II)I" } : Jvm.MethodName) ({ cls := "RedoJournalModel", name := "direct", desc := "(II)I" } : Jvm.MethodName)),
  (Jvm.Cond.code ({ cls := "RedoJournalModel", name := "direct", desc := "(II)I" } : Jvm.MethodName) prog_5_method_15_code (4 : Nat) (Option.some Jvm.ClassFile.FieldType.int)),
  (Jvm.Cond.methodLink "RedoJournalModel" (97 : Nat) ({ cls := "RedoJournalModel", name := "told", desc := "(I)I" } : Jvm.MethodName)),
  (Jvm.Cond.instanceMethod ({ cls := "RedoJournalModel", name := "told", desc := "(I)I" } : Jvm.MethodName)),
  (Jvm.Cond.code ({ cls := "RedoJournalModel", name := "told", desc := "(I)I" } : Jvm.MethodName) prog_5_method_14_code (4 : Nat) (Option.some Jvm.ClassFile.FieldType.int)),
  (Jvm.Cond.methodLink "RedoJournalModel" (100 : Nat) ({ cls := "RedoJournalModel", name := "step", desc := "(II)Z" } : Jvm.MethodName)),
  (Jvm.Cond.instanceMethod ({ cls := "RedoJournalModel", name := "step", desc := "(II)Z" } : Jvm.MethodName)),
  (Jvm.Cond.code ({ cls := "RedoJournalModel", name := "step", desc := "(II)Z" } : Jvm.MethodName) prog_5_method_8_code (5 : Nat) (Option.some Jvm.ClassFile.FieldType.boolean)),
  (Jvm.Cond.methodLink "RedoJournalModel" (79 : Nat) ({ cls := "RedoJournalModel", name := "powerOff", desc := "()V" } : Jvm.MethodName)),
  (Jvm.Cond.instanceMethod ({ cls := "RedoJournalModel", name := "powerOff", desc := "()V" } : Jvm.MethodName)),
  (Jvm.Cond.code ({ cls := "RedoJournalModel", name := "powerOff", desc := "()V" } : Jvm.MethodName) prog_5_method_7_code (1 : Nat) (Option.none : Option Jvm.ClassFile.FieldType)),
  (Jvm.Cond.methodLink "RedoJournalModel" (82 : Nat) ({ cls := "RedoJournalModel", name := "settle", desc := "()V" } : Jvm.MethodName)),
  (Jvm.Cond.instanceMethod ({ cls := "RedoJournalModel", name := "settle", desc := "()V" } : Jvm.MethodName)),
  (Jvm.Cond.code ({ cls := "RedoJournalModel", name := "settle", desc := "()V" } : Jvm.MethodName) prog_5_method_9_code (2 : Nat) (Option.none : Option Jvm.ClassFile.FieldType)),
  (Jvm.Cond.methodLink "RedoJournalLaw" (40 : Nat) ({ cls := "RedoJournalModel", name := "commit", desc := "()I" } : Jvm.MethodName)),
  (Jvm.Cond.instanceMethod ({ cls := "RedoJournalModel", name := "commit", desc := "()I" } : Jvm.MethodName)),
  (Jvm.Cond.selects "RedoJournalModel" ({ cls := "RedoJournalModel", name := "commit", desc := "()I" } : Jvm.MethodName) ({ cls := "RedoJournalModel", name := "commit", desc := "()I" } : Jvm.MethodName)),
  (Jvm.Cond.code ({ cls := "RedoJournalModel", name := "commit", desc := "()I" } : Jvm.MethodName) prog_5_method_18_code (5 : Nat) (Option.some Jvm.ClassFile.FieldType.int)),
  (Jvm.Cond.methodLink "RedoJournalModel" (104 : Nat) ({ cls := "RedoJournalModel", name := "used", desc := "()I" } : Jvm.MethodName)),
  (Jvm.Cond.instanceMethod ({ cls := "RedoJournalModel", name := "used", desc := "()I" } : Jvm.MethodName)),
  (Jvm.Cond.code ({ cls := "RedoJournalModel", name := "used", desc := "()I" } : Jvm.MethodName) prog_5_method_16_code (3 : Nat) (Option.some Jvm.ClassFile.FieldType.int)),
  (Jvm.Cond.methodLink "RedoJournalModel" (108 : Nat) ({ cls := "RedoJournalModel", name := "clearing", desc := "()I" } : Jvm.MethodName)),
  (Jvm.Cond.instanceMethod ({ cls := "RedoJournalModel", name := "clearing", desc := "()I" } : Jvm.MethodName)),
  (Jvm.Cond.code ({ cls := "RedoJournalModel", name := "clearing", desc := "()I" } : Jvm.MethodName) prog_5_method_19_code (4 : Nat) (Option.some Jvm.ClassFile.FieldType.int)),
  (Jvm.Cond.methodLink "RedoJournalModel" (115 : Nat) ({ cls := "RedoJournalModel", name := "empty", desc := "()Z" } : Jvm.MethodName)),
  (Jvm.Cond.instanceMethod ({ cls := "RedoJournalModel", name := "empty", desc := "()Z" } : Jvm.MethodName)),
  (Jvm.Cond.code ({ cls := "RedoJournalModel", name := "empty", desc := "()Z" } : Jvm.MethodName) prog_5_method_20_code (1 : Nat) (Option.some Jvm.ClassFile.FieldType.boolean)),
  (Jvm.Cond.methodLink "RedoJournalModel" (111 : Nat) ({ cls := "RedoJournalModel", name := "enter", desc := "(I)V" } : Jvm.MethodName)),
  (Jvm.Cond.instanceMethod ({ cls := "RedoJournalModel", name := "enter", desc := "(I)V" } : Jvm.MethodName)),
  (Jvm.Cond.code ({ cls := "RedoJournalModel", name := "enter", desc := "(I)V" } : Jvm.MethodName) prog_5_method_17_code (4 : Nat) (Option.none : Option Jvm.ClassFile.FieldType)),
  (Jvm.Cond.methodLink "RedoJournalLaw" (44 : Nat) ({ cls := "RedoJournalModel", name := "clear", desc := "()I" } : Jvm.MethodName)),
  (Jvm.Cond.instanceMethod ({ cls := "RedoJournalModel", name := "clear", desc := "()I" } : Jvm.MethodName)),
  (Jvm.Cond.selects "RedoJournalModel" ({ cls := "RedoJournalModel", name := "clear", desc := "()I" } : Jvm.MethodName) ({ cls := "RedoJournalModel", name := "clear", desc := "()I" } : Jvm.MethodName)),
  (Jvm.Cond.code ({ cls := "RedoJournalModel", name := "clear", desc := "()I" } : Jvm.MethodName) prog_5_method_21_code (1 : Nat) (Option.some Jvm.ClassFile.FieldType.int)),
  (Jvm.Cond.methodLink "RedoJournalLaw" (48 : Nat) ({ cls := "RedoJournalModel", name := "fuse", desc := "(I)I" } : Jvm.MethodName)),
  (Jvm.Cond.instanceMethod ({ cls := "RedoJournalModel", name := "fuse", desc := "(I)I" } : Jvm.MethodName)),
  (Jvm.Cond.selects "RedoJournalModel" ({ cls := "RedoJournalModel", name := "fuse", desc := "(I)I" } : Jvm.MethodName) ({ cls := "RedoJournalModel", name := "fuse", desc := "(I)I" } : Jvm.MethodName)),
  (Jvm.Cond.code ({ cls := "RedoJournalModel", name := "fuse", desc := "(I)I" } : Jvm.MethodName) prog_5_method_22_code (3 : Nat) (Option.some Jvm.ClassFile.FieldType.int)),
  (Jvm.Cond.constant "RedoJournalModel" (122 : Nat) (100000 : Int32)),
  (Jvm.Cond.methodLink "RedoJournalLaw" (52 : Nat) ({ cls := "RedoJournalModel", name := "fail", desc := "()I" } : Jvm.MethodName)),
  (Jvm.Cond.instanceMethod ({ cls := "RedoJournalModel", name := "fail", desc := "()I" } : Jvm.MethodName)),
  (Jvm.Cond.selects "RedoJournalModel" ({ cls := "RedoJournalModel", name := "fail", desc := "()I" } : Jvm.MethodName) ({ cls := "RedoJournalModel", name := "fail", desc := "()I" } : Jvm.MethodName)),
  (Jvm.Cond.code ({ cls := "RedoJournalModel", name := "fail", desc := "()I" } : Jvm.MethodName) prog_5_method_23_code (1 : Nat) (Option.some Jvm.ClassFile.FieldType.int)),
  (Jvm.Cond.methodLink "RedoJournalLaw" (59 : Nat) ({ cls := "RedoJournalModel", name := "mount", desc := "(J)I" } : Jvm.MethodName)),
  (Jvm.Cond.instanceMethod ({ cls := "RedoJournalModel", name := "mount", desc := "(J)I" } : Jvm.MethodName)),
  (Jvm.Cond.selects "RedoJournalModel" ({ cls := "RedoJournalModel", name := "mount", desc := "(J)I" } : Jvm.MethodName) ({ cls := "RedoJournalModel", name := "mount", desc := "(J)I" } : Jvm.MethodName)),
  (Jvm.Cond.code ({ cls := "RedoJournalModel", name := "mount", desc := "(J)I" } : Jvm.MethodName) prog_5_method_26_code (6 : Nat) (Option.some Jvm.ClassFile.FieldType.int)),
  (Jvm.Cond.methodLink "RedoJournalModel" (125 : Nat) ({ cls := "RedoJournalModel", name := "down", desc := "(J)V" } : Jvm.MethodName)),
  (Jvm.Cond.instanceMethod ({ cls := "RedoJournalModel", name := "down", desc := "(J)V" } : Jvm.MethodName)),
  (Jvm.Cond.code ({ cls := "RedoJournalModel", name := "down", desc := "(J)V" } : Jvm.MethodName) prog_5_method_24_code (7 : Nat) (Option.none : Option Jvm.ClassFile.FieldType)),
  (Jvm.Cond.constantLong "RedoJournalModel" (123 : Nat) (3 : Int64)),
  (Jvm.Cond.methodLink "RedoJournalModel" (129 : Nat) ({ cls := "RedoJournalModel", name := "isRevoked", desc := "(II)Z" } : Jvm.MethodName)),
  (Jvm.Cond.instanceMethod ({ cls := "RedoJournalModel", name := "isRevoked", desc := "(II)Z" } : Jvm.MethodName)),
  (Jvm.Cond.code ({ cls := "RedoJournalModel", name := "isRevoked", desc := "(II)Z" } : Jvm.MethodName) prog_5_method_25_code (5 : Nat) (Option.some Jvm.ClassFile.FieldType.boolean)),
  (Jvm.Cond.methodLink "RedoJournalLaw" (63 : Nat) ({ cls := "RedoJournalModel", name := "count", desc := "(I)I" } : Jvm.MethodName)),
  (Jvm.Cond.instanceMethod ({ cls := "RedoJournalModel", name := "count", desc := "(I)I" } : Jvm.MethodName)),
  (Jvm.Cond.selects "RedoJournalModel" ({ cls := "RedoJournalModel", name := "count", desc := "(I)I" } : Jvm.MethodName) ({ cls := "RedoJournalModel", name := "count", desc := "(I)I" } : Jvm.MethodName)),
  (Jvm.Cond.code ({ cls := "RedoJournalModel", name := "count", desc := "(I)I" } : Jvm.MethodName) prog_5_method_27_code (4 : Nat) (Option.some Jvm.ClassFile.FieldType.int)),
  (Jvm.Cond.constantLong "RedoJournalLaw" (53 : Nat) (4294967295 : Int64))]
