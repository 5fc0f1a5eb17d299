set_option maxRecDepth 100000 in
theorem wA_good : wA.all goodWord = true := by decide +kernel
set_option maxRecDepth 100000 in
theorem wA_in : ∀ w ∈ wA, w ∈ lw_tbl := by
  have h : wA = [56, 58, 60, 62, 64, 66, 68, 70, 91, 93, 95, 97, 99, 101, 103, 113, 115, 117, 119, 121, 123, 361, 363, 365, 367, 369, 371, 373, 375, 377, 379, 381, 383, 385, 387, 389, 391, 393, 395, 397, 399, 0, 1, 2, 3, 4, 5, 6, 7, 8, 9, 10, 11, 12, 13, 14, 15, 16, 17, 18, 19, 20, 21, 22, 23, 24, 25, 26, 27, 28, 29, 30, 31, 32, 33, 34, 35, 36, 37, 38, 40, 41, 42, 43, 44, 45, 46, 47, 48, 49, 50, 51, 52, 53, 54, 55, 73, 74, 75, 76, 78, 79, 80, 81, 82, 83, 84, 85, 86, 87, 88, 89, 90, 106, 107, 108, 109, 110, 111, 112, 126, 127, 128, 129, 130, 131, 132, 133, 134, 135, 136, 137, 138, 139, 140, 141, 142, 143, 144, 145, 146, 148, 149, 150, 151, 152, 153, 154, 155, 156, 157, 158, 159, 160, 161, 162, 163, 164, 165, 166, 167, 168, 169, 170, 171, 172, 173, 174, 175, 176, 177, 178, 179, 180, 181, 182, 183, 184, 185, 186, 187, 188, 189, 190, 191, 192, 193, 194, 195, 196, 197, 198, 199, 200, 201, 202, 203, 204, 205, 206, 207, 208, 209, 210, 211, 212, 213, 215, 216, 217, 218, 219, 222, 223, 224, 225, 226, 227, 228, 229, 230, 232, 233, 234, 235, 236, 237, 238, 240, 241, 242, 243, 244, 245, 247, 248, 249, 250, 252, 253, 255, 256, 257, 258, 259, 260, 261, 263, 264, 265, 266, 267, 268, 269, 270, 271, 272, 273, 274, 275, 276, 277, 278, 279, 280, 281, 282, 283, 284, 285, 286, 287, 289, 290, 291, 292, 293, 294, 295, 296, 297, 298, 299, 300, 301, 302, 303, 304, 305, 306, 307, 308, 309, 310, 311, 312, 313, 315, 316, 317, 318, 319, 320, 321, 322, 323, 324, 325, 326, 327, 328, 329, 330, 331, 332, 333, 334, 335, 336, 337, 339, 340, 341, 342, 343, 344, 345, 346, 347, 348, 349, 350, 351, 352, 353, 354, 355, 356, 357, 358, 359, 360, 402, 403, 404, 405, 406, 407, 408, 410, 411, 412, 414, 415, 416, 417, 418, 419, 420, 421, 422, 423, 424, 426, 427, 428, 429, 430, 431, 432, 434, 435, 436, 438, 439, 440, 442, 443, 444, 446, 447, 448, 449, 450, 451, 452, 454, 455, 456, 458, 459, 460, 462, 463, 464, 466, 467, 468, 469, 470, 471, 472, 473, 474, 475, 476, 477, 478, 479, 480, 481, 482, 483, 484, 485, 487, 488, 489, 490, 492, 493, 494, 495, 496, 497, 498].filterMap (fun i => lw_tbl[i]?) := rfl
  intro w hw
  rw [h] at hw
  obtain ⟨i, -, hi⟩ := List.mem_filterMap.mp hw
  exact List.mem_of_getElem? hi
theorem mA_0 : (Jvm.Cond.laysFinal "RedoJournal$Disk" "RedoJournal$Disk" "down" "[B") ∈ wA := List.mem_of_getElem? (i := 0) rfl
theorem mA_1 : (Jvm.Cond.laysFinal "RedoJournal$Disk" "RedoJournal$Disk" "written" "[B") ∈ wA := List.mem_of_getElem? (i := 1) rfl
theorem mA_2 : (Jvm.Cond.laysFinal "RedoJournal$Disk" "RedoJournal$Disk" "order" "[I") ∈ wA := List.mem_of_getElem? (i := 2) rfl
theorem mA_3 : (Jvm.Cond.lays "RedoJournal$Disk" "RedoJournal$Disk" "underWay" "I") ∈ wA := List.mem_of_getElem? (i := 3) rfl
theorem mA_4 : (Jvm.Cond.lays "RedoJournal$Disk" "RedoJournal$Disk" "homesUnderWay" "J") ∈ wA := List.mem_of_getElem? (i := 4) rfl
theorem mA_5 : (Jvm.Cond.lays "RedoJournal$Disk" "RedoJournal$Disk" "on" "Z") ∈ wA := List.mem_of_getElem? (i := 5) rfl
theorem mA_6 : (Jvm.Cond.lays "RedoJournal$Disk" "RedoJournal$Disk" "stepsLeft" "I") ∈ wA := List.mem_of_getElem? (i := 6) rfl
theorem mA_7 : (Jvm.Cond.lays "RedoJournal$Disk" "RedoJournal$Disk" "steps" "I") ∈ wA := List.mem_of_getElem? (i := 7) rfl
theorem mA_8 : (Jvm.Cond.laysFinal "RedoJournal$Log" "RedoJournal$Log" "blocks" "[J") ∈ wA := List.mem_of_getElem? (i := 8) rfl
theorem mA_9 : (Jvm.Cond.laysFinal "RedoJournal$Log" "RedoJournal$Log" "revokes" "[J") ∈ wA := List.mem_of_getElem? (i := 9) rfl
theorem mA_10 : (Jvm.Cond.laysFinal "RedoJournal$Log" "RedoJournal$Log" "uses" "[I") ∈ wA := List.mem_of_getElem? (i := 10) rfl
theorem mA_11 : (Jvm.Cond.laysFinal "RedoJournal$Log" "RedoJournal$Log" "firstImages" "[I") ∈ wA := List.mem_of_getElem? (i := 11) rfl
theorem mA_12 : (Jvm.Cond.lays "RedoJournal$Log" "RedoJournal$Log" "size" "I") ∈ wA := List.mem_of_getElem? (i := 12) rfl
theorem mA_13 : (Jvm.Cond.laysFinal "RedoJournal$Log" "RedoJournal$Log" "images" "[B") ∈ wA := List.mem_of_getElem? (i := 13) rfl
theorem mA_14 : (Jvm.Cond.lays "RedoJournal$Log" "RedoJournal$Log" "imagesUsed" "I") ∈ wA := List.mem_of_getElem? (i := 14) rfl
theorem mA_15 : (Jvm.Cond.laysFinal "RedoJournal" "RedoJournal" "disk" "LRedoJournal$Disk;") ∈ wA := List.mem_of_getElem? (i := 15) rfl
theorem mA_16 : (Jvm.Cond.laysFinal "RedoJournal" "RedoJournal" "log" "LRedoJournal$Log;") ∈ wA := List.mem_of_getElem? (i := 16) rfl
theorem mA_17 : (Jvm.Cond.laysFinal "RedoJournal" "RedoJournal" "now" "[B") ∈ wA := List.mem_of_getElem? (i := 17) rfl
theorem mA_18 : (Jvm.Cond.lays "RedoJournal" "RedoJournal" "ringBlocks" "I") ∈ wA := List.mem_of_getElem? (i := 18) rfl
theorem mA_19 : (Jvm.Cond.lays "RedoJournal" "RedoJournal" "running" "J") ∈ wA := List.mem_of_getElem? (i := 19) rfl
theorem mA_20 : (Jvm.Cond.lays "RedoJournal" "RedoJournal" "revoked" "J") ∈ wA := List.mem_of_getElem? (i := 20) rfl
theorem mA_21 : (Jvm.Cond.lays "RedoJournalModel" "RedoJournalModel" "thrown" "I") ∈ wA := List.mem_of_getElem? (i := 21) rfl
theorem mA_22 : (Jvm.Cond.lays "RedoJournalModel" "RedoJournalModel" "ring" "I") ∈ wA := List.mem_of_getElem? (i := 22) rfl
theorem mA_23 : (Jvm.Cond.lays "RedoJournalModel" "RedoJournalModel" "off" "Z") ∈ wA := List.mem_of_getElem? (i := 23) rfl
theorem mA_24 : (Jvm.Cond.lays "RedoJournalModel" "RedoJournalModel" "fuse" "I") ∈ wA := List.mem_of_getElem? (i := 24) rfl
theorem mA_25 : (Jvm.Cond.lays "RedoJournalModel" "RedoJournalModel" "steps" "I") ∈ wA := List.mem_of_getElem? (i := 25) rfl
theorem mA_26 : (Jvm.Cond.laysFinal "RedoJournalModel" "RedoJournalModel" "home" "[B") ∈ wA := List.mem_of_getElem? (i := 26) rfl
theorem mA_27 : (Jvm.Cond.laysFinal "RedoJournalModel" "RedoJournalModel" "base" "[B") ∈ wA := List.mem_of_getElem? (i := 27) rfl
theorem mA_28 : (Jvm.Cond.laysFinal "RedoJournalModel" "RedoJournalModel" "now" "[B") ∈ wA := List.mem_of_getElem? (i := 28) rfl
theorem mA_29 : (Jvm.Cond.lays "RedoJournalModel" "RedoJournalModel" "many" "I") ∈ wA := List.mem_of_getElem? (i := 29) rfl
theorem mA_30 : (Jvm.Cond.laysFinal "RedoJournalModel" "RedoJournalModel" "kinds" "[I") ∈ wA := List.mem_of_getElem? (i := 30) rfl
theorem mA_31 : (Jvm.Cond.laysFinal "RedoJournalModel" "RedoJournalModel" "blocks" "[I") ∈ wA := List.mem_of_getElem? (i := 31) rfl
theorem mA_32 : (Jvm.Cond.laysFinal "RedoJournalModel" "RedoJournalModel" "runs" "[Z") ∈ wA := List.mem_of_getElem? (i := 32) rfl
theorem mA_33 : (Jvm.Cond.laysFinal "RedoJournalModel" "RedoJournalModel" "revokes" "[Z") ∈ wA := List.mem_of_getElem? (i := 33) rfl
theorem mA_34 : (Jvm.Cond.lays "RedoJournalModel" "RedoJournalModel" "log" "I") ∈ wA := List.mem_of_getElem? (i := 34) rfl
theorem mA_35 : (Jvm.Cond.lays "RedoJournalModel" "RedoJournalModel" "before" "I") ∈ wA := List.mem_of_getElem? (i := 35) rfl
theorem mA_36 : (Jvm.Cond.laysFinal "RedoJournalModel" "RedoJournalModel" "from" "[I") ∈ wA := List.mem_of_getElem? (i := 36) rfl
theorem mA_37 : (Jvm.Cond.laysFinal "RedoJournalModel" "RedoJournalModel" "uses" "[I") ∈ wA := List.mem_of_getElem? (i := 37) rfl
theorem mA_38 : (Jvm.Cond.laysFinal "RedoJournalModel" "RedoJournalModel" "revoked" "[Z") ∈ wA := List.mem_of_getElem? (i := 38) rfl
theorem mA_39 : (Jvm.Cond.laysFinal "RedoJournalModel" "RedoJournalModel" "had" "[I") ∈ wA := List.mem_of_getElem? (i := 39) rfl
theorem mA_40 : (Jvm.Cond.laysFinal "RedoJournalModel" "RedoJournalModel" "data" "[B") ∈ wA := List.mem_of_getElem? (i := 40) rfl
theorem mA_41 : (Jvm.Cond.selects "RedoJournal" ({ cls := "RedoJournal", name := "dropRunning", desc := "()V" } : Jvm.MethodName) ({ cls := "RedoJournal", name := "dropRunning", desc := "()V" } : Jvm.MethodName)) ∈ wA := List.mem_of_getElem? (i := 41) rfl
theorem mA_42 : (Jvm.Cond.selects "RedoJournal" ({ cls := "RedoJournal", name := "useOfRunning", desc := "()I" } : Jvm.MethodName) ({ cls := "RedoJournal", name := "useOfRunning", desc := "()I" } : Jvm.MethodName)) ∈ wA := List.mem_of_getElem? (i := 42) rfl
theorem mA_43 : (Jvm.Cond.selects "RedoJournal" ({ cls := "RedoJournal", name := "bringLogHome", desc := "()I" } : Jvm.MethodName) ({ cls := "RedoJournal", name := "bringLogHome", desc := "()I" } : Jvm.MethodName)) ∈ wA := List.mem_of_getElem? (i := 43) rfl
theorem mA_44 : (Jvm.Cond.selects "RedoJournal" ({ cls := "RedoJournal", name := "endLog", desc := "()Z" } : Jvm.MethodName) ({ cls := "RedoJournal", name := "endLog", desc := "()Z" } : Jvm.MethodName)) ∈ wA := List.mem_of_getElem? (i := 44) rfl
theorem mA_45 : (Jvm.Cond.selects "RedoJournal" ({ cls := "RedoJournal", name := "writeTransaction", desc := "(I)Z" } : Jvm.MethodName) ({ cls := "RedoJournal", name := "writeTransaction", desc := "(I)Z" } : Jvm.MethodName)) ∈ wA := List.mem_of_getElem? (i := 45) rfl
theorem mA_46 : (Jvm.Cond.selects "RedoJournal" ({ cls := "RedoJournal", name := "settleLog", desc := "(J)V" } : Jvm.MethodName) ({ cls := "RedoJournal", name := "settleLog", desc := "(J)V" } : Jvm.MethodName)) ∈ wA := List.mem_of_getElem? (i := 46) rfl
theorem mA_47 : (Jvm.Cond.selects "RedoJournal" ({ cls := "RedoJournal", name := "replay", desc := "()I" } : Jvm.MethodName) ({ cls := "RedoJournal", name := "replay", desc := "()I" } : Jvm.MethodName)) ∈ wA := List.mem_of_getElem? (i := 47) rfl
theorem mA_48 : (Jvm.Cond.selects "RedoJournalModel" ({ cls := "RedoJournalModel", name := "drop", desc := "()V" } : Jvm.MethodName) ({ cls := "RedoJournalModel", name := "drop", desc := "()V" } : Jvm.MethodName)) ∈ wA := List.mem_of_getElem? (i := 48) rfl
theorem mA_49 : (Jvm.Cond.selects "RedoJournalModel" ({ cls := "RedoJournalModel", name := "noBlock", desc := "(I)Z" } : Jvm.MethodName) ({ cls := "RedoJournalModel", name := "noBlock", desc := "(I)Z" } : Jvm.MethodName)) ∈ wA := List.mem_of_getElem? (i := 49) rfl
theorem mA_50 : (Jvm.Cond.selects "RedoJournalModel" ({ cls := "RedoJournalModel", name := "size", desc := "([Z)I" } : Jvm.MethodName) ({ cls := "RedoJournalModel", name := "size", desc := "([Z)I" } : Jvm.MethodName)) ∈ wA := List.mem_of_getElem? (i := 50) rfl
theorem mA_51 : (Jvm.Cond.selects "RedoJournalModel" ({ cls := "RedoJournalModel", name := "copy", desc := "([BI[BII)V" } : Jvm.MethodName) ({ cls := "RedoJournalModel", name := "copy", desc := "([BI[BII)V" } : Jvm.MethodName)) ∈ wA := List.mem_of_getElem? (i := 51) rfl
theorem mA_52 : (Jvm.Cond.selects "RedoJournalModel" ({ cls := "RedoJournalModel", name := "told", desc := "(I)I" } : Jvm.MethodName) ({ cls := "RedoJournalModel", name := "told", desc := "(I)I" } : Jvm.MethodName)) ∈ wA := List.mem_of_getElem? (i := 52) rfl
theorem mA_53 : (Jvm.Cond.selects "RedoJournalModel" ({ cls := "RedoJournalModel", name := "step", desc := "(II)Z" } : Jvm.MethodName) ({ cls := "RedoJournalModel", name := "step", desc := "(II)Z" } : Jvm.MethodName)) ∈ wA := List.mem_of_getElem? (i := 53) rfl
theorem mA_54 : (Jvm.Cond.selects "RedoJournalModel" ({ cls := "RedoJournalModel", name := "powerOff", desc := "()V" } : Jvm.MethodName) ({ cls := "RedoJournalModel", name := "powerOff", desc := "()V" } : Jvm.MethodName)) ∈ wA := List.mem_of_getElem? (i := 54) rfl
theorem mA_55 : (Jvm.Cond.selects "RedoJournalModel" ({ cls := "RedoJournalModel", name := "settle", desc := "()V" } : Jvm.MethodName) ({ cls := "RedoJournalModel", name := "settle", desc := "()V" } : Jvm.MethodName)) ∈ wA := List.mem_of_getElem? (i := 55) rfl
theorem mA_56 : (Jvm.Cond.selects "RedoJournalModel" ({ cls := "RedoJournalModel", name := "used", desc := "()I" } : Jvm.MethodName) ({ cls := "RedoJournalModel", name := "used", desc := "()I" } : Jvm.MethodName)) ∈ wA := List.mem_of_getElem? (i := 56) rfl
theorem mA_57 : (Jvm.Cond.selects "RedoJournalModel" ({ cls := "RedoJournalModel", name := "clearing", desc := "()I" } : Jvm.MethodName) ({ cls := "RedoJournalModel", name := "clearing", desc := "()I" } : Jvm.MethodName)) ∈ wA := List.mem_of_getElem? (i := 57) rfl
theorem mA_58 : (Jvm.Cond.selects "RedoJournalModel" ({ cls := "RedoJournalModel", name := "empty", desc := "()Z" } : Jvm.MethodName) ({ cls := "RedoJournalModel", name := "empty", desc := "()Z" } : Jvm.MethodName)) ∈ wA := List.mem_of_getElem? (i := 58) rfl
theorem mA_59 : (Jvm.Cond.selects "RedoJournalModel" ({ cls := "RedoJournalModel", name := "enter", desc := "(I)V" } : Jvm.MethodName) ({ cls := "RedoJournalModel", name := "enter", desc := "(I)V" } : Jvm.MethodName)) ∈ wA := List.mem_of_getElem? (i := 59) rfl
theorem mA_60 : (Jvm.Cond.selects "RedoJournalModel" ({ cls := "RedoJournalModel", name := "down", desc := "(J)V" } : Jvm.MethodName) ({ cls := "RedoJournalModel", name := "down", desc := "(J)V" } : Jvm.MethodName)) ∈ wA := List.mem_of_getElem? (i := 60) rfl
theorem mA_61 : (Jvm.Cond.selects "RedoJournalModel" ({ cls := "RedoJournalModel", name := "isRevoked", desc := "(II)Z" } : Jvm.MethodName) ({ cls := "RedoJournalModel", name := "isRevoked", desc := "(II)Z" } : Jvm.MethodName)) ∈ wA := List.mem_of_getElem? (i := 61) rfl
theorem mA_62 : (Jvm.Cond.initialized "RedoJournalLaw") ∈ wA := List.mem_of_getElem? (i := 62) rfl
theorem mA_63 : (Jvm.Cond.initialized "RedoJournal") ∈ wA := List.mem_of_getElem? (i := 63) rfl
theorem mA_64 : (Jvm.Cond.initialized "RedoJournal$Disk") ∈ wA := List.mem_of_getElem? (i := 64) rfl
theorem mA_65 : (Jvm.Cond.initialized "RedoJournal$Log") ∈ wA := List.mem_of_getElem? (i := 65) rfl
theorem mA_66 : (Jvm.Cond.initialized "RedoJournalModel") ∈ wA := List.mem_of_getElem? (i := 66) rfl
theorem mA_67 : (Jvm.Cond.initialized "java/util/Arrays") ∈ wA := List.mem_of_getElem? (i := 67) rfl
theorem mA_68 : (Jvm.Cond.initialized "java/lang/Long") ∈ wA := List.mem_of_getElem? (i := 68) rfl
theorem mA_69 : (Jvm.Cond.initialized "java/lang/System") ∈ wA := List.mem_of_getElem? (i := 69) rfl
theorem mA_70 : (Jvm.Cond.classLink "RedoJournalLaw" (7 : Nat) "RedoJournal") ∈ wA := List.mem_of_getElem? (i := 70) rfl
theorem mA_71 : (Jvm.Cond.instantiable "RedoJournal" (6 : Nat)) ∈ wA := List.mem_of_getElem? (i := 71) rfl
theorem mA_72 : (Jvm.Cond.methodLink "RedoJournalLaw" (9 : Nat) ({ cls := "RedoJournal", name := "<init>", desc := "()V" } : Jvm.MethodName)) ∈ wA := List.mem_of_getElem? (i := 72) rfl
theorem mA_73 : (Jvm.Cond.instanceMethod ({ cls := "RedoJournal", name := "<init>", desc := "()V" } : Jvm.MethodName)) ∈ wA := List.mem_of_getElem? (i := 73) rfl
theorem mA_74 : (Jvm.Cond.code ({ cls := "RedoJournal", name := "<init>", desc := "()V" } : Jvm.MethodName) prog_1_method_1_code (1 : Nat) (Option.none : Option Jvm.ClassFile.FieldType)) ∈ wA := List.mem_of_getElem? (i := 74) rfl
theorem mA_75 : (Jvm.Cond.methodLink "RedoJournal" (1 : Nat) ({ cls := "java/lang/Object", name := "<init>", desc := "()V" } : Jvm.MethodName)) ∈ wA := List.mem_of_getElem? (i := 75) rfl
theorem mA_76 : (Jvm.Cond.instanceMethod ({ cls := "java/lang/Object", name := "<init>", desc := "()V" } : Jvm.MethodName)) ∈ wA := List.mem_of_getElem? (i := 76) rfl
theorem mA_77 : (Jvm.Cond.code ({ cls := "java/lang/Object", name := "<init>", desc := "()V" } : Jvm.MethodName) object_method_1_code (1 : Nat) (Option.none : Option Jvm.ClassFile.FieldType)) ∈ wA := List.mem_of_getElem? (i := 77) rfl
theorem mA_78 : (Jvm.Cond.classLink "RedoJournal" (7 : Nat) "RedoJournal$Disk") ∈ wA := List.mem_of_getElem? (i := 78) rfl
theorem mA_79 : (Jvm.Cond.instantiable "RedoJournal$Disk" (8 : Nat)) ∈ wA := List.mem_of_getElem? (i := 79) rfl
theorem mA_80 : (Jvm.Cond.instanceMethod ({ cls := "RedoJournal$Disk", name := "<init>", desc := "()V" } : Jvm.MethodName)) ∈ wA := List.mem_of_getElem? (i := 80) rfl
theorem mA_81 : (Jvm.Cond.code ({ cls := "RedoJournal$Disk", name := "<init>", desc := "()V" } : Jvm.MethodName) prog_2_method_1_code (1 : Nat) (Option.none : Option Jvm.ClassFile.FieldType)) ∈ wA := List.mem_of_getElem? (i := 81) rfl
theorem mA_82 : (Jvm.Cond.methodLink "RedoJournal$Disk" (3 : Nat) ({ cls := "java/lang/Object", name := "<init>", desc := "()V" } : Jvm.MethodName)) ∈ wA := List.mem_of_getElem? (i := 82) rfl
theorem mA_83 : (Jvm.Cond.fieldLink "RedoJournal$Disk" (9 : Nat) "RedoJournal$Disk" "down" "[B") ∈ wA := List.mem_of_getElem? (i := 83) rfl
theorem mA_84 : (Jvm.Cond.fieldLink "RedoJournal$Disk" (15 : Nat) "RedoJournal$Disk" "written" "[B") ∈ wA := List.mem_of_getElem? (i := 84) rfl
theorem mA_85 : (Jvm.Cond.fieldLink "RedoJournal" (87 : Nat) "RedoJournal$Disk" "written" "[B") ∈ wA := List.mem_of_getElem? (i := 85) rfl
theorem mA_86 : (Jvm.Cond.fieldLink "RedoJournal$Disk" (18 : Nat) "RedoJournal$Disk" "order" "[I") ∈ wA := List.mem_of_getElem? (i := 86) rfl
theorem mA_87 : (Jvm.Cond.fieldLink "RedoJournal$Disk" (72 : Nat) "RedoJournal$Disk" "underWay" "I") ∈ wA := List.mem_of_getElem? (i := 87) rfl
theorem mA_88 : (Jvm.Cond.fieldLink "RedoJournal" (128 : Nat) "RedoJournal$Disk" "underWay" "I") ∈ wA := List.mem_of_getElem? (i := 88) rfl
theorem mA_89 : (Jvm.Cond.fieldLink "RedoJournal$Disk" (56 : Nat) "RedoJournal$Disk" "homesUnderWay" "J") ∈ wA := List.mem_of_getElem? (i := 89) rfl
theorem mA_90 : (Jvm.Cond.fieldLink "RedoJournal$Disk" (22 : Nat) "RedoJournal$Disk" "on" "Z") ∈ wA := List.mem_of_getElem? (i := 90) rfl
theorem mA_91 : (Jvm.Cond.fieldLink "RedoJournal" (46 : Nat) "RedoJournal$Disk" "on" "Z") ∈ wA := List.mem_of_getElem? (i := 91) rfl
theorem mA_92 : (Jvm.Cond.fieldLink "RedoJournal$Disk" (26 : Nat) "RedoJournal$Disk" "stepsLeft" "I") ∈ wA := List.mem_of_getElem? (i := 92) rfl
theorem mA_93 : (Jvm.Cond.fieldLink "RedoJournal" (125 : Nat) "RedoJournal$Disk" "stepsLeft" "I") ∈ wA := List.mem_of_getElem? (i := 93) rfl
theorem mA_94 : (Jvm.Cond.fieldLink "RedoJournal$Disk" (39 : Nat) "RedoJournal$Disk" "steps" "I") ∈ wA := List.mem_of_getElem? (i := 94) rfl
theorem mA_95 : (Jvm.Cond.fieldLink "RedoJournal" (141 : Nat) "RedoJournal$Disk" "steps" "I") ∈ wA := List.mem_of_getElem? (i := 95) rfl
theorem mA_96 : (Jvm.Cond.arrayClass Jvm.ClassFile.FieldType.byte) ∈ wA := List.mem_of_getElem? (i := 96) rfl
theorem mA_97 : (Jvm.Cond.arrayClass Jvm.ClassFile.FieldType.int) ∈ wA := List.mem_of_getElem? (i := 97) rfl
theorem mA_98 : (Jvm.Cond.classLink "RedoJournal" (16 : Nat) "RedoJournal$Log") ∈ wA := List.mem_of_getElem? (i := 98) rfl
theorem mA_99 : (Jvm.Cond.instantiable "RedoJournal$Log" (7 : Nat)) ∈ wA := List.mem_of_getElem? (i := 99) rfl
theorem mA_100 : (Jvm.Cond.instanceMethod ({ cls := "RedoJournal$Log", name := "<init>", desc := "()V" } : Jvm.MethodName)) ∈ wA := List.mem_of_getElem? (i := 100) rfl
theorem mA_101 : (Jvm.Cond.code ({ cls := "RedoJournal$Log", name := "<init>", desc := "()V" } : Jvm.MethodName) prog_3_method_1_code (1 : Nat) (Option.none : Option Jvm.ClassFile.FieldType)) ∈ wA := List.mem_of_getElem? (i := 101) rfl
theorem mA_102 : (Jvm.Cond.methodLink "RedoJournal$Log" (3 : Nat) ({ cls := "java/lang/Object", name := "<init>", desc := "()V" } : Jvm.MethodName)) ∈ wA := List.mem_of_getElem? (i := 102) rfl
theorem mA_103 : (Jvm.Cond.constant "RedoJournal$Log" (25 : Nat) (51200 : Int32)) ∈ wA := List.mem_of_getElem? (i := 103) rfl
theorem mA_104 : (Jvm.Cond.fieldLink "RedoJournal$Log" (9 : Nat) "RedoJournal$Log" "blocks" "[J") ∈ wA := List.mem_of_getElem? (i := 104) rfl
theorem mA_105 : (Jvm.Cond.fieldLink "RedoJournal$Log" (15 : Nat) "RedoJournal$Log" "revokes" "[J") ∈ wA := List.mem_of_getElem? (i := 105) rfl
theorem mA_106 : (Jvm.Cond.fieldLink "RedoJournal$Log" (18 : Nat) "RedoJournal$Log" "uses" "[I") ∈ wA := List.mem_of_getElem? (i := 106) rfl
theorem mA_107 : (Jvm.Cond.fieldLink "RedoJournal$Log" (22 : Nat) "RedoJournal$Log" "firstImages" "[I") ∈ wA := List.mem_of_getElem? (i := 107) rfl
theorem mA_108 : (Jvm.Cond.fieldLink "RedoJournal$Log" (30 : Nat) "RedoJournal$Log" "size" "I") ∈ wA := List.mem_of_getElem? (i := 108) rfl
theorem mA_109 : (Jvm.Cond.fieldLink "RedoJournal" (121 : Nat) "RedoJournal$Log" "size" "I") ∈ wA := List.mem_of_getElem? (i := 109) rfl
theorem mA_110 : (Jvm.Cond.fieldLink "RedoJournal$Log" (26 : Nat) "RedoJournal$Log" "images" "[B") ∈ wA := List.mem_of_getElem? (i := 110) rfl
theorem mA_111 : (Jvm.Cond.fieldLink "RedoJournal" (151 : Nat) "RedoJournal$Log" "images" "[B") ∈ wA := List.mem_of_getElem? (i := 111) rfl
theorem mA_112 : (Jvm.Cond.fieldLink "RedoJournal$Log" (34 : Nat) "RedoJournal$Log" "imagesUsed" "I") ∈ wA := List.mem_of_getElem? (i := 112) rfl
theorem mA_113 : (Jvm.Cond.arrayClass Jvm.ClassFile.FieldType.long) ∈ wA := List.mem_of_getElem? (i := 113) rfl
theorem mA_114 : (Jvm.Cond.fieldLink "RedoJournal" (10 : Nat) "RedoJournal" "disk" "LRedoJournal$Disk;") ∈ wA := List.mem_of_getElem? (i := 114) rfl
theorem mA_115 : (Jvm.Cond.fieldLink "RedoJournal" (19 : Nat) "RedoJournal" "log" "LRedoJournal$Log;") ∈ wA := List.mem_of_getElem? (i := 115) rfl
theorem mA_116 : (Jvm.Cond.fieldLink "RedoJournal" (23 : Nat) "RedoJournal" "now" "[B") ∈ wA := List.mem_of_getElem? (i := 116) rfl
theorem mA_117 : (Jvm.Cond.fieldLink "RedoJournal" (27 : Nat) "RedoJournal" "ringBlocks" "I") ∈ wA := List.mem_of_getElem? (i := 117) rfl
theorem mA_118 : (Jvm.Cond.fieldLink "RedoJournal" (58 : Nat) "RedoJournal" "running" "J") ∈ wA := List.mem_of_getElem? (i := 118) rfl
theorem mA_119 : (Jvm.Cond.fieldLink "RedoJournal" (79 : Nat) "RedoJournal" "revoked" "J") ∈ wA := List.mem_of_getElem? (i := 119) rfl
theorem mA_120 : (Jvm.Cond.methodLink "RedoJournalLaw" (13 : Nat) ({ cls := "RedoJournal", name := "lay", desc := "(I)I" } : Jvm.MethodName)) ∈ wA := List.mem_of_getElem? (i := 120) rfl
theorem mA_121 : (Jvm.Cond.instanceMethod ({ cls := "RedoJournal", name := "lay", desc := "(I)I" } : Jvm.MethodName)) ∈ wA := List.mem_of_getElem? (i := 121) rfl
theorem mA_122 : (Jvm.Cond.selects "RedoJournal" ({ cls := "RedoJournal", name := "lay", desc := "(I)I" } : Jvm.MethodName) ({ cls := "RedoJournal", name := "lay", desc := "(I)I" } : Jvm.MethodName)) ∈ wA := List.mem_of_getElem? (i := 122) rfl
theorem mA_123 : (Jvm.Cond.code ({ cls := "RedoJournal", name := "lay", desc := "(I)I" } : Jvm.MethodName) prog_1_method_2_code (2 : Nat) (Option.some Jvm.ClassFile.FieldType.int)) ∈ wA := List.mem_of_getElem? (i := 123) rfl
theorem mA_124 : (Jvm.Cond.methodLink "RedoJournal" (31 : Nat) ({ cls := "RedoJournal$Disk", name := "makeNew", desc := "()V" } : Jvm.MethodName)) ∈ wA := List.mem_of_getElem? (i := 124) rfl
theorem mA_125 : (Jvm.Cond.instanceMethod ({ cls := "RedoJournal$Disk", name := "makeNew", desc := "()V" } : Jvm.MethodName)) ∈ wA := List.mem_of_getElem? (i := 125) rfl
theorem mA_126 : (Jvm.Cond.selects "RedoJournal$Disk" ({ cls := "RedoJournal$Disk", name := "makeNew", desc := "()V" } : Jvm.MethodName) ({ cls := "RedoJournal$Disk", name := "makeNew", desc := "()V" } : Jvm.MethodName)) ∈ wA := List.mem_of_getElem? (i := 126) rfl
theorem mA_127 : (Jvm.Cond.code ({ cls := "RedoJournal$Disk", name := "makeNew", desc := "()V" } : Jvm.MethodName) prog_2_method_2_code (1 : Nat) (Option.none : Option Jvm.ClassFile.FieldType)) ∈ wA := List.mem_of_getElem? (i := 127) rfl
theorem mA_128 : (Jvm.Cond.methodLink "RedoJournal$Disk" (30 : Nat) ({ cls := "java/util/Arrays", name := "fill", desc := "([BB)V" } : Jvm.MethodName)) ∈ wA := List.mem_of_getElem? (i := 128) rfl
theorem mA_129 : (Jvm.Cond.static ({ cls := "java/util/Arrays", name := "fill", desc := "([BB)V" } : Jvm.MethodName)) ∈ wA := List.mem_of_getElem? (i := 129) rfl
theorem mA_130 : (Jvm.Cond.code ({ cls := "java/util/Arrays", name := "fill", desc := "([BB)V" } : Jvm.MethodName) prog_8_method_109_code (4 : Nat) (Option.none : Option Jvm.ClassFile.FieldType)) ∈ wA := List.mem_of_getElem? (i := 130) rfl
theorem mA_131 : (Jvm.Cond.methodLink "RedoJournal$Disk" (36 : Nat) ({ cls := "RedoJournal$Disk", name := "forgetUnderWay", desc := "()V" } : Jvm.MethodName)) ∈ wA := List.mem_of_getElem? (i := 131) rfl
theorem mA_132 : (Jvm.Cond.instanceMethod ({ cls := "RedoJournal$Disk", name := "forgetUnderWay", desc := "()V" } : Jvm.MethodName)) ∈ wA := List.mem_of_getElem? (i := 132) rfl
theorem mA_133 : (Jvm.Cond.selects "RedoJournal$Disk" ({ cls := "RedoJournal$Disk", name := "forgetUnderWay", desc := "()V" } : Jvm.MethodName) ({ cls := "RedoJournal$Disk", name := "forgetUnderWay", desc := "()V" } : Jvm.MethodName)) ∈ wA := List.mem_of_getElem? (i := 133) rfl
theorem mA_134 : (Jvm.Cond.code ({ cls := "RedoJournal$Disk", name := "forgetUnderWay", desc := "()V" } : Jvm.MethodName) prog_2_method_13_code (1 : Nat) (Option.none : Option Jvm.ClassFile.FieldType)) ∈ wA := List.mem_of_getElem? (i := 134) rfl
theorem mA_135 : (Jvm.Cond.methodLink "RedoJournal" (34 : Nat) ({ cls := "RedoJournal$Log", name := "makeEmpty", desc := "()V" } : Jvm.MethodName)) ∈ wA := List.mem_of_getElem? (i := 135) rfl
theorem mA_136 : (Jvm.Cond.instanceMethod ({ cls := "RedoJournal$Log", name := "makeEmpty", desc := "()V" } : Jvm.MethodName)) ∈ wA := List.mem_of_getElem? (i := 136) rfl
theorem mA_137 : (Jvm.Cond.selects "RedoJournal$Log" ({ cls := "RedoJournal$Log", name := "makeEmpty", desc := "()V" } : Jvm.MethodName) ({ cls := "RedoJournal$Log", name := "makeEmpty", desc := "()V" } : Jvm.MethodName)) ∈ wA := List.mem_of_getElem? (i := 137) rfl
theorem mA_138 : (Jvm.Cond.code ({ cls := "RedoJournal$Log", name := "makeEmpty", desc := "()V" } : Jvm.MethodName) prog_3_method_2_code (1 : Nat) (Option.none : Option Jvm.ClassFile.FieldType)) ∈ wA := List.mem_of_getElem? (i := 138) rfl
theorem mA_139 : (Jvm.Cond.methodLink "RedoJournal" (37 : Nat) ({ cls := "java/util/Arrays", name := "fill", desc := "([BB)V" } : Jvm.MethodName)) ∈ wA := List.mem_of_getElem? (i := 139) rfl
theorem mA_140 : (Jvm.Cond.methodLink "RedoJournal" (43 : Nat) ({ cls := "RedoJournal", name := "dropRunning", desc := "()V" } : Jvm.MethodName)) ∈ wA := List.mem_of_getElem? (i := 140) rfl
theorem mA_141 : (Jvm.Cond.instanceMethod ({ cls := "RedoJournal", name := "dropRunning", desc := "()V" } : Jvm.MethodName)) ∈ wA := List.mem_of_getElem? (i := 141) rfl
theorem mA_142 : (Jvm.Cond.code ({ cls := "RedoJournal", name := "dropRunning", desc := "()V" } : Jvm.MethodName) prog_1_method_18_code (1 : Nat) (Option.none : Option Jvm.ClassFile.FieldType)) ∈ wA := List.mem_of_getElem? (i := 142) rfl
theorem mA_143 : (Jvm.Cond.methodLink "RedoJournalLaw" (18 : Nat) ({ cls := "RedoJournal", name := "write", desc := "(IIII)I" } : Jvm.MethodName)) ∈ wA := List.mem_of_getElem? (i := 143) rfl
theorem mA_144 : (Jvm.Cond.instanceMethod ({ cls := "RedoJournal", name := "write", desc := "(IIII)I" } : Jvm.MethodName)) ∈ wA := List.mem_of_getElem? (i := 144) rfl
theorem mA_145 : (Jvm.Cond.selects "RedoJournal" ({ cls := "RedoJournal", name := "write", desc := "(IIII)I" } : Jvm.MethodName) ({ cls := "RedoJournal", name := "write", desc := "(IIII)I" } : Jvm.MethodName)) ∈ wA := List.mem_of_getElem? (i := 145) rfl
theorem mA_146 : (Jvm.Cond.code ({ cls := "RedoJournal", name := "write", desc := "(IIII)I" } : Jvm.MethodName) prog_1_method_3_code (6 : Nat) (Option.some Jvm.ClassFile.FieldType.int)) ∈ wA := List.mem_of_getElem? (i := 146) rfl
theorem mA_147 : (Jvm.Cond.methodLink "RedoJournal" (50 : Nat) ({ cls := "RedoJournal", name := "isByte", desc := "(II)Z" } : Jvm.MethodName)) ∈ wA := List.mem_of_getElem? (i := 147) rfl
theorem mA_148 : (Jvm.Cond.static ({ cls := "RedoJournal", name := "isByte", desc := "(II)Z" } : Jvm.MethodName)) ∈ wA := List.mem_of_getElem? (i := 148) rfl
theorem mA_149 : (Jvm.Cond.code ({ cls := "RedoJournal", name := "isByte", desc := "(II)Z" } : Jvm.MethodName) prog_1_method_14_code (2 : Nat) (Option.some Jvm.ClassFile.FieldType.boolean)) ∈ wA := List.mem_of_getElem? (i := 149) rfl
theorem mA_150 : (Jvm.Cond.methodLink "RedoJournal" (84 : Nat) ({ cls := "RedoJournal", name := "isHome", desc := "(I)Z" } : Jvm.MethodName)) ∈ wA := List.mem_of_getElem? (i := 150) rfl
theorem mA_151 : (Jvm.Cond.static ({ cls := "RedoJournal", name := "isHome", desc := "(I)Z" } : Jvm.MethodName)) ∈ wA := List.mem_of_getElem? (i := 151) rfl
theorem mA_152 : (Jvm.Cond.code ({ cls := "RedoJournal", name := "isHome", desc := "(I)Z" } : Jvm.MethodName) prog_1_method_13_code (1 : Nat) (Option.some Jvm.ClassFile.FieldType.boolean)) ∈ wA := List.mem_of_getElem? (i := 152) rfl
theorem mA_153 : (Jvm.Cond.methodLink "RedoJournal" (54 : Nat) ({ cls := "RedoJournal", name := "isValue", desc := "(I)Z" } : Jvm.MethodName)) ∈ wA := List.mem_of_getElem? (i := 153) rfl
theorem mA_154 : (Jvm.Cond.static ({ cls := "RedoJournal", name := "isValue", desc := "(I)Z" } : Jvm.MethodName)) ∈ wA := List.mem_of_getElem? (i := 154) rfl
theorem mA_155 : (Jvm.Cond.code ({ cls := "RedoJournal", name := "isValue", desc := "(I)Z" } : Jvm.MethodName) prog_1_method_15_code (1 : Nat) (Option.some Jvm.ClassFile.FieldType.boolean)) ∈ wA := List.mem_of_getElem? (i := 155) rfl
theorem mA_156 : (Jvm.Cond.methodLink "RedoJournal" (62 : Nat) ({ cls := "RedoJournal", name := "holds", desc := "(JI)Z" } : Jvm.MethodName)) ∈ wA := List.mem_of_getElem? (i := 156) rfl
theorem mA_157 : (Jvm.Cond.static ({ cls := "RedoJournal", name := "holds", desc := "(JI)Z" } : Jvm.MethodName)) ∈ wA := List.mem_of_getElem? (i := 157) rfl
theorem mA_158 : (Jvm.Cond.code ({ cls := "RedoJournal", name := "holds", desc := "(JI)Z" } : Jvm.MethodName) prog_1_method_17_code (3 : Nat) (Option.some Jvm.ClassFile.FieldType.boolean)) ∈ wA := List.mem_of_getElem? (i := 158) rfl
theorem mA_159 : (Jvm.Cond.methodLink "RedoJournal" (75 : Nat) ({ cls := "RedoJournal", name := "bit", desc := "(I)J" } : Jvm.MethodName)) ∈ wA := List.mem_of_getElem? (i := 159) rfl
theorem mA_160 : (Jvm.Cond.static ({ cls := "RedoJournal", name := "bit", desc := "(I)J" } : Jvm.MethodName)) ∈ wA := List.mem_of_getElem? (i := 160) rfl
theorem mA_161 : (Jvm.Cond.code ({ cls := "RedoJournal", name := "bit", desc := "(I)J" } : Jvm.MethodName) prog_1_method_16_code (1 : Nat) (Option.some Jvm.ClassFile.FieldType.long)) ∈ wA := List.mem_of_getElem? (i := 161) rfl
theorem mA_162 : (Jvm.Cond.methodLink "RedoJournal" (66 : Nat) ({ cls := "java/lang/Long", name := "bitCount", desc := "(J)I" } : Jvm.MethodName)) ∈ wA := List.mem_of_getElem? (i := 162) rfl
theorem mA_163 : (Jvm.Cond.static ({ cls := "java/lang/Long", name := "bitCount", desc := "(J)I" } : Jvm.MethodName)) ∈ wA := List.mem_of_getElem? (i := 163) rfl
theorem mA_164 : (Jvm.Cond.code ({ cls := "java/lang/Long", name := "bitCount", desc := "(J)I" } : Jvm.MethodName) prog_6_method_50_code (2 : Nat) (Option.some Jvm.ClassFile.FieldType.int)) ∈ wA := List.mem_of_getElem? (i := 164) rfl
theorem mA_165 : (Jvm.Cond.constantLong "java/lang/Long" (314 : Nat) (6148914691236517205 : Int64)) ∈ wA := List.mem_of_getElem? (i := 165) rfl
theorem mA_166 : (Jvm.Cond.constantLong "java/lang/Long" (316 : Nat) (3689348814741910323 : Int64)) ∈ wA := List.mem_of_getElem? (i := 166) rfl
theorem mA_167 : (Jvm.Cond.constantLong "java/lang/Long" (318 : Nat) (1085102592571150095 : Int64)) ∈ wA := List.mem_of_getElem? (i := 167) rfl
theorem mA_168 : (Jvm.Cond.methodLink "RedoJournal" (72 : Nat) ({ cls := "java/util/Arrays", name := "fill", desc := "([BIIB)V" } : Jvm.MethodName)) ∈ wA := List.mem_of_getElem? (i := 168) rfl
theorem mA_169 : (Jvm.Cond.static ({ cls := "java/util/Arrays", name := "fill", desc := "([BIIB)V" } : Jvm.MethodName)) ∈ wA := List.mem_of_getElem? (i := 169) rfl
theorem mA_170 : (Jvm.Cond.code ({ cls := "java/util/Arrays", name := "fill", desc := "([BIIB)V" } : Jvm.MethodName) prog_8_method_110_code (5 : Nat) (Option.none : Option Jvm.ClassFile.FieldType)) ∈ wA := List.mem_of_getElem? (i := 170) rfl
theorem mA_171 : (Jvm.Cond.methodLink "java/util/Arrays" (13 : Nat) ({ cls := "java/util/Arrays", name := "rangeCheck", desc := "(III)V" } : Jvm.MethodName)) ∈ wA := List.mem_of_getElem? (i := 171) rfl
theorem mA_172 : (Jvm.Cond.static ({ cls := "java/util/Arrays", name := "rangeCheck", desc := "(III)V" } : Jvm.MethodName)) ∈ wA := List.mem_of_getElem? (i := 172) rfl
theorem mA_173 : (Jvm.Cond.code ({ cls := "java/util/Arrays", name := "rangeCheck", desc := "(III)V" } : Jvm.MethodName) prog_8_method_30_code (3 : Nat) (Option.none : Option Jvm.ClassFile.FieldType)) ∈ wA := List.mem_of_getElem? (i := 173) rfl
theorem mA_174 : (Jvm.Cond.constantLong "RedoJournal" (82 : Nat) (-1 : Int64)) ∈ wA := List.mem_of_getElem? (i := 174) rfl
theorem mA_175 : (Jvm.Cond.methodLink "RedoJournalLaw" (23 : Nat) ({ cls := "RedoJournal", name := "read", desc := "(II)I" } : Jvm.MethodName)) ∈ wA := List.mem_of_getElem? (i := 175) rfl
theorem mA_176 : (Jvm.Cond.instanceMethod ({ cls := "RedoJournal", name := "read", desc := "(II)I" } : Jvm.MethodName)) ∈ wA := List.mem_of_getElem? (i := 176) rfl
theorem mA_177 : (Jvm.Cond.selects "RedoJournal" ({ cls := "RedoJournal", name := "read", desc := "(II)I" } : Jvm.MethodName) ({ cls := "RedoJournal", name := "read", desc := "(II)I" } : Jvm.MethodName)) ∈ wA := List.mem_of_getElem? (i := 177) rfl
theorem mA_178 : (Jvm.Cond.code ({ cls := "RedoJournal", name := "read", desc := "(II)I" } : Jvm.MethodName) prog_1_method_4_code (3 : Nat) (Option.some Jvm.ClassFile.FieldType.int)) ∈ wA := List.mem_of_getElem? (i := 178) rfl
theorem mA_179 : (Jvm.Cond.methodLink "RedoJournalLaw" (28 : Nat) ({ cls := "RedoJournal", name := "forget", desc := "(I)I" } : Jvm.MethodName)) ∈ wA := List.mem_of_getElem? (i := 179) rfl
theorem mA_180 : (Jvm.Cond.instanceMethod ({ cls := "RedoJournal", name := "forget", desc := "(I)I" } : Jvm.MethodName)) ∈ wA := List.mem_of_getElem? (i := 180) rfl
theorem mA_181 : (Jvm.Cond.selects "RedoJournal" ({ cls := "RedoJournal", name := "forget", desc := "(I)I" } : Jvm.MethodName) ({ cls := "RedoJournal", name := "forget", desc := "(I)I" } : Jvm.MethodName)) ∈ wA := List.mem_of_getElem? (i := 181) rfl
theorem mA_182 : (Jvm.Cond.code ({ cls := "RedoJournal", name := "forget", desc := "(I)I" } : Jvm.MethodName) prog_1_method_5_code (2 : Nat) (Option.some Jvm.ClassFile.FieldType.int)) ∈ wA := List.mem_of_getElem? (i := 182) rfl
theorem mA_183 : (Jvm.Cond.methodLink "RedoJournal" (90 : Nat) ({ cls := "java/lang/System", name := "arraycopy", desc := "(Ljava/lang/Object;ILjava/lang/Object;II)V" } : Jvm.MethodName)) ∈ wA := List.mem_of_getElem? (i := 183) rfl
theorem mA_184 : (Jvm.Cond.static ({ cls := "java/lang/System", name := "arraycopy", desc := "(Ljava/lang/Object;ILjava/lang/Object;II)V" } : Jvm.MethodName)) ∈ wA := List.mem_of_getElem? (i := 184) rfl
theorem mA_185 : (Jvm.Cond.native ({ cls := "java/lang/System", name := "arraycopy", desc := "(Ljava/lang/Object;ILjava/lang/Object;II)V" } : Jvm.MethodName)) ∈ wA := List.mem_of_getElem? (i := 185) rfl
theorem mA_186 : (Jvm.Cond.methodLink "RedoJournalLaw" (32 : Nat) ({ cls := "RedoJournal", name := "direct", desc := "(II)I" } : Jvm.MethodName)) ∈ wA := List.mem_of_getElem? (i := 186) rfl
theorem mA_187 : (Jvm.Cond.instanceMethod ({ cls := "RedoJournal", name := "direct", desc := "(II)I" } : Jvm.MethodName)) ∈ wA := List.mem_of_getElem? (i := 187) rfl
theorem mA_188 : (Jvm.Cond.selects "RedoJournal" ({ cls := "RedoJournal", name := "direct", desc := "(II)I" } : Jvm.MethodName) ({ cls := "RedoJournal", name := "direct", desc := "(II)I" } : Jvm.MethodName)) ∈ wA := List.mem_of_getElem? (i := 188) rfl
theorem mA_189 : (Jvm.Cond.code ({ cls := "RedoJournal", name := "direct", desc := "(II)I" } : Jvm.MethodName) prog_1_method_6_code (3 : Nat) (Option.some Jvm.ClassFile.FieldType.int)) ∈ wA := List.mem_of_getElem? (i := 189) rfl
theorem mA_190 : (Jvm.Cond.methodLink "RedoJournal" (96 : Nat) ({ cls := "RedoJournal$Log", name := "lying", desc := "()J" } : Jvm.MethodName)) ∈ wA := List.mem_of_getElem? (i := 190) rfl
theorem mA_191 : (Jvm.Cond.instanceMethod ({ cls := "RedoJournal$Log", name := "lying", desc := "()J" } : Jvm.MethodName)) ∈ wA := List.mem_of_getElem? (i := 191) rfl
theorem mA_192 : (Jvm.Cond.selects "RedoJournal$Log" ({ cls := "RedoJournal$Log", name := "lying", desc := "()J" } : Jvm.MethodName) ({ cls := "RedoJournal$Log", name := "lying", desc := "()J" } : Jvm.MethodName)) ∈ wA := List.mem_of_getElem? (i := 192) rfl
theorem mA_193 : (Jvm.Cond.code ({ cls := "RedoJournal$Log", name := "lying", desc := "()J" } : Jvm.MethodName) prog_3_method_6_code (4 : Nat) (Option.some Jvm.ClassFile.FieldType.long)) ∈ wA := List.mem_of_getElem? (i := 193) rfl
theorem mA_194 : (Jvm.Cond.constantLong "RedoJournal$Log" (53 : Nat) (-1 : Int64)) ∈ wA := List.mem_of_getElem? (i := 194) rfl
theorem mA_195 : (Jvm.Cond.methodLink "RedoJournal" (100 : Nat) ({ cls := "RedoJournal$Disk", name := "barrier", desc := "()Z" } : Jvm.MethodName)) ∈ wA := List.mem_of_getElem? (i := 195) rfl
theorem mA_196 : (Jvm.Cond.instanceMethod ({ cls := "RedoJournal$Disk", name := "barrier", desc := "()Z" } : Jvm.MethodName)) ∈ wA := List.mem_of_getElem? (i := 196) rfl
theorem mA_197 : (Jvm.Cond.selects "RedoJournal$Disk" ({ cls := "RedoJournal$Disk", name := "barrier", desc := "()Z" } : Jvm.MethodName) ({ cls := "RedoJournal$Disk", name := "barrier", desc := "()Z" } : Jvm.MethodName)) ∈ wA := List.mem_of_getElem? (i := 197) rfl
theorem mA_198 : (Jvm.Cond.code ({ cls := "RedoJournal$Disk", name := "barrier", desc := "()Z" } : Jvm.MethodName) prog_2_method_5_code (2 : Nat) (Option.some Jvm.ClassFile.FieldType.boolean)) ∈ wA := List.mem_of_getElem? (i := 198) rfl
theorem mA_199 : (Jvm.Cond.methodLink "RedoJournal$Disk" (46 : Nat) ({ cls := "RedoJournal$Disk", name := "makeStep", desc := "()Z" } : Jvm.MethodName)) ∈ wA := List.mem_of_getElem? (i := 199) rfl
theorem mA_200 : (Jvm.Cond.instanceMethod ({ cls := "RedoJournal$Disk", name := "makeStep", desc := "()Z" } : Jvm.MethodName)) ∈ wA := List.mem_of_getElem? (i := 200) rfl
theorem mA_201 : (Jvm.Cond.selects "RedoJournal$Disk" ({ cls := "RedoJournal$Disk", name := "makeStep", desc := "()Z" } : Jvm.MethodName) ({ cls := "RedoJournal$Disk", name := "makeStep", desc := "()Z" } : Jvm.MethodName)) ∈ wA := List.mem_of_getElem? (i := 201) rfl
theorem mA_202 : (Jvm.Cond.code ({ cls := "RedoJournal$Disk", name := "makeStep", desc := "()Z" } : Jvm.MethodName) prog_2_method_14_code (1 : Nat) (Option.some Jvm.ClassFile.FieldType.boolean)) ∈ wA := List.mem_of_getElem? (i := 202) rfl
theorem mA_203 : (Jvm.Cond.methodLink "RedoJournal$Disk" (75 : Nat) ({ cls := "RedoJournal$Disk", name := "bringDown", desc := "(III)V" } : Jvm.MethodName)) ∈ wA := List.mem_of_getElem? (i := 203) rfl
theorem mA_204 : (Jvm.Cond.instanceMethod ({ cls := "RedoJournal$Disk", name := "bringDown", desc := "(III)V" } : Jvm.MethodName)) ∈ wA := List.mem_of_getElem? (i := 204) rfl
theorem mA_205 : (Jvm.Cond.selects "RedoJournal$Disk" ({ cls := "RedoJournal$Disk", name := "bringDown", desc := "(III)V" } : Jvm.MethodName) ({ cls := "RedoJournal$Disk", name := "bringDown", desc := "(III)V" } : Jvm.MethodName)) ∈ wA := List.mem_of_getElem? (i := 205) rfl
theorem mA_206 : (Jvm.Cond.code ({ cls := "RedoJournal$Disk", name := "bringDown", desc := "(III)V" } : Jvm.MethodName) prog_2_method_11_code (5 : Nat) (Option.none : Option Jvm.ClassFile.FieldType)) ∈ wA := List.mem_of_getElem? (i := 206) rfl
theorem mA_207 : (Jvm.Cond.methodLink "RedoJournal$Disk" (50 : Nat) ({ cls := "java/lang/System", name := "arraycopy", desc := "(Ljava/lang/Object;ILjava/lang/Object;II)V" } : Jvm.MethodName)) ∈ wA := List.mem_of_getElem? (i := 207) rfl
theorem mA_208 : (Jvm.Cond.methodLink "RedoJournal" (104 : Nat) ({ cls := "RedoJournal$Disk", name := "writeHome", desc := "(I[BI)Z" } : Jvm.MethodName)) ∈ wA := List.mem_of_getElem? (i := 208) rfl
theorem mA_209 : (Jvm.Cond.instanceMethod ({ cls := "RedoJournal$Disk", name := "writeHome", desc := "(I[BI)Z" } : Jvm.MethodName)) ∈ wA := List.mem_of_getElem? (i := 209) rfl
theorem mA_210 : (Jvm.Cond.selects "RedoJournal$Disk" ({ cls := "RedoJournal$Disk", name := "writeHome", desc := "(I[BI)Z" } : Jvm.MethodName) ({ cls := "RedoJournal$Disk", name := "writeHome", desc := "(I[BI)Z" } : Jvm.MethodName)) ∈ wA := List.mem_of_getElem? (i := 210) rfl
theorem mA_211 : (Jvm.Cond.code ({ cls := "RedoJournal$Disk", name := "writeHome", desc := "(I[BI)Z" } : Jvm.MethodName) prog_2_method_3_code (4 : Nat) (Option.some Jvm.ClassFile.FieldType.boolean)) ∈ wA := List.mem_of_getElem? (i := 211) rfl
theorem mA_212 : (Jvm.Cond.methodLink "RedoJournal$Disk" (68 : Nat) ({ cls := "RedoJournal$Disk", name := "putUnderWay", desc := "(I)V" } : Jvm.MethodName)) ∈ wA := List.mem_of_getElem? (i := 212) rfl
theorem mA_213 : (Jvm.Cond.instanceMethod ({ cls := "RedoJournal$Disk", name := "putUnderWay", desc := "(I)V" } : Jvm.MethodName)) ∈ wA := List.mem_of_getElem? (i := 213) rfl
theorem mA_214 : (Jvm.Cond.selects "RedoJournal$Disk" ({ cls := "RedoJournal$Disk", name := "putUnderWay", desc := "(I)V" } : Jvm.MethodName) ({ cls := "RedoJournal$Disk", name := "putUnderWay", desc := "(I)V" } : Jvm.MethodName)) ∈ wA := List.mem_of_getElem? (i := 214) rfl
theorem mA_215 : (Jvm.Cond.code ({ cls := "RedoJournal$Disk", name := "putUnderWay", desc := "(I)V" } : Jvm.MethodName) prog_2_method_12_code (2 : Nat) (Option.none : Option Jvm.ClassFile.FieldType)) ∈ wA := List.mem_of_getElem? (i := 215) rfl
theorem mA_216 : (Jvm.Cond.methodLink "RedoJournalLaw" (36 : Nat) ({ cls := "RedoJournal", name := "commit", desc := "()I" } : Jvm.MethodName)) ∈ wA := List.mem_of_getElem? (i := 216) rfl
theorem mA_217 : (Jvm.Cond.instanceMethod ({ cls := "RedoJournal", name := "commit", desc := "()I" } : Jvm.MethodName)) ∈ wA := List.mem_of_getElem? (i := 217) rfl
theorem mA_218 : (Jvm.Cond.selects "RedoJournal" ({ cls := "RedoJournal", name := "commit", desc := "()I" } : Jvm.MethodName) ({ cls := "RedoJournal", name := "commit", desc := "()I" } : Jvm.MethodName)) ∈ wA := List.mem_of_getElem? (i := 218) rfl
theorem mA_219 : (Jvm.Cond.code ({ cls := "RedoJournal", name := "commit", desc := "()I" } : Jvm.MethodName) prog_1_method_7_code (2 : Nat) (Option.some Jvm.ClassFile.FieldType.int)) ∈ wA := List.mem_of_getElem? (i := 219) rfl
theorem mA_220 : (Jvm.Cond.methodLink "RedoJournal" (108 : Nat) ({ cls := "RedoJournal", name := "useOfRunning", desc := "()I" } : Jvm.MethodName)) ∈ wA := List.mem_of_getElem? (i := 220) rfl
theorem mA_221 : (Jvm.Cond.instanceMethod ({ cls := "RedoJournal", name := "useOfRunning", desc := "()I" } : Jvm.MethodName)) ∈ wA := List.mem_of_getElem? (i := 221) rfl
theorem mA_222 : (Jvm.Cond.code ({ cls := "RedoJournal", name := "useOfRunning", desc := "()I" } : Jvm.MethodName) prog_1_method_19_code (4 : Nat) (Option.some Jvm.ClassFile.FieldType.int)) ∈ wA := List.mem_of_getElem? (i := 222) rfl
theorem mA_223 : (Jvm.Cond.methodLink "RedoJournal" (112 : Nat) ({ cls := "RedoJournal$Log", name := "used", desc := "()I" } : Jvm.MethodName)) ∈ wA := List.mem_of_getElem? (i := 223) rfl
theorem mA_224 : (Jvm.Cond.instanceMethod ({ cls := "RedoJournal$Log", name := "used", desc := "()I" } : Jvm.MethodName)) ∈ wA := List.mem_of_getElem? (i := 224) rfl
theorem mA_225 : (Jvm.Cond.selects "RedoJournal$Log" ({ cls := "RedoJournal$Log", name := "used", desc := "()I" } : Jvm.MethodName) ({ cls := "RedoJournal$Log", name := "used", desc := "()I" } : Jvm.MethodName)) ∈ wA := List.mem_of_getElem? (i := 225) rfl
theorem mA_226 : (Jvm.Cond.code ({ cls := "RedoJournal$Log", name := "used", desc := "()I" } : Jvm.MethodName) prog_3_method_5_code (3 : Nat) (Option.some Jvm.ClassFile.FieldType.int)) ∈ wA := List.mem_of_getElem? (i := 226) rfl
theorem mA_227 : (Jvm.Cond.methodLink "RedoJournal" (115 : Nat) ({ cls := "RedoJournal", name := "bringLogHome", desc := "()I" } : Jvm.MethodName)) ∈ wA := List.mem_of_getElem? (i := 227) rfl
theorem mA_228 : (Jvm.Cond.instanceMethod ({ cls := "RedoJournal", name := "bringLogHome", desc := "()I" } : Jvm.MethodName)) ∈ wA := List.mem_of_getElem? (i := 228) rfl
theorem mA_229 : (Jvm.Cond.code ({ cls := "RedoJournal", name := "bringLogHome", desc := "()I" } : Jvm.MethodName) prog_1_method_21_code (4 : Nat) (Option.some Jvm.ClassFile.FieldType.int)) ∈ wA := List.mem_of_getElem? (i := 229) rfl
theorem mA_230 : (Jvm.Cond.methodLink "RedoJournal" (154 : Nat) ({ cls := "RedoJournal$Log", name := "latestImage", desc := "(I)I" } : Jvm.MethodName)) ∈ wA := List.mem_of_getElem? (i := 230) rfl
theorem mA_231 : (Jvm.Cond.instanceMethod ({ cls := "RedoJournal$Log", name := "latestImage", desc := "(I)I" } : Jvm.MethodName)) ∈ wA := List.mem_of_getElem? (i := 231) rfl
theorem mA_232 : (Jvm.Cond.selects "RedoJournal$Log" ({ cls := "RedoJournal$Log", name := "latestImage", desc := "(I)I" } : Jvm.MethodName) ({ cls := "RedoJournal$Log", name := "latestImage", desc := "(I)I" } : Jvm.MethodName)) ∈ wA := List.mem_of_getElem? (i := 232) rfl
theorem mA_233 : (Jvm.Cond.code ({ cls := "RedoJournal$Log", name := "latestImage", desc := "(I)I" } : Jvm.MethodName) prog_3_method_9_code (3 : Nat) (Option.some Jvm.ClassFile.FieldType.int)) ∈ wA := List.mem_of_getElem? (i := 233) rfl
theorem mA_234 : (Jvm.Cond.methodLink "RedoJournal$Log" (59 : Nat) ({ cls := "RedoJournal$Log", name := "imageOf", desc := "(II)I" } : Jvm.MethodName)) ∈ wA := List.mem_of_getElem? (i := 234) rfl
theorem mA_235 : (Jvm.Cond.instanceMethod ({ cls := "RedoJournal$Log", name := "imageOf", desc := "(II)I" } : Jvm.MethodName)) ∈ wA := List.mem_of_getElem? (i := 235) rfl
theorem mA_236 : (Jvm.Cond.selects "RedoJournal$Log" ({ cls := "RedoJournal$Log", name := "imageOf", desc := "(II)I" } : Jvm.MethodName) ({ cls := "RedoJournal$Log", name := "imageOf", desc := "(II)I" } : Jvm.MethodName)) ∈ wA := List.mem_of_getElem? (i := 236) rfl
theorem mA_237 : (Jvm.Cond.code ({ cls := "RedoJournal$Log", name := "imageOf", desc := "(II)I" } : Jvm.MethodName) prog_3_method_8_code (4 : Nat) (Option.some Jvm.ClassFile.FieldType.int)) ∈ wA := List.mem_of_getElem? (i := 237) rfl
theorem mA_238 : (Jvm.Cond.methodLink "RedoJournal$Log" (37 : Nat) ({ cls := "java/lang/Long", name := "bitCount", desc := "(J)I" } : Jvm.MethodName)) ∈ wA := List.mem_of_getElem? (i := 238) rfl
theorem mA_239 : (Jvm.Cond.methodLink "RedoJournal" (158 : Nat) ({ cls := "RedoJournal", name := "endLog", desc := "()Z" } : Jvm.MethodName)) ∈ wA := List.mem_of_getElem? (i := 239) rfl
theorem mA_240 : (Jvm.Cond.instanceMethod ({ cls := "RedoJournal", name := "endLog", desc := "()Z" } : Jvm.MethodName)) ∈ wA := List.mem_of_getElem? (i := 240) rfl
theorem mA_241 : (Jvm.Cond.code ({ cls := "RedoJournal", name := "endLog", desc := "()Z" } : Jvm.MethodName) prog_1_method_23_code (1 : Nat) (Option.some Jvm.ClassFile.FieldType.boolean)) ∈ wA := List.mem_of_getElem? (i := 241) rfl
theorem mA_242 : (Jvm.Cond.methodLink "RedoJournal" (144 : Nat) ({ cls := "RedoJournal$Disk", name := "writeRing", desc := "(I)Z" } : Jvm.MethodName)) ∈ wA := List.mem_of_getElem? (i := 242) rfl
theorem mA_243 : (Jvm.Cond.instanceMethod ({ cls := "RedoJournal$Disk", name := "writeRing", desc := "(I)Z" } : Jvm.MethodName)) ∈ wA := List.mem_of_getElem? (i := 243) rfl
theorem mA_244 : (Jvm.Cond.selects "RedoJournal$Disk" ({ cls := "RedoJournal$Disk", name := "writeRing", desc := "(I)Z" } : Jvm.MethodName) ({ cls := "RedoJournal$Disk", name := "writeRing", desc := "(I)Z" } : Jvm.MethodName)) ∈ wA := List.mem_of_getElem? (i := 244) rfl
theorem mA_245 : (Jvm.Cond.code ({ cls := "RedoJournal$Disk", name := "writeRing", desc := "(I)Z" } : Jvm.MethodName) prog_2_method_4_code (2 : Nat) (Option.some Jvm.ClassFile.FieldType.boolean)) ∈ wA := List.mem_of_getElem? (i := 245) rfl
theorem mA_246 : (Jvm.Cond.methodLink "RedoJournal" (118 : Nat) ({ cls := "RedoJournal", name := "writeTransaction", desc := "(I)Z" } : Jvm.MethodName)) ∈ wA := List.mem_of_getElem? (i := 246) rfl
theorem mA_247 : (Jvm.Cond.instanceMethod ({ cls := "RedoJournal", name := "writeTransaction", desc := "(I)Z" } : Jvm.MethodName)) ∈ wA := List.mem_of_getElem? (i := 247) rfl
theorem mA_248 : (Jvm.Cond.code ({ cls := "RedoJournal", name := "writeTransaction", desc := "(I)Z" } : Jvm.MethodName) prog_1_method_20_code (3 : Nat) (Option.some Jvm.ClassFile.FieldType.boolean)) ∈ wA := List.mem_of_getElem? (i := 248) rfl
theorem mA_249 : (Jvm.Cond.methodLink "RedoJournal" (147 : Nat) ({ cls := "RedoJournal$Log", name := "append", desc := "(JJI[B)V" } : Jvm.MethodName)) ∈ wA := List.mem_of_getElem? (i := 249) rfl
theorem mA_250 : (Jvm.Cond.instanceMethod ({ cls := "RedoJournal$Log", name := "append", desc := "(JJI[B)V" } : Jvm.MethodName)) ∈ wA := List.mem_of_getElem? (i := 250) rfl
theorem mA_251 : (Jvm.Cond.selects "RedoJournal$Log" ({ cls := "RedoJournal$Log", name := "append", desc := "(JJI[B)V" } : Jvm.MethodName) ({ cls := "RedoJournal$Log", name := "append", desc := "(JJI[B)V" } : Jvm.MethodName)) ∈ wA := List.mem_of_getElem? (i := 251) rfl
theorem mA_252 : (Jvm.Cond.code ({ cls := "RedoJournal$Log", name := "append", desc := "(JJI[B)V" } : Jvm.MethodName) prog_3_method_3_code (8 : Nat) (Option.none : Option Jvm.ClassFile.FieldType)) ∈ wA := List.mem_of_getElem? (i := 252) rfl
theorem mA_253 : (Jvm.Cond.methodLink "RedoJournal$Log" (47 : Nat) ({ cls := "java/lang/System", name := "arraycopy", desc := "(Ljava/lang/Object;ILjava/lang/Object;II)V" } : Jvm.MethodName)) ∈ wA := List.mem_of_getElem? (i := 253) rfl
theorem mA_254 : (Jvm.Cond.methodLink "RedoJournalLaw" (41 : Nat) ({ cls := "RedoJournal", name := "clear", desc := "()I" } : Jvm.MethodName)) ∈ wA := List.mem_of_getElem? (i := 254) rfl
theorem mA_255 : (Jvm.Cond.instanceMethod ({ cls := "RedoJournal", name := "clear", desc := "()I" } : Jvm.MethodName)) ∈ wA := List.mem_of_getElem? (i := 255) rfl
theorem mA_256 : (Jvm.Cond.selects "RedoJournal" ({ cls := "RedoJournal", name := "clear", desc := "()I" } : Jvm.MethodName) ({ cls := "RedoJournal", name := "clear", desc := "()I" } : Jvm.MethodName)) ∈ wA := List.mem_of_getElem? (i := 256) rfl
theorem mA_257 : (Jvm.Cond.code ({ cls := "RedoJournal", name := "clear", desc := "()I" } : Jvm.MethodName) prog_1_method_8_code (1 : Nat) (Option.some Jvm.ClassFile.FieldType.int)) ∈ wA := List.mem_of_getElem? (i := 257) rfl
theorem mA_258 : (Jvm.Cond.methodLink "RedoJournalLaw" (45 : Nat) ({ cls := "RedoJournal", name := "fuse", desc := "(I)I" } : Jvm.MethodName)) ∈ wA := List.mem_of_getElem? (i := 258) rfl
theorem mA_259 : (Jvm.Cond.instanceMethod ({ cls := "RedoJournal", name := "fuse", desc := "(I)I" } : Jvm.MethodName)) ∈ wA := List.mem_of_getElem? (i := 259) rfl
theorem mA_260 : (Jvm.Cond.selects "RedoJournal" ({ cls := "RedoJournal", name := "fuse", desc := "(I)I" } : Jvm.MethodName) ({ cls := "RedoJournal", name := "fuse", desc := "(I)I" } : Jvm.MethodName)) ∈ wA := List.mem_of_getElem? (i := 260) rfl
theorem mA_261 : (Jvm.Cond.code ({ cls := "RedoJournal", name := "fuse", desc := "(I)I" } : Jvm.MethodName) prog_1_method_9_code (3 : Nat) (Option.some Jvm.ClassFile.FieldType.int)) ∈ wA := List.mem_of_getElem? (i := 261) rfl
theorem mA_262 : (Jvm.Cond.constant "RedoJournal" (124 : Nat) (100000 : Int32)) ∈ wA := List.mem_of_getElem? (i := 262) rfl
theorem mA_263 : (Jvm.Cond.methodLink "RedoJournalLaw" (49 : Nat) ({ cls := "RedoJournal", name := "fail", desc := "()I" } : Jvm.MethodName)) ∈ wA := List.mem_of_getElem? (i := 263) rfl
theorem mA_264 : (Jvm.Cond.instanceMethod ({ cls := "RedoJournal", name := "fail", desc := "()I" } : Jvm.MethodName)) ∈ wA := List.mem_of_getElem? (i := 264) rfl
theorem mA_265 : (Jvm.Cond.selects "RedoJournal" ({ cls := "RedoJournal", name := "fail", desc := "()I" } : Jvm.MethodName) ({ cls := "RedoJournal", name := "fail", desc := "()I" } : Jvm.MethodName)) ∈ wA := List.mem_of_getElem? (i := 265) rfl
theorem mA_266 : (Jvm.Cond.code ({ cls := "RedoJournal", name := "fail", desc := "()I" } : Jvm.MethodName) prog_1_method_10_code (1 : Nat) (Option.some Jvm.ClassFile.FieldType.int)) ∈ wA := List.mem_of_getElem? (i := 266) rfl
theorem mA_267 : (Jvm.Cond.methodLink "RedoJournalLaw" (55 : Nat) ({ cls := "RedoJournal", name := "mount", desc := "(J)I" } : Jvm.MethodName)) ∈ wA := List.mem_of_getElem? (i := 267) rfl
theorem mA_268 : (Jvm.Cond.instanceMethod ({ cls := "RedoJournal", name := "mount", desc := "(J)I" } : Jvm.MethodName)) ∈ wA := List.mem_of_getElem? (i := 268) rfl
theorem mA_269 : (Jvm.Cond.selects "RedoJournal" ({ cls := "RedoJournal", name := "mount", desc := "(J)I" } : Jvm.MethodName) ({ cls := "RedoJournal", name := "mount", desc := "(J)I" } : Jvm.MethodName)) ∈ wA := List.mem_of_getElem? (i := 269) rfl
theorem mA_270 : (Jvm.Cond.code ({ cls := "RedoJournal", name := "mount", desc := "(J)I" } : Jvm.MethodName) prog_1_method_11_code (4 : Nat) (Option.some Jvm.ClassFile.FieldType.int)) ∈ wA := List.mem_of_getElem? (i := 270) rfl
theorem mA_271 : (Jvm.Cond.methodLink "RedoJournal" (131 : Nat) ({ cls := "RedoJournal", name := "settleLog", desc := "(J)V" } : Jvm.MethodName)) ∈ wA := List.mem_of_getElem? (i := 271) rfl
theorem mA_272 : (Jvm.Cond.instanceMethod ({ cls := "RedoJournal", name := "settleLog", desc := "(J)V" } : Jvm.MethodName)) ∈ wA := List.mem_of_getElem? (i := 272) rfl
theorem mA_273 : (Jvm.Cond.code ({ cls := "RedoJournal", name := "settleLog", desc := "(J)V" } : Jvm.MethodName) prog_1_method_24_code (5 : Nat) (Option.none : Option Jvm.ClassFile.FieldType)) ∈ wA := List.mem_of_getElem? (i := 273) rfl
theorem mA_274 : (Jvm.Cond.methodLink "RedoJournal" (168 : Nat) ({ cls := "RedoJournal$Disk", name := "placeUnderWay", desc := "(I)I" } : Jvm.MethodName)) ∈ wA := List.mem_of_getElem? (i := 274) rfl
theorem mA_275 : (Jvm.Cond.instanceMethod ({ cls := "RedoJournal$Disk", name := "placeUnderWay", desc := "(I)I" } : Jvm.MethodName)) ∈ wA := List.mem_of_getElem? (i := 275) rfl
theorem mA_276 : (Jvm.Cond.selects "RedoJournal$Disk" ({ cls := "RedoJournal$Disk", name := "placeUnderWay", desc := "(I)I" } : Jvm.MethodName) ({ cls := "RedoJournal$Disk", name := "placeUnderWay", desc := "(I)I" } : Jvm.MethodName)) ∈ wA := List.mem_of_getElem? (i := 276) rfl
theorem mA_277 : (Jvm.Cond.code ({ cls := "RedoJournal$Disk", name := "placeUnderWay", desc := "(I)I" } : Jvm.MethodName) prog_2_method_7_code (3 : Nat) (Option.some Jvm.ClassFile.FieldType.int)) ∈ wA := List.mem_of_getElem? (i := 277) rfl
theorem mA_278 : (Jvm.Cond.methodLink "RedoJournal" (171 : Nat) ({ cls := "RedoJournal$Disk", name := "isFirstHalfDown", desc := "(IJ)Z" } : Jvm.MethodName)) ∈ wA := List.mem_of_getElem? (i := 278) rfl
theorem mA_279 : (Jvm.Cond.static ({ cls := "RedoJournal$Disk", name := "isFirstHalfDown", desc := "(IJ)Z" } : Jvm.MethodName)) ∈ wA := List.mem_of_getElem? (i := 279) rfl
theorem mA_280 : (Jvm.Cond.code ({ cls := "RedoJournal$Disk", name := "isFirstHalfDown", desc := "(IJ)Z" } : Jvm.MethodName) prog_2_method_8_code (4 : Nat) (Option.some Jvm.ClassFile.FieldType.boolean)) ∈ wA := List.mem_of_getElem? (i := 280) rfl
theorem mA_281 : (Jvm.Cond.methodLink "RedoJournal$Disk" (86 : Nat) ({ cls := "RedoJournal$Disk", name := "partDown", desc := "(IJ)I" } : Jvm.MethodName)) ∈ wA := List.mem_of_getElem? (i := 281) rfl
theorem mA_282 : (Jvm.Cond.static ({ cls := "RedoJournal$Disk", name := "partDown", desc := "(IJ)I" } : Jvm.MethodName)) ∈ wA := List.mem_of_getElem? (i := 282) rfl
theorem mA_283 : (Jvm.Cond.code ({ cls := "RedoJournal$Disk", name := "partDown", desc := "(IJ)I" } : Jvm.MethodName) prog_2_method_10_code (3 : Nat) (Option.some Jvm.ClassFile.FieldType.int)) ∈ wA := List.mem_of_getElem? (i := 283) rfl
theorem mA_284 : (Jvm.Cond.methodLink "RedoJournal" (175 : Nat) ({ cls := "RedoJournal$Log", name := "dropLatest", desc := "()V" } : Jvm.MethodName)) ∈ wA := List.mem_of_getElem? (i := 284) rfl
theorem mA_285 : (Jvm.Cond.instanceMethod ({ cls := "RedoJournal$Log", name := "dropLatest", desc := "()V" } : Jvm.MethodName)) ∈ wA := List.mem_of_getElem? (i := 285) rfl
theorem mA_286 : (Jvm.Cond.selects "RedoJournal$Log" ({ cls := "RedoJournal$Log", name := "dropLatest", desc := "()V" } : Jvm.MethodName) ({ cls := "RedoJournal$Log", name := "dropLatest", desc := "()V" } : Jvm.MethodName)) ∈ wA := List.mem_of_getElem? (i := 286) rfl
theorem mA_287 : (Jvm.Cond.code ({ cls := "RedoJournal$Log", name := "dropLatest", desc := "()V" } : Jvm.MethodName) prog_3_method_4_code (1 : Nat) (Option.none : Option Jvm.ClassFile.FieldType)) ∈ wA := List.mem_of_getElem? (i := 287) rfl
theorem mA_288 : (Jvm.Cond.methodLink "RedoJournal" (135 : Nat) ({ cls := "RedoJournal$Disk", name := "settle", desc := "(J)V" } : Jvm.MethodName)) ∈ wA := List.mem_of_getElem? (i := 288) rfl
theorem mA_289 : (Jvm.Cond.instanceMethod ({ cls := "RedoJournal$Disk", name := "settle", desc := "(J)V" } : Jvm.MethodName)) ∈ wA := List.mem_of_getElem? (i := 289) rfl
theorem mA_290 : (Jvm.Cond.selects "RedoJournal$Disk" ({ cls := "RedoJournal$Disk", name := "settle", desc := "(J)V" } : Jvm.MethodName) ({ cls := "RedoJournal$Disk", name := "settle", desc := "(J)V" } : Jvm.MethodName)) ∈ wA := List.mem_of_getElem? (i := 290) rfl
theorem mA_291 : (Jvm.Cond.code ({ cls := "RedoJournal$Disk", name := "settle", desc := "(J)V" } : Jvm.MethodName) prog_2_method_6_code (5 : Nat) (Option.none : Option Jvm.ClassFile.FieldType)) ∈ wA := List.mem_of_getElem? (i := 291) rfl
theorem mA_292 : (Jvm.Cond.methodLink "RedoJournal$Disk" (79 : Nat) ({ cls := "RedoJournal$Disk", name := "isFirstHalfDown", desc := "(IJ)Z" } : Jvm.MethodName)) ∈ wA := List.mem_of_getElem? (i := 292) rfl
theorem mA_293 : (Jvm.Cond.methodLink "RedoJournal$Disk" (83 : Nat) ({ cls := "RedoJournal$Disk", name := "isLastHalfDown", desc := "(IJ)Z" } : Jvm.MethodName)) ∈ wA := List.mem_of_getElem? (i := 293) rfl
theorem mA_294 : (Jvm.Cond.static ({ cls := "RedoJournal$Disk", name := "isLastHalfDown", desc := "(IJ)Z" } : Jvm.MethodName)) ∈ wA := List.mem_of_getElem? (i := 294) rfl
theorem mA_295 : (Jvm.Cond.code ({ cls := "RedoJournal$Disk", name := "isLastHalfDown", desc := "(IJ)Z" } : Jvm.MethodName) prog_2_method_9_code (4 : Nat) (Option.some Jvm.ClassFile.FieldType.boolean)) ∈ wA := List.mem_of_getElem? (i := 295) rfl
theorem mA_296 : (Jvm.Cond.methodLink "RedoJournal" (138 : Nat) ({ cls := "RedoJournal", name := "replay", desc := "()I" } : Jvm.MethodName)) ∈ wA := List.mem_of_getElem? (i := 296) rfl
theorem mA_297 : (Jvm.Cond.instanceMethod ({ cls := "RedoJournal", name := "replay", desc := "()I" } : Jvm.MethodName)) ∈ wA := List.mem_of_getElem? (i := 297) rfl
theorem mA_298 : (Jvm.Cond.code ({ cls := "RedoJournal", name := "replay", desc := "()I" } : Jvm.MethodName) prog_1_method_22_code (6 : Nat) (Option.some Jvm.ClassFile.FieldType.int)) ∈ wA := List.mem_of_getElem? (i := 298) rfl
theorem mA_299 : (Jvm.Cond.methodLink "RedoJournal" (161 : Nat) ({ cls := "RedoJournal$Log", name := "living", desc := "(I)J" } : Jvm.MethodName)) ∈ wA := List.mem_of_getElem? (i := 299) rfl
theorem mA_300 : (Jvm.Cond.instanceMethod ({ cls := "RedoJournal$Log", name := "living", desc := "(I)J" } : Jvm.MethodName)) ∈ wA := List.mem_of_getElem? (i := 300) rfl
theorem mA_301 : (Jvm.Cond.selects "RedoJournal$Log" ({ cls := "RedoJournal$Log", name := "living", desc := "(I)J" } : Jvm.MethodName) ({ cls := "RedoJournal$Log", name := "living", desc := "(I)J" } : Jvm.MethodName)) ∈ wA := List.mem_of_getElem? (i := 301) rfl
theorem mA_302 : (Jvm.Cond.code ({ cls := "RedoJournal$Log", name := "living", desc := "(I)J" } : Jvm.MethodName) prog_3_method_7_code (5 : Nat) (Option.some Jvm.ClassFile.FieldType.long)) ∈ wA := List.mem_of_getElem? (i := 302) rfl
theorem mA_303 : (Jvm.Cond.methodLink "RedoJournal" (164 : Nat) ({ cls := "RedoJournal$Log", name := "imageOf", desc := "(II)I" } : Jvm.MethodName)) ∈ wA := List.mem_of_getElem? (i := 303) rfl
theorem mA_304 : (Jvm.Cond.methodLink "RedoJournalLaw" (60 : Nat) ({ cls := "RedoJournal", name := "count", desc := "(I)I" } : Jvm.MethodName)) ∈ wA := List.mem_of_getElem? (i := 304) rfl
theorem mA_305 : (Jvm.Cond.instanceMethod ({ cls := "RedoJournal", name := "count", desc := "(I)I" } : Jvm.MethodName)) ∈ wA := List.mem_of_getElem? (i := 305) rfl
theorem mA_306 : (Jvm.Cond.selects "RedoJournal" ({ cls := "RedoJournal", name := "count", desc := "(I)I" } : Jvm.MethodName) ({ cls := "RedoJournal", name := "count", desc := "(I)I" } : Jvm.MethodName)) ∈ wA := List.mem_of_getElem? (i := 306) rfl
theorem mA_307 : (Jvm.Cond.code ({ cls := "RedoJournal", name := "count", desc := "(I)I" } : Jvm.MethodName) prog_1_method_12_code (2 : Nat) (Option.some Jvm.ClassFile.FieldType.int)) ∈ wA := List.mem_of_getElem? (i := 307) rfl
theorem mA_308 : (Jvm.Cond.classLink "RedoJournalLaw" (10 : Nat) "RedoJournalModel") ∈ wA := List.mem_of_getElem? (i := 308) rfl
theorem mA_309 : (Jvm.Cond.instantiable "RedoJournalModel" (20 : Nat)) ∈ wA := List.mem_of_getElem? (i := 309) rfl
theorem mA_310 : (Jvm.Cond.methodLink "RedoJournalLaw" (12 : Nat) ({ cls := "RedoJournalModel", name := "<init>", desc := "()V" } : Jvm.MethodName)) ∈ wA := List.mem_of_getElem? (i := 310) rfl
theorem mA_311 : (Jvm.Cond.instanceMethod ({ cls := "RedoJournalModel", name := "<init>", desc := "()V" } : Jvm.MethodName)) ∈ wA := List.mem_of_getElem? (i := 311) rfl
theorem mA_312 : (Jvm.Cond.code ({ cls := "RedoJournalModel", name := "<init>", desc := "()V" } : Jvm.MethodName) prog_5_method_1_code (1 : Nat) (Option.none : Option Jvm.ClassFile.FieldType)) ∈ wA := List.mem_of_getElem? (i := 312) rfl
theorem mA_313 : (Jvm.Cond.methodLink "RedoJournalModel" (1 : Nat) ({ cls := "java/lang/Object", name := "<init>", desc := "()V" } : Jvm.MethodName)) ∈ wA := List.mem_of_getElem? (i := 313) rfl
theorem mA_314 : (Jvm.Cond.constant "RedoJournalModel" (45 : Nat) (51200 : Int32)) ∈ wA := List.mem_of_getElem? (i := 314) rfl
theorem mA_315 : (Jvm.Cond.methodLink "RedoJournalModel" (49 : Nat) ({ cls := "RedoJournalModel", name := "lay", desc := "(I)I" } : Jvm.MethodName)) ∈ wA := List.mem_of_getElem? (i := 315) rfl
theorem mA_316 : (Jvm.Cond.instanceMethod ({ cls := "RedoJournalModel", name := "lay", desc := "(I)I" } : Jvm.MethodName)) ∈ wA := List.mem_of_getElem? (i := 316) rfl
theorem mA_317 : (Jvm.Cond.selects "RedoJournalModel" ({ cls := "RedoJournalModel", name := "lay", desc := "(I)I" } : Jvm.MethodName) ({ cls := "RedoJournalModel", name := "lay", desc := "(I)I" } : Jvm.MethodName)) ∈ wA := List.mem_of_getElem? (i := 317) rfl
theorem mA_318 : (Jvm.Cond.code ({ cls := "RedoJournalModel", name := "lay", desc := "(I)I" } : Jvm.MethodName) prog_5_method_3_code (3 : Nat) (Option.some Jvm.ClassFile.FieldType.int)) ∈ wA := List.mem_of_getElem? (i := 318) rfl
theorem mA_319 : (Jvm.Cond.methodLink "RedoJournalModel" (76 : Nat) ({ cls := "RedoJournalModel", name := "drop", desc := "()V" } : Jvm.MethodName)) ∈ wA := List.mem_of_getElem? (i := 319) rfl
theorem mA_320 : (Jvm.Cond.instanceMethod ({ cls := "RedoJournalModel", name := "drop", desc := "()V" } : Jvm.MethodName)) ∈ wA := List.mem_of_getElem? (i := 320) rfl
theorem mA_321 : (Jvm.Cond.code ({ cls := "RedoJournalModel", name := "drop", desc := "()V" } : Jvm.MethodName) prog_5_method_4_code (2 : Nat) (Option.none : Option Jvm.ClassFile.FieldType)) ∈ wA := List.mem_of_getElem? (i := 321) rfl
theorem mA_322 : (Jvm.Cond.fieldLink "RedoJournalModel" (53 : Nat) "RedoJournalModel" "thrown" "I") ∈ wA := List.mem_of_getElem? (i := 322) rfl
theorem mA_323 : (Jvm.Cond.fieldLink "RedoJournalModel" (57 : Nat) "RedoJournalModel" "ring" "I") ∈ wA := List.mem_of_getElem? (i := 323) rfl
theorem mA_324 : (Jvm.Cond.fieldLink "RedoJournalModel" (60 : Nat) "RedoJournalModel" "off" "Z") ∈ wA := List.mem_of_getElem? (i := 324) rfl
theorem mA_325 : (Jvm.Cond.fieldLink "RedoJournalModel" (64 : Nat) "RedoJournalModel" "fuse" "I") ∈ wA := List.mem_of_getElem? (i := 325) rfl
theorem mA_326 : (Jvm.Cond.fieldLink "RedoJournalModel" (67 : Nat) "RedoJournalModel" "steps" "I") ∈ wA := List.mem_of_getElem? (i := 326) rfl
theorem mA_327 : (Jvm.Cond.fieldLink "RedoJournalModel" (7 : Nat) "RedoJournalModel" "home" "[B") ∈ wA := List.mem_of_getElem? (i := 327) rfl
theorem mA_328 : (Jvm.Cond.fieldLink "RedoJournalModel" (13 : Nat) "RedoJournalModel" "base" "[B") ∈ wA := List.mem_of_getElem? (i := 328) rfl
theorem mA_329 : (Jvm.Cond.fieldLink "RedoJournalModel" (16 : Nat) "RedoJournalModel" "now" "[B") ∈ wA := List.mem_of_getElem? (i := 329) rfl
theorem mA_330 : (Jvm.Cond.fieldLink "RedoJournalModel" (70 : Nat) "RedoJournalModel" "many" "I") ∈ wA := List.mem_of_getElem? (i := 330) rfl
theorem mA_331 : (Jvm.Cond.fieldLink "RedoJournalModel" (19 : Nat) "RedoJournalModel" "kinds" "[I") ∈ wA := List.mem_of_getElem? (i := 331) rfl
theorem mA_332 : (Jvm.Cond.fieldLink "RedoJournalModel" (23 : Nat) "RedoJournalModel" "blocks" "[I") ∈ wA := List.mem_of_getElem? (i := 332) rfl
theorem mA_333 : (Jvm.Cond.fieldLink "RedoJournalModel" (26 : Nat) "RedoJournalModel" "runs" "[Z") ∈ wA := List.mem_of_getElem? (i := 333) rfl
theorem mA_334 : (Jvm.Cond.fieldLink "RedoJournalModel" (30 : Nat) "RedoJournalModel" "revokes" "[Z") ∈ wA := List.mem_of_getElem? (i := 334) rfl
theorem mA_335 : (Jvm.Cond.fieldLink "RedoJournalModel" (73 : Nat) "RedoJournalModel" "log" "I") ∈ wA := List.mem_of_getElem? (i := 335) rfl
theorem mA_336 : (Jvm.Cond.fieldLink "RedoJournalModel" (119 : Nat) "RedoJournalModel" "before" "I") ∈ wA := List.mem_of_getElem? (i := 336) rfl
theorem mA_337 : (Jvm.Cond.fieldLink "RedoJournalModel" (33 : Nat) "RedoJournalModel" "from" "[I") ∈ wA := List.mem_of_getElem? (i := 337) rfl
theorem mA_338 : (Jvm.Cond.fieldLink "RedoJournalModel" (36 : Nat) "RedoJournalModel" "uses" "[I") ∈ wA := List.mem_of_getElem? (i := 338) rfl
theorem mA_339 : (Jvm.Cond.fieldLink "RedoJournalModel" (39 : Nat) "RedoJournalModel" "revoked" "[Z") ∈ wA := List.mem_of_getElem? (i := 339) rfl
theorem mA_340 : (Jvm.Cond.fieldLink "RedoJournalModel" (42 : Nat) "RedoJournalModel" "had" "[I") ∈ wA := List.mem_of_getElem? (i := 340) rfl
theorem mA_341 : (Jvm.Cond.fieldLink "RedoJournalModel" (46 : Nat) "RedoJournalModel" "data" "[B") ∈ wA := List.mem_of_getElem? (i := 341) rfl
theorem mA_342 : (Jvm.Cond.arrayClass Jvm.ClassFile.FieldType.boolean) ∈ wA := List.mem_of_getElem? (i := 342) rfl
theorem mA_343 : (Jvm.Cond.methodLink "RedoJournalLaw" (17 : Nat) ({ cls := "RedoJournalModel", name := "lay", desc := "(I)I" } : Jvm.MethodName)) ∈ wA := List.mem_of_getElem? (i := 343) rfl
theorem mA_344 : (Jvm.Cond.methodLink "RedoJournalLaw" (22 : Nat) ({ cls := "RedoJournalModel", name := "write", desc := "(IIII)I" } : Jvm.MethodName)) ∈ wA := List.mem_of_getElem? (i := 344) rfl
theorem mA_345 : (Jvm.Cond.instanceMethod ({ cls := "RedoJournalModel", name := "write", desc := "(IIII)I" } : Jvm.MethodName)) ∈ wA := List.mem_of_getElem? (i := 345) rfl
theorem mA_346 : (Jvm.Cond.selects "RedoJournalModel" ({ cls := "RedoJournalModel", name := "write", desc := "(IIII)I" } : Jvm.MethodName) ({ cls := "RedoJournalModel", name := "write", desc := "(IIII)I" } : Jvm.MethodName)) ∈ wA := List.mem_of_getElem? (i := 346) rfl
theorem mA_347 : (Jvm.Cond.code ({ cls := "RedoJournalModel", name := "write", desc := "(IIII)I" } : Jvm.MethodName) prog_5_method_11_code (7 : Nat) (Option.some Jvm.ClassFile.FieldType.int)) ∈ wA := List.mem_of_getElem? (i := 347) rfl
theorem mA_348 : (Jvm.Cond.methodLink "RedoJournalModel" (89 : Nat) ({ cls := "RedoJournalModel", name := "noBlock", desc := "(I)Z" } : Jvm.MethodName)) ∈ wA := List.mem_of_getElem? (i := 348) rfl
theorem mA_349 : (Jvm.Cond.instanceMethod ({ cls := "RedoJournalModel", name := "noBlock", desc := "(I)Z" } : Jvm.MethodName)) ∈ wA := List.mem_of_getElem? (i := 349) rfl
theorem mA_350 : (Jvm.Cond.code ({ cls := "RedoJournalModel", name := "noBlock", desc := "(I)Z" } : Jvm.MethodName) prog_5_method_10_code (2 : Nat) (Option.some Jvm.ClassFile.FieldType.boolean)) ∈ wA := List.mem_of_getElem? (i := 350) rfl
theorem mA_351 : (Jvm.Cond.methodLink "RedoJournalModel" (93 : Nat) ({ cls := "RedoJournalModel", name := "size", desc := "([Z)I" } : Jvm.MethodName)) ∈ wA := List.mem_of_getElem? (i := 351) rfl
theorem mA_352 : (Jvm.Cond.instanceMethod ({ cls := "RedoJournalModel", name := "size", desc := "([Z)I" } : Jvm.MethodName)) ∈ wA := List.mem_of_getElem? (i := 352) rfl
theorem mA_353 : (Jvm.Cond.code ({ cls := "RedoJournalModel", name := "size", desc := "([Z)I" } : Jvm.MethodName) prog_5_method_5_code (4 : Nat) (Option.some Jvm.ClassFile.FieldType.int)) ∈ wA := List.mem_of_getElem? (i := 353) rfl
theorem mA_354 : (Jvm.Cond.methodLink "RedoJournalLaw" (27 : Nat) ({ cls := "RedoJournalModel", name := "read", desc := "(II)I" } : Jvm.MethodName)) ∈ wA := List.mem_of_getElem? (i := 354) rfl
theorem mA_355 : (Jvm.Cond.instanceMethod ({ cls := "RedoJournalModel", name := "read", desc := "(II)I" } : Jvm.MethodName)) ∈ wA := List.mem_of_getElem? (i := 355) rfl
theorem mA_356 : (Jvm.Cond.selects "RedoJournalModel" ({ cls := "RedoJournalModel", name := "read", desc := "(II)I" } : Jvm.MethodName) ({ cls := "RedoJournalModel", name := "read", desc := "(II)I" } : Jvm.MethodName)) ∈ wA := List.mem_of_getElem? (i := 356) rfl
theorem mA_357 : (Jvm.Cond.code ({ cls := "RedoJournalModel", name := "read", desc := "(II)I" } : Jvm.MethodName) prog_5_method_12_code (3 : Nat) (Option.some Jvm.ClassFile.FieldType.int)) ∈ wA := List.mem_of_getElem? (i := 357) rfl
theorem mA_358 : (Jvm.Cond.methodLink "RedoJournalLaw" (31 : Nat) ({ cls := "RedoJournalModel", name := "forget", desc := "(I)I" } : Jvm.MethodName)) ∈ wA := List.mem_of_getElem? (i := 358) rfl
theorem mA_359 : (Jvm.Cond.instanceMethod ({ cls := "RedoJournalModel", name := "forget", desc := "(I)I" } : Jvm.MethodName)) ∈ wA := List.mem_of_getElem? (i := 359) rfl
theorem mA_360 : (Jvm.Cond.selects "RedoJournalModel" ({ cls := "RedoJournalModel", name := "forget", desc := "(I)I" } : Jvm.MethodName) ({ cls := "RedoJournalModel", name := "forget", desc := "(I)I" } : Jvm.MethodName)) ∈ wA := List.mem_of_getElem? (i := 360) rfl
theorem mA_361 : (Jvm.Cond.code ({ cls := "RedoJournalModel", name := "forget", desc := "(I)I" } : Jvm.MethodName) prog_5_method_13_code (2 : Nat) (Option.some Jvm.ClassFile.FieldType.int)) ∈ wA := List.mem_of_getElem? (i := 361) rfl
theorem mA_362 : (Jvm.Cond.methodLink "RedoJournalModel" (85 : Nat) ({ cls := "RedoJournalModel", name := "copy", desc := "([BI[BII)V" } : Jvm.MethodName)) ∈ wA := List.mem_of_getElem? (i := 362) rfl
theorem mA_363 : (Jvm.Cond.instanceMethod ({ cls := "RedoJournalModel", name := "copy", desc := "([BI[BII)V" } : Jvm.MethodName)) ∈ wA := List.mem_of_getElem? (i := 363) rfl
theorem mA_364 : (Jvm.Cond.code ({ cls := "RedoJournalModel", name := "copy", desc := "([BI[BII)V" } : Jvm.MethodName) prog_5_method_6_code (7 : Nat) (Option.none : Option Jvm.ClassFile.FieldType)) ∈ wA := List.mem_of_getElem? (i := 364) rfl
theorem mA_365 : (Jvm.Cond.methodLink "RedoJournalLaw" (35 : Nat) ({ cls := "RedoJournalModel", name := "direct", desc := "(II)I" } : Jvm.MethodName)) ∈ wA := List.mem_of_getElem? (i := 365) rfl
theorem mA_366 : (Jvm.Cond.instanceMethod ({ cls := "RedoJournalModel", name := "direct", desc := "(II)I" } : Jvm.MethodName)) ∈ wA := List.mem_of_getElem? (i := 366) rfl
theorem mA_367 : (Jvm.Cond.selects "RedoJournalModel" ({ cls := "RedoJournalModel", name := "direct", desc := "(II)I" } : Jvm.MethodName) ({ cls := "RedoJournalModel", name := "direct", desc := "(II)I" } : Jvm.MethodName)) ∈ wA := List.mem_of_getElem? (i := 367) rfl
theorem mA_368 : (Jvm.Cond.code ({ cls := "RedoJournalModel", name := "direct", desc := "(II)I" } : Jvm.MethodName) prog_5_method_15_code (4 : Nat) (Option.some Jvm.ClassFile.FieldType.int)) ∈ wA := List.mem_of_getElem? (i := 368) rfl
theorem mA_369 : (Jvm.Cond.methodLink "RedoJournalModel" (97 : Nat) ({ cls := "RedoJournalModel", name := "told", desc := "(I)I" } : Jvm.MethodName)) ∈ wA := List.mem_of_getElem? (i := 369) rfl
theorem mA_370 : (Jvm.Cond.instanceMethod ({ cls := "RedoJournalModel", name := "told", desc := "(I)I" } : Jvm.MethodName)) ∈ wA := List.mem_of_getElem? (i := 370) rfl
theorem mA_371 : (Jvm.Cond.code ({ cls := "RedoJournalModel", name := "told", desc := "(I)I" } : Jvm.MethodName) prog_5_method_14_code (4 : Nat) (Option.some Jvm.ClassFile.FieldType.int)) ∈ wA := List.mem_of_getElem? (i := 371) rfl
theorem mA_372 : (Jvm.Cond.methodLink "RedoJournalModel" (100 : Nat) ({ cls := "RedoJournalModel", name := "step", desc := "(II)Z" } : Jvm.MethodName)) ∈ wA := List.mem_of_getElem? (i := 372) rfl
theorem mA_373 : (Jvm.Cond.instanceMethod ({ cls := "RedoJournalModel", name := "step", desc := "(II)Z" } : Jvm.MethodName)) ∈ wA := List.mem_of_getElem? (i := 373) rfl
theorem mA_374 : (Jvm.Cond.code ({ cls := "RedoJournalModel", name := "step", desc := "(II)Z" } : Jvm.MethodName) prog_5_method_8_code (5 : Nat) (Option.some Jvm.ClassFile.FieldType.boolean)) ∈ wA := List.mem_of_getElem? (i := 374) rfl
theorem mA_375 : (Jvm.Cond.methodLink "RedoJournalModel" (79 : Nat) ({ cls := "RedoJournalModel", name := "powerOff", desc := "()V" } : Jvm.MethodName)) ∈ wA := List.mem_of_getElem? (i := 375) rfl
theorem mA_376 : (Jvm.Cond.instanceMethod ({ cls := "RedoJournalModel", name := "powerOff", desc := "()V" } : Jvm.MethodName)) ∈ wA := List.mem_of_getElem? (i := 376) rfl
theorem mA_377 : (Jvm.Cond.code ({ cls := "RedoJournalModel", name := "powerOff", desc := "()V" } : Jvm.MethodName) prog_5_method_7_code (1 : Nat) (Option.none : Option Jvm.ClassFile.FieldType)) ∈ wA := List.mem_of_getElem? (i := 377) rfl
theorem mA_378 : (Jvm.Cond.methodLink "RedoJournalModel" (82 : Nat) ({ cls := "RedoJournalModel", name := "settle", desc := "()V" } : Jvm.MethodName)) ∈ wA := List.mem_of_getElem? (i := 378) rfl
theorem mA_379 : (Jvm.Cond.instanceMethod ({ cls := "RedoJournalModel", name := "settle", desc := "()V" } : Jvm.MethodName)) ∈ wA := List.mem_of_getElem? (i := 379) rfl
theorem mA_380 : (Jvm.Cond.code ({ cls := "RedoJournalModel", name := "settle", desc := "()V" } : Jvm.MethodName) prog_5_method_9_code (2 : Nat) (Option.none : Option Jvm.ClassFile.FieldType)) ∈ wA := List.mem_of_getElem? (i := 380) rfl
theorem mA_381 : (Jvm.Cond.methodLink "RedoJournalLaw" (40 : Nat) ({ cls := "RedoJournalModel", name := "commit", desc := "()I" } : Jvm.MethodName)) ∈ wA := List.mem_of_getElem? (i := 381) rfl
theorem mA_382 : (Jvm.Cond.instanceMethod ({ cls := "RedoJournalModel", name := "commit", desc := "()I" } : Jvm.MethodName)) ∈ wA := List.mem_of_getElem? (i := 382) rfl
theorem mA_383 : (Jvm.Cond.selects "RedoJournalModel" ({ cls := "RedoJournalModel", name := "commit", desc := "()I" } : Jvm.MethodName) ({ cls := "RedoJournalModel", name := "commit", desc := "()I" } : Jvm.MethodName)) ∈ wA := List.mem_of_getElem? (i := 383) rfl
theorem mA_384 : (Jvm.Cond.code ({ cls := "RedoJournalModel", name := "commit", desc := "()I" } : Jvm.MethodName) prog_5_method_18_code (5 : Nat) (Option.some Jvm.ClassFile.FieldType.int)) ∈ wA := List.mem_of_getElem? (i := 384) rfl
theorem mA_385 : (Jvm.Cond.methodLink "RedoJournalModel" (104 : Nat) ({ cls := "RedoJournalModel", name := "used", desc := "()I" } : Jvm.MethodName)) ∈ wA := List.mem_of_getElem? (i := 385) rfl
theorem mA_386 : (Jvm.Cond.instanceMethod ({ cls := "RedoJournalModel", name := "used", desc := "()I" } : Jvm.MethodName)) ∈ wA := List.mem_of_getElem? (i := 386) rfl
theorem mA_387 : (Jvm.Cond.code ({ cls := "RedoJournalModel", name := "used", desc := "()I" } : Jvm.MethodName) prog_5_method_16_code (3 : Nat) (Option.some Jvm.ClassFile.FieldType.int)) ∈ wA := List.mem_of_getElem? (i := 387) rfl
theorem mA_388 : (Jvm.Cond.methodLink "RedoJournalModel" (108 : Nat) ({ cls := "RedoJournalModel", name := "clearing", desc := "()I" } : Jvm.MethodName)) ∈ wA := List.mem_of_getElem? (i := 388) rfl
theorem mA_389 : (Jvm.Cond.instanceMethod ({ cls := "RedoJournalModel", name := "clearing", desc := "()I" } : Jvm.MethodName)) ∈ wA := List.mem_of_getElem? (i := 389) rfl
theorem mA_390 : (Jvm.Cond.code ({ cls := "RedoJournalModel", name := "clearing", desc := "()I" } : Jvm.MethodName) prog_5_method_19_code (4 : Nat) (Option.some Jvm.ClassFile.FieldType.int)) ∈ wA := List.mem_of_getElem? (i := 390) rfl
theorem mA_391 : (Jvm.Cond.methodLink "RedoJournalModel" (115 : Nat) ({ cls := "RedoJournalModel", name := "empty", desc := "()Z" } : Jvm.MethodName)) ∈ wA := List.mem_of_getElem? (i := 391) rfl
theorem mA_392 : (Jvm.Cond.instanceMethod ({ cls := "RedoJournalModel", name := "empty", desc := "()Z" } : Jvm.MethodName)) ∈ wA := List.mem_of_getElem? (i := 392) rfl
theorem mA_393 : (Jvm.Cond.code ({ cls := "RedoJournalModel", name := "empty", desc := "()Z" } : Jvm.MethodName) prog_5_method_20_code (1 : Nat) (Option.some Jvm.ClassFile.FieldType.boolean)) ∈ wA := List.mem_of_getElem? (i := 393) rfl
theorem mA_394 : (Jvm.Cond.methodLink "RedoJournalModel" (111 : Nat) ({ cls := "RedoJournalModel", name := "enter", desc := "(I)V" } : Jvm.MethodName)) ∈ wA := List.mem_of_getElem? (i := 394) rfl
theorem mA_395 : (Jvm.Cond.instanceMethod ({ cls := "RedoJournalModel", name := "enter", desc := "(I)V" } : Jvm.MethodName)) ∈ wA := List.mem_of_getElem? (i := 395) rfl
theorem mA_396 : (Jvm.Cond.code ({ cls := "RedoJournalModel", name := "enter", desc := "(I)V" } : Jvm.MethodName) prog_5_method_17_code (4 : Nat) (Option.none : Option Jvm.ClassFile.FieldType)) ∈ wA := List.mem_of_getElem? (i := 396) rfl
theorem mA_397 : (Jvm.Cond.methodLink "RedoJournalLaw" (44 : Nat) ({ cls := "RedoJournalModel", name := "clear", desc := "()I" } : Jvm.MethodName)) ∈ wA := List.mem_of_getElem? (i := 397) rfl
theorem mA_398 : (Jvm.Cond.instanceMethod ({ cls := "RedoJournalModel", name := "clear", desc := "()I" } : Jvm.MethodName)) ∈ wA := List.mem_of_getElem? (i := 398) rfl
theorem mA_399 : (Jvm.Cond.selects "RedoJournalModel" ({ cls := "RedoJournalModel", name := "clear", desc := "()I" } : Jvm.MethodName) ({ cls := "RedoJournalModel", name := "clear", desc := "()I" } : Jvm.MethodName)) ∈ wA := List.mem_of_getElem? (i := 399) rfl
theorem mA_400 : (Jvm.Cond.code ({ cls := "RedoJournalModel", name := "clear", desc := "()I" } : Jvm.MethodName) prog_5_method_21_code (1 : Nat) (Option.some Jvm.ClassFile.FieldType.int)) ∈ wA := List.mem_of_getElem? (i := 400) rfl
theorem mA_401 : (Jvm.Cond.methodLink "RedoJournalLaw" (48 : Nat) ({ cls := "RedoJournalModel", name := "fuse", desc := "(I)I" } : Jvm.MethodName)) ∈ wA := List.mem_of_getElem? (i := 401) rfl
theorem mA_402 : (Jvm.Cond.instanceMethod ({ cls := "RedoJournalModel", name := "fuse", desc := "(I)I" } : Jvm.MethodName)) ∈ wA := List.mem_of_getElem? (i := 402) rfl
theorem mA_403 : (Jvm.Cond.selects "RedoJournalModel" ({ cls := "RedoJournalModel", name := "fuse", desc := "(I)I" } : Jvm.MethodName) ({ cls := "RedoJournalModel", name := "fuse", desc := "(I)I" } : Jvm.MethodName)) ∈ wA := List.mem_of_getElem? (i := 403) rfl
theorem mA_404 : (Jvm.Cond.code ({ cls := "RedoJournalModel", name := "fuse", desc := "(I)I" } : Jvm.MethodName) prog_5_method_22_code (3 : Nat) (Option.some Jvm.ClassFile.FieldType.int)) ∈ wA := List.mem_of_getElem? (i := 404) rfl
theorem mA_405 : (Jvm.Cond.constant "RedoJournalModel" (122 : Nat) (100000 : Int32)) ∈ wA := List.mem_of_getElem? (i := 405) rfl
theorem mA_406 : (Jvm.Cond.methodLink "RedoJournalLaw" (52 : Nat) ({ cls := "RedoJournalModel", name := "fail", desc := "()I" } : Jvm.MethodName)) ∈ wA := List.mem_of_getElem? (i := 406) rfl
theorem mA_407 : (Jvm.Cond.instanceMethod ({ cls := "RedoJournalModel", name := "fail", desc := "()I" } : Jvm.MethodName)) ∈ wA := List.mem_of_getElem? (i := 407) rfl
theorem mA_408 : (Jvm.Cond.selects "RedoJournalModel" ({ cls := "RedoJournalModel", name := "fail", desc := "()I" } : Jvm.MethodName) ({ cls := "RedoJournalModel", name := "fail", desc := "()I" } : Jvm.MethodName)) ∈ wA := List.mem_of_getElem? (i := 408) rfl
theorem mA_409 : (Jvm.Cond.code ({ cls := "RedoJournalModel", name := "fail", desc := "()I" } : Jvm.MethodName) prog_5_method_23_code (1 : Nat) (Option.some Jvm.ClassFile.FieldType.int)) ∈ wA := List.mem_of_getElem? (i := 409) rfl
theorem mA_410 : (Jvm.Cond.methodLink "RedoJournalLaw" (59 : Nat) ({ cls := "RedoJournalModel", name := "mount", desc := "(J)I" } : Jvm.MethodName)) ∈ wA := List.mem_of_getElem? (i := 410) rfl
theorem mA_411 : (Jvm.Cond.instanceMethod ({ cls := "RedoJournalModel", name := "mount", desc := "(J)I" } : Jvm.MethodName)) ∈ wA := List.mem_of_getElem? (i := 411) rfl
theorem mA_412 : (Jvm.Cond.selects "RedoJournalModel" ({ cls := "RedoJournalModel", name := "mount", desc := "(J)I" } : Jvm.MethodName) ({ cls := "RedoJournalModel", name := "mount", desc := "(J)I" } : Jvm.MethodName)) ∈ wA := List.mem_of_getElem? (i := 412) rfl
theorem mA_413 : (Jvm.Cond.code ({ cls := "RedoJournalModel", name := "mount", desc := "(J)I" } : Jvm.MethodName) prog_5_method_26_code (6 : Nat) (Option.some Jvm.ClassFile.FieldType.int)) ∈ wA := List.mem_of_getElem? (i := 413) rfl
theorem mA_414 : (Jvm.Cond.methodLink "RedoJournalModel" (125 : Nat) ({ cls := "RedoJournalModel", name := "down", desc := "(J)V" } : Jvm.MethodName)) ∈ wA := List.mem_of_getElem? (i := 414) rfl
theorem mA_415 : (Jvm.Cond.instanceMethod ({ cls := "RedoJournalModel", name := "down", desc := "(J)V" } : Jvm.MethodName)) ∈ wA := List.mem_of_getElem? (i := 415) rfl
theorem mA_416 : (Jvm.Cond.code ({ cls := "RedoJournalModel", name := "down", desc := "(J)V" } : Jvm.MethodName) prog_5_method_24_code (7 : Nat) (Option.none : Option Jvm.ClassFile.FieldType)) ∈ wA := List.mem_of_getElem? (i := 416) rfl
theorem mA_417 : (Jvm.Cond.constantLong "RedoJournalModel" (123 : Nat) (3 : Int64)) ∈ wA := List.mem_of_getElem? (i := 417) rfl
theorem mA_418 : (Jvm.Cond.methodLink "RedoJournalModel" (129 : Nat) ({ cls := "RedoJournalModel", name := "isRevoked", desc := "(II)Z" } : Jvm.MethodName)) ∈ wA := List.mem_of_getElem? (i := 418) rfl
theorem mA_419 : (Jvm.Cond.instanceMethod ({ cls := "RedoJournalModel", name := "isRevoked", desc := "(II)Z" } : Jvm.MethodName)) ∈ wA := List.mem_of_getElem? (i := 419) rfl
theorem mA_420 : (Jvm.Cond.code ({ cls := "RedoJournalModel", name := "isRevoked", desc := "(II)Z" } : Jvm.MethodName) prog_5_method_25_code (5 : Nat) (Option.some Jvm.ClassFile.FieldType.boolean)) ∈ wA := List.mem_of_getElem? (i := 420) rfl
theorem mA_421 : (Jvm.Cond.methodLink "RedoJournalLaw" (63 : Nat) ({ cls := "RedoJournalModel", name := "count", desc := "(I)I" } : Jvm.MethodName)) ∈ wA := List.mem_of_getElem? (i := 421) rfl
theorem mA_422 : (Jvm.Cond.instanceMethod ({ cls := "RedoJournalModel", name := "count", desc := "(I)I" } : Jvm.MethodName)) ∈ wA := List.mem_of_getElem? (i := 422) rfl
theorem mA_423 : (Jvm.Cond.selects "RedoJournalModel" ({ cls := "RedoJournalModel", name := "count", desc := "(I)I" } : Jvm.MethodName) ({ cls := "RedoJournalModel", name := "count", desc := "(I)I" } : Jvm.MethodName)) ∈ wA := List.mem_of_getElem? (i := 423) rfl
theorem mA_424 : (Jvm.Cond.code ({ cls := "RedoJournalModel", name := "count", desc := "(I)I" } : Jvm.MethodName) prog_5_method_27_code (4 : Nat) (Option.some Jvm.ClassFile.FieldType.int)) ∈ wA := List.mem_of_getElem? (i := 424) rfl
theorem mA_425 : (Jvm.Cond.constantLong "RedoJournalLaw" (53 : Nat) (4294967295 : Int64)) ∈ wA := List.mem_of_getElem? (i := 425) rfl
theorem inX0 : ∀ w ∈ u_ws "RedoJournal$Disk" TX0 8, w ∈ wA := by
  have h : u_ws "RedoJournal$Disk" TX0 8 = [0, 1, 2, 3, 4, 5, 6, 7].filterMap (fun i => wA[i]?) := rfl
  intro w hw
  rw [h] at hw
  obtain ⟨i, -, hi⟩ := List.mem_filterMap.mp hw
  exact List.mem_of_getElem? hi
theorem inX1 : ∀ w ∈ u_ws "RedoJournal$Log" TX1 7, w ∈ wA := by
  have h : u_ws "RedoJournal$Log" TX1 7 = [8, 9, 10, 11, 12, 13, 14].filterMap (fun i => wA[i]?) := rfl
  intro w hw
  rw [h] at hw
  obtain ⟨i, -, hi⟩ := List.mem_filterMap.mp hw
  exact List.mem_of_getElem? hi
theorem inX2 : ∀ w ∈ u_ws "RedoJournal" TX2 6, w ∈ wA := by
  have h : u_ws "RedoJournal" TX2 6 = [15, 16, 17, 18, 19, 20].filterMap (fun i => wA[i]?) := rfl
  intro w hw
  rw [h] at hw
  obtain ⟨i, -, hi⟩ := List.mem_filterMap.mp hw
  exact List.mem_of_getElem? hi
theorem inX3 : ∀ w ∈ u_ws "RedoJournalModel" TX3 20, w ∈ wA := by
  have h : u_ws "RedoJournalModel" TX3 20 = [21, 22, 23, 24, 25, 26, 27, 28, 29, 30, 31, 32, 33, 34, 35, 36, 37, 38, 39, 40].filterMap (fun i => wA[i]?) := rfl
  intro w hw
  rw [h] at hw
  obtain ⟨i, -, hi⟩ := List.mem_filterMap.mp hw
  exact List.mem_of_getElem? hi
def zn_ws : List Cond := [(Jvm.Cond.methodLinkNest "RedoJournal" (9 : Nat) ({ cls := "RedoJournal$Disk", name := "<init>", desc := "()V" } : Jvm.MethodName) "RedoJournal"), (Jvm.Cond.methodLinkNest "RedoJournal" (18 : Nat) ({ cls := "RedoJournal$Log", name := "<init>", desc := "()V" } : Jvm.MethodName) "RedoJournal"), (Jvm.Cond.methodLinkNest "RedoJournal$Disk" (42 : Nat) ({ cls := "RedoJournal", name := "isHome", desc := "(I)Z" } : Jvm.MethodName) "RedoJournal"), (Jvm.Cond.methodLinkNest "RedoJournal$Disk" (60 : Nat) ({ cls := "RedoJournal", name := "holds", desc := "(JI)Z" } : Jvm.MethodName) "RedoJournal"), (Jvm.Cond.methodLinkNest "RedoJournal$Disk" (64 : Nat) ({ cls := "RedoJournal", name := "bit", desc := "(I)J" } : Jvm.MethodName) "RedoJournal"), (Jvm.Cond.methodLinkNest "RedoJournal$Log" (43 : Nat) ({ cls := "RedoJournal", name := "holds", desc := "(JI)Z" } : Jvm.MethodName) "RedoJournal"), (Jvm.Cond.methodLinkNest "RedoJournal$Log" (55 : Nat) ({ cls := "RedoJournal", name := "bit", desc := "(I)J" } : Jvm.MethodName) "RedoJournal")]
theorem zn_tab : ∀ w ∈ zn_ws, w.onTables = true := by
  intro w hw
  simp only [zn_ws, List.mem_cons, List.not_mem_nil, or_false] at hw
  rcases hw with rfl | rfl | rfl | rfl | rfl | rfl | rfl <;> rfl
