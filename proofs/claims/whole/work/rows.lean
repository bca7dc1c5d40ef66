section
/-- a private method of a class that the tables say can be made, by its rows of tables_1 -/
def lw_okq (q : MethodName × Nat) : Prop := (q.1.cls ≠ "java/lang/invoke/MethodHandle" ∧ q.1.cls ≠ "java/lang/invoke/VarHandle") ∧ Cond.instantiable q.1.cls q.2 ∈ tables_1 ∧ Cond.privateMethod q.1 ∈ tables_1 ∧ Cond.instanceMethod q.1 ∈ tables_1
theorem lw_p0 : lw_okq (⟨"PlugRounds", "fileAt", "(I)LPlugRounds$PlugFile;"⟩, 9) := ⟨⟨by decide +kernel, by decide +kernel⟩, List.mem_of_getElem? (i := 21) (by decide +kernel), List.mem_of_getElem? (i := 277) (by decide +kernel), List.mem_of_getElem? (i := 278) (by decide +kernel)⟩
theorem lw_p1 : lw_okq (⟨"PlugRounds$Runner", "begin", "(IZ)V"⟩, 15) := ⟨⟨by decide +kernel, by decide +kernel⟩, List.mem_of_getElem? (i := 70) (by decide +kernel), List.mem_of_getElem? (i := 431) (by decide +kernel), List.mem_of_getElem? (i := 432) (by decide +kernel)⟩
theorem lw_p2 : lw_okq (⟨"PlugRounds$Runner", "makeRound", "(II)V"⟩, 15) := ⟨⟨by decide +kernel, by decide +kernel⟩, List.mem_of_getElem? (i := 70) (by decide +kernel), List.mem_of_getElem? (i := 457) (by decide +kernel), List.mem_of_getElem? (i := 458) (by decide +kernel)⟩
theorem lw_p3 : lw_okq (⟨"PlugRounds$Runner", "doRules", "(II)V"⟩, 15) := ⟨⟨by decide +kernel, by decide +kernel⟩, List.mem_of_getElem? (i := 70) (by decide +kernel), List.mem_of_getElem? (i := 469) (by decide +kernel), List.mem_of_getElem? (i := 470) (by decide +kernel)⟩
theorem lw_p4 : lw_okq (⟨"PlugRounds$Processor", "part", "(I)I"⟩, 7) := ⟨⟨by decide +kernel, by decide +kernel⟩, List.mem_of_getElem? (i := 83) (by decide +kernel), List.mem_of_getElem? (i := 478) (by decide +kernel), List.mem_of_getElem? (i := 479) (by decide +kernel)⟩
theorem lw_p5 : lw_okq (⟨"PlugRounds$Runner", "isDue", "(I)Z"⟩, 15) := ⟨⟨by decide +kernel, by decide +kernel⟩, List.mem_of_getElem? (i := 70) (by decide +kernel), List.mem_of_getElem? (i := 482) (by decide +kernel), List.mem_of_getElem? (i := 483) (by decide +kernel)⟩
theorem lw_p6 : lw_okq (⟨"PlugRounds$Runner", "doRule", "(LPlugRounds$Processor;I)I"⟩, 15) := ⟨⟨by decide +kernel, by decide +kernel⟩, List.mem_of_getElem? (i := 70) (by decide +kernel), List.mem_of_getElem? (i := 487) (by decide +kernel), List.mem_of_getElem? (i := 488) (by decide +kernel)⟩
theorem lw_p7 : lw_okq (⟨"PlugRounds$Runner", "takeSteps", "(LPlugRounds$Processor;I)Z"⟩, 15) := ⟨⟨by decide +kernel, by decide +kernel⟩, List.mem_of_getElem? (i := 70) (by decide +kernel), List.mem_of_getElem? (i := 491) (by decide +kernel), List.mem_of_getElem? (i := 492) (by decide +kernel)⟩
theorem lw_p8 : lw_okq (⟨"PlugRounds$Runner", "claim", "(I)V"⟩, 15) := ⟨⟨by decide +kernel, by decide +kernel⟩, List.mem_of_getElem? (i := 70) (by decide +kernel), List.mem_of_getElem? (i := 507) (by decide +kernel), List.mem_of_getElem? (i := 508) (by decide +kernel)⟩
theorem lw_p9 : lw_okq (⟨"PlugRounds$Runner", "make", "(II)I"⟩, 15) := ⟨⟨by decide +kernel, by decide +kernel⟩, List.mem_of_getElem? (i := 70) (by decide +kernel), List.mem_of_getElem? (i := 511) (by decide +kernel), List.mem_of_getElem? (i := 512) (by decide +kernel)⟩
theorem lw_p10 : lw_okq (⟨"PlugRounds$Runner", "stop", "(LPlugRounds$Processor;)V"⟩, 15) := ⟨⟨by decide +kernel, by decide +kernel⟩, List.mem_of_getElem? (i := 70) (by decide +kernel), List.mem_of_getElem? (i := 518) (by decide +kernel), List.mem_of_getElem? (i := 519) (by decide +kernel)⟩
theorem lw_p11 : lw_okq (⟨"PlugRounds$Runner", "write", "(II)I"⟩, 15) := ⟨⟨by decide +kernel, by decide +kernel⟩, List.mem_of_getElem? (i := 70) (by decide +kernel), List.mem_of_getElem? (i := 522) (by decide +kernel), List.mem_of_getElem? (i := 523) (by decide +kernel)⟩
theorem lw_p12 : lw_okq (⟨"PlugRounds$Runner", "optionAt", "(I)I"⟩, 15) := ⟨⟨by decide +kernel, by decide +kernel⟩, List.mem_of_getElem? (i := 70) (by decide +kernel), List.mem_of_getElem? (i := 531) (by decide +kernel), List.mem_of_getElem? (i := 532) (by decide +kernel)⟩
theorem lw_p13 : lw_okq (⟨"PlugRounds$Runner", "makeEnd", "()V"⟩, 15) := ⟨⟨by decide +kernel, by decide +kernel⟩, List.mem_of_getElem? (i := 70) (by decide +kernel), List.mem_of_getElem? (i := 543) (by decide +kernel), List.mem_of_getElem? (i := 544) (by decide +kernel)⟩
theorem lw_p14 : lw_okq (⟨"PlugRounds$Runner", "goBack", "(I)V"⟩, 15) := ⟨⟨by decide +kernel, by decide +kernel⟩, List.mem_of_getElem? (i := 70) (by decide +kernel), List.mem_of_getElem? (i := 547) (by decide +kernel), List.mem_of_getElem? (i := 548) (by decide +kernel)⟩
theorem lw_p15 : lw_okq (⟨"PlugRounds", "bytesOfResource", "(I)I"⟩, 9) := ⟨⟨by decide +kernel, by decide +kernel⟩, List.mem_of_getElem? (i := 21) (by decide +kernel), List.mem_of_getElem? (i := 617) (by decide +kernel), List.mem_of_getElem? (i := 618) (by decide +kernel)⟩
def lw_privs_1 : List (MethodName × Nat) := [(⟨"PlugRounds", "fileAt", "(I)LPlugRounds$PlugFile;"⟩, 9), (⟨"PlugRounds$Runner", "begin", "(IZ)V"⟩, 15), (⟨"PlugRounds$Runner", "makeRound", "(II)V"⟩, 15), (⟨"PlugRounds$Runner", "doRules", "(II)V"⟩, 15), (⟨"PlugRounds$Processor", "part", "(I)I"⟩, 7), (⟨"PlugRounds$Runner", "isDue", "(I)Z"⟩, 15), (⟨"PlugRounds$Runner", "doRule", "(LPlugRounds$Processor;I)I"⟩, 15), (⟨"PlugRounds$Runner", "takeSteps", "(LPlugRounds$Processor;I)Z"⟩, 15), (⟨"PlugRounds$Runner", "claim", "(I)V"⟩, 15), (⟨"PlugRounds$Runner", "make", "(II)I"⟩, 15), (⟨"PlugRounds$Runner", "stop", "(LPlugRounds$Processor;)V"⟩, 15), (⟨"PlugRounds$Runner", "write", "(II)I"⟩, 15), (⟨"PlugRounds$Runner", "optionAt", "(I)I"⟩, 15), (⟨"PlugRounds$Runner", "makeEnd", "()V"⟩, 15), (⟨"PlugRounds$Runner", "goBack", "(I)V"⟩, 15), (⟨"PlugRounds", "bytesOfResource", "(I)I"⟩, 9)]
theorem lw_r1 : ∀ q ∈ lw_privs_1, lw_okq q := List.forall_mem_cons.mpr ⟨lw_p0, List.forall_mem_cons.mpr ⟨lw_p1, List.forall_mem_cons.mpr ⟨lw_p2, List.forall_mem_cons.mpr ⟨lw_p3, List.forall_mem_cons.mpr ⟨lw_p4, List.forall_mem_cons.mpr ⟨lw_p5, List.forall_mem_cons.mpr ⟨lw_p6, List.forall_mem_cons.mpr ⟨lw_p7, List.forall_mem_cons.mpr ⟨lw_p8, List.forall_mem_cons.mpr ⟨lw_p9, List.forall_mem_cons.mpr ⟨lw_p10, List.forall_mem_cons.mpr ⟨lw_p11, List.forall_mem_cons.mpr ⟨lw_p12, List.forall_mem_cons.mpr ⟨lw_p13, List.forall_mem_cons.mpr ⟨lw_p14, List.forall_mem_cons.mpr ⟨lw_p15, fun _ h => absurd h List.not_mem_nil⟩⟩⟩⟩⟩⟩⟩⟩⟩⟩⟩⟩⟩⟩⟩⟩
theorem lw_p16 : lw_okq (⟨"java/lang/NullPointerException", "getExtendedNPEMessage", "()Ljava/lang/String;"⟩, 8) := ⟨⟨by decide +kernel, by decide +kernel⟩, List.mem_of_getElem? (i := 673) (by decide +kernel), List.mem_of_getElem? (i := 671) (by decide +kernel), List.mem_of_getElem? (i := 672) (by decide +kernel)⟩
theorem lw_p17 : lw_okq (⟨"java/lang/Throwable", "fillInStackTrace", "(I)Ljava/lang/Throwable;"⟩, 6) := ⟨⟨by decide +kernel, by decide +kernel⟩, List.mem_of_getElem? (i := 682) (by decide +kernel), List.mem_of_getElem? (i := 680) (by decide +kernel), List.mem_of_getElem? (i := 681) (by decide +kernel)⟩
theorem lw_p18 : lw_okq (⟨"PlugRoundsModel", "clause", "(I)I"⟩, 36) := ⟨⟨by decide +kernel, by decide +kernel⟩, List.mem_of_getElem? (i := 784) (by decide +kernel), List.mem_of_getElem? (i := 936) (by decide +kernel), List.mem_of_getElem? (i := 937) (by decide +kernel)⟩
theorem lw_p19 : lw_okq (⟨"PlugRoundsModel", "isRule", "(I)Z"⟩, 36) := ⟨⟨by decide +kernel, by decide +kernel⟩, List.mem_of_getElem? (i := 784) (by decide +kernel), List.mem_of_getElem? (i := 941) (by decide +kernel), List.mem_of_getElem? (i := 942) (by decide +kernel)⟩
theorem lw_p20 : lw_okq (⟨"PlugRoundsModel", "find", "(I)I"⟩, 36) := ⟨⟨by decide +kernel, by decide +kernel⟩, List.mem_of_getElem? (i := 784) (by decide +kernel), List.mem_of_getElem? (i := 954) (by decide +kernel), List.mem_of_getElem? (i := 955) (by decide +kernel)⟩
theorem lw_p21 : lw_okq (⟨"PlugRoundsModel", "come", "(IIII)V"⟩, 36) := ⟨⟨by decide +kernel, by decide +kernel⟩, List.mem_of_getElem? (i := 784) (by decide +kernel), List.mem_of_getElem? (i := 958) (by decide +kernel), List.mem_of_getElem? (i := 959) (by decide +kernel)⟩
theorem lw_p22 : lw_okq (⟨"PlugRoundsModel", "isUnit", "(I)Z"⟩, 36) := ⟨⟨by decide +kernel, by decide +kernel⟩, List.mem_of_getElem? (i := 784) (by decide +kernel), List.mem_of_getElem? (i := 966) (by decide +kernel), List.mem_of_getElem? (i := 967) (by decide +kernel)⟩
theorem lw_p23 : lw_okq (⟨"PlugRoundsModel", "turn", "(IIZ)V"⟩, 36) := ⟨⟨by decide +kernel, by decide +kernel⟩, List.mem_of_getElem? (i := 784) (by decide +kernel), List.mem_of_getElem? (i := 988) (by decide +kernel), List.mem_of_getElem? (i := 989) (by decide +kernel)⟩
theorem lw_p24 : lw_okq (⟨"PlugRoundsModel", "meet", "(II)V"⟩, 36) := ⟨⟨by decide +kernel, by decide +kernel⟩, List.mem_of_getElem? (i := 784) (by decide +kernel), List.mem_of_getElem? (i := 992) (by decide +kernel), List.mem_of_getElem? (i := 993) (by decide +kernel)⟩
theorem lw_p25 : lw_okq (⟨"PlugRoundsModel", "step", "(II)V"⟩, 36) := ⟨⟨by decide +kernel, by decide +kernel⟩, List.mem_of_getElem? (i := 784) (by decide +kernel), List.mem_of_getElem? (i := 996) (by decide +kernel), List.mem_of_getElem? (i := 997) (by decide +kernel)⟩
theorem lw_p26 : lw_okq (⟨"PlugRoundsModel", "act", "(III)I"⟩, 36) := ⟨⟨by decide +kernel, by decide +kernel⟩, List.mem_of_getElem? (i := 784) (by decide +kernel), List.mem_of_getElem? (i := 1000) (by decide +kernel), List.mem_of_getElem? (i := 1001) (by decide +kernel)⟩
theorem lw_p27 : lw_okq (⟨"PlugRoundsModel", "tell", "(IIII)V"⟩, 36) := ⟨⟨by decide +kernel, by decide +kernel⟩, List.mem_of_getElem? (i := 784) (by decide +kernel), List.mem_of_getElem? (i := 1004) (by decide +kernel), List.mem_of_getElem? (i := 1005) (by decide +kernel)⟩
def lw_privs_2 : List (MethodName × Nat) := [(⟨"java/lang/NullPointerException", "getExtendedNPEMessage", "()Ljava/lang/String;"⟩, 8), (⟨"java/lang/Throwable", "fillInStackTrace", "(I)Ljava/lang/Throwable;"⟩, 6), (⟨"PlugRoundsModel", "clause", "(I)I"⟩, 36), (⟨"PlugRoundsModel", "isRule", "(I)Z"⟩, 36), (⟨"PlugRoundsModel", "find", "(I)I"⟩, 36), (⟨"PlugRoundsModel", "come", "(IIII)V"⟩, 36), (⟨"PlugRoundsModel", "isUnit", "(I)Z"⟩, 36), (⟨"PlugRoundsModel", "turn", "(IIZ)V"⟩, 36), (⟨"PlugRoundsModel", "meet", "(II)V"⟩, 36), (⟨"PlugRoundsModel", "step", "(II)V"⟩, 36), (⟨"PlugRoundsModel", "act", "(III)I"⟩, 36), (⟨"PlugRoundsModel", "tell", "(IIII)V"⟩, 36)]
theorem lw_r2 : ∀ q ∈ lw_privs_2, lw_okq q := List.forall_mem_cons.mpr ⟨lw_p16, List.forall_mem_cons.mpr ⟨lw_p17, List.forall_mem_cons.mpr ⟨lw_p18, List.forall_mem_cons.mpr ⟨lw_p19, List.forall_mem_cons.mpr ⟨lw_p20, List.forall_mem_cons.mpr ⟨lw_p21, List.forall_mem_cons.mpr ⟨lw_p22, List.forall_mem_cons.mpr ⟨lw_p23, List.forall_mem_cons.mpr ⟨lw_p24, List.forall_mem_cons.mpr ⟨lw_p25, List.forall_mem_cons.mpr ⟨lw_p26, List.forall_mem_cons.mpr ⟨lw_p27, fun _ h => absurd h List.not_mem_nil⟩⟩⟩⟩⟩⟩⟩⟩⟩⟩⟩⟩
def lw_privs : List (MethodName × Nat) := lw_privs_1 ++ (lw_privs_2)
def lw_tbl : List Cond := k2_sels lw_privs ++ tables_1
theorem lw_privs_ok : ∀ q ∈ lw_privs, lw_okq q := by
  show ∀ q ∈ lw_privs_1 ++ (lw_privs_2), lw_okq q
  exact List.forall_mem_append.mpr ⟨lw_r1, lw_r2⟩
end
section
def RX0 : String := "PlugRounds$Clauses"
def TX0 : u_T := fun k => match k with
  | _ => ("", "", "", false)
def tyX0 : Nat → FieldType := fun k => match k with
  | _ => .int
abbrev wsX00 : List Cond := u_ws RX0 TX0 0
theorem nmX0 : ∀ a, a < 0 → ∀ b, b < 0 → a ≠ b → (TX0 a).2.1 ≠ (TX0 b).2.1 := by decide +kernel
theorem tyX0_ok : ∀ k, k < 0 → parseFieldDescriptor (TX0 k).2.2.1 = some (tyX0 k) := by decide +kernel
abbrev cX0_firstBroken : ByteArray := prog_2_method_2_code
def yX0_firstBroken : MethodName := ⟨RX0, "firstBroken", "(LPlugRounds$Row;)I"⟩
abbrev cX0_areSoundRules : ByteArray := prog_2_method_3_code
def yX0_areSoundRules : MethodName := ⟨RX0, "areSoundRules", "(LPlugRounds$Row;I)Z"⟩
abbrev cX0_isSoundRule : ByteArray := prog_2_method_4_code
def yX0_isSoundRule : MethodName := ⟨RX0, "isSoundRule", "(IIII)Z"⟩
abbrev cX0_sumAheadOfLast : ByteArray := prog_2_method_5_code
def yX0_sumAheadOfLast : MethodName := ⟨RX0, "sumAheadOfLast", "(LPlugRounds$Row;)I"⟩
def RX1 : String := "PlugRounds$Messages"
def TX1 : u_T := fun k => match k with
  | 0 => ("PlugRounds$Messages", "parts", "[I", true)
  | _ => ("PlugRounds$Messages", "count", "I", false)
def tyX1 : Nat → FieldType := fun k => match k with
  | 0 => .array .int
  | _ => .int
abbrev wsX10 : List Cond := u_ws RX1 TX1 2
theorem nmX1 : ∀ a, a < 2 → ∀ b, b < 2 → a ≠ b → (TX1 a).2.1 ≠ (TX1 b).2.1 := by decide +kernel
theorem tyX1_ok : ∀ k, k < 2 → parseFieldDescriptor (TX1 k).2.2.1 = some (tyX1 k) := by decide +kernel
abbrev cX1_init : ByteArray := prog_3_method_1_code
def yX1_init : MethodName := ⟨RX1, "<init>", "()V"⟩
abbrev cX1_size : ByteArray := prog_3_method_2_code
def yX1_size : MethodName := ⟨RX1, "size", "()I"⟩
abbrev cX1_has : ByteArray := prog_3_method_3_code
def yX1_has : MethodName := ⟨RX1, "has", "(I)Z"⟩
abbrev cX1_append : ByteArray := prog_3_method_4_code
def yX1_append : MethodName := ⟨RX1, "append", "(IIIII)V"⟩
abbrev cX1_aspect : ByteArray := prog_3_method_5_code
def yX1_aspect : MethodName := ⟨RX1, "aspect", "(II)I"⟩
abbrev cX1_forgetAll : ByteArray := prog_3_method_6_code
def yX1_forgetAll : MethodName := ⟨RX1, "forgetAll", "()V"⟩
def RX2 : String := "PlugRounds$PlugFile"
def TX2 : u_T := fun k => match k with
  | 0 => ("PlugRounds$PlugFile", "row", "LPlugRounds$Row;", true)
  | 1 => ("PlugRounds$PlugFile", "startFails", "Z", false)
  | _ => ("PlugRounds$PlugFile", "hasFailed", "Z", false)
def tyX2 : Nat → FieldType := fun k => match k with
  | 0 => .object "PlugRounds$Row"
  | 1 => .boolean
  | _ => .boolean
abbrev wsX20 : List Cond := u_ws RX2 TX2 3
theorem nmX2 : ∀ a, a < 3 → ∀ b, b < 3 → a ≠ b → (TX2 a).2.1 ≠ (TX2 b).2.1 := by decide +kernel
theorem tyX2_ok : ∀ k, k < 3 → parseFieldDescriptor (TX2 k).2.2.1 = some (tyX2 k) := by decide +kernel
abbrev cX2_init : ByteArray := prog_4_method_1_code
def yX2_init : MethodName := ⟨RX2, "<init>", "()V"⟩
abbrev cX2_startBecomes : ByteArray := prog_4_method_2_code
def yX2_startBecomes : MethodName := ⟨RX2, "startBecomes", "(Z)V"⟩
abbrev cX2_failToStart : ByteArray := prog_4_method_3_code
def yX2_failToStart : MethodName := ⟨RX2, "failToStart", "()I"⟩
def RX3 : String := "PlugRounds$Processor"
def TX3 : u_T := fun k => match k with
  | 0 => ("PlugRounds$Processor", "parts", "[I", true)
  | 1 => ("PlugRounds$Processor", "file", "I", false)
  | 2 => ("PlugRounds$Processor", "rules", "I", false)
  | 3 => ("PlugRounds$Processor", "value", "I", false)
  | 4 => ("PlugRounds$Processor", "keptValue", "I", false)
  | 5 => ("PlugRounds$Processor", "stopped", "Z", false)
  | _ => ("PlugRounds$Processor", "steps", "I", false)
def tyX3 : Nat → FieldType := fun k => match k with
  | 0 => .array .int
  | 1 => .int
  | 2 => .int
  | 3 => .int
  | 4 => .int
  | 5 => .boolean
  | _ => .int
abbrev wsX30 : List Cond := u_ws RX3 TX3 7
theorem nmX3 : ∀ a, a < 7 → ∀ b, b < 7 → a ≠ b → (TX3 a).2.1 ≠ (TX3 b).2.1 := by decide +kernel
theorem tyX3_ok : ∀ k, k < 7 → parseFieldDescriptor (TX3 k).2.2.1 = some (tyX3 k) := by decide +kernel
abbrev cX3_init : ByteArray := prog_5_method_1_code
def yX3_init : MethodName := ⟨RX3, "<init>", "()V"⟩
abbrev cX3_become : ByteArray := prog_5_method_2_code
def yX3_become : MethodName := ⟨RX3, "become", "(ILPlugRounds$Row;)V"⟩
abbrev cX3_markOf : ByteArray := prog_5_method_3_code
def yX3_markOf : MethodName := ⟨RX3, "markOf", "(I)I"⟩
abbrev cX3_actOf : ByteArray := prog_5_method_4_code
def yX3_actOf : MethodName := ⟨RX3, "actOf", "(I)I"⟩
abbrev cX3_aOf : ByteArray := prog_5_method_5_code
def yX3_aOf : MethodName := ⟨RX3, "aOf", "(I)I"⟩
abbrev cX3_bOf : ByteArray := prog_5_method_6_code
def yX3_bOf : MethodName := ⟨RX3, "bOf", "(I)I"⟩
abbrev cX3_part : ByteArray := prog_5_method_7_code
def yX3_part : MethodName := ⟨RX3, "part", "(I)I"⟩
abbrev cX3_beginRun : ByteArray := prog_5_method_8_code
def yX3_beginRun : MethodName := ⟨RX3, "beginRun", "()V"⟩
abbrev cX3_goBack : ByteArray := prog_5_method_9_code
def yX3_goBack : MethodName := ⟨RX3, "goBack", "()V"⟩
abbrev cX3_aspect : ByteArray := prog_5_method_10_code
def yX3_aspect : MethodName := ⟨RX3, "aspect", "(I)I"⟩
def RX4 : String := "PlugRounds$Processors"
def TX4 : u_T := fun k => match k with
  | 0 => ("PlugRounds$Processors", "all", "[LPlugRounds$Processor;", true)
  | _ => ("PlugRounds$Processors", "count", "I", false)
def tyX4 : Nat → FieldType := fun k => match k with
  | 0 => .array (.object "PlugRounds$Processor")
  | _ => .int
abbrev wsX40 : List Cond := u_ws RX4 TX4 2
theorem nmX4 : ∀ a, a < 2 → ∀ b, b < 2 → a ≠ b → (TX4 a).2.1 ≠ (TX4 b).2.1 := by decide +kernel
theorem tyX4_ok : ∀ k, k < 2 → parseFieldDescriptor (TX4 k).2.2.1 = some (tyX4 k) := by decide +kernel
abbrev cX4_init : ByteArray := prog_6_method_1_code
def yX4_init : MethodName := ⟨RX4, "<init>", "()V"⟩
abbrev cX4_size : ByteArray := prog_6_method_2_code
def yX4_size : MethodName := ⟨RX4, "size", "()I"⟩
abbrev cX4_isFull : ByteArray := prog_6_method_3_code
def yX4_isFull : MethodName := ⟨RX4, "isFull", "()Z"⟩
abbrev cX4_at : ByteArray := prog_6_method_4_code
def yX4_at : MethodName := ⟨RX4, "at", "(I)LPlugRounds$Processor;"⟩
abbrev cX4_enlist : ByteArray := prog_6_method_5_code
def yX4_enlist : MethodName := ⟨RX4, "enlist", "(ILPlugRounds$Row;)I"⟩
abbrev cX4_dismissAll : ByteArray := prog_6_method_6_code
def yX4_dismissAll : MethodName := ⟨RX4, "dismissAll", "()V"⟩
abbrev cX4_beginRun : ByteArray := prog_6_method_7_code
def yX4_beginRun : MethodName := ⟨RX4, "beginRun", "()V"⟩
abbrev cX4_goBack : ByteArray := prog_6_method_8_code
def yX4_goBack : MethodName := ⟨RX4, "goBack", "()V"⟩
def RX5 : String := "PlugRounds$Resources"
def TX5 : u_T := fun k => match k with
  | _ => ("PlugRounds$Resources", "rows", "[LPlugRounds$Row;", true)
def tyX5 : Nat → FieldType := fun k => match k with
  | _ => .array (.object "PlugRounds$Row")
abbrev wsX50 : List Cond := u_ws RX5 TX5 1
theorem nmX5 : ∀ a, a < 1 → ∀ b, b < 1 → a ≠ b → (TX5 a).2.1 ≠ (TX5 b).2.1 := by decide +kernel
theorem tyX5_ok : ∀ k, k < 1 → parseFieldDescriptor (TX5 k).2.2.1 = some (tyX5 k) := by decide +kernel
abbrev cX5_init : ByteArray := prog_7_method_1_code
def yX5_init : MethodName := ⟨RX5, "<init>", "()V"⟩
abbrev cX5_at : ByteArray := prog_7_method_2_code
def yX5_at : MethodName := ⟨RX5, "at", "(I)LPlugRounds$Row;"⟩
abbrev cX5_emptyAll : ByteArray := prog_7_method_3_code
def yX5_emptyAll : MethodName := ⟨RX5, "emptyAll", "()V"⟩
abbrev cX5_keep : ByteArray := prog_7_method_4_code
def yX5_keep : MethodName := ⟨RX5, "keep", "()V"⟩
abbrev cX5_goBack : ByteArray := prog_7_method_5_code
def yX5_goBack : MethodName := ⟨RX5, "goBack", "()V"⟩
def RX6 : String := "PlugRounds$Row"
def TX6 : u_T := fun k => match k with
  | 0 => ("PlugRounds$Row", "bytes", "[I", true)
  | 1 => ("PlugRounds$Row", "length", "I", false)
  | _ => ("PlugRounds$Row", "kept", "I", false)
def tyX6 : Nat → FieldType := fun k => match k with
  | 0 => .array .int
  | 1 => .int
  | _ => .int
abbrev wsX60 : List Cond := u_ws RX6 TX6 3
theorem nmX6 : ∀ a, a < 3 → ∀ b, b < 3 → a ≠ b → (TX6 a).2.1 ≠ (TX6 b).2.1 := by decide +kernel
theorem tyX6_ok : ∀ k, k < 3 → parseFieldDescriptor (TX6 k).2.2.1 = some (tyX6 k) := by decide +kernel
abbrev cX6_init : ByteArray := prog_8_method_1_code
def yX6_init : MethodName := ⟨RX6, "<init>", "(I)V"⟩
abbrev cX6_size : ByteArray := prog_8_method_2_code
def yX6_size : MethodName := ⟨RX6, "size", "()I"⟩
abbrev cX6_room : ByteArray := prog_8_method_3_code
def yX6_room : MethodName := ⟨RX6, "room", "()I"⟩
abbrev cX6_has : ByteArray := prog_8_method_4_code
def yX6_has : MethodName := ⟨RX6, "has", "(I)Z"⟩
abbrev cX6_at : ByteArray := prog_8_method_5_code
def yX6_at : MethodName := ⟨RX6, "at", "(I)I"⟩
abbrev cX6_put : ByteArray := prog_8_method_6_code
def yX6_put : MethodName := ⟨RX6, "put", "(II)V"⟩
abbrev cX6_append : ByteArray := prog_8_method_7_code
def yX6_append : MethodName := ⟨RX6, "append", "(I)Z"⟩
abbrev cX6_empty : ByteArray := prog_8_method_8_code
def yX6_empty : MethodName := ⟨RX6, "empty", "()V"⟩
abbrev cX6_become : ByteArray := prog_8_method_9_code
def yX6_become : MethodName := ⟨RX6, "become", "(LPlugRounds$Row;)V"⟩
abbrev cX6_keep : ByteArray := prog_8_method_10_code
def yX6_keep : MethodName := ⟨RX6, "keep", "()V"⟩
abbrev cX6_goBack : ByteArray := prog_8_method_11_code
def yX6_goBack : MethodName := ⟨RX6, "goBack", "()V"⟩
def RX7 : String := "PlugRounds$Runner"
def TX7 : u_T := fun k => match k with
  | 0 => ("PlugRounds$Runner", "processors", "LPlugRounds$Processors;", true)
  | 1 => ("PlugRounds$Runner", "units", "LPlugRounds$Units;", true)
  | 2 => ("PlugRounds$Runner", "messages", "LPlugRounds$Messages;", true)
  | 3 => ("PlugRounds$Runner", "resources", "LPlugRounds$Resources;", true)
  | 4 => ("PlugRounds$Runner", "options", "[I", true)
  | 5 => ("PlugRounds$Runner", "claimants", "[I", true)
  | 6 => ("PlugRounds$Runner", "passes", "Z", false)
  | 7 => ("PlugRounds$Runner", "limit", "I", false)
  | 8 => ("PlugRounds$Runner", "state", "I", false)
  | 9 => ("PlugRounds$Runner", "steps", "I", false)
  | 10 => ("PlugRounds$Runner", "rounds", "I", false)
  | 11 => ("PlugRounds$Runner", "made", "I", false)
  | 12 => ("PlugRounds$Runner", "doer", "I", false)
  | 13 => ("PlugRounds$Runner", "met", "I", false)
  | _ => ("PlugRounds$Runner", "round", "I", false)
def tyX7 : Nat → FieldType := fun k => match k with
  | 0 => .object "PlugRounds$Processors"
  | 1 => .object "PlugRounds$Units"
  | 2 => .object "PlugRounds$Messages"
  | 3 => .object "PlugRounds$Resources"
  | 4 => .array .int
  | 5 => .array .int
  | 6 => .boolean
  | 7 => .int
  | 8 => .int
  | 9 => .int
  | 10 => .int
  | 11 => .int
  | 12 => .int
  | 13 => .int
  | _ => .int
abbrev wsX70 : List Cond := u_ws RX7 TX7 15
theorem nmX7 : ∀ a, a < 15 → ∀ b, b < 15 → a ≠ b → (TX7 a).2.1 ≠ (TX7 b).2.1 := by decide +kernel
theorem tyX7_ok : ∀ k, k < 15 → parseFieldDescriptor (TX7 k).2.2.1 = some (tyX7 k) := by decide +kernel
abbrev cX7_init : ByteArray := prog_9_method_1_code
def yX7_init : MethodName := ⟨RX7, "<init>", "()V"⟩
abbrev cX7_go : ByteArray := prog_9_method_2_code
def yX7_go : MethodName := ⟨RX7, "go", "(IZ)I"⟩
abbrev cX7_begin : ByteArray := prog_9_method_3_code
def yX7_begin : MethodName := ⟨RX7, "begin", "(IZ)V"⟩
abbrev cX7_goBack : ByteArray := prog_9_method_4_code
def yX7_goBack : MethodName := ⟨RX7, "goBack", "(I)V"⟩
abbrev cX7_makeRound : ByteArray := prog_9_method_5_code
def yX7_makeRound : MethodName := ⟨RX7, "makeRound", "(II)V"⟩
abbrev cX7_makeEnd : ByteArray := prog_9_method_6_code
def yX7_makeEnd : MethodName := ⟨RX7, "makeEnd", "()V"⟩
abbrev cX7_doRules : ByteArray := prog_9_method_7_code
def yX7_doRules : MethodName := ⟨RX7, "doRules", "(II)V"⟩
abbrev cX7_isDue : ByteArray := prog_9_method_8_code
def yX7_isDue : MethodName := ⟨RX7, "isDue", "(I)Z"⟩
abbrev cX7_doRule : ByteArray := prog_9_method_9_code
def yX7_doRule : MethodName := ⟨RX7, "doRule", "(LPlugRounds$Processor;I)I"⟩
abbrev cX7_takeSteps : ByteArray := prog_9_method_10_code
def yX7_takeSteps : MethodName := ⟨RX7, "takeSteps", "(LPlugRounds$Processor;I)Z"⟩
abbrev cX7_claim : ByteArray := prog_9_method_11_code
def yX7_claim : MethodName := ⟨RX7, "claim", "(I)V"⟩
abbrev cX7_make : ByteArray := prog_9_method_12_code
def yX7_make : MethodName := ⟨RX7, "make", "(II)I"⟩
abbrev cX7_stop : ByteArray := prog_9_method_13_code
def yX7_stop : MethodName := ⟨RX7, "stop", "(LPlugRounds$Processor;)V"⟩
abbrev cX7_write : ByteArray := prog_9_method_14_code
def yX7_write : MethodName := ⟨RX7, "write", "(II)I"⟩
abbrev cX7_optionAt : ByteArray := prog_9_method_15_code
def yX7_optionAt : MethodName := ⟨RX7, "optionAt", "(I)I"⟩
def RX8 : String := "PlugRounds$Units"
def TX8 : u_T := fun k => match k with
  | 0 => ("PlugRounds$Units", "names", "[I", true)
  | 1 => ("PlugRounds$Units", "markSets", "[I", true)
  | 2 => ("PlugRounds$Units", "fresh", "[Z", true)
  | 3 => ("PlugRounds$Units", "makers", "[I", true)
  | 4 => ("PlugRounds$Units", "madeIn", "[I", true)
  | _ => ("PlugRounds$Units", "count", "I", false)
def tyX8 : Nat → FieldType := fun k => match k with
  | 0 => .array .int
  | 1 => .array .int
  | 2 => .array .boolean
  | 3 => .array .int
  | 4 => .array .int
  | _ => .int
abbrev wsX80 : List Cond := u_ws RX8 TX8 6
theorem nmX8 : ∀ a, a < 6 → ∀ b, b < 6 → a ≠ b → (TX8 a).2.1 ≠ (TX8 b).2.1 := by decide +kernel
theorem tyX8_ok : ∀ k, k < 6 → parseFieldDescriptor (TX8 k).2.2.1 = some (tyX8 k) := by decide +kernel
abbrev cX8_init : ByteArray := prog_10_method_1_code
def yX8_init : MethodName := ⟨RX8, "<init>", "()V"⟩
abbrev cX8_size : ByteArray := prog_10_method_2_code
def yX8_size : MethodName := ⟨RX8, "size", "()I"⟩
abbrev cX8_isFull : ByteArray := prog_10_method_3_code
def yX8_isFull : MethodName := ⟨RX8, "isFull", "()Z"⟩
abbrev cX8_has : ByteArray := prog_10_method_4_code
def yX8_has : MethodName := ⟨RX8, "has", "(I)Z"⟩
abbrev cX8_bears : ByteArray := prog_10_method_5_code
def yX8_bears : MethodName := ⟨RX8, "bears", "(I)Z"⟩
abbrev cX8_enter : ByteArray := prog_10_method_6_code
def yX8_enter : MethodName := ⟨RX8, "enter", "(IIII)I"⟩
abbrev cX8_nameOf : ByteArray := prog_10_method_7_code
def yX8_nameOf : MethodName := ⟨RX8, "nameOf", "(I)I"⟩
abbrev cX8_marksOf : ByteArray := prog_10_method_8_code
def yX8_marksOf : MethodName := ⟨RX8, "marksOf", "(I)I"⟩
abbrev cX8_isNew : ByteArray := prog_10_method_9_code
def yX8_isNew : MethodName := ⟨RX8, "isNew", "(I)Z"⟩
abbrev cX8_retell : ByteArray := prog_10_method_10_code
def yX8_retell : MethodName := ⟨RX8, "retell", "(II)V"⟩
abbrev cX8_countNew : ByteArray := prog_10_method_11_code
def yX8_countNew : MethodName := ⟨RX8, "countNew", "()I"⟩
abbrev cX8_makeAllNew : ByteArray := prog_10_method_12_code
def yX8_makeAllNew : MethodName := ⟨RX8, "makeAllNew", "()V"⟩
abbrev cX8_makeOldAheadOf : ByteArray := prog_10_method_13_code
def yX8_makeOldAheadOf : MethodName := ⟨RX8, "makeOldAheadOf", "(I)V"⟩
abbrev cX8_cutTo : ByteArray := prog_10_method_14_code
def yX8_cutTo : MethodName := ⟨RX8, "cutTo", "(I)V"⟩
abbrev cX8_aspect : ByteArray := prog_10_method_15_code
def yX8_aspect : MethodName := ⟨RX8, "aspect", "(II)I"⟩
def RX9 : String := "PlugRounds"
def TX9 : u_T := fun k => match k with
  | 0 => ("PlugRounds", "tape", "LPlugRounds$Row;", true)
  | 1 => ("PlugRounds", "files", "[LPlugRounds$PlugFile;", true)
  | 2 => ("PlugRounds", "runner", "LPlugRounds$Runner;", true)
  | 3 => ("PlugRounds", "options", "[I", true)
  | 4 => ("PlugRounds", "processors", "LPlugRounds$Processors;", true)
  | 5 => ("PlugRounds", "units", "LPlugRounds$Units;", true)
  | 6 => ("PlugRounds", "messages", "LPlugRounds$Messages;", true)
  | 7 => ("PlugRounds", "resources", "LPlugRounds$Resources;", true)
  | _ => ("PlugRounds", "passes", "Z", false)
def tyX9 : Nat → FieldType := fun k => match k with
  | 0 => .object "PlugRounds$Row"
  | 1 => .array (.object "PlugRounds$PlugFile")
  | 2 => .object "PlugRounds$Runner"
  | 3 => .array .int
  | 4 => .object "PlugRounds$Processors"
  | 5 => .object "PlugRounds$Units"
  | 6 => .object "PlugRounds$Messages"
  | 7 => .object "PlugRounds$Resources"
  | _ => .boolean
abbrev wsX90 : List Cond := u_ws RX9 TX9 9
theorem nmX9 : ∀ a, a < 9 → ∀ b, b < 9 → a ≠ b → (TX9 a).2.1 ≠ (TX9 b).2.1 := by decide +kernel
theorem tyX9_ok : ∀ k, k < 9 → parseFieldDescriptor (TX9 k).2.2.1 = some (tyX9 k) := by decide +kernel
abbrev cX9_init : ByteArray := prog_1_method_1_code
def yX9_init : MethodName := ⟨RX9, "<init>", "()V"⟩
abbrev cX9_feed : ByteArray := prog_1_method_2_code
def yX9_feed : MethodName := ⟨RX9, "feed", "(IJ)I"⟩
abbrev cX9_lay : ByteArray := prog_1_method_3_code
def yX9_lay : MethodName := ⟨RX9, "lay", "(I)I"⟩
abbrev cX9_octet : ByteArray := prog_1_method_4_code
def yX9_octet : MethodName := ⟨RX9, "octet", "(II)B"⟩
abbrev cX9_plant : ByteArray := prog_1_method_5_code
def yX9_plant : MethodName := ⟨RX9, "plant", "(III)I"⟩
abbrev cX9_fails : ByteArray := prog_1_method_6_code
def yX9_fails : MethodName := ⟨RX9, "fails", "(IZ)I"⟩
abbrev cX9_judge : ByteArray := prog_1_method_7_code
def yX9_judge : MethodName := ⟨RX9, "judge", "(I)I"⟩
abbrev cX9_define : ByteArray := prog_1_method_8_code
def yX9_define : MethodName := ⟨RX9, "define", "(I)I"⟩
abbrev cX9_unit : ByteArray := prog_1_method_9_code
def yX9_unit : MethodName := ⟨RX9, "unit", "(II)I"⟩
abbrev cX9_marks : ByteArray := prog_1_method_10_code
def yX9_marks : MethodName := ⟨RX9, "marks", "(II)I"⟩
abbrev cX9_anew : ByteArray := prog_1_method_11_code
def yX9_anew : MethodName := ⟨RX9, "anew", "()I"⟩
abbrev cX9_option : ByteArray := prog_1_method_12_code
def yX9_option : MethodName := ⟨RX9, "option", "(II)I"⟩
abbrev cX9_pass : ByteArray := prog_1_method_13_code
def yX9_pass : MethodName := ⟨RX9, "pass", "(Z)I"⟩
abbrev cX9_run : ByteArray := prog_1_method_14_code
def yX9_run : MethodName := ⟨RX9, "run", "(I)I"⟩
abbrev cX9_mirror : ByteArray := prog_1_method_15_code
def yX9_mirror : MethodName := ⟨RX9, "mirror", "(II)I"⟩
abbrev cX9_message : ByteArray := prog_1_method_16_code
def yX9_message : MethodName := ⟨RX9, "message", "(II)I"⟩
abbrev cX9_told : ByteArray := prog_1_method_17_code
def yX9_told : MethodName := ⟨RX9, "told", "(II)I"⟩
abbrev cX9_cell : ByteArray := prog_1_method_18_code
def yX9_cell : MethodName := ⟨RX9, "cell", "(I)I"⟩
abbrev cX9_resource : ByteArray := prog_1_method_19_code
def yX9_resource : MethodName := ⟨RX9, "resource", "(II)I"⟩
abbrev cX9_about : ByteArray := prog_1_method_20_code
def yX9_about : MethodName := ⟨RX9, "about", "(I)I"⟩
abbrev cX9_clear : ByteArray := prog_1_method_21_code
def yX9_clear : MethodName := ⟨RX9, "clear", "()I"⟩
abbrev cX9_fileAt : ByteArray := prog_1_method_22_code
def yX9_fileAt : MethodName := ⟨RX9, "fileAt", "(I)LPlugRounds$PlugFile;"⟩
abbrev cX9_bytesOfResource : ByteArray := prog_1_method_23_code
def yX9_bytesOfResource : MethodName := ⟨RX9, "bytesOfResource", "(I)I"⟩
abbrev cX9_areMarks : ByteArray := prog_1_method_24_code
def yX9_areMarks : MethodName := ⟨RX9, "areMarks", "(I)Z"⟩
abbrev cX9_oneIf : ByteArray := prog_1_method_25_code
def yX9_oneIf : MethodName := ⟨RX9, "oneIf", "(Z)I"⟩
def RX10 : String := "PlugRoundsModel"
def TX10 : u_T := fun k => match k with
  | 0 => ("PlugRoundsModel", "thrown", "I", false)
  | 1 => ("PlugRoundsModel", "taped", "I", false)
  | 2 => ("PlugRoundsModel", "tape", "[I", true)
  | 3 => ("PlugRoundsModel", "size", "[I", true)
  | 4 => ("PlugRoundsModel", "file", "[I", true)
  | 5 => ("PlugRoundsModel", "fails", "[Z", true)
  | 6 => ("PlugRoundsModel", "failed", "[Z", true)
  | 7 => ("PlugRoundsModel", "processors", "I", false)
  | 8 => ("PlugRoundsModel", "fileOf", "[I", true)
  | 9 => ("PlugRoundsModel", "rules", "[I", true)
  | 10 => ("PlugRoundsModel", "rule", "[I", true)
  | 11 => ("PlugRoundsModel", "cells", "[I", true)
  | 12 => ("PlugRoundsModel", "cellWas", "[I", true)
  | 13 => ("PlugRoundsModel", "stopped", "[Z", true)
  | 14 => ("PlugRoundsModel", "took", "[I", true)
  | 15 => ("PlugRoundsModel", "units", "I", false)
  | 16 => ("PlugRoundsModel", "name", "[I", true)
  | 17 => ("PlugRoundsModel", "marks", "[I", true)
  | 18 => ("PlugRoundsModel", "isNew", "[Z", true)
  | 19 => ("PlugRoundsModel", "maker", "[I", true)
  | 20 => ("PlugRoundsModel", "madeIn", "[I", true)
  | 21 => ("PlugRoundsModel", "options", "[I", true)
  | 22 => ("PlugRoundsModel", "passes", "Z", false)
  | 23 => ("PlugRoundsModel", "written", "[I", true)
  | 24 => ("PlugRoundsModel", "writtenWas", "[I", true)
  | 25 => ("PlugRoundsModel", "resource", "[I", true)
  | 26 => ("PlugRoundsModel", "messages", "I", false)
  | 27 => ("PlugRoundsModel", "message", "[I", true)
  | 28 => ("PlugRoundsModel", "steps", "I", false)
  | 29 => ("PlugRoundsModel", "left", "I", false)
  | 30 => ("PlugRoundsModel", "rounds", "I", false)
  | 31 => ("PlugRoundsModel", "made", "I", false)
  | 32 => ("PlugRoundsModel", "way", "I", false)
  | 33 => ("PlugRoundsModel", "round", "I", false)
  | 34 => ("PlugRoundsModel", "ends", "Z", false)
  | _ => ("PlugRoundsModel", "claimer", "[I", true)
def tyX10 : Nat → FieldType := fun k => match k with
  | 0 => .int
  | 1 => .int
  | 2 => .array .int
  | 3 => .array .int
  | 4 => .array .int
  | 5 => .array .boolean
  | 6 => .array .boolean
  | 7 => .int
  | 8 => .array .int
  | 9 => .array .int
  | 10 => .array .int
  | 11 => .array .int
  | 12 => .array .int
  | 13 => .array .boolean
  | 14 => .array .int
  | 15 => .int
  | 16 => .array .int
  | 17 => .array .int
  | 18 => .array .boolean
  | 19 => .array .int
  | 20 => .array .int
  | 21 => .array .int
  | 22 => .boolean
  | 23 => .array .int
  | 24 => .array .int
  | 25 => .array .int
  | 26 => .int
  | 27 => .array .int
  | 28 => .int
  | 29 => .int
  | 30 => .int
  | 31 => .int
  | 32 => .int
  | 33 => .int
  | 34 => .boolean
  | _ => .array .int
abbrev wsX100 : List Cond := u_ws RX10 TX10 36
theorem nmX10 : ∀ a, a < 36 → ∀ b, b < 36 → a ≠ b → (TX10 a).2.1 ≠ (TX10 b).2.1 := by decide +kernel
theorem tyX10_ok : ∀ k, k < 36 → parseFieldDescriptor (TX10 k).2.2.1 = some (tyX10 k) := by decide +kernel
abbrev cX10_init : ByteArray := prog_12_method_1_code
def yX10_init : MethodName := ⟨RX10, "<init>", "()V"⟩
abbrev cX10_thrown : ByteArray := prog_12_method_2_code
def yX10_thrown : MethodName := ⟨RX10, "thrown", "()I"⟩
abbrev cX10_in : ByteArray := prog_12_method_3_code
def yX10_in : MethodName := ⟨RX10, "in", "(JJJ)Z"⟩
abbrev cX10_feed : ByteArray := prog_12_method_4_code
def yX10_feed : MethodName := ⟨RX10, "feed", "(IJ)I"⟩
abbrev cX10_isFile : ByteArray := prog_12_method_5_code
def yX10_isFile : MethodName := ⟨RX10, "isFile", "(I)Z"⟩
abbrev cX10_lay : ByteArray := prog_12_method_6_code
def yX10_lay : MethodName := ⟨RX10, "lay", "(I)I"⟩
abbrev cX10_octet : ByteArray := prog_12_method_7_code
def yX10_octet : MethodName := ⟨RX10, "octet", "(II)B"⟩
abbrev cX10_plant : ByteArray := prog_12_method_8_code
def yX10_plant : MethodName := ⟨RX10, "plant", "(III)I"⟩
abbrev cX10_fails : ByteArray := prog_12_method_9_code
def yX10_fails : MethodName := ⟨RX10, "fails", "(IZ)I"⟩
abbrev cX10_isRule : ByteArray := prog_12_method_10_code
def yX10_isRule : MethodName := ⟨RX10, "isRule", "(I)Z"⟩
abbrev cX10_clause : ByteArray := prog_12_method_11_code
def yX10_clause : MethodName := ⟨RX10, "clause", "(I)I"⟩
abbrev cX10_judge : ByteArray := prog_12_method_12_code
def yX10_judge : MethodName := ⟨RX10, "judge", "(I)I"⟩
abbrev cX10_define : ByteArray := prog_12_method_13_code
def yX10_define : MethodName := ⟨RX10, "define", "(I)I"⟩
abbrev cX10_find : ByteArray := prog_12_method_14_code
def yX10_find : MethodName := ⟨RX10, "find", "(I)I"⟩
abbrev cX10_come : ByteArray := prog_12_method_15_code
def yX10_come : MethodName := ⟨RX10, "come", "(IIII)V"⟩
abbrev cX10_unit : ByteArray := prog_12_method_16_code
def yX10_unit : MethodName := ⟨RX10, "unit", "(II)I"⟩
abbrev cX10_isUnit : ByteArray := prog_12_method_17_code
def yX10_isUnit : MethodName := ⟨RX10, "isUnit", "(I)Z"⟩
abbrev cX10_marks : ByteArray := prog_12_method_18_code
def yX10_marks : MethodName := ⟨RX10, "marks", "(II)I"⟩
abbrev cX10_anew : ByteArray := prog_12_method_19_code
def yX10_anew : MethodName := ⟨RX10, "anew", "()I"⟩
abbrev cX10_option : ByteArray := prog_12_method_20_code
def yX10_option : MethodName := ⟨RX10, "option", "(II)I"⟩
abbrev cX10_pass : ByteArray := prog_12_method_21_code
def yX10_pass : MethodName := ⟨RX10, "pass", "(Z)I"⟩
abbrev cX10_tell : ByteArray := prog_12_method_22_code
def yX10_tell : MethodName := ⟨RX10, "tell", "(IIII)V"⟩
abbrev cX10_step : ByteArray := prog_12_method_23_code
def yX10_step : MethodName := ⟨RX10, "step", "(II)V"⟩
abbrev cX10_act : ByteArray := prog_12_method_24_code
def yX10_act : MethodName := ⟨RX10, "act", "(III)I"⟩
abbrev cX10_meet : ByteArray := prog_12_method_25_code
def yX10_meet : MethodName := ⟨RX10, "meet", "(II)V"⟩
abbrev cX10_turn : ByteArray := prog_12_method_26_code
def yX10_turn : MethodName := ⟨RX10, "turn", "(IIZ)V"⟩
abbrev cX10_run : ByteArray := prog_12_method_27_code
def yX10_run : MethodName := ⟨RX10, "run", "(I)I"⟩
abbrev cX10_mirror : ByteArray := prog_12_method_28_code
def yX10_mirror : MethodName := ⟨RX10, "mirror", "(II)I"⟩
abbrev cX10_message : ByteArray := prog_12_method_29_code
def yX10_message : MethodName := ⟨RX10, "message", "(II)I"⟩
abbrev cX10_told : ByteArray := prog_12_method_30_code
def yX10_told : MethodName := ⟨RX10, "told", "(II)I"⟩
abbrev cX10_cell : ByteArray := prog_12_method_31_code
def yX10_cell : MethodName := ⟨RX10, "cell", "(I)I"⟩
abbrev cX10_resource : ByteArray := prog_12_method_32_code
def yX10_resource : MethodName := ⟨RX10, "resource", "(II)I"⟩
abbrev cX10_about : ByteArray := prog_12_method_33_code
def yX10_about : MethodName := ⟨RX10, "about", "(I)I"⟩
abbrev cX10_clear : ByteArray := prog_12_method_34_code
def yX10_clear : MethodName := ⟨RX10, "clear", "()I"⟩
def RJx00060 : String := "java/lang/ArrayIndexOutOfBoundsException"
def TJx00060 : u_T := fun k => match k with
  | 0 => ("java/lang/Throwable", "backtrace", "Ljava/lang/Object;", false)
  | 1 => ("java/lang/Throwable", "detailMessage", "Ljava/lang/String;", false)
  | 2 => ("java/lang/Throwable", "cause", "Ljava/lang/Throwable;", false)
  | 3 => ("java/lang/Throwable", "stackTrace", "[Ljava/lang/StackTraceElement;", false)
  | 4 => ("java/lang/Throwable", "depth", "I", false)
  | _ => ("java/lang/Throwable", "suppressedExceptions", "Ljava/util/List;", false)
def tyJx00060 : Nat → FieldType := fun k => match k with
  | 0 => .object "java/lang/Object"
  | 1 => .object "java/lang/String"
  | 2 => .object "java/lang/Throwable"
  | 3 => .array (.object "java/lang/StackTraceElement")
  | 4 => .int
  | _ => .object "java/util/List"
theorem nmJx00060 : ∀ a, a < 6 → ∀ b, b < 6 → a ≠ b → (TJx00060 a).2.1 ≠ (TJx00060 b).2.1 := by decide +kernel
theorem tyJx00060_ok : ∀ k, k < 6 → parseFieldDescriptor (TJx00060 k).2.2.1 = some (tyJx00060 k) := by decide +kernel
abbrev cJx00060_init_a7421 : ByteArray := prog_13_method_2_code
def yJx00060_init_a7421 : MethodName := ⟨RJx00060, "<init>", "(Ljava/lang/String;)V"⟩
def RJ9 : String := "java/lang/Math"
def TJ9 : u_T := fun k => match k with
  | _ => ("", "", "", false)
def tyJ9 : Nat → FieldType := fun k => match k with
  | _ => .int
theorem nmJ9 : ∀ a, a < 0 → ∀ b, b < 0 → a ≠ b → (TJ9 a).2.1 ≠ (TJ9 b).2.1 := by decide +kernel
theorem tyJ9_ok : ∀ k, k < 0 → parseFieldDescriptor (TJ9 k).2.2.1 = some (tyJ9 k) := by decide +kernel
abbrev cJ9_max_7cf53 : ByteArray := prog_16_method_65_code
def yJ9_max_7cf53 : MethodName := ⟨RJ9, "max", "(II)I"⟩
abbrev cJ9_min_7cf53 : ByteArray := prog_16_method_69_code
def yJ9_min_7cf53 : MethodName := ⟨RJ9, "min", "(II)I"⟩
def RJx5d777 : String := "java/lang/NullPointerException"
def TJx5d777 : u_T := fun k => match k with
  | 0 => ("java/lang/Throwable", "backtrace", "Ljava/lang/Object;", false)
  | 1 => ("java/lang/Throwable", "detailMessage", "Ljava/lang/String;", false)
  | 2 => ("java/lang/Throwable", "cause", "Ljava/lang/Throwable;", false)
  | 3 => ("java/lang/Throwable", "stackTrace", "[Ljava/lang/StackTraceElement;", false)
  | 4 => ("java/lang/Throwable", "depth", "I", false)
  | 5 => ("java/lang/Throwable", "suppressedExceptions", "Ljava/util/List;", false)
  | 6 => ("java/lang/NullPointerException", "extendedMessageState", "I", false)
  | _ => ("java/lang/NullPointerException", "extendedMessage", "Ljava/lang/String;", false)
def tyJx5d777 : Nat → FieldType := fun k => match k with
  | 0 => .object "java/lang/Object"
  | 1 => .object "java/lang/String"
  | 2 => .object "java/lang/Throwable"
  | 3 => .array (.object "java/lang/StackTraceElement")
  | 4 => .int
  | 5 => .object "java/util/List"
  | 6 => .int
  | _ => .object "java/lang/String"
theorem nmJx5d777 : ∀ a, a < 8 → ∀ b, b < 8 → a ≠ b → (TJx5d777 a).2.1 ≠ (TJx5d777 b).2.1 := by decide +kernel
theorem tyJx5d777_ok : ∀ k, k < 8 → parseFieldDescriptor (TJx5d777 k).2.2.1 = some (tyJx5d777 k) := by decide +kernel
abbrev cJx5d777_init_da8c8 : ByteArray := prog_17_method_1_code
def yJx5d777_init_da8c8 : MethodName := ⟨RJx5d777, "<init>", "()V"⟩
abbrev cJx5d777_init_a7421 : ByteArray := prog_17_method_2_code
def yJx5d777_init_a7421 : MethodName := ⟨RJx5d777, "<init>", "(Ljava/lang/String;)V"⟩
abbrev cJx5d777_fillInStackTrace_cddbd : ByteArray := prog_17_method_3_code
def yJx5d777_fillInStackTrace_cddbd : MethodName := ⟨RJx5d777, "fillInStackTrace", "()Ljava/lang/Throwable;"⟩
def RJ0 : String := "java/lang/String"
def TJ0 : u_T := fun k => match k with
  | 0 => ("java/lang/String", "value", "[B", true)
  | _ => ("java/lang/String", "coder", "B", true)
def tyJ0 : Nat → FieldType := fun k => match k with
  | 0 => .array .byte
  | _ => .byte
theorem nmJ0 : ∀ a, a < 2 → ∀ b, b < 2 → a ≠ b → (TJ0 a).2.1 ≠ (TJ0 b).2.1 := by decide +kernel
theorem tyJ0_ok : ∀ k, k < 2 → parseFieldDescriptor (TJ0 k).2.2.1 = some (tyJ0 k) := by decide +kernel
def RL : String := "PlugRoundsLaw"
abbrev cL_octet : ByteArray := method_3_code
def yL_octet : MethodName := ⟨RL, "octet", "(LPlugRounds;II[J)I"⟩
abbrev cL_cell : ByteArray := method_4_code
def yL_cell : MethodName := ⟨RL, "cell", "(LPlugRounds;I[J)I"⟩
abbrev cL_resource : ByteArray := method_5_code
def yL_resource : MethodName := ⟨RL, "resource", "(LPlugRounds;II[J)I"⟩
abbrev cL_law : ByteArray := code
def yL_law : MethodName := ⟨RL, "law", "([I)Z"⟩
abbrev vwCl : List vw_C := [(RJ0, TJ0, 2), (RJx00060, TJx00060, 6), (RJx5d777, TJx5d777, 8), (RX1, TX1, 2), (RX2, TX2, 3), (RX3, TX3, 7), (RX4, TX4, 2), (RX5, TX5, 1), (RX6, TX6, 3), (RX7, TX7, 15), (RX8, TX8, 6), (RX9, TX9, 9), (RX10, TX10, 36)]
end
section
theorem dX0_firstBroken_0 : decode cX0_firstBroken 0 = .ok (.aload_n 0, 1) := by decide +kernel
theorem dX0_firstBroken_1 : decode cX0_firstBroken 1 = .ok (.invokevirtual 9, 3) := by decide +kernel
theorem dX0_firstBroken_4 : decode cX0_firstBroken 4 = .ok (.iconst 4, 1) := by decide +kernel
theorem dX0_firstBroken_5 : decode cX0_firstBroken 5 = .ok (.if_icmp .ge 5, 3) := by decide +kernel
theorem dX0_firstBroken_8 : decode cX0_firstBroken 8 = .ok (.iconst 1, 1) := by decide +kernel
theorem dX0_firstBroken_9 : decode cX0_firstBroken 9 = .ok (.ireturn, 1) := by decide +kernel
theorem dX0_firstBroken_10 : decode cX0_firstBroken 10 = .ok (.aload_n 0, 1) := by decide +kernel
theorem dX0_firstBroken_11 : decode cX0_firstBroken 11 = .ok (.iconst 0, 1) := by decide +kernel
theorem dX0_firstBroken_12 : decode cX0_firstBroken 12 = .ok (.invokevirtual 15, 3) := by decide +kernel
theorem dX0_firstBroken_15 : decode cX0_firstBroken 15 = .ok (.bipush 80, 2) := by decide +kernel
theorem dX0_firstBroken_17 : decode cX0_firstBroken 17 = .ok (.if_icmp .ne 13, 3) := by decide +kernel
theorem dX0_firstBroken_20 : decode cX0_firstBroken 20 = .ok (.aload_n 0, 1) := by decide +kernel
theorem dX0_firstBroken_21 : decode cX0_firstBroken 21 = .ok (.iconst 1, 1) := by decide +kernel
theorem dX0_firstBroken_22 : decode cX0_firstBroken 22 = .ok (.invokevirtual 15, 3) := by decide +kernel
theorem dX0_firstBroken_25 : decode cX0_firstBroken 25 = .ok (.bipush 82, 2) := by decide +kernel
theorem dX0_firstBroken_27 : decode cX0_firstBroken 27 = .ok (.if_icmp .eq 5, 3) := by decide +kernel
theorem dX0_firstBroken_30 : decode cX0_firstBroken 30 = .ok (.iconst 2, 1) := by decide +kernel
theorem dX0_firstBroken_31 : decode cX0_firstBroken 31 = .ok (.ireturn, 1) := by decide +kernel
theorem dX0_firstBroken_32 : decode cX0_firstBroken 32 = .ok (.aload_n 0, 1) := by decide +kernel
theorem dX0_firstBroken_33 : decode cX0_firstBroken 33 = .ok (.iconst 2, 1) := by decide +kernel
theorem dX0_firstBroken_34 : decode cX0_firstBroken 34 = .ok (.invokevirtual 15, 3) := by decide +kernel
theorem dX0_firstBroken_37 : decode cX0_firstBroken 37 = .ok (.istore_n 1, 1) := by decide +kernel
theorem dX0_firstBroken_38 : decode cX0_firstBroken 38 = .ok (.iload_n 1, 1) := by decide +kernel
theorem dX0_firstBroken_39 : decode cX0_firstBroken 39 = .ok (.iconst 1, 1) := by decide +kernel
theorem dX0_firstBroken_40 : decode cX0_firstBroken 40 = .ok (.if_icmp .lt 9, 3) := by decide +kernel
theorem dX0_firstBroken_43 : decode cX0_firstBroken 43 = .ok (.iload_n 1, 1) := by decide +kernel
theorem dX0_firstBroken_44 : decode cX0_firstBroken 44 = .ok (.bipush 12, 2) := by decide +kernel
theorem dX0_firstBroken_46 : decode cX0_firstBroken 46 = .ok (.if_icmp .le 5, 3) := by decide +kernel
theorem dX0_firstBroken_49 : decode cX0_firstBroken 49 = .ok (.iconst 3, 1) := by decide +kernel
theorem dX0_firstBroken_50 : decode cX0_firstBroken 50 = .ok (.ireturn, 1) := by decide +kernel
theorem dX0_firstBroken_51 : decode cX0_firstBroken 51 = .ok (.aload_n 0, 1) := by decide +kernel
theorem dX0_firstBroken_52 : decode cX0_firstBroken 52 = .ok (.invokevirtual 9, 3) := by decide +kernel
theorem dX0_firstBroken_55 : decode cX0_firstBroken 55 = .ok (.iconst 3, 1) := by decide +kernel
theorem dX0_firstBroken_56 : decode cX0_firstBroken 56 = .ok (.iconst 4, 1) := by decide +kernel
theorem dX0_firstBroken_57 : decode cX0_firstBroken 57 = .ok (.iload_n 1, 1) := by decide +kernel
theorem dX0_firstBroken_58 : decode cX0_firstBroken 58 = .ok (.imul, 1) := by decide +kernel
theorem dX0_firstBroken_59 : decode cX0_firstBroken 59 = .ok (.iadd, 1) := by decide +kernel
theorem dX0_firstBroken_60 : decode cX0_firstBroken 60 = .ok (.iconst 1, 1) := by decide +kernel
theorem dX0_firstBroken_61 : decode cX0_firstBroken 61 = .ok (.iadd, 1) := by decide +kernel
theorem dX0_firstBroken_62 : decode cX0_firstBroken 62 = .ok (.if_icmp .eq 5, 3) := by decide +kernel
theorem dX0_firstBroken_65 : decode cX0_firstBroken 65 = .ok (.iconst 4, 1) := by decide +kernel
theorem dX0_firstBroken_66 : decode cX0_firstBroken 66 = .ok (.ireturn, 1) := by decide +kernel
theorem dX0_firstBroken_67 : decode cX0_firstBroken 67 = .ok (.aload_n 0, 1) := by decide +kernel
theorem dX0_firstBroken_68 : decode cX0_firstBroken 68 = .ok (.iload_n 1, 1) := by decide +kernel
theorem dX0_firstBroken_69 : decode cX0_firstBroken 69 = .ok (.invokestatic 19, 3) := by decide +kernel
theorem dX0_firstBroken_72 : decode cX0_firstBroken 72 = .ok (.ifCond .ne 5, 3) := by decide +kernel
theorem dX0_firstBroken_75 : decode cX0_firstBroken 75 = .ok (.iconst 5, 1) := by decide +kernel
theorem dX0_firstBroken_76 : decode cX0_firstBroken 76 = .ok (.ireturn, 1) := by decide +kernel
theorem dX0_firstBroken_77 : decode cX0_firstBroken 77 = .ok (.aload_n 0, 1) := by decide +kernel
theorem dX0_firstBroken_78 : decode cX0_firstBroken 78 = .ok (.aload_n 0, 1) := by decide +kernel
theorem dX0_firstBroken_79 : decode cX0_firstBroken 79 = .ok (.invokevirtual 9, 3) := by decide +kernel
theorem dX0_firstBroken_82 : decode cX0_firstBroken 82 = .ok (.iconst 1, 1) := by decide +kernel
theorem dX0_firstBroken_83 : decode cX0_firstBroken 83 = .ok (.isub, 1) := by decide +kernel
theorem dX0_firstBroken_84 : decode cX0_firstBroken 84 = .ok (.invokevirtual 15, 3) := by decide +kernel
theorem dX0_firstBroken_87 : decode cX0_firstBroken 87 = .ok (.aload_n 0, 1) := by decide +kernel
theorem dX0_firstBroken_88 : decode cX0_firstBroken 88 = .ok (.invokestatic 25, 3) := by decide +kernel
theorem dX0_firstBroken_91 : decode cX0_firstBroken 91 = .ok (.if_icmp .ne 7, 3) := by decide +kernel
theorem dX0_firstBroken_94 : decode cX0_firstBroken 94 = .ok (.iconst 0, 1) := by decide +kernel
theorem dX0_firstBroken_95 : decode cX0_firstBroken 95 = .ok (.goto 5, 3) := by decide +kernel
theorem dX0_firstBroken_98 : decode cX0_firstBroken 98 = .ok (.bipush 6, 2) := by decide +kernel
theorem dX0_firstBroken_100 : decode cX0_firstBroken 100 = .ok (.ireturn, 1) := by decide +kernel
theorem dX0_areSoundRules_0 : decode cX0_areSoundRules 0 = .ok (.iconst 0, 1) := by decide +kernel
theorem dX0_areSoundRules_1 : decode cX0_areSoundRules 1 = .ok (.istore_n 2, 1) := by decide +kernel
theorem dX0_areSoundRules_2 : decode cX0_areSoundRules 2 = .ok (.iload_n 2, 1) := by decide +kernel
theorem dX0_areSoundRules_3 : decode cX0_areSoundRules 3 = .ok (.iload_n 1, 1) := by decide +kernel
theorem dX0_areSoundRules_4 : decode cX0_areSoundRules 4 = .ok (.if_icmp .ge 49, 3) := by decide +kernel
theorem dX0_areSoundRules_7 : decode cX0_areSoundRules 7 = .ok (.iconst 3, 1) := by decide +kernel
theorem dX0_areSoundRules_8 : decode cX0_areSoundRules 8 = .ok (.iconst 4, 1) := by decide +kernel
theorem dX0_areSoundRules_9 : decode cX0_areSoundRules 9 = .ok (.iload_n 2, 1) := by decide +kernel
theorem dX0_areSoundRules_10 : decode cX0_areSoundRules 10 = .ok (.imul, 1) := by decide +kernel
theorem dX0_areSoundRules_11 : decode cX0_areSoundRules 11 = .ok (.iadd, 1) := by decide +kernel
theorem dX0_areSoundRules_12 : decode cX0_areSoundRules 12 = .ok (.istore_n 3, 1) := by decide +kernel
theorem dX0_areSoundRules_13 : decode cX0_areSoundRules 13 = .ok (.aload_n 0, 1) := by decide +kernel
theorem dX0_areSoundRules_14 : decode cX0_areSoundRules 14 = .ok (.iload_n 3, 1) := by decide +kernel
theorem dX0_areSoundRules_15 : decode cX0_areSoundRules 15 = .ok (.invokevirtual 15, 3) := by decide +kernel
theorem dX0_areSoundRules_18 : decode cX0_areSoundRules 18 = .ok (.aload_n 0, 1) := by decide +kernel
theorem dX0_areSoundRules_19 : decode cX0_areSoundRules 19 = .ok (.iload_n 3, 1) := by decide +kernel
theorem dX0_areSoundRules_20 : decode cX0_areSoundRules 20 = .ok (.iconst 1, 1) := by decide +kernel
theorem dX0_areSoundRules_21 : decode cX0_areSoundRules 21 = .ok (.iadd, 1) := by decide +kernel
theorem dX0_areSoundRules_22 : decode cX0_areSoundRules 22 = .ok (.invokevirtual 15, 3) := by decide +kernel
theorem dX0_areSoundRules_25 : decode cX0_areSoundRules 25 = .ok (.aload_n 0, 1) := by decide +kernel
theorem dX0_areSoundRules_26 : decode cX0_areSoundRules 26 = .ok (.iload_n 3, 1) := by decide +kernel
theorem dX0_areSoundRules_27 : decode cX0_areSoundRules 27 = .ok (.iconst 2, 1) := by decide +kernel
theorem dX0_areSoundRules_28 : decode cX0_areSoundRules 28 = .ok (.iadd, 1) := by decide +kernel
theorem dX0_areSoundRules_29 : decode cX0_areSoundRules 29 = .ok (.invokevirtual 15, 3) := by decide +kernel
theorem dX0_areSoundRules_32 : decode cX0_areSoundRules 32 = .ok (.aload_n 0, 1) := by decide +kernel
theorem dX0_areSoundRules_33 : decode cX0_areSoundRules 33 = .ok (.iload_n 3, 1) := by decide +kernel
theorem dX0_areSoundRules_34 : decode cX0_areSoundRules 34 = .ok (.iconst 3, 1) := by decide +kernel
theorem dX0_areSoundRules_35 : decode cX0_areSoundRules 35 = .ok (.iadd, 1) := by decide +kernel
theorem dX0_areSoundRules_36 : decode cX0_areSoundRules 36 = .ok (.invokevirtual 15, 3) := by decide +kernel
theorem dX0_areSoundRules_39 : decode cX0_areSoundRules 39 = .ok (.invokestatic 29, 3) := by decide +kernel
theorem dX0_areSoundRules_42 : decode cX0_areSoundRules 42 = .ok (.ifCond .ne 5, 3) := by decide +kernel
theorem dX0_areSoundRules_45 : decode cX0_areSoundRules 45 = .ok (.iconst 0, 1) := by decide +kernel
theorem dX0_areSoundRules_46 : decode cX0_areSoundRules 46 = .ok (.ireturn, 1) := by decide +kernel
theorem dX0_areSoundRules_47 : decode cX0_areSoundRules 47 = .ok (.iinc 2 1, 3) := by decide +kernel
theorem dX0_areSoundRules_50 : decode cX0_areSoundRules 50 = .ok (.goto (-48), 3) := by decide +kernel
theorem dX0_areSoundRules_53 : decode cX0_areSoundRules 53 = .ok (.iconst 1, 1) := by decide +kernel
theorem dX0_areSoundRules_54 : decode cX0_areSoundRules 54 = .ok (.ireturn, 1) := by decide +kernel
theorem dX0_isSoundRule_0 : decode cX0_isSoundRule 0 = .ok (.iload_n 0, 1) := by decide +kernel
theorem dX0_isSoundRule_1 : decode cX0_isSoundRule 1 = .ok (.bipush 8, 2) := by decide +kernel
theorem dX0_isSoundRule_3 : decode cX0_isSoundRule 3 = .ok (.if_icmp .lt 11, 3) := by decide +kernel
theorem dX0_isSoundRule_6 : decode cX0_isSoundRule 6 = .ok (.iload_n 0, 1) := by decide +kernel
theorem dX0_isSoundRule_7 : decode cX0_isSoundRule 7 = .ok (.bipush 15, 2) := by decide +kernel
theorem dX0_isSoundRule_9 : decode cX0_isSoundRule 9 = .ok (.if_icmp .eq 5, 3) := by decide +kernel
theorem dX0_isSoundRule_12 : decode cX0_isSoundRule 12 = .ok (.iconst 0, 1) := by decide +kernel
theorem dX0_isSoundRule_13 : decode cX0_isSoundRule 13 = .ok (.ireturn, 1) := by decide +kernel
theorem dX0_isSoundRule_14 : decode cX0_isSoundRule 14 = .ok (.iload_n 1, 1) := by decide +kernel
theorem dX0_isSoundRule_15 : decode cX0_isSoundRule 15 = .ok (.tableswitch 94 1 9 #[49, 83, 94, 94, 94, 94, 61, 94, 72], 49) := by decide +kernel
theorem dX0_isSoundRule_64 : decode cX0_isSoundRule 64 = .ok (.iload_n 2, 1) := by decide +kernel
theorem dX0_isSoundRule_65 : decode cX0_isSoundRule 65 = .ok (.bipush 64, 2) := by decide +kernel
theorem dX0_isSoundRule_67 : decode cX0_isSoundRule 67 = .ok (.if_icmp .ge 7, 3) := by decide +kernel
theorem dX0_isSoundRule_70 : decode cX0_isSoundRule 70 = .ok (.iconst 1, 1) := by decide +kernel
theorem dX0_isSoundRule_71 : decode cX0_isSoundRule 71 = .ok (.goto 4, 3) := by decide +kernel
theorem dX0_isSoundRule_74 : decode cX0_isSoundRule 74 = .ok (.iconst 0, 1) := by decide +kernel
theorem dX0_isSoundRule_75 : decode cX0_isSoundRule 75 = .ok (.ireturn, 1) := by decide +kernel
theorem dX0_isSoundRule_76 : decode cX0_isSoundRule 76 = .ok (.iload_n 2, 1) := by decide +kernel
theorem dX0_isSoundRule_77 : decode cX0_isSoundRule 77 = .ok (.iconst 4, 1) := by decide +kernel
theorem dX0_isSoundRule_78 : decode cX0_isSoundRule 78 = .ok (.if_icmp .ge 7, 3) := by decide +kernel
theorem dX0_isSoundRule_81 : decode cX0_isSoundRule 81 = .ok (.iconst 1, 1) := by decide +kernel
theorem dX0_isSoundRule_82 : decode cX0_isSoundRule 82 = .ok (.goto 4, 3) := by decide +kernel
theorem dX0_isSoundRule_85 : decode cX0_isSoundRule 85 = .ok (.iconst 0, 1) := by decide +kernel
theorem dX0_isSoundRule_86 : decode cX0_isSoundRule 86 = .ok (.ireturn, 1) := by decide +kernel
theorem dX0_isSoundRule_87 : decode cX0_isSoundRule 87 = .ok (.iload_n 2, 1) := by decide +kernel
theorem dX0_isSoundRule_88 : decode cX0_isSoundRule 88 = .ok (.iconst 4, 1) := by decide +kernel
theorem dX0_isSoundRule_89 : decode cX0_isSoundRule 89 = .ok (.if_icmp .ge 7, 3) := by decide +kernel
theorem dX0_isSoundRule_92 : decode cX0_isSoundRule 92 = .ok (.iconst 1, 1) := by decide +kernel
theorem dX0_isSoundRule_93 : decode cX0_isSoundRule 93 = .ok (.goto 4, 3) := by decide +kernel
theorem dX0_isSoundRule_96 : decode cX0_isSoundRule 96 = .ok (.iconst 0, 1) := by decide +kernel
theorem dX0_isSoundRule_97 : decode cX0_isSoundRule 97 = .ok (.ireturn, 1) := by decide +kernel
theorem dX0_isSoundRule_98 : decode cX0_isSoundRule 98 = .ok (.iload_n 3, 1) := by decide +kernel
theorem dX0_isSoundRule_99 : decode cX0_isSoundRule 99 = .ok (.iconst 3, 1) := by decide +kernel
theorem dX0_isSoundRule_100 : decode cX0_isSoundRule 100 = .ok (.if_icmp .ge 7, 3) := by decide +kernel
theorem dX0_isSoundRule_103 : decode cX0_isSoundRule 103 = .ok (.iconst 1, 1) := by decide +kernel
theorem dX0_isSoundRule_104 : decode cX0_isSoundRule 104 = .ok (.goto 4, 3) := by decide +kernel
theorem dX0_isSoundRule_107 : decode cX0_isSoundRule 107 = .ok (.iconst 0, 1) := by decide +kernel
theorem dX0_isSoundRule_108 : decode cX0_isSoundRule 108 = .ok (.ireturn, 1) := by decide +kernel
theorem dX0_isSoundRule_109 : decode cX0_isSoundRule 109 = .ok (.iload_n 1, 1) := by decide +kernel
theorem dX0_isSoundRule_110 : decode cX0_isSoundRule 110 = .ok (.bipush 9, 2) := by decide +kernel
theorem dX0_isSoundRule_112 : decode cX0_isSoundRule 112 = .ok (.if_icmp .gt 7, 3) := by decide +kernel
theorem dX0_isSoundRule_115 : decode cX0_isSoundRule 115 = .ok (.iconst 1, 1) := by decide +kernel
theorem dX0_isSoundRule_116 : decode cX0_isSoundRule 116 = .ok (.goto 4, 3) := by decide +kernel
theorem dX0_isSoundRule_119 : decode cX0_isSoundRule 119 = .ok (.iconst 0, 1) := by decide +kernel
theorem dX0_isSoundRule_120 : decode cX0_isSoundRule 120 = .ok (.ireturn, 1) := by decide +kernel
theorem dX0_sumAheadOfLast_0 : decode cX0_sumAheadOfLast 0 = .ok (.iconst 0, 1) := by decide +kernel
theorem dX0_sumAheadOfLast_1 : decode cX0_sumAheadOfLast 1 = .ok (.istore_n 1, 1) := by decide +kernel
theorem dX0_sumAheadOfLast_2 : decode cX0_sumAheadOfLast 2 = .ok (.iconst 0, 1) := by decide +kernel
theorem dX0_sumAheadOfLast_3 : decode cX0_sumAheadOfLast 3 = .ok (.istore_n 2, 1) := by decide +kernel
theorem dX0_sumAheadOfLast_4 : decode cX0_sumAheadOfLast 4 = .ok (.iload_n 2, 1) := by decide +kernel
theorem dX0_sumAheadOfLast_5 : decode cX0_sumAheadOfLast 5 = .ok (.aload_n 0, 1) := by decide +kernel
theorem dX0_sumAheadOfLast_6 : decode cX0_sumAheadOfLast 6 = .ok (.invokevirtual 9, 3) := by decide +kernel
theorem dX0_sumAheadOfLast_9 : decode cX0_sumAheadOfLast 9 = .ok (.iconst 1, 1) := by decide +kernel
theorem dX0_sumAheadOfLast_10 : decode cX0_sumAheadOfLast 10 = .ok (.isub, 1) := by decide +kernel
theorem dX0_sumAheadOfLast_11 : decode cX0_sumAheadOfLast 11 = .ok (.if_icmp .ge 17, 3) := by decide +kernel
theorem dX0_sumAheadOfLast_14 : decode cX0_sumAheadOfLast 14 = .ok (.iload_n 1, 1) := by decide +kernel
theorem dX0_sumAheadOfLast_15 : decode cX0_sumAheadOfLast 15 = .ok (.aload_n 0, 1) := by decide +kernel
theorem dX0_sumAheadOfLast_16 : decode cX0_sumAheadOfLast 16 = .ok (.iload_n 2, 1) := by decide +kernel
theorem dX0_sumAheadOfLast_17 : decode cX0_sumAheadOfLast 17 = .ok (.invokevirtual 15, 3) := by decide +kernel
theorem dX0_sumAheadOfLast_20 : decode cX0_sumAheadOfLast 20 = .ok (.iadd, 1) := by decide +kernel
theorem dX0_sumAheadOfLast_21 : decode cX0_sumAheadOfLast 21 = .ok (.istore_n 1, 1) := by decide +kernel
theorem dX0_sumAheadOfLast_22 : decode cX0_sumAheadOfLast 22 = .ok (.iinc 2 1, 3) := by decide +kernel
theorem dX0_sumAheadOfLast_25 : decode cX0_sumAheadOfLast 25 = .ok (.goto (-21), 3) := by decide +kernel
theorem dX0_sumAheadOfLast_28 : decode cX0_sumAheadOfLast 28 = .ok (.iload_n 1, 1) := by decide +kernel
theorem dX0_sumAheadOfLast_29 : decode cX0_sumAheadOfLast 29 = .ok (.sipush 255, 3) := by decide +kernel
theorem dX0_sumAheadOfLast_32 : decode cX0_sumAheadOfLast 32 = .ok (.iand, 1) := by decide +kernel
theorem dX0_sumAheadOfLast_33 : decode cX0_sumAheadOfLast 33 = .ok (.ireturn, 1) := by decide +kernel
theorem dX1_init_0 : decode cX1_init 0 = .ok (.aload_n 0, 1) := by decide +kernel
theorem dX1_init_1 : decode cX1_init 1 = .ok (.invokespecial 3, 3) := by decide +kernel
theorem dX1_init_4 : decode cX1_init 4 = .ok (.aload_n 0, 1) := by decide +kernel
theorem dX1_init_5 : decode cX1_init 5 = .ok (.sipush 600, 3) := by decide +kernel
theorem dX1_init_8 : decode cX1_init 8 = .ok (.newarray .int, 2) := by decide +kernel
theorem dX1_init_10 : decode cX1_init 10 = .ok (.putfield 9, 3) := by decide +kernel
theorem dX1_init_13 : decode cX1_init 13 = .ok (.return_, 1) := by decide +kernel
theorem dX1_size_0 : decode cX1_size 0 = .ok (.aload_n 0, 1) := by decide +kernel
theorem dX1_size_1 : decode cX1_size 1 = .ok (.getfield 15, 3) := by decide +kernel
theorem dX1_size_4 : decode cX1_size 4 = .ok (.ireturn, 1) := by decide +kernel
theorem dX1_has_0 : decode cX1_has 0 = .ok (.iload_n 1, 1) := by decide +kernel
theorem dX1_has_1 : decode cX1_has 1 = .ok (.ifCond .lt 15, 3) := by decide +kernel
theorem dX1_has_4 : decode cX1_has 4 = .ok (.iload_n 1, 1) := by decide +kernel
theorem dX1_has_5 : decode cX1_has 5 = .ok (.aload_n 0, 1) := by decide +kernel
theorem dX1_has_6 : decode cX1_has 6 = .ok (.getfield 15, 3) := by decide +kernel
theorem dX1_has_9 : decode cX1_has 9 = .ok (.if_icmp .ge 7, 3) := by decide +kernel
theorem dX1_has_12 : decode cX1_has 12 = .ok (.iconst 1, 1) := by decide +kernel
theorem dX1_has_13 : decode cX1_has 13 = .ok (.goto 4, 3) := by decide +kernel
theorem dX1_has_16 : decode cX1_has 16 = .ok (.iconst 0, 1) := by decide +kernel
theorem dX1_has_17 : decode cX1_has 17 = .ok (.ireturn, 1) := by decide +kernel
theorem dX1_append_0 : decode cX1_append 0 = .ok (.aload_n 0, 1) := by decide +kernel
theorem dX1_append_1 : decode cX1_append 1 = .ok (.getfield 15, 3) := by decide +kernel
theorem dX1_append_4 : decode cX1_append 4 = .ok (.bipush 120, 2) := by decide +kernel
theorem dX1_append_6 : decode cX1_append 6 = .ok (.if_icmp .lt 4, 3) := by decide +kernel
theorem dX1_append_9 : decode cX1_append 9 = .ok (.return_, 1) := by decide +kernel
theorem dX1_append_10 : decode cX1_append 10 = .ok (.aload_n 0, 1) := by decide +kernel
theorem dX1_append_11 : decode cX1_append 11 = .ok (.getfield 15, 3) := by decide +kernel
theorem dX1_append_14 : decode cX1_append 14 = .ok (.iconst 5, 1) := by decide +kernel
theorem dX1_append_15 : decode cX1_append 15 = .ok (.imul, 1) := by decide +kernel
theorem dX1_append_16 : decode cX1_append 16 = .ok (.istore 6, 2) := by decide +kernel
theorem dX1_append_18 : decode cX1_append 18 = .ok (.aload_n 0, 1) := by decide +kernel
theorem dX1_append_19 : decode cX1_append 19 = .ok (.getfield 9, 3) := by decide +kernel
theorem dX1_append_22 : decode cX1_append 22 = .ok (.iload 6, 2) := by decide +kernel
theorem dX1_append_24 : decode cX1_append 24 = .ok (.iload_n 1, 1) := by decide +kernel
theorem dX1_append_25 : decode cX1_append 25 = .ok (.iastore, 1) := by decide +kernel
theorem dX1_append_26 : decode cX1_append 26 = .ok (.aload_n 0, 1) := by decide +kernel
theorem dX1_append_27 : decode cX1_append 27 = .ok (.getfield 9, 3) := by decide +kernel
theorem dX1_append_30 : decode cX1_append 30 = .ok (.iload 6, 2) := by decide +kernel
theorem dX1_append_32 : decode cX1_append 32 = .ok (.iconst 1, 1) := by decide +kernel
theorem dX1_append_33 : decode cX1_append 33 = .ok (.iadd, 1) := by decide +kernel
theorem dX1_append_34 : decode cX1_append 34 = .ok (.iload_n 2, 1) := by decide +kernel
theorem dX1_append_35 : decode cX1_append 35 = .ok (.iastore, 1) := by decide +kernel
theorem dX1_append_36 : decode cX1_append 36 = .ok (.aload_n 0, 1) := by decide +kernel
theorem dX1_append_37 : decode cX1_append 37 = .ok (.getfield 9, 3) := by decide +kernel
theorem dX1_append_40 : decode cX1_append 40 = .ok (.iload 6, 2) := by decide +kernel
theorem dX1_append_42 : decode cX1_append 42 = .ok (.iconst 2, 1) := by decide +kernel
theorem dX1_append_43 : decode cX1_append 43 = .ok (.iadd, 1) := by decide +kernel
theorem dX1_append_44 : decode cX1_append 44 = .ok (.iload_n 3, 1) := by decide +kernel
theorem dX1_append_45 : decode cX1_append 45 = .ok (.iastore, 1) := by decide +kernel
theorem dX1_append_46 : decode cX1_append 46 = .ok (.aload_n 0, 1) := by decide +kernel
theorem dX1_append_47 : decode cX1_append 47 = .ok (.getfield 9, 3) := by decide +kernel
theorem dX1_append_50 : decode cX1_append 50 = .ok (.iload 6, 2) := by decide +kernel
theorem dX1_append_52 : decode cX1_append 52 = .ok (.iconst 3, 1) := by decide +kernel
theorem dX1_append_53 : decode cX1_append 53 = .ok (.iadd, 1) := by decide +kernel
theorem dX1_append_54 : decode cX1_append 54 = .ok (.iload 4, 2) := by decide +kernel
theorem dX1_append_56 : decode cX1_append 56 = .ok (.iastore, 1) := by decide +kernel
theorem dX1_append_57 : decode cX1_append 57 = .ok (.aload_n 0, 1) := by decide +kernel
theorem dX1_append_58 : decode cX1_append 58 = .ok (.getfield 9, 3) := by decide +kernel
theorem dX1_append_61 : decode cX1_append 61 = .ok (.iload 6, 2) := by decide +kernel
theorem dX1_append_63 : decode cX1_append 63 = .ok (.iconst 4, 1) := by decide +kernel
theorem dX1_append_64 : decode cX1_append 64 = .ok (.iadd, 1) := by decide +kernel
theorem dX1_append_65 : decode cX1_append 65 = .ok (.iload 5, 2) := by decide +kernel
theorem dX1_append_67 : decode cX1_append 67 = .ok (.iastore, 1) := by decide +kernel
theorem dX1_append_68 : decode cX1_append 68 = .ok (.aload_n 0, 1) := by decide +kernel
theorem dX1_append_69 : decode cX1_append 69 = .ok (.dup, 1) := by decide +kernel
theorem dX1_append_70 : decode cX1_append 70 = .ok (.getfield 15, 3) := by decide +kernel
theorem dX1_append_73 : decode cX1_append 73 = .ok (.iconst 1, 1) := by decide +kernel
theorem dX1_append_74 : decode cX1_append 74 = .ok (.iadd, 1) := by decide +kernel
theorem dX1_append_75 : decode cX1_append 75 = .ok (.putfield 15, 3) := by decide +kernel
theorem dX1_append_78 : decode cX1_append 78 = .ok (.return_, 1) := by decide +kernel
theorem dX1_aspect_0 : decode cX1_aspect 0 = .ok (.iload_n 1, 1) := by decide +kernel
theorem dX1_aspect_1 : decode cX1_aspect 1 = .ok (.ifCond .lt 20, 3) := by decide +kernel
theorem dX1_aspect_4 : decode cX1_aspect 4 = .ok (.iload_n 1, 1) := by decide +kernel
theorem dX1_aspect_5 : decode cX1_aspect 5 = .ok (.aload_n 0, 1) := by decide +kernel
theorem dX1_aspect_6 : decode cX1_aspect 6 = .ok (.getfield 15, 3) := by decide +kernel
theorem dX1_aspect_9 : decode cX1_aspect 9 = .ok (.if_icmp .ge 12, 3) := by decide +kernel
theorem dX1_aspect_12 : decode cX1_aspect 12 = .ok (.iload_n 2, 1) := by decide +kernel
theorem dX1_aspect_13 : decode cX1_aspect 13 = .ok (.ifCond .lt 8, 3) := by decide +kernel
theorem dX1_aspect_16 : decode cX1_aspect 16 = .ok (.iload_n 2, 1) := by decide +kernel
theorem dX1_aspect_17 : decode cX1_aspect 17 = .ok (.iconst 5, 1) := by decide +kernel
theorem dX1_aspect_18 : decode cX1_aspect 18 = .ok (.if_icmp .lt 6, 3) := by decide +kernel
theorem dX1_aspect_21 : decode cX1_aspect 21 = .ok (.bipush (-101), 2) := by decide +kernel
theorem dX1_aspect_23 : decode cX1_aspect 23 = .ok (.ireturn, 1) := by decide +kernel
theorem dX1_aspect_24 : decode cX1_aspect 24 = .ok (.aload_n 0, 1) := by decide +kernel
theorem dX1_aspect_25 : decode cX1_aspect 25 = .ok (.getfield 9, 3) := by decide +kernel
theorem dX1_aspect_28 : decode cX1_aspect 28 = .ok (.iload_n 1, 1) := by decide +kernel
theorem dX1_aspect_29 : decode cX1_aspect 29 = .ok (.iconst 5, 1) := by decide +kernel
theorem dX1_aspect_30 : decode cX1_aspect 30 = .ok (.imul, 1) := by decide +kernel
theorem dX1_aspect_31 : decode cX1_aspect 31 = .ok (.iload_n 2, 1) := by decide +kernel
theorem dX1_aspect_32 : decode cX1_aspect 32 = .ok (.iadd, 1) := by decide +kernel
theorem dX1_aspect_33 : decode cX1_aspect 33 = .ok (.iaload, 1) := by decide +kernel
theorem dX1_aspect_34 : decode cX1_aspect 34 = .ok (.ireturn, 1) := by decide +kernel
theorem dX1_forgetAll_0 : decode cX1_forgetAll 0 = .ok (.aload_n 0, 1) := by decide +kernel
theorem dX1_forgetAll_1 : decode cX1_forgetAll 1 = .ok (.iconst 0, 1) := by decide +kernel
theorem dX1_forgetAll_2 : decode cX1_forgetAll 2 = .ok (.putfield 15, 3) := by decide +kernel
theorem dX1_forgetAll_5 : decode cX1_forgetAll 5 = .ok (.return_, 1) := by decide +kernel
theorem dX2_init_0 : decode cX2_init 0 = .ok (.aload_n 0, 1) := by decide +kernel
theorem dX2_init_1 : decode cX2_init 1 = .ok (.invokespecial 3, 3) := by decide +kernel
theorem dX2_init_4 : decode cX2_init 4 = .ok (.aload_n 0, 1) := by decide +kernel
theorem dX2_init_5 : decode cX2_init 5 = .ok (.new 9, 3) := by decide +kernel
theorem dX2_init_8 : decode cX2_init 8 = .ok (.dup, 1) := by decide +kernel
theorem dX2_init_9 : decode cX2_init 9 = .ok (.bipush 64, 2) := by decide +kernel
theorem dX2_init_11 : decode cX2_init 11 = .ok (.invokespecial 11, 3) := by decide +kernel
theorem dX2_init_14 : decode cX2_init 14 = .ok (.putfield 14, 3) := by decide +kernel
theorem dX2_init_17 : decode cX2_init 17 = .ok (.return_, 1) := by decide +kernel
theorem dX2_startBecomes_0 : decode cX2_startBecomes 0 = .ok (.aload_n 0, 1) := by decide +kernel
theorem dX2_startBecomes_1 : decode cX2_startBecomes 1 = .ok (.iload_n 1, 1) := by decide +kernel
theorem dX2_startBecomes_2 : decode cX2_startBecomes 2 = .ok (.putfield 20, 3) := by decide +kernel
theorem dX2_startBecomes_5 : decode cX2_startBecomes 5 = .ok (.aload_n 0, 1) := by decide +kernel
theorem dX2_startBecomes_6 : decode cX2_startBecomes 6 = .ok (.iconst 0, 1) := by decide +kernel
theorem dX2_startBecomes_7 : decode cX2_startBecomes 7 = .ok (.putfield 24, 3) := by decide +kernel
theorem dX2_startBecomes_10 : decode cX2_startBecomes 10 = .ok (.return_, 1) := by decide +kernel
theorem dX2_failToStart_0 : decode cX2_failToStart 0 = .ok (.aload_n 0, 1) := by decide +kernel
theorem dX2_failToStart_1 : decode cX2_failToStart 1 = .ok (.getfield 24, 3) := by decide +kernel
theorem dX2_failToStart_4 : decode cX2_failToStart 4 = .ok (.ifCond .eq 8, 3) := by decide +kernel
theorem dX2_failToStart_7 : decode cX2_failToStart 7 = .ok (.bipush (-32), 2) := by decide +kernel
theorem dX2_failToStart_9 : decode cX2_failToStart 9 = .ok (.goto 5, 3) := by decide +kernel
theorem dX2_failToStart_12 : decode cX2_failToStart 12 = .ok (.bipush (-31), 2) := by decide +kernel
theorem dX2_failToStart_14 : decode cX2_failToStart 14 = .ok (.istore_n 1, 1) := by decide +kernel
theorem dX2_failToStart_15 : decode cX2_failToStart 15 = .ok (.aload_n 0, 1) := by decide +kernel
theorem dX2_failToStart_16 : decode cX2_failToStart 16 = .ok (.iconst 1, 1) := by decide +kernel
theorem dX2_failToStart_17 : decode cX2_failToStart 17 = .ok (.putfield 24, 3) := by decide +kernel
theorem dX2_failToStart_20 : decode cX2_failToStart 20 = .ok (.iload_n 1, 1) := by decide +kernel
theorem dX2_failToStart_21 : decode cX2_failToStart 21 = .ok (.ireturn, 1) := by decide +kernel
theorem dX3_init_0 : decode cX3_init 0 = .ok (.aload_n 0, 1) := by decide +kernel
theorem dX3_init_1 : decode cX3_init 1 = .ok (.invokespecial 3, 3) := by decide +kernel
theorem dX3_init_4 : decode cX3_init 4 = .ok (.aload_n 0, 1) := by decide +kernel
theorem dX3_init_5 : decode cX3_init 5 = .ok (.bipush 48, 2) := by decide +kernel
theorem dX3_init_7 : decode cX3_init 7 = .ok (.newarray .int, 2) := by decide +kernel
theorem dX3_init_9 : decode cX3_init 9 = .ok (.putfield 9, 3) := by decide +kernel
theorem dX3_init_12 : decode cX3_init 12 = .ok (.return_, 1) := by decide +kernel
theorem dX3_become_0 : decode cX3_become 0 = .ok (.aload_n 0, 1) := by decide +kernel
theorem dX3_become_1 : decode cX3_become 1 = .ok (.iload_n 1, 1) := by decide +kernel
theorem dX3_become_2 : decode cX3_become 2 = .ok (.putfield 15, 3) := by decide +kernel
theorem dX3_become_5 : decode cX3_become 5 = .ok (.aload_n 0, 1) := by decide +kernel
theorem dX3_become_6 : decode cX3_become 6 = .ok (.aload_n 2, 1) := by decide +kernel
theorem dX3_become_7 : decode cX3_become 7 = .ok (.iconst 2, 1) := by decide +kernel
theorem dX3_become_8 : decode cX3_become 8 = .ok (.invokevirtual 19, 3) := by decide +kernel
theorem dX3_become_11 : decode cX3_become 11 = .ok (.bipush 12, 2) := by decide +kernel
theorem dX3_become_13 : decode cX3_become 13 = .ok (.invokestatic 25, 3) := by decide +kernel
theorem dX3_become_16 : decode cX3_become 16 = .ok (.putfield 31, 3) := by decide +kernel
theorem dX3_become_19 : decode cX3_become 19 = .ok (.iconst 0, 1) := by decide +kernel
theorem dX3_become_20 : decode cX3_become 20 = .ok (.istore_n 3, 1) := by decide +kernel
theorem dX3_become_21 : decode cX3_become 21 = .ok (.iload_n 3, 1) := by decide +kernel
theorem dX3_become_22 : decode cX3_become 22 = .ok (.aload_n 0, 1) := by decide +kernel
theorem dX3_become_23 : decode cX3_become 23 = .ok (.getfield 9, 3) := by decide +kernel
theorem dX3_become_26 : decode cX3_become 26 = .ok (.arraylength, 1) := by decide +kernel
theorem dX3_become_27 : decode cX3_become 27 = .ok (.if_icmp .ge 22, 3) := by decide +kernel
theorem dX3_become_30 : decode cX3_become 30 = .ok (.aload_n 0, 1) := by decide +kernel
theorem dX3_become_31 : decode cX3_become 31 = .ok (.getfield 9, 3) := by decide +kernel
theorem dX3_become_34 : decode cX3_become 34 = .ok (.iload_n 3, 1) := by decide +kernel
theorem dX3_become_35 : decode cX3_become 35 = .ok (.aload_n 2, 1) := by decide +kernel
theorem dX3_become_36 : decode cX3_become 36 = .ok (.iconst 3, 1) := by decide +kernel
theorem dX3_become_37 : decode cX3_become 37 = .ok (.iload_n 3, 1) := by decide +kernel
theorem dX3_become_38 : decode cX3_become 38 = .ok (.iadd, 1) := by decide +kernel
theorem dX3_become_39 : decode cX3_become 39 = .ok (.invokevirtual 19, 3) := by decide +kernel
theorem dX3_become_42 : decode cX3_become 42 = .ok (.iastore, 1) := by decide +kernel
theorem dX3_become_43 : decode cX3_become 43 = .ok (.iinc 3 1, 3) := by decide +kernel
theorem dX3_become_46 : decode cX3_become 46 = .ok (.goto (-25), 3) := by decide +kernel
theorem dX3_become_49 : decode cX3_become 49 = .ok (.aload_n 0, 1) := by decide +kernel
theorem dX3_become_50 : decode cX3_become 50 = .ok (.iconst 0, 1) := by decide +kernel
theorem dX3_become_51 : decode cX3_become 51 = .ok (.putfield 34, 3) := by decide +kernel
theorem dX3_become_54 : decode cX3_become 54 = .ok (.aload_n 0, 1) := by decide +kernel
theorem dX3_become_55 : decode cX3_become 55 = .ok (.iconst 0, 1) := by decide +kernel
theorem dX3_become_56 : decode cX3_become 56 = .ok (.putfield 37, 3) := by decide +kernel
theorem dX3_become_59 : decode cX3_become 59 = .ok (.aload_n 0, 1) := by decide +kernel
theorem dX3_become_60 : decode cX3_become 60 = .ok (.iconst 0, 1) := by decide +kernel
theorem dX3_become_61 : decode cX3_become 61 = .ok (.putfield 41, 3) := by decide +kernel
theorem dX3_become_64 : decode cX3_become 64 = .ok (.return_, 1) := by decide +kernel
theorem dX3_markOf_0 : decode cX3_markOf 0 = .ok (.aload_n 0, 1) := by decide +kernel
theorem dX3_markOf_1 : decode cX3_markOf 1 = .ok (.iconst 4, 1) := by decide +kernel
theorem dX3_markOf_2 : decode cX3_markOf 2 = .ok (.iload_n 1, 1) := by decide +kernel
theorem dX3_markOf_3 : decode cX3_markOf 3 = .ok (.imul, 1) := by decide +kernel
theorem dX3_markOf_4 : decode cX3_markOf 4 = .ok (.invokevirtual 44, 3) := by decide +kernel
theorem dX3_markOf_7 : decode cX3_markOf 7 = .ok (.ireturn, 1) := by decide +kernel
theorem dX3_actOf_0 : decode cX3_actOf 0 = .ok (.aload_n 0, 1) := by decide +kernel
theorem dX3_actOf_1 : decode cX3_actOf 1 = .ok (.iconst 4, 1) := by decide +kernel
theorem dX3_actOf_2 : decode cX3_actOf 2 = .ok (.iload_n 1, 1) := by decide +kernel
theorem dX3_actOf_3 : decode cX3_actOf 3 = .ok (.imul, 1) := by decide +kernel
theorem dX3_actOf_4 : decode cX3_actOf 4 = .ok (.iconst 1, 1) := by decide +kernel
theorem dX3_actOf_5 : decode cX3_actOf 5 = .ok (.iadd, 1) := by decide +kernel
theorem dX3_actOf_6 : decode cX3_actOf 6 = .ok (.invokevirtual 44, 3) := by decide +kernel
theorem dX3_actOf_9 : decode cX3_actOf 9 = .ok (.ireturn, 1) := by decide +kernel
theorem dX3_aOf_0 : decode cX3_aOf 0 = .ok (.aload_n 0, 1) := by decide +kernel
theorem dX3_aOf_1 : decode cX3_aOf 1 = .ok (.iconst 4, 1) := by decide +kernel
theorem dX3_aOf_2 : decode cX3_aOf 2 = .ok (.iload_n 1, 1) := by decide +kernel
theorem dX3_aOf_3 : decode cX3_aOf 3 = .ok (.imul, 1) := by decide +kernel
theorem dX3_aOf_4 : decode cX3_aOf 4 = .ok (.iconst 2, 1) := by decide +kernel
theorem dX3_aOf_5 : decode cX3_aOf 5 = .ok (.iadd, 1) := by decide +kernel
theorem dX3_aOf_6 : decode cX3_aOf 6 = .ok (.invokevirtual 44, 3) := by decide +kernel
theorem dX3_aOf_9 : decode cX3_aOf 9 = .ok (.ireturn, 1) := by decide +kernel
theorem dX3_bOf_0 : decode cX3_bOf 0 = .ok (.aload_n 0, 1) := by decide +kernel
theorem dX3_bOf_1 : decode cX3_bOf 1 = .ok (.iconst 4, 1) := by decide +kernel
theorem dX3_bOf_2 : decode cX3_bOf 2 = .ok (.iload_n 1, 1) := by decide +kernel
theorem dX3_bOf_3 : decode cX3_bOf 3 = .ok (.imul, 1) := by decide +kernel
theorem dX3_bOf_4 : decode cX3_bOf 4 = .ok (.iconst 3, 1) := by decide +kernel
theorem dX3_bOf_5 : decode cX3_bOf 5 = .ok (.iadd, 1) := by decide +kernel
theorem dX3_bOf_6 : decode cX3_bOf 6 = .ok (.invokevirtual 44, 3) := by decide +kernel
theorem dX3_bOf_9 : decode cX3_bOf 9 = .ok (.ireturn, 1) := by decide +kernel
theorem dX3_part_0 : decode cX3_part 0 = .ok (.iload_n 1, 1) := by decide +kernel
theorem dX3_part_1 : decode cX3_part 1 = .ok (.ifCond .lt 21, 3) := by decide +kernel
theorem dX3_part_4 : decode cX3_part 4 = .ok (.iload_n 1, 1) := by decide +kernel
theorem dX3_part_5 : decode cX3_part 5 = .ok (.aload_n 0, 1) := by decide +kernel
theorem dX3_part_6 : decode cX3_part 6 = .ok (.getfield 9, 3) := by decide +kernel
theorem dX3_part_9 : decode cX3_part 9 = .ok (.arraylength, 1) := by decide +kernel
theorem dX3_part_10 : decode cX3_part 10 = .ok (.if_icmp .ge 12, 3) := by decide +kernel
theorem dX3_part_13 : decode cX3_part 13 = .ok (.aload_n 0, 1) := by decide +kernel
theorem dX3_part_14 : decode cX3_part 14 = .ok (.getfield 9, 3) := by decide +kernel
theorem dX3_part_17 : decode cX3_part 17 = .ok (.iload_n 1, 1) := by decide +kernel
theorem dX3_part_18 : decode cX3_part 18 = .ok (.iaload, 1) := by decide +kernel
theorem dX3_part_19 : decode cX3_part 19 = .ok (.goto 4, 3) := by decide +kernel
theorem dX3_part_22 : decode cX3_part 22 = .ok (.iconst 0, 1) := by decide +kernel
theorem dX3_part_23 : decode cX3_part 23 = .ok (.ireturn, 1) := by decide +kernel
theorem dX3_beginRun_0 : decode cX3_beginRun 0 = .ok (.aload_n 0, 1) := by decide +kernel
theorem dX3_beginRun_1 : decode cX3_beginRun 1 = .ok (.aload_n 0, 1) := by decide +kernel
theorem dX3_beginRun_2 : decode cX3_beginRun 2 = .ok (.getfield 34, 3) := by decide +kernel
theorem dX3_beginRun_5 : decode cX3_beginRun 5 = .ok (.putfield 47, 3) := by decide +kernel
theorem dX3_beginRun_8 : decode cX3_beginRun 8 = .ok (.aload_n 0, 1) := by decide +kernel
theorem dX3_beginRun_9 : decode cX3_beginRun 9 = .ok (.iconst 0, 1) := by decide +kernel
theorem dX3_beginRun_10 : decode cX3_beginRun 10 = .ok (.putfield 37, 3) := by decide +kernel
theorem dX3_beginRun_13 : decode cX3_beginRun 13 = .ok (.aload_n 0, 1) := by decide +kernel
theorem dX3_beginRun_14 : decode cX3_beginRun 14 = .ok (.iconst 0, 1) := by decide +kernel
theorem dX3_beginRun_15 : decode cX3_beginRun 15 = .ok (.putfield 41, 3) := by decide +kernel
theorem dX3_beginRun_18 : decode cX3_beginRun 18 = .ok (.return_, 1) := by decide +kernel
theorem dX3_goBack_0 : decode cX3_goBack 0 = .ok (.aload_n 0, 1) := by decide +kernel
theorem dX3_goBack_1 : decode cX3_goBack 1 = .ok (.aload_n 0, 1) := by decide +kernel
theorem dX3_goBack_2 : decode cX3_goBack 2 = .ok (.getfield 47, 3) := by decide +kernel
theorem dX3_goBack_5 : decode cX3_goBack 5 = .ok (.putfield 34, 3) := by decide +kernel
theorem dX3_goBack_8 : decode cX3_goBack 8 = .ok (.return_, 1) := by decide +kernel
theorem dX3_aspect_0 : decode cX3_aspect 0 = .ok (.iload_n 1, 1) := by decide +kernel
theorem dX3_aspect_1 : decode cX3_aspect 1 = .ok (.tableswitch 45 0 2 #[27, 32, 37], 27) := by decide +kernel
theorem dX3_aspect_28 : decode cX3_aspect 28 = .ok (.aload_n 0, 1) := by decide +kernel
theorem dX3_aspect_29 : decode cX3_aspect 29 = .ok (.getfield 15, 3) := by decide +kernel
theorem dX3_aspect_32 : decode cX3_aspect 32 = .ok (.ireturn, 1) := by decide +kernel
theorem dX3_aspect_33 : decode cX3_aspect 33 = .ok (.aload_n 0, 1) := by decide +kernel
theorem dX3_aspect_34 : decode cX3_aspect 34 = .ok (.getfield 31, 3) := by decide +kernel
theorem dX3_aspect_37 : decode cX3_aspect 37 = .ok (.ireturn, 1) := by decide +kernel
theorem dX3_aspect_38 : decode cX3_aspect 38 = .ok (.aload_n 0, 1) := by decide +kernel
theorem dX3_aspect_39 : decode cX3_aspect 39 = .ok (.getfield 37, 3) := by decide +kernel
theorem dX3_aspect_42 : decode cX3_aspect 42 = .ok (.invokestatic 50, 3) := by decide +kernel
theorem dX3_aspect_45 : decode cX3_aspect 45 = .ok (.ireturn, 1) := by decide +kernel
theorem dX3_aspect_46 : decode cX3_aspect 46 = .ok (.aload_n 0, 1) := by decide +kernel
theorem dX3_aspect_47 : decode cX3_aspect 47 = .ok (.getfield 41, 3) := by decide +kernel
theorem dX3_aspect_50 : decode cX3_aspect 50 = .ok (.ireturn, 1) := by decide +kernel
theorem dX4_init_0 : decode cX4_init 0 = .ok (.aload_n 0, 1) := by decide +kernel
theorem dX4_init_1 : decode cX4_init 1 = .ok (.invokespecial 3, 3) := by decide +kernel
theorem dX4_init_4 : decode cX4_init 4 = .ok (.aload_n 0, 1) := by decide +kernel
theorem dX4_init_5 : decode cX4_init 5 = .ok (.bipush 6, 2) := by decide +kernel
theorem dX4_init_7 : decode cX4_init 7 = .ok (.anewarray 9, 3) := by decide +kernel
theorem dX4_init_10 : decode cX4_init 10 = .ok (.putfield 11, 3) := by decide +kernel
theorem dX4_init_13 : decode cX4_init 13 = .ok (.iconst 0, 1) := by decide +kernel
theorem dX4_init_14 : decode cX4_init 14 = .ok (.istore_n 1, 1) := by decide +kernel
theorem dX4_init_15 : decode cX4_init 15 = .ok (.iload_n 1, 1) := by decide +kernel
theorem dX4_init_16 : decode cX4_init 16 = .ok (.aload_n 0, 1) := by decide +kernel
theorem dX4_init_17 : decode cX4_init 17 = .ok (.getfield 11, 3) := by decide +kernel
theorem dX4_init_20 : decode cX4_init 20 = .ok (.arraylength, 1) := by decide +kernel
theorem dX4_init_21 : decode cX4_init 21 = .ok (.if_icmp .ge 22, 3) := by decide +kernel
theorem dX4_init_24 : decode cX4_init 24 = .ok (.aload_n 0, 1) := by decide +kernel
theorem dX4_init_25 : decode cX4_init 25 = .ok (.getfield 11, 3) := by decide +kernel
theorem dX4_init_28 : decode cX4_init 28 = .ok (.iload_n 1, 1) := by decide +kernel
theorem dX4_init_29 : decode cX4_init 29 = .ok (.new 9, 3) := by decide +kernel
theorem dX4_init_32 : decode cX4_init 32 = .ok (.dup, 1) := by decide +kernel
theorem dX4_init_33 : decode cX4_init 33 = .ok (.invokespecial 17, 3) := by decide +kernel
theorem dX4_init_36 : decode cX4_init 36 = .ok (.aastore, 1) := by decide +kernel
theorem dX4_init_37 : decode cX4_init 37 = .ok (.iinc 1 1, 3) := by decide +kernel
theorem dX4_init_40 : decode cX4_init 40 = .ok (.goto (-25), 3) := by decide +kernel
theorem dX4_init_43 : decode cX4_init 43 = .ok (.return_, 1) := by decide +kernel
theorem dX4_size_0 : decode cX4_size 0 = .ok (.aload_n 0, 1) := by decide +kernel
theorem dX4_size_1 : decode cX4_size 1 = .ok (.getfield 18, 3) := by decide +kernel
theorem dX4_size_4 : decode cX4_size 4 = .ok (.ireturn, 1) := by decide +kernel
theorem dX4_isFull_0 : decode cX4_isFull 0 = .ok (.aload_n 0, 1) := by decide +kernel
theorem dX4_isFull_1 : decode cX4_isFull 1 = .ok (.getfield 18, 3) := by decide +kernel
theorem dX4_isFull_4 : decode cX4_isFull 4 = .ok (.aload_n 0, 1) := by decide +kernel
theorem dX4_isFull_5 : decode cX4_isFull 5 = .ok (.getfield 11, 3) := by decide +kernel
theorem dX4_isFull_8 : decode cX4_isFull 8 = .ok (.arraylength, 1) := by decide +kernel
theorem dX4_isFull_9 : decode cX4_isFull 9 = .ok (.if_icmp .lt 7, 3) := by decide +kernel
theorem dX4_isFull_12 : decode cX4_isFull 12 = .ok (.iconst 1, 1) := by decide +kernel
theorem dX4_isFull_13 : decode cX4_isFull 13 = .ok (.goto 4, 3) := by decide +kernel
theorem dX4_isFull_16 : decode cX4_isFull 16 = .ok (.iconst 0, 1) := by decide +kernel
theorem dX4_isFull_17 : decode cX4_isFull 17 = .ok (.ireturn, 1) := by decide +kernel
theorem dX4_at_0 : decode cX4_at 0 = .ok (.iload_n 1, 1) := by decide +kernel
theorem dX4_at_1 : decode cX4_at 1 = .ok (.ifCond .lt 29, 3) := by decide +kernel
theorem dX4_at_4 : decode cX4_at 4 = .ok (.iload_n 1, 1) := by decide +kernel
theorem dX4_at_5 : decode cX4_at 5 = .ok (.aload_n 0, 1) := by decide +kernel
theorem dX4_at_6 : decode cX4_at 6 = .ok (.getfield 18, 3) := by decide +kernel
theorem dX4_at_9 : decode cX4_at 9 = .ok (.if_icmp .ge 21, 3) := by decide +kernel
theorem dX4_at_12 : decode cX4_at 12 = .ok (.iload_n 1, 1) := by decide +kernel
theorem dX4_at_13 : decode cX4_at 13 = .ok (.aload_n 0, 1) := by decide +kernel
theorem dX4_at_14 : decode cX4_at 14 = .ok (.getfield 11, 3) := by decide +kernel
theorem dX4_at_17 : decode cX4_at 17 = .ok (.arraylength, 1) := by decide +kernel
theorem dX4_at_18 : decode cX4_at 18 = .ok (.if_icmp .ge 12, 3) := by decide +kernel
theorem dX4_at_21 : decode cX4_at 21 = .ok (.aload_n 0, 1) := by decide +kernel
theorem dX4_at_22 : decode cX4_at 22 = .ok (.getfield 11, 3) := by decide +kernel
theorem dX4_at_25 : decode cX4_at 25 = .ok (.iload_n 1, 1) := by decide +kernel
theorem dX4_at_26 : decode cX4_at 26 = .ok (.aaload, 1) := by decide +kernel
theorem dX4_at_27 : decode cX4_at 27 = .ok (.goto 4, 3) := by decide +kernel
theorem dX4_at_30 : decode cX4_at 30 = .ok (.aconst_null, 1) := by decide +kernel
theorem dX4_at_31 : decode cX4_at 31 = .ok (.areturn, 1) := by decide +kernel
theorem dX4_enlist_0 : decode cX4_enlist 0 = .ok (.aload_n 0, 1) := by decide +kernel
theorem dX4_enlist_1 : decode cX4_enlist 1 = .ok (.getfield 18, 3) := by decide +kernel
theorem dX4_enlist_4 : decode cX4_enlist 4 = .ok (.aload_n 0, 1) := by decide +kernel
theorem dX4_enlist_5 : decode cX4_enlist 5 = .ok (.getfield 11, 3) := by decide +kernel
theorem dX4_enlist_8 : decode cX4_enlist 8 = .ok (.arraylength, 1) := by decide +kernel
theorem dX4_enlist_9 : decode cX4_enlist 9 = .ok (.if_icmp .ge 15, 3) := by decide +kernel
theorem dX4_enlist_12 : decode cX4_enlist 12 = .ok (.aload_n 0, 1) := by decide +kernel
theorem dX4_enlist_13 : decode cX4_enlist 13 = .ok (.getfield 11, 3) := by decide +kernel
theorem dX4_enlist_16 : decode cX4_enlist 16 = .ok (.aload_n 0, 1) := by decide +kernel
theorem dX4_enlist_17 : decode cX4_enlist 17 = .ok (.getfield 18, 3) := by decide +kernel
theorem dX4_enlist_20 : decode cX4_enlist 20 = .ok (.aaload, 1) := by decide +kernel
theorem dX4_enlist_21 : decode cX4_enlist 21 = .ok (.goto 4, 3) := by decide +kernel
theorem dX4_enlist_24 : decode cX4_enlist 24 = .ok (.aconst_null, 1) := by decide +kernel
theorem dX4_enlist_25 : decode cX4_enlist 25 = .ok (.astore_n 3, 1) := by decide +kernel
theorem dX4_enlist_26 : decode cX4_enlist 26 = .ok (.aload_n 3, 1) := by decide +kernel
theorem dX4_enlist_27 : decode cX4_enlist 27 = .ok (.ifnonnull 6, 3) := by decide +kernel
theorem dX4_enlist_30 : decode cX4_enlist 30 = .ok (.bipush (-104), 2) := by decide +kernel
theorem dX4_enlist_32 : decode cX4_enlist 32 = .ok (.ireturn, 1) := by decide +kernel
theorem dX4_enlist_33 : decode cX4_enlist 33 = .ok (.aload_n 3, 1) := by decide +kernel
theorem dX4_enlist_34 : decode cX4_enlist 34 = .ok (.iload_n 1, 1) := by decide +kernel
theorem dX4_enlist_35 : decode cX4_enlist 35 = .ok (.aload_n 2, 1) := by decide +kernel
theorem dX4_enlist_36 : decode cX4_enlist 36 = .ok (.invokevirtual 22, 3) := by decide +kernel
theorem dX4_enlist_39 : decode cX4_enlist 39 = .ok (.aload_n 0, 1) := by decide +kernel
theorem dX4_enlist_40 : decode cX4_enlist 40 = .ok (.dup, 1) := by decide +kernel
theorem dX4_enlist_41 : decode cX4_enlist 41 = .ok (.getfield 18, 3) := by decide +kernel
theorem dX4_enlist_44 : decode cX4_enlist 44 = .ok (.iconst 1, 1) := by decide +kernel
theorem dX4_enlist_45 : decode cX4_enlist 45 = .ok (.iadd, 1) := by decide +kernel
theorem dX4_enlist_46 : decode cX4_enlist 46 = .ok (.putfield 18, 3) := by decide +kernel
theorem dX4_enlist_49 : decode cX4_enlist 49 = .ok (.aload_n 0, 1) := by decide +kernel
theorem dX4_enlist_50 : decode cX4_enlist 50 = .ok (.getfield 18, 3) := by decide +kernel
theorem dX4_enlist_53 : decode cX4_enlist 53 = .ok (.iconst 1, 1) := by decide +kernel
theorem dX4_enlist_54 : decode cX4_enlist 54 = .ok (.isub, 1) := by decide +kernel
theorem dX4_enlist_55 : decode cX4_enlist 55 = .ok (.ireturn, 1) := by decide +kernel
theorem dX4_dismissAll_0 : decode cX4_dismissAll 0 = .ok (.aload_n 0, 1) := by decide +kernel
theorem dX4_dismissAll_1 : decode cX4_dismissAll 1 = .ok (.iconst 0, 1) := by decide +kernel
theorem dX4_dismissAll_2 : decode cX4_dismissAll 2 = .ok (.putfield 18, 3) := by decide +kernel
theorem dX4_dismissAll_5 : decode cX4_dismissAll 5 = .ok (.return_, 1) := by decide +kernel
theorem dX4_beginRun_0 : decode cX4_beginRun 0 = .ok (.iconst 0, 1) := by decide +kernel
theorem dX4_beginRun_1 : decode cX4_beginRun 1 = .ok (.istore_n 1, 1) := by decide +kernel
theorem dX4_beginRun_2 : decode cX4_beginRun 2 = .ok (.iload_n 1, 1) := by decide +kernel
theorem dX4_beginRun_3 : decode cX4_beginRun 3 = .ok (.aload_n 0, 1) := by decide +kernel
theorem dX4_beginRun_4 : decode cX4_beginRun 4 = .ok (.getfield 18, 3) := by decide +kernel
theorem dX4_beginRun_7 : decode cX4_beginRun 7 = .ok (.if_icmp .ge 23, 3) := by decide +kernel
theorem dX4_beginRun_10 : decode cX4_beginRun 10 = .ok (.aload_n 0, 1) := by decide +kernel
theorem dX4_beginRun_11 : decode cX4_beginRun 11 = .ok (.iload_n 1, 1) := by decide +kernel
theorem dX4_beginRun_12 : decode cX4_beginRun 12 = .ok (.invokevirtual 26, 3) := by decide +kernel
theorem dX4_beginRun_15 : decode cX4_beginRun 15 = .ok (.astore_n 2, 1) := by decide +kernel
theorem dX4_beginRun_16 : decode cX4_beginRun 16 = .ok (.aload_n 2, 1) := by decide +kernel
theorem dX4_beginRun_17 : decode cX4_beginRun 17 = .ok (.ifnull 7, 3) := by decide +kernel
theorem dX4_beginRun_20 : decode cX4_beginRun 20 = .ok (.aload_n 2, 1) := by decide +kernel
theorem dX4_beginRun_21 : decode cX4_beginRun 21 = .ok (.invokevirtual 30, 3) := by decide +kernel
theorem dX4_beginRun_24 : decode cX4_beginRun 24 = .ok (.iinc 1 1, 3) := by decide +kernel
theorem dX4_beginRun_27 : decode cX4_beginRun 27 = .ok (.goto (-25), 3) := by decide +kernel
theorem dX4_beginRun_30 : decode cX4_beginRun 30 = .ok (.return_, 1) := by decide +kernel
theorem dX4_goBack_0 : decode cX4_goBack 0 = .ok (.iconst 0, 1) := by decide +kernel
theorem dX4_goBack_1 : decode cX4_goBack 1 = .ok (.istore_n 1, 1) := by decide +kernel
theorem dX4_goBack_2 : decode cX4_goBack 2 = .ok (.iload_n 1, 1) := by decide +kernel
theorem dX4_goBack_3 : decode cX4_goBack 3 = .ok (.aload_n 0, 1) := by decide +kernel
theorem dX4_goBack_4 : decode cX4_goBack 4 = .ok (.getfield 18, 3) := by decide +kernel
theorem dX4_goBack_7 : decode cX4_goBack 7 = .ok (.if_icmp .ge 23, 3) := by decide +kernel
theorem dX4_goBack_10 : decode cX4_goBack 10 = .ok (.aload_n 0, 1) := by decide +kernel
theorem dX4_goBack_11 : decode cX4_goBack 11 = .ok (.iload_n 1, 1) := by decide +kernel
theorem dX4_goBack_12 : decode cX4_goBack 12 = .ok (.invokevirtual 26, 3) := by decide +kernel
theorem dX4_goBack_15 : decode cX4_goBack 15 = .ok (.astore_n 2, 1) := by decide +kernel
theorem dX4_goBack_16 : decode cX4_goBack 16 = .ok (.aload_n 2, 1) := by decide +kernel
theorem dX4_goBack_17 : decode cX4_goBack 17 = .ok (.ifnull 7, 3) := by decide +kernel
theorem dX4_goBack_20 : decode cX4_goBack 20 = .ok (.aload_n 2, 1) := by decide +kernel
theorem dX4_goBack_21 : decode cX4_goBack 21 = .ok (.invokevirtual 33, 3) := by decide +kernel
theorem dX4_goBack_24 : decode cX4_goBack 24 = .ok (.iinc 1 1, 3) := by decide +kernel
theorem dX4_goBack_27 : decode cX4_goBack 27 = .ok (.goto (-25), 3) := by decide +kernel
theorem dX4_goBack_30 : decode cX4_goBack 30 = .ok (.return_, 1) := by decide +kernel
theorem dX5_init_0 : decode cX5_init 0 = .ok (.aload_n 0, 1) := by decide +kernel
theorem dX5_init_1 : decode cX5_init 1 = .ok (.invokespecial 3, 3) := by decide +kernel
theorem dX5_init_4 : decode cX5_init 4 = .ok (.aload_n 0, 1) := by decide +kernel
theorem dX5_init_5 : decode cX5_init 5 = .ok (.iconst 4, 1) := by decide +kernel
theorem dX5_init_6 : decode cX5_init 6 = .ok (.anewarray 9, 3) := by decide +kernel
theorem dX5_init_9 : decode cX5_init 9 = .ok (.putfield 11, 3) := by decide +kernel
theorem dX5_init_12 : decode cX5_init 12 = .ok (.iconst 0, 1) := by decide +kernel
theorem dX5_init_13 : decode cX5_init 13 = .ok (.istore_n 1, 1) := by decide +kernel
theorem dX5_init_14 : decode cX5_init 14 = .ok (.iload_n 1, 1) := by decide +kernel
theorem dX5_init_15 : decode cX5_init 15 = .ok (.aload_n 0, 1) := by decide +kernel
theorem dX5_init_16 : decode cX5_init 16 = .ok (.getfield 11, 3) := by decide +kernel
theorem dX5_init_19 : decode cX5_init 19 = .ok (.arraylength, 1) := by decide +kernel
theorem dX5_init_20 : decode cX5_init 20 = .ok (.if_icmp .ge 24, 3) := by decide +kernel
theorem dX5_init_23 : decode cX5_init 23 = .ok (.aload_n 0, 1) := by decide +kernel
theorem dX5_init_24 : decode cX5_init 24 = .ok (.getfield 11, 3) := by decide +kernel
theorem dX5_init_27 : decode cX5_init 27 = .ok (.iload_n 1, 1) := by decide +kernel
theorem dX5_init_28 : decode cX5_init 28 = .ok (.new 9, 3) := by decide +kernel
theorem dX5_init_31 : decode cX5_init 31 = .ok (.dup, 1) := by decide +kernel
theorem dX5_init_32 : decode cX5_init 32 = .ok (.bipush 100, 2) := by decide +kernel
theorem dX5_init_34 : decode cX5_init 34 = .ok (.invokespecial 17, 3) := by decide +kernel
theorem dX5_init_37 : decode cX5_init 37 = .ok (.aastore, 1) := by decide +kernel
theorem dX5_init_38 : decode cX5_init 38 = .ok (.iinc 1 1, 3) := by decide +kernel
theorem dX5_init_41 : decode cX5_init 41 = .ok (.goto (-27), 3) := by decide +kernel
theorem dX5_init_44 : decode cX5_init 44 = .ok (.return_, 1) := by decide +kernel
theorem dX5_at_0 : decode cX5_at 0 = .ok (.iload_n 1, 1) := by decide +kernel
theorem dX5_at_1 : decode cX5_at 1 = .ok (.ifCond .lt 21, 3) := by decide +kernel
theorem dX5_at_4 : decode cX5_at 4 = .ok (.iload_n 1, 1) := by decide +kernel
theorem dX5_at_5 : decode cX5_at 5 = .ok (.aload_n 0, 1) := by decide +kernel
theorem dX5_at_6 : decode cX5_at 6 = .ok (.getfield 11, 3) := by decide +kernel
theorem dX5_at_9 : decode cX5_at 9 = .ok (.arraylength, 1) := by decide +kernel
theorem dX5_at_10 : decode cX5_at 10 = .ok (.if_icmp .ge 12, 3) := by decide +kernel
theorem dX5_at_13 : decode cX5_at 13 = .ok (.aload_n 0, 1) := by decide +kernel
theorem dX5_at_14 : decode cX5_at 14 = .ok (.getfield 11, 3) := by decide +kernel
theorem dX5_at_17 : decode cX5_at 17 = .ok (.iload_n 1, 1) := by decide +kernel
theorem dX5_at_18 : decode cX5_at 18 = .ok (.aaload, 1) := by decide +kernel
theorem dX5_at_19 : decode cX5_at 19 = .ok (.goto 4, 3) := by decide +kernel
theorem dX5_at_22 : decode cX5_at 22 = .ok (.aconst_null, 1) := by decide +kernel
theorem dX5_at_23 : decode cX5_at 23 = .ok (.areturn, 1) := by decide +kernel
theorem dX5_emptyAll_0 : decode cX5_emptyAll 0 = .ok (.aload_n 0, 1) := by decide +kernel
theorem dX5_emptyAll_1 : decode cX5_emptyAll 1 = .ok (.getfield 11, 3) := by decide +kernel
theorem dX5_emptyAll_4 : decode cX5_emptyAll 4 = .ok (.astore_n 1, 1) := by decide +kernel
theorem dX5_emptyAll_5 : decode cX5_emptyAll 5 = .ok (.aload_n 1, 1) := by decide +kernel
theorem dX5_emptyAll_6 : decode cX5_emptyAll 6 = .ok (.arraylength, 1) := by decide +kernel
theorem dX5_emptyAll_7 : decode cX5_emptyAll 7 = .ok (.istore_n 2, 1) := by decide +kernel
theorem dX5_emptyAll_8 : decode cX5_emptyAll 8 = .ok (.iconst 0, 1) := by decide +kernel
theorem dX5_emptyAll_9 : decode cX5_emptyAll 9 = .ok (.istore_n 3, 1) := by decide +kernel
theorem dX5_emptyAll_10 : decode cX5_emptyAll 10 = .ok (.iload_n 3, 1) := by decide +kernel
theorem dX5_emptyAll_11 : decode cX5_emptyAll 11 = .ok (.iload_n 2, 1) := by decide +kernel
theorem dX5_emptyAll_12 : decode cX5_emptyAll 12 = .ok (.if_icmp .ge 24, 3) := by decide +kernel
theorem dX5_emptyAll_15 : decode cX5_emptyAll 15 = .ok (.aload_n 1, 1) := by decide +kernel
theorem dX5_emptyAll_16 : decode cX5_emptyAll 16 = .ok (.iload_n 3, 1) := by decide +kernel
theorem dX5_emptyAll_17 : decode cX5_emptyAll 17 = .ok (.aaload, 1) := by decide +kernel
theorem dX5_emptyAll_18 : decode cX5_emptyAll 18 = .ok (.astore 4, 2) := by decide +kernel
theorem dX5_emptyAll_20 : decode cX5_emptyAll 20 = .ok (.aload 4, 2) := by decide +kernel
theorem dX5_emptyAll_22 : decode cX5_emptyAll 22 = .ok (.ifnull 8, 3) := by decide +kernel
theorem dX5_emptyAll_25 : decode cX5_emptyAll 25 = .ok (.aload 4, 2) := by decide +kernel
theorem dX5_emptyAll_27 : decode cX5_emptyAll 27 = .ok (.invokevirtual 20, 3) := by decide +kernel
theorem dX5_emptyAll_30 : decode cX5_emptyAll 30 = .ok (.iinc 3 1, 3) := by decide +kernel
theorem dX5_emptyAll_33 : decode cX5_emptyAll 33 = .ok (.goto (-23), 3) := by decide +kernel
theorem dX5_emptyAll_36 : decode cX5_emptyAll 36 = .ok (.return_, 1) := by decide +kernel
theorem dX5_keep_0 : decode cX5_keep 0 = .ok (.aload_n 0, 1) := by decide +kernel
theorem dX5_keep_1 : decode cX5_keep 1 = .ok (.getfield 11, 3) := by decide +kernel
theorem dX5_keep_4 : decode cX5_keep 4 = .ok (.astore_n 1, 1) := by decide +kernel
theorem dX5_keep_5 : decode cX5_keep 5 = .ok (.aload_n 1, 1) := by decide +kernel
theorem dX5_keep_6 : decode cX5_keep 6 = .ok (.arraylength, 1) := by decide +kernel
theorem dX5_keep_7 : decode cX5_keep 7 = .ok (.istore_n 2, 1) := by decide +kernel
theorem dX5_keep_8 : decode cX5_keep 8 = .ok (.iconst 0, 1) := by decide +kernel
theorem dX5_keep_9 : decode cX5_keep 9 = .ok (.istore_n 3, 1) := by decide +kernel
theorem dX5_keep_10 : decode cX5_keep 10 = .ok (.iload_n 3, 1) := by decide +kernel
theorem dX5_keep_11 : decode cX5_keep 11 = .ok (.iload_n 2, 1) := by decide +kernel
theorem dX5_keep_12 : decode cX5_keep 12 = .ok (.if_icmp .ge 24, 3) := by decide +kernel
theorem dX5_keep_15 : decode cX5_keep 15 = .ok (.aload_n 1, 1) := by decide +kernel
theorem dX5_keep_16 : decode cX5_keep 16 = .ok (.iload_n 3, 1) := by decide +kernel
theorem dX5_keep_17 : decode cX5_keep 17 = .ok (.aaload, 1) := by decide +kernel
theorem dX5_keep_18 : decode cX5_keep 18 = .ok (.astore 4, 2) := by decide +kernel
theorem dX5_keep_20 : decode cX5_keep 20 = .ok (.aload 4, 2) := by decide +kernel
theorem dX5_keep_22 : decode cX5_keep 22 = .ok (.ifnull 8, 3) := by decide +kernel
theorem dX5_keep_25 : decode cX5_keep 25 = .ok (.aload 4, 2) := by decide +kernel
theorem dX5_keep_27 : decode cX5_keep 27 = .ok (.invokevirtual 23, 3) := by decide +kernel
theorem dX5_keep_30 : decode cX5_keep 30 = .ok (.iinc 3 1, 3) := by decide +kernel
theorem dX5_keep_33 : decode cX5_keep 33 = .ok (.goto (-23), 3) := by decide +kernel
theorem dX5_keep_36 : decode cX5_keep 36 = .ok (.return_, 1) := by decide +kernel
theorem dX5_goBack_0 : decode cX5_goBack 0 = .ok (.aload_n 0, 1) := by decide +kernel
theorem dX5_goBack_1 : decode cX5_goBack 1 = .ok (.getfield 11, 3) := by decide +kernel
theorem dX5_goBack_4 : decode cX5_goBack 4 = .ok (.astore_n 1, 1) := by decide +kernel
theorem dX5_goBack_5 : decode cX5_goBack 5 = .ok (.aload_n 1, 1) := by decide +kernel
theorem dX5_goBack_6 : decode cX5_goBack 6 = .ok (.arraylength, 1) := by decide +kernel
theorem dX5_goBack_7 : decode cX5_goBack 7 = .ok (.istore_n 2, 1) := by decide +kernel
theorem dX5_goBack_8 : decode cX5_goBack 8 = .ok (.iconst 0, 1) := by decide +kernel
theorem dX5_goBack_9 : decode cX5_goBack 9 = .ok (.istore_n 3, 1) := by decide +kernel
theorem dX5_goBack_10 : decode cX5_goBack 10 = .ok (.iload_n 3, 1) := by decide +kernel
theorem dX5_goBack_11 : decode cX5_goBack 11 = .ok (.iload_n 2, 1) := by decide +kernel
theorem dX5_goBack_12 : decode cX5_goBack 12 = .ok (.if_icmp .ge 24, 3) := by decide +kernel
theorem dX5_goBack_15 : decode cX5_goBack 15 = .ok (.aload_n 1, 1) := by decide +kernel
theorem dX5_goBack_16 : decode cX5_goBack 16 = .ok (.iload_n 3, 1) := by decide +kernel
theorem dX5_goBack_17 : decode cX5_goBack 17 = .ok (.aaload, 1) := by decide +kernel
theorem dX5_goBack_18 : decode cX5_goBack 18 = .ok (.astore 4, 2) := by decide +kernel
theorem dX5_goBack_20 : decode cX5_goBack 20 = .ok (.aload 4, 2) := by decide +kernel
theorem dX5_goBack_22 : decode cX5_goBack 22 = .ok (.ifnull 8, 3) := by decide +kernel
theorem dX5_goBack_25 : decode cX5_goBack 25 = .ok (.aload 4, 2) := by decide +kernel
theorem dX5_goBack_27 : decode cX5_goBack 27 = .ok (.invokevirtual 26, 3) := by decide +kernel
theorem dX5_goBack_30 : decode cX5_goBack 30 = .ok (.iinc 3 1, 3) := by decide +kernel
theorem dX5_goBack_33 : decode cX5_goBack 33 = .ok (.goto (-23), 3) := by decide +kernel
theorem dX5_goBack_36 : decode cX5_goBack 36 = .ok (.return_, 1) := by decide +kernel
theorem dX6_init_0 : decode cX6_init 0 = .ok (.aload_n 0, 1) := by decide +kernel
theorem dX6_init_1 : decode cX6_init 1 = .ok (.invokespecial 3, 3) := by decide +kernel
theorem dX6_init_4 : decode cX6_init 4 = .ok (.aload_n 0, 1) := by decide +kernel
theorem dX6_init_5 : decode cX6_init 5 = .ok (.iload_n 1, 1) := by decide +kernel
theorem dX6_init_6 : decode cX6_init 6 = .ok (.iconst 0, 1) := by decide +kernel
theorem dX6_init_7 : decode cX6_init 7 = .ok (.invokestatic 9, 3) := by decide +kernel
theorem dX6_init_10 : decode cX6_init 10 = .ok (.newarray .int, 2) := by decide +kernel
theorem dX6_init_12 : decode cX6_init 12 = .ok (.putfield 15, 3) := by decide +kernel
theorem dX6_init_15 : decode cX6_init 15 = .ok (.return_, 1) := by decide +kernel
theorem dX6_size_0 : decode cX6_size 0 = .ok (.aload_n 0, 1) := by decide +kernel
theorem dX6_size_1 : decode cX6_size 1 = .ok (.getfield 21, 3) := by decide +kernel
theorem dX6_size_4 : decode cX6_size 4 = .ok (.ireturn, 1) := by decide +kernel
theorem dX6_room_0 : decode cX6_room 0 = .ok (.aload_n 0, 1) := by decide +kernel
theorem dX6_room_1 : decode cX6_room 1 = .ok (.getfield 15, 3) := by decide +kernel
theorem dX6_room_4 : decode cX6_room 4 = .ok (.arraylength, 1) := by decide +kernel
theorem dX6_room_5 : decode cX6_room 5 = .ok (.aload_n 0, 1) := by decide +kernel
theorem dX6_room_6 : decode cX6_room 6 = .ok (.getfield 21, 3) := by decide +kernel
theorem dX6_room_9 : decode cX6_room 9 = .ok (.isub, 1) := by decide +kernel
theorem dX6_room_10 : decode cX6_room 10 = .ok (.ireturn, 1) := by decide +kernel
theorem dX6_has_0 : decode cX6_has 0 = .ok (.iload_n 1, 1) := by decide +kernel
theorem dX6_has_1 : decode cX6_has 1 = .ok (.ifCond .lt 15, 3) := by decide +kernel
theorem dX6_has_4 : decode cX6_has 4 = .ok (.iload_n 1, 1) := by decide +kernel
theorem dX6_has_5 : decode cX6_has 5 = .ok (.aload_n 0, 1) := by decide +kernel
theorem dX6_has_6 : decode cX6_has 6 = .ok (.getfield 21, 3) := by decide +kernel
theorem dX6_has_9 : decode cX6_has 9 = .ok (.if_icmp .ge 7, 3) := by decide +kernel
theorem dX6_has_12 : decode cX6_has 12 = .ok (.iconst 1, 1) := by decide +kernel
theorem dX6_has_13 : decode cX6_has 13 = .ok (.goto 4, 3) := by decide +kernel
theorem dX6_has_16 : decode cX6_has 16 = .ok (.iconst 0, 1) := by decide +kernel
theorem dX6_has_17 : decode cX6_has 17 = .ok (.ireturn, 1) := by decide +kernel
theorem dX6_at_0 : decode cX6_at 0 = .ok (.iload_n 1, 1) := by decide +kernel
theorem dX6_at_1 : decode cX6_at 1 = .ok (.ifCond .lt 20, 3) := by decide +kernel
theorem dX6_at_4 : decode cX6_at 4 = .ok (.iload_n 1, 1) := by decide +kernel
theorem dX6_at_5 : decode cX6_at 5 = .ok (.aload_n 0, 1) := by decide +kernel
theorem dX6_at_6 : decode cX6_at 6 = .ok (.getfield 21, 3) := by decide +kernel
theorem dX6_at_9 : decode cX6_at 9 = .ok (.if_icmp .ge 12, 3) := by decide +kernel
theorem dX6_at_12 : decode cX6_at 12 = .ok (.aload_n 0, 1) := by decide +kernel
theorem dX6_at_13 : decode cX6_at 13 = .ok (.getfield 15, 3) := by decide +kernel
theorem dX6_at_16 : decode cX6_at 16 = .ok (.iload_n 1, 1) := by decide +kernel
theorem dX6_at_17 : decode cX6_at 17 = .ok (.iaload, 1) := by decide +kernel
theorem dX6_at_18 : decode cX6_at 18 = .ok (.goto 4, 3) := by decide +kernel
theorem dX6_at_21 : decode cX6_at 21 = .ok (.iconst 0, 1) := by decide +kernel
theorem dX6_at_22 : decode cX6_at 22 = .ok (.ireturn, 1) := by decide +kernel
theorem dX6_put_0 : decode cX6_put 0 = .ok (.iload_n 1, 1) := by decide +kernel
theorem dX6_put_1 : decode cX6_put 1 = .ok (.ifCond .lt 22, 3) := by decide +kernel
theorem dX6_put_4 : decode cX6_put 4 = .ok (.iload_n 1, 1) := by decide +kernel
theorem dX6_put_5 : decode cX6_put 5 = .ok (.aload_n 0, 1) := by decide +kernel
theorem dX6_put_6 : decode cX6_put 6 = .ok (.getfield 21, 3) := by decide +kernel
theorem dX6_put_9 : decode cX6_put 9 = .ok (.if_icmp .ge 14, 3) := by decide +kernel
theorem dX6_put_12 : decode cX6_put 12 = .ok (.aload_n 0, 1) := by decide +kernel
theorem dX6_put_13 : decode cX6_put 13 = .ok (.getfield 15, 3) := by decide +kernel
theorem dX6_put_16 : decode cX6_put 16 = .ok (.iload_n 1, 1) := by decide +kernel
theorem dX6_put_17 : decode cX6_put 17 = .ok (.iload_n 2, 1) := by decide +kernel
theorem dX6_put_18 : decode cX6_put 18 = .ok (.sipush 255, 3) := by decide +kernel
theorem dX6_put_21 : decode cX6_put 21 = .ok (.iand, 1) := by decide +kernel
theorem dX6_put_22 : decode cX6_put 22 = .ok (.iastore, 1) := by decide +kernel
theorem dX6_put_23 : decode cX6_put 23 = .ok (.return_, 1) := by decide +kernel
theorem dX6_append_0 : decode cX6_append 0 = .ok (.aload_n 0, 1) := by decide +kernel
theorem dX6_append_1 : decode cX6_append 1 = .ok (.getfield 21, 3) := by decide +kernel
theorem dX6_append_4 : decode cX6_append 4 = .ok (.aload_n 0, 1) := by decide +kernel
theorem dX6_append_5 : decode cX6_append 5 = .ok (.getfield 15, 3) := by decide +kernel
theorem dX6_append_8 : decode cX6_append 8 = .ok (.arraylength, 1) := by decide +kernel
theorem dX6_append_9 : decode cX6_append 9 = .ok (.if_icmp .lt 5, 3) := by decide +kernel
theorem dX6_append_12 : decode cX6_append 12 = .ok (.iconst 0, 1) := by decide +kernel
theorem dX6_append_13 : decode cX6_append 13 = .ok (.ireturn, 1) := by decide +kernel
theorem dX6_append_14 : decode cX6_append 14 = .ok (.aload_n 0, 1) := by decide +kernel
theorem dX6_append_15 : decode cX6_append 15 = .ok (.getfield 15, 3) := by decide +kernel
theorem dX6_append_18 : decode cX6_append 18 = .ok (.aload_n 0, 1) := by decide +kernel
theorem dX6_append_19 : decode cX6_append 19 = .ok (.getfield 21, 3) := by decide +kernel
theorem dX6_append_22 : decode cX6_append 22 = .ok (.iload_n 1, 1) := by decide +kernel
theorem dX6_append_23 : decode cX6_append 23 = .ok (.sipush 255, 3) := by decide +kernel
theorem dX6_append_26 : decode cX6_append 26 = .ok (.iand, 1) := by decide +kernel
theorem dX6_append_27 : decode cX6_append 27 = .ok (.iastore, 1) := by decide +kernel
theorem dX6_append_28 : decode cX6_append 28 = .ok (.aload_n 0, 1) := by decide +kernel
theorem dX6_append_29 : decode cX6_append 29 = .ok (.dup, 1) := by decide +kernel
theorem dX6_append_30 : decode cX6_append 30 = .ok (.getfield 21, 3) := by decide +kernel
theorem dX6_append_33 : decode cX6_append 33 = .ok (.iconst 1, 1) := by decide +kernel
theorem dX6_append_34 : decode cX6_append 34 = .ok (.iadd, 1) := by decide +kernel
theorem dX6_append_35 : decode cX6_append 35 = .ok (.putfield 21, 3) := by decide +kernel
theorem dX6_append_38 : decode cX6_append 38 = .ok (.iconst 1, 1) := by decide +kernel
theorem dX6_append_39 : decode cX6_append 39 = .ok (.ireturn, 1) := by decide +kernel
theorem dX6_empty_0 : decode cX6_empty 0 = .ok (.aload_n 0, 1) := by decide +kernel
theorem dX6_empty_1 : decode cX6_empty 1 = .ok (.iconst 0, 1) := by decide +kernel
theorem dX6_empty_2 : decode cX6_empty 2 = .ok (.putfield 21, 3) := by decide +kernel
theorem dX6_empty_5 : decode cX6_empty 5 = .ok (.return_, 1) := by decide +kernel
theorem dX6_become_0 : decode cX6_become 0 = .ok (.aload_n 0, 1) := by decide +kernel
theorem dX6_become_1 : decode cX6_become 1 = .ok (.invokevirtual 25, 3) := by decide +kernel
theorem dX6_become_4 : decode cX6_become 4 = .ok (.iconst 0, 1) := by decide +kernel
theorem dX6_become_5 : decode cX6_become 5 = .ok (.istore_n 2, 1) := by decide +kernel
theorem dX6_become_6 : decode cX6_become 6 = .ok (.iload_n 2, 1) := by decide +kernel
theorem dX6_become_7 : decode cX6_become 7 = .ok (.aload_n 1, 1) := by decide +kernel
theorem dX6_become_8 : decode cX6_become 8 = .ok (.invokevirtual 28, 3) := by decide +kernel
theorem dX6_become_11 : decode cX6_become 11 = .ok (.if_icmp .ge 19, 3) := by decide +kernel
theorem dX6_become_14 : decode cX6_become 14 = .ok (.aload_n 0, 1) := by decide +kernel
theorem dX6_become_15 : decode cX6_become 15 = .ok (.aload_n 1, 1) := by decide +kernel
theorem dX6_become_16 : decode cX6_become 16 = .ok (.iload_n 2, 1) := by decide +kernel
theorem dX6_become_17 : decode cX6_become 17 = .ok (.invokevirtual 32, 3) := by decide +kernel
theorem dX6_become_20 : decode cX6_become 20 = .ok (.invokevirtual 36, 3) := by decide +kernel
theorem dX6_become_23 : decode cX6_become 23 = .ok (.pop, 1) := by decide +kernel
theorem dX6_become_24 : decode cX6_become 24 = .ok (.iinc 2 1, 3) := by decide +kernel
theorem dX6_become_27 : decode cX6_become 27 = .ok (.goto (-21), 3) := by decide +kernel
theorem dX6_become_30 : decode cX6_become 30 = .ok (.return_, 1) := by decide +kernel
theorem dX6_keep_0 : decode cX6_keep 0 = .ok (.aload_n 0, 1) := by decide +kernel
theorem dX6_keep_1 : decode cX6_keep 1 = .ok (.aload_n 0, 1) := by decide +kernel
theorem dX6_keep_2 : decode cX6_keep 2 = .ok (.getfield 21, 3) := by decide +kernel
theorem dX6_keep_5 : decode cX6_keep 5 = .ok (.putfield 40, 3) := by decide +kernel
theorem dX6_keep_8 : decode cX6_keep 8 = .ok (.return_, 1) := by decide +kernel
theorem dX6_goBack_0 : decode cX6_goBack 0 = .ok (.aload_n 0, 1) := by decide +kernel
theorem dX6_goBack_1 : decode cX6_goBack 1 = .ok (.aload_n 0, 1) := by decide +kernel
theorem dX6_goBack_2 : decode cX6_goBack 2 = .ok (.getfield 40, 3) := by decide +kernel
theorem dX6_goBack_5 : decode cX6_goBack 5 = .ok (.aload_n 0, 1) := by decide +kernel
theorem dX6_goBack_6 : decode cX6_goBack 6 = .ok (.getfield 21, 3) := by decide +kernel
theorem dX6_goBack_9 : decode cX6_goBack 9 = .ok (.invokestatic 43, 3) := by decide +kernel
theorem dX6_goBack_12 : decode cX6_goBack 12 = .ok (.putfield 21, 3) := by decide +kernel
theorem dX6_goBack_15 : decode cX6_goBack 15 = .ok (.return_, 1) := by decide +kernel
theorem dX7_init_0 : decode cX7_init 0 = .ok (.aload_n 0, 1) := by decide +kernel
theorem dX7_init_1 : decode cX7_init 1 = .ok (.invokespecial 3, 3) := by decide +kernel
theorem dX7_init_4 : decode cX7_init 4 = .ok (.aload_n 0, 1) := by decide +kernel
theorem dX7_init_5 : decode cX7_init 5 = .ok (.new 9, 3) := by decide +kernel
theorem dX7_init_8 : decode cX7_init 8 = .ok (.dup, 1) := by decide +kernel
theorem dX7_init_9 : decode cX7_init 9 = .ok (.invokespecial 11, 3) := by decide +kernel
theorem dX7_init_12 : decode cX7_init 12 = .ok (.putfield 12, 3) := by decide +kernel
theorem dX7_init_15 : decode cX7_init 15 = .ok (.aload_n 0, 1) := by decide +kernel
theorem dX7_init_16 : decode cX7_init 16 = .ok (.new 18, 3) := by decide +kernel
theorem dX7_init_19 : decode cX7_init 19 = .ok (.dup, 1) := by decide +kernel
theorem dX7_init_20 : decode cX7_init 20 = .ok (.invokespecial 20, 3) := by decide +kernel
theorem dX7_init_23 : decode cX7_init 23 = .ok (.putfield 21, 3) := by decide +kernel
theorem dX7_init_26 : decode cX7_init 26 = .ok (.aload_n 0, 1) := by decide +kernel
theorem dX7_init_27 : decode cX7_init 27 = .ok (.new 25, 3) := by decide +kernel
theorem dX7_init_30 : decode cX7_init 30 = .ok (.dup, 1) := by decide +kernel
theorem dX7_init_31 : decode cX7_init 31 = .ok (.invokespecial 27, 3) := by decide +kernel
theorem dX7_init_34 : decode cX7_init 34 = .ok (.putfield 28, 3) := by decide +kernel
theorem dX7_init_37 : decode cX7_init 37 = .ok (.aload_n 0, 1) := by decide +kernel
theorem dX7_init_38 : decode cX7_init 38 = .ok (.new 32, 3) := by decide +kernel
theorem dX7_init_41 : decode cX7_init 41 = .ok (.dup, 1) := by decide +kernel
theorem dX7_init_42 : decode cX7_init 42 = .ok (.invokespecial 34, 3) := by decide +kernel
theorem dX7_init_45 : decode cX7_init 45 = .ok (.putfield 35, 3) := by decide +kernel
theorem dX7_init_48 : decode cX7_init 48 = .ok (.aload_n 0, 1) := by decide +kernel
theorem dX7_init_49 : decode cX7_init 49 = .ok (.iconst 4, 1) := by decide +kernel
theorem dX7_init_50 : decode cX7_init 50 = .ok (.newarray .int, 2) := by decide +kernel
theorem dX7_init_52 : decode cX7_init 52 = .ok (.putfield 39, 3) := by decide +kernel
theorem dX7_init_55 : decode cX7_init 55 = .ok (.aload_n 0, 1) := by decide +kernel
theorem dX7_init_56 : decode cX7_init 56 = .ok (.bipush 8, 2) := by decide +kernel
theorem dX7_init_58 : decode cX7_init 58 = .ok (.newarray .int, 2) := by decide +kernel
theorem dX7_init_60 : decode cX7_init 60 = .ok (.putfield 43, 3) := by decide +kernel
theorem dX7_init_63 : decode cX7_init 63 = .ok (.return_, 1) := by decide +kernel
theorem dX7_go_0 : decode cX7_go 0 = .ok (.aload_n 0, 1) := by decide +kernel
theorem dX7_go_1 : decode cX7_go 1 = .ok (.iload_n 1, 1) := by decide +kernel
theorem dX7_go_2 : decode cX7_go 2 = .ok (.iload_n 2, 1) := by decide +kernel
theorem dX7_go_3 : decode cX7_go 3 = .ok (.invokevirtual 46, 3) := by decide +kernel
theorem dX7_go_6 : decode cX7_go 6 = .ok (.aload_n 0, 1) := by decide +kernel
theorem dX7_go_7 : decode cX7_go 7 = .ok (.getfield 21, 3) := by decide +kernel
theorem dX7_go_10 : decode cX7_go 10 = .ok (.invokevirtual 50, 3) := by decide +kernel
theorem dX7_go_13 : decode cX7_go 13 = .ok (.istore_n 3, 1) := by decide +kernel
theorem dX7_go_14 : decode cX7_go 14 = .ok (.iconst 0, 1) := by decide +kernel
theorem dX7_go_15 : decode cX7_go 15 = .ok (.istore 4, 2) := by decide +kernel
theorem dX7_go_17 : decode cX7_go 17 = .ok (.aload_n 0, 1) := by decide +kernel
theorem dX7_go_18 : decode cX7_go 18 = .ok (.getfield 21, 3) := by decide +kernel
theorem dX7_go_21 : decode cX7_go 21 = .ok (.invokevirtual 54, 3) := by decide +kernel
theorem dX7_go_24 : decode cX7_go 24 = .ok (.ifCond .le 7, 3) := by decide +kernel
theorem dX7_go_27 : decode cX7_go 27 = .ok (.iload_n 3, 1) := by decide +kernel
theorem dX7_go_28 : decode cX7_go 28 = .ok (.goto 4, 3) := by decide +kernel
theorem dX7_go_31 : decode cX7_go 31 = .ok (.iconst 0, 1) := by decide +kernel
theorem dX7_go_32 : decode cX7_go 32 = .ok (.istore 5, 2) := by decide +kernel
theorem dX7_go_34 : decode cX7_go 34 = .ok (.iconst 0, 1) := by decide +kernel
theorem dX7_go_35 : decode cX7_go 35 = .ok (.istore 6, 2) := by decide +kernel
theorem dX7_go_37 : decode cX7_go 37 = .ok (.iload 6, 2) := by decide +kernel
theorem dX7_go_39 : decode cX7_go 39 = .ok (.bipush 40, 2) := by decide +kernel
theorem dX7_go_41 : decode cX7_go 41 = .ok (.if_icmp .ge 44, 3) := by decide +kernel
theorem dX7_go_44 : decode cX7_go 44 = .ok (.aload_n 0, 1) := by decide +kernel
theorem dX7_go_45 : decode cX7_go 45 = .ok (.getfield 57, 3) := by decide +kernel
theorem dX7_go_48 : decode cX7_go 48 = .ok (.ifCond .ne 37, 3) := by decide +kernel
theorem dX7_go_51 : decode cX7_go 51 = .ok (.iload 4, 2) := by decide +kernel
theorem dX7_go_53 : decode cX7_go 53 = .ok (.iload 5, 2) := by decide +kernel
theorem dX7_go_55 : decode cX7_go 55 = .ok (.if_icmp .ge 30, 3) := by decide +kernel
theorem dX7_go_58 : decode cX7_go 58 = .ok (.aload_n 0, 1) := by decide +kernel
theorem dX7_go_59 : decode cX7_go 59 = .ok (.iload 4, 2) := by decide +kernel
theorem dX7_go_61 : decode cX7_go 61 = .ok (.iload 5, 2) := by decide +kernel
theorem dX7_go_63 : decode cX7_go 63 = .ok (.invokevirtual 61, 3) := by decide +kernel
theorem dX7_go_66 : decode cX7_go 66 = .ok (.iload 5, 2) := by decide +kernel
theorem dX7_go_68 : decode cX7_go 68 = .ok (.istore 4, 2) := by decide +kernel
theorem dX7_go_70 : decode cX7_go 70 = .ok (.aload_n 0, 1) := by decide +kernel
theorem dX7_go_71 : decode cX7_go 71 = .ok (.getfield 21, 3) := by decide +kernel
theorem dX7_go_74 : decode cX7_go 74 = .ok (.invokevirtual 50, 3) := by decide +kernel
theorem dX7_go_77 : decode cX7_go 77 = .ok (.istore 5, 2) := by decide +kernel
theorem dX7_go_79 : decode cX7_go 79 = .ok (.iinc 6 1, 3) := by decide +kernel
theorem dX7_go_82 : decode cX7_go 82 = .ok (.goto (-45), 3) := by decide +kernel
theorem dX7_go_85 : decode cX7_go 85 = .ok (.aload_n 0, 1) := by decide +kernel
theorem dX7_go_86 : decode cX7_go 86 = .ok (.getfield 21, 3) := by decide +kernel
theorem dX7_go_89 : decode cX7_go 89 = .ok (.invokevirtual 50, 3) := by decide +kernel
theorem dX7_go_92 : decode cX7_go 92 = .ok (.istore 6, 2) := by decide +kernel
theorem dX7_go_94 : decode cX7_go 94 = .ok (.aload_n 0, 1) := by decide +kernel
theorem dX7_go_95 : decode cX7_go 95 = .ok (.getfield 57, 3) := by decide +kernel
theorem dX7_go_98 : decode cX7_go 98 = .ok (.ifCond .ne 14, 3) := by decide +kernel
theorem dX7_go_101 : decode cX7_go 101 = .ok (.aload_n 0, 1) := by decide +kernel
theorem dX7_go_102 : decode cX7_go 102 = .ok (.getfield 65, 3) := by decide +kernel
theorem dX7_go_105 : decode cX7_go 105 = .ok (.ifCond .le 7, 3) := by decide +kernel
theorem dX7_go_108 : decode cX7_go 108 = .ok (.aload_n 0, 1) := by decide +kernel
theorem dX7_go_109 : decode cX7_go 109 = .ok (.invokevirtual 68, 3) := by decide +kernel
theorem dX7_go_112 : decode cX7_go 112 = .ok (.aload_n 0, 1) := by decide +kernel
theorem dX7_go_113 : decode cX7_go 113 = .ok (.getfield 57, 3) := by decide +kernel
theorem dX7_go_116 : decode cX7_go 116 = .ok (.ifCond .eq 13, 3) := by decide +kernel
theorem dX7_go_119 : decode cX7_go 119 = .ok (.aload_n 0, 1) := by decide +kernel
theorem dX7_go_120 : decode cX7_go 120 = .ok (.iload_n 3, 1) := by decide +kernel
theorem dX7_go_121 : decode cX7_go 121 = .ok (.invokevirtual 71, 3) := by decide +kernel
theorem dX7_go_124 : decode cX7_go 124 = .ok (.aload_n 0, 1) := by decide +kernel
theorem dX7_go_125 : decode cX7_go 125 = .ok (.getfield 57, 3) := by decide +kernel
theorem dX7_go_128 : decode cX7_go 128 = .ok (.ireturn, 1) := by decide +kernel
theorem dX7_go_129 : decode cX7_go 129 = .ok (.aload_n 0, 1) := by decide +kernel
theorem dX7_go_130 : decode cX7_go 130 = .ok (.getfield 21, 3) := by decide +kernel
theorem dX7_go_133 : decode cX7_go 133 = .ok (.iload 6, 2) := by decide +kernel
theorem dX7_go_135 : decode cX7_go 135 = .ok (.invokevirtual 75, 3) := by decide +kernel
theorem dX7_go_138 : decode cX7_go 138 = .ok (.aload_n 0, 1) := by decide +kernel
theorem dX7_go_139 : decode cX7_go 139 = .ok (.aload_n 0, 1) := by decide +kernel
theorem dX7_go_140 : decode cX7_go 140 = .ok (.getfield 21, 3) := by decide +kernel
theorem dX7_go_143 : decode cX7_go 143 = .ok (.invokevirtual 50, 3) := by decide +kernel
theorem dX7_go_146 : decode cX7_go 146 = .ok (.iload_n 3, 1) := by decide +kernel
theorem dX7_go_147 : decode cX7_go 147 = .ok (.isub, 1) := by decide +kernel
theorem dX7_go_148 : decode cX7_go 148 = .ok (.putfield 78, 3) := by decide +kernel
theorem dX7_go_151 : decode cX7_go 151 = .ok (.aload_n 0, 1) := by decide +kernel
theorem dX7_go_152 : decode cX7_go 152 = .ok (.getfield 65, 3) := by decide +kernel
theorem dX7_go_155 : decode cX7_go 155 = .ok (.ireturn, 1) := by decide +kernel
theorem dX7_begin_0 : decode cX7_begin 0 = .ok (.aload_n 0, 1) := by decide +kernel
theorem dX7_begin_1 : decode cX7_begin 1 = .ok (.iload_n 1, 1) := by decide +kernel
theorem dX7_begin_2 : decode cX7_begin 2 = .ok (.putfield 81, 3) := by decide +kernel
theorem dX7_begin_5 : decode cX7_begin 5 = .ok (.aload_n 0, 1) := by decide +kernel
theorem dX7_begin_6 : decode cX7_begin 6 = .ok (.iload_n 2, 1) := by decide +kernel
theorem dX7_begin_7 : decode cX7_begin 7 = .ok (.putfield 84, 3) := by decide +kernel
theorem dX7_begin_10 : decode cX7_begin 10 = .ok (.aload_n 0, 1) := by decide +kernel
theorem dX7_begin_11 : decode cX7_begin 11 = .ok (.iconst 0, 1) := by decide +kernel
theorem dX7_begin_12 : decode cX7_begin 12 = .ok (.putfield 57, 3) := by decide +kernel
theorem dX7_begin_15 : decode cX7_begin 15 = .ok (.aload_n 0, 1) := by decide +kernel
theorem dX7_begin_16 : decode cX7_begin 16 = .ok (.iconst 0, 1) := by decide +kernel
theorem dX7_begin_17 : decode cX7_begin 17 = .ok (.putfield 88, 3) := by decide +kernel
theorem dX7_begin_20 : decode cX7_begin 20 = .ok (.aload_n 0, 1) := by decide +kernel
theorem dX7_begin_21 : decode cX7_begin 21 = .ok (.iconst 0, 1) := by decide +kernel
theorem dX7_begin_22 : decode cX7_begin 22 = .ok (.putfield 65, 3) := by decide +kernel
theorem dX7_begin_25 : decode cX7_begin 25 = .ok (.aload_n 0, 1) := by decide +kernel
theorem dX7_begin_26 : decode cX7_begin 26 = .ok (.iconst 0, 1) := by decide +kernel
theorem dX7_begin_27 : decode cX7_begin 27 = .ok (.putfield 78, 3) := by decide +kernel
theorem dX7_begin_30 : decode cX7_begin 30 = .ok (.aload_n 0, 1) := by decide +kernel
theorem dX7_begin_31 : decode cX7_begin 31 = .ok (.getfield 12, 3) := by decide +kernel
theorem dX7_begin_34 : decode cX7_begin 34 = .ok (.invokevirtual 91, 3) := by decide +kernel
theorem dX7_begin_37 : decode cX7_begin 37 = .ok (.aload_n 0, 1) := by decide +kernel
theorem dX7_begin_38 : decode cX7_begin 38 = .ok (.getfield 35, 3) := by decide +kernel
theorem dX7_begin_41 : decode cX7_begin 41 = .ok (.invokevirtual 94, 3) := by decide +kernel
theorem dX7_begin_44 : decode cX7_begin 44 = .ok (.return_, 1) := by decide +kernel
theorem dX7_goBack_0 : decode cX7_goBack 0 = .ok (.aload_n 0, 1) := by decide +kernel
theorem dX7_goBack_1 : decode cX7_goBack 1 = .ok (.getfield 21, 3) := by decide +kernel
theorem dX7_goBack_4 : decode cX7_goBack 4 = .ok (.iload_n 1, 1) := by decide +kernel
theorem dX7_goBack_5 : decode cX7_goBack 5 = .ok (.invokevirtual 97, 3) := by decide +kernel
theorem dX7_goBack_8 : decode cX7_goBack 8 = .ok (.aload_n 0, 1) := by decide +kernel
theorem dX7_goBack_9 : decode cX7_goBack 9 = .ok (.getfield 12, 3) := by decide +kernel
theorem dX7_goBack_12 : decode cX7_goBack 12 = .ok (.invokevirtual 100, 3) := by decide +kernel
theorem dX7_goBack_15 : decode cX7_goBack 15 = .ok (.aload_n 0, 1) := by decide +kernel
theorem dX7_goBack_16 : decode cX7_goBack 16 = .ok (.getfield 35, 3) := by decide +kernel
theorem dX7_goBack_19 : decode cX7_goBack 19 = .ok (.invokevirtual 102, 3) := by decide +kernel
theorem dX7_goBack_22 : decode cX7_goBack 22 = .ok (.return_, 1) := by decide +kernel
theorem dX7_makeRound_0 : decode cX7_makeRound 0 = .ok (.aload_n 0, 1) := by decide +kernel
theorem dX7_makeRound_1 : decode cX7_makeRound 1 = .ok (.dup, 1) := by decide +kernel
theorem dX7_makeRound_2 : decode cX7_makeRound 2 = .ok (.getfield 65, 3) := by decide +kernel
theorem dX7_makeRound_5 : decode cX7_makeRound 5 = .ok (.iconst 1, 1) := by decide +kernel
theorem dX7_makeRound_6 : decode cX7_makeRound 6 = .ok (.iadd, 1) := by decide +kernel
theorem dX7_makeRound_7 : decode cX7_makeRound 7 = .ok (.putfield 65, 3) := by decide +kernel
theorem dX7_makeRound_10 : decode cX7_makeRound 10 = .ok (.aload_n 0, 1) := by decide +kernel
theorem dX7_makeRound_11 : decode cX7_makeRound 11 = .ok (.aload_n 0, 1) := by decide +kernel
theorem dX7_makeRound_12 : decode cX7_makeRound 12 = .ok (.getfield 65, 3) := by decide +kernel
theorem dX7_makeRound_15 : decode cX7_makeRound 15 = .ok (.putfield 103, 3) := by decide +kernel
theorem dX7_makeRound_18 : decode cX7_makeRound 18 = .ok (.iconst 0, 1) := by decide +kernel
theorem dX7_makeRound_19 : decode cX7_makeRound 19 = .ok (.istore_n 3, 1) := by decide +kernel
theorem dX7_makeRound_20 : decode cX7_makeRound 20 = .ok (.iload_n 3, 1) := by decide +kernel
theorem dX7_makeRound_21 : decode cX7_makeRound 21 = .ok (.aload_n 0, 1) := by decide +kernel
theorem dX7_makeRound_22 : decode cX7_makeRound 22 = .ok (.getfield 43, 3) := by decide +kernel
theorem dX7_makeRound_25 : decode cX7_makeRound 25 = .ok (.arraylength, 1) := by decide +kernel
theorem dX7_makeRound_26 : decode cX7_makeRound 26 = .ok (.if_icmp .ge 16, 3) := by decide +kernel
theorem dX7_makeRound_29 : decode cX7_makeRound 29 = .ok (.aload_n 0, 1) := by decide +kernel
theorem dX7_makeRound_30 : decode cX7_makeRound 30 = .ok (.getfield 43, 3) := by decide +kernel
theorem dX7_makeRound_33 : decode cX7_makeRound 33 = .ok (.iload_n 3, 1) := by decide +kernel
theorem dX7_makeRound_34 : decode cX7_makeRound 34 = .ok (.iconst (-1), 1) := by decide +kernel
theorem dX7_makeRound_35 : decode cX7_makeRound 35 = .ok (.iastore, 1) := by decide +kernel
theorem dX7_makeRound_36 : decode cX7_makeRound 36 = .ok (.iinc 3 1, 3) := by decide +kernel
theorem dX7_makeRound_39 : decode cX7_makeRound 39 = .ok (.goto (-19), 3) := by decide +kernel
theorem dX7_makeRound_42 : decode cX7_makeRound 42 = .ok (.iconst 0, 1) := by decide +kernel
theorem dX7_makeRound_43 : decode cX7_makeRound 43 = .ok (.istore_n 3, 1) := by decide +kernel
theorem dX7_makeRound_44 : decode cX7_makeRound 44 = .ok (.iload_n 3, 1) := by decide +kernel
theorem dX7_makeRound_45 : decode cX7_makeRound 45 = .ok (.aload_n 0, 1) := by decide +kernel
theorem dX7_makeRound_46 : decode cX7_makeRound 46 = .ok (.getfield 12, 3) := by decide +kernel
theorem dX7_makeRound_49 : decode cX7_makeRound 49 = .ok (.invokevirtual 106, 3) := by decide +kernel
theorem dX7_makeRound_52 : decode cX7_makeRound 52 = .ok (.if_icmp .ge 43, 3) := by decide +kernel
theorem dX7_makeRound_55 : decode cX7_makeRound 55 = .ok (.iload_n 1, 1) := by decide +kernel
theorem dX7_makeRound_56 : decode cX7_makeRound 56 = .ok (.istore 4, 2) := by decide +kernel
theorem dX7_makeRound_58 : decode cX7_makeRound 58 = .ok (.iload 4, 2) := by decide +kernel
theorem dX7_makeRound_60 : decode cX7_makeRound 60 = .ok (.iload_n 2, 1) := by decide +kernel
theorem dX7_makeRound_61 : decode cX7_makeRound 61 = .ok (.if_icmp .ge 28, 3) := by decide +kernel
theorem dX7_makeRound_64 : decode cX7_makeRound 64 = .ok (.aload_n 0, 1) := by decide +kernel
theorem dX7_makeRound_65 : decode cX7_makeRound 65 = .ok (.getfield 21, 3) := by decide +kernel
theorem dX7_makeRound_68 : decode cX7_makeRound 68 = .ok (.iload 4, 2) := by decide +kernel
theorem dX7_makeRound_70 : decode cX7_makeRound 70 = .ok (.invokevirtual 107, 3) := by decide +kernel
theorem dX7_makeRound_73 : decode cX7_makeRound 73 = .ok (.ifCond .eq 10, 3) := by decide +kernel
theorem dX7_makeRound_76 : decode cX7_makeRound 76 = .ok (.aload_n 0, 1) := by decide +kernel
theorem dX7_makeRound_77 : decode cX7_makeRound 77 = .ok (.iload_n 3, 1) := by decide +kernel
theorem dX7_makeRound_78 : decode cX7_makeRound 78 = .ok (.iload 4, 2) := by decide +kernel
theorem dX7_makeRound_80 : decode cX7_makeRound 80 = .ok (.invokevirtual 111, 3) := by decide +kernel
theorem dX7_makeRound_83 : decode cX7_makeRound 83 = .ok (.iinc 4 1, 3) := by decide +kernel
theorem dX7_makeRound_86 : decode cX7_makeRound 86 = .ok (.goto (-28), 3) := by decide +kernel
theorem dX7_makeRound_89 : decode cX7_makeRound 89 = .ok (.iinc 3 1, 3) := by decide +kernel
theorem dX7_makeRound_92 : decode cX7_makeRound 92 = .ok (.goto (-48), 3) := by decide +kernel
theorem dX7_makeRound_95 : decode cX7_makeRound 95 = .ok (.return_, 1) := by decide +kernel
theorem dX7_makeEnd_0 : decode cX7_makeEnd 0 = .ok (.aload_n 0, 1) := by decide +kernel
theorem dX7_makeEnd_1 : decode cX7_makeEnd 1 = .ok (.aload_n 0, 1) := by decide +kernel
theorem dX7_makeEnd_2 : decode cX7_makeEnd 2 = .ok (.getfield 65, 3) := by decide +kernel
theorem dX7_makeEnd_5 : decode cX7_makeEnd 5 = .ok (.iconst 1, 1) := by decide +kernel
theorem dX7_makeEnd_6 : decode cX7_makeEnd 6 = .ok (.iadd, 1) := by decide +kernel
theorem dX7_makeEnd_7 : decode cX7_makeEnd 7 = .ok (.putfield 103, 3) := by decide +kernel
theorem dX7_makeEnd_10 : decode cX7_makeEnd 10 = .ok (.iconst 0, 1) := by decide +kernel
theorem dX7_makeEnd_11 : decode cX7_makeEnd 11 = .ok (.istore_n 1, 1) := by decide +kernel
theorem dX7_makeEnd_12 : decode cX7_makeEnd 12 = .ok (.iload_n 1, 1) := by decide +kernel
theorem dX7_makeEnd_13 : decode cX7_makeEnd 13 = .ok (.aload_n 0, 1) := by decide +kernel
theorem dX7_makeEnd_14 : decode cX7_makeEnd 14 = .ok (.getfield 12, 3) := by decide +kernel
theorem dX7_makeEnd_17 : decode cX7_makeEnd 17 = .ok (.invokevirtual 106, 3) := by decide +kernel
theorem dX7_makeEnd_20 : decode cX7_makeEnd 20 = .ok (.if_icmp .ge 15, 3) := by decide +kernel
theorem dX7_makeEnd_23 : decode cX7_makeEnd 23 = .ok (.aload_n 0, 1) := by decide +kernel
theorem dX7_makeEnd_24 : decode cX7_makeEnd 24 = .ok (.iload_n 1, 1) := by decide +kernel
theorem dX7_makeEnd_25 : decode cX7_makeEnd 25 = .ok (.iconst (-1), 1) := by decide +kernel
theorem dX7_makeEnd_26 : decode cX7_makeEnd 26 = .ok (.invokevirtual 111, 3) := by decide +kernel
theorem dX7_makeEnd_29 : decode cX7_makeEnd 29 = .ok (.iinc 1 1, 3) := by decide +kernel
theorem dX7_makeEnd_32 : decode cX7_makeEnd 32 = .ok (.goto (-20), 3) := by decide +kernel
theorem dX7_makeEnd_35 : decode cX7_makeEnd 35 = .ok (.return_, 1) := by decide +kernel
theorem dX7_doRules_0 : decode cX7_doRules 0 = .ok (.aload_n 0, 1) := by decide +kernel
theorem dX7_doRules_1 : decode cX7_doRules 1 = .ok (.getfield 12, 3) := by decide +kernel
theorem dX7_doRules_4 : decode cX7_doRules 4 = .ok (.iload_n 1, 1) := by decide +kernel
theorem dX7_doRules_5 : decode cX7_doRules 5 = .ok (.invokevirtual 114, 3) := by decide +kernel
theorem dX7_doRules_8 : decode cX7_doRules 8 = .ok (.astore_n 3, 1) := by decide +kernel
theorem dX7_doRules_9 : decode cX7_doRules 9 = .ok (.aload_n 3, 1) := by decide +kernel
theorem dX7_doRules_10 : decode cX7_doRules 10 = .ok (.ifnonnull 4, 3) := by decide +kernel
theorem dX7_doRules_13 : decode cX7_doRules 13 = .ok (.return_, 1) := by decide +kernel
theorem dX7_doRules_14 : decode cX7_doRules 14 = .ok (.aload_n 0, 1) := by decide +kernel
theorem dX7_doRules_15 : decode cX7_doRules 15 = .ok (.iload_n 1, 1) := by decide +kernel
theorem dX7_doRules_16 : decode cX7_doRules 16 = .ok (.putfield 118, 3) := by decide +kernel
theorem dX7_doRules_19 : decode cX7_doRules 19 = .ok (.aload_n 0, 1) := by decide +kernel
theorem dX7_doRules_20 : decode cX7_doRules 20 = .ok (.iload_n 2, 1) := by decide +kernel
theorem dX7_doRules_21 : decode cX7_doRules 21 = .ok (.putfield 121, 3) := by decide +kernel
theorem dX7_doRules_24 : decode cX7_doRules 24 = .ok (.iconst 0, 1) := by decide +kernel
theorem dX7_doRules_25 : decode cX7_doRules 25 = .ok (.istore 4, 2) := by decide +kernel
theorem dX7_doRules_27 : decode cX7_doRules 27 = .ok (.iconst 0, 1) := by decide +kernel
theorem dX7_doRules_28 : decode cX7_doRules 28 = .ok (.istore 5, 2) := by decide +kernel
theorem dX7_doRules_30 : decode cX7_doRules 30 = .ok (.iload 5, 2) := by decide +kernel
theorem dX7_doRules_32 : decode cX7_doRules 32 = .ok (.aload_n 3, 1) := by decide +kernel
theorem dX7_doRules_33 : decode cX7_doRules 33 = .ok (.getfield 124, 3) := by decide +kernel
theorem dX7_doRules_36 : decode cX7_doRules 36 = .ok (.if_icmp .ge 57, 3) := by decide +kernel
theorem dX7_doRules_39 : decode cX7_doRules 39 = .ok (.aload_n 0, 1) := by decide +kernel
theorem dX7_doRules_40 : decode cX7_doRules 40 = .ok (.getfield 57, 3) := by decide +kernel
theorem dX7_doRules_43 : decode cX7_doRules 43 = .ok (.ifCond .ne 50, 3) := by decide +kernel
theorem dX7_doRules_46 : decode cX7_doRules 46 = .ok (.aload_n 3, 1) := by decide +kernel
theorem dX7_doRules_47 : decode cX7_doRules 47 = .ok (.getfield 129, 3) := by decide +kernel
theorem dX7_doRules_50 : decode cX7_doRules 50 = .ok (.ifCond .ne 43, 3) := by decide +kernel
theorem dX7_doRules_53 : decode cX7_doRules 53 = .ok (.iload 5, 2) := by decide +kernel
theorem dX7_doRules_55 : decode cX7_doRules 55 = .ok (.iload 4, 2) := by decide +kernel
theorem dX7_doRules_57 : decode cX7_doRules 57 = .ok (.if_icmp .lt 30, 3) := by decide +kernel
theorem dX7_doRules_60 : decode cX7_doRules 60 = .ok (.aload_n 0, 1) := by decide +kernel
theorem dX7_doRules_61 : decode cX7_doRules 61 = .ok (.aload_n 3, 1) := by decide +kernel
theorem dX7_doRules_62 : decode cX7_doRules 62 = .ok (.iload 5, 2) := by decide +kernel
theorem dX7_doRules_64 : decode cX7_doRules 64 = .ok (.invokevirtual 132, 3) := by decide +kernel
theorem dX7_doRules_67 : decode cX7_doRules 67 = .ok (.invokevirtual 136, 3) := by decide +kernel
theorem dX7_doRules_70 : decode cX7_doRules 70 = .ok (.ifCond .eq 17, 3) := by decide +kernel
theorem dX7_doRules_73 : decode cX7_doRules 73 = .ok (.iload 5, 2) := by decide +kernel
theorem dX7_doRules_75 : decode cX7_doRules 75 = .ok (.iconst 1, 1) := by decide +kernel
theorem dX7_doRules_76 : decode cX7_doRules 76 = .ok (.iadd, 1) := by decide +kernel
theorem dX7_doRules_77 : decode cX7_doRules 77 = .ok (.aload_n 0, 1) := by decide +kernel
theorem dX7_doRules_78 : decode cX7_doRules 78 = .ok (.aload_n 3, 1) := by decide +kernel
theorem dX7_doRules_79 : decode cX7_doRules 79 = .ok (.iload 5, 2) := by decide +kernel
theorem dX7_doRules_81 : decode cX7_doRules 81 = .ok (.invokevirtual 139, 3) := by decide +kernel
theorem dX7_doRules_84 : decode cX7_doRules 84 = .ok (.iadd, 1) := by decide +kernel
theorem dX7_doRules_85 : decode cX7_doRules 85 = .ok (.istore 4, 2) := by decide +kernel
theorem dX7_doRules_87 : decode cX7_doRules 87 = .ok (.iinc 5 1, 3) := by decide +kernel
theorem dX7_doRules_90 : decode cX7_doRules 90 = .ok (.goto (-60), 3) := by decide +kernel
theorem dX7_doRules_93 : decode cX7_doRules 93 = .ok (.return_, 1) := by decide +kernel
theorem dX7_isDue_0 : decode cX7_isDue 0 = .ok (.aload_n 0, 1) := by decide +kernel
theorem dX7_isDue_1 : decode cX7_isDue 1 = .ok (.getfield 121, 3) := by decide +kernel
theorem dX7_isDue_4 : decode cX7_isDue 4 = .ok (.iconst (-1), 1) := by decide +kernel
theorem dX7_isDue_5 : decode cX7_isDue 5 = .ok (.if_icmp .ne 15, 3) := by decide +kernel
theorem dX7_isDue_8 : decode cX7_isDue 8 = .ok (.iload_n 1, 1) := by decide +kernel
theorem dX7_isDue_9 : decode cX7_isDue 9 = .ok (.bipush 15, 2) := by decide +kernel
theorem dX7_isDue_11 : decode cX7_isDue 11 = .ok (.if_icmp .ne 7, 3) := by decide +kernel
theorem dX7_isDue_14 : decode cX7_isDue 14 = .ok (.iconst 1, 1) := by decide +kernel
theorem dX7_isDue_15 : decode cX7_isDue 15 = .ok (.goto 4, 3) := by decide +kernel
theorem dX7_isDue_18 : decode cX7_isDue 18 = .ok (.iconst 0, 1) := by decide +kernel
theorem dX7_isDue_19 : decode cX7_isDue 19 = .ok (.ireturn, 1) := by decide +kernel
theorem dX7_isDue_20 : decode cX7_isDue 20 = .ok (.iload_n 1, 1) := by decide +kernel
theorem dX7_isDue_21 : decode cX7_isDue 21 = .ok (.ifCond .lt 12, 3) := by decide +kernel
theorem dX7_isDue_24 : decode cX7_isDue 24 = .ok (.iload_n 1, 1) := by decide +kernel
theorem dX7_isDue_25 : decode cX7_isDue 25 = .ok (.aload_n 0, 1) := by decide +kernel
theorem dX7_isDue_26 : decode cX7_isDue 26 = .ok (.getfield 43, 3) := by decide +kernel
theorem dX7_isDue_29 : decode cX7_isDue 29 = .ok (.arraylength, 1) := by decide +kernel
theorem dX7_isDue_30 : decode cX7_isDue 30 = .ok (.if_icmp .lt 5, 3) := by decide +kernel
theorem dX7_isDue_33 : decode cX7_isDue 33 = .ok (.iconst 0, 1) := by decide +kernel
theorem dX7_isDue_34 : decode cX7_isDue 34 = .ok (.ireturn, 1) := by decide +kernel
theorem dX7_isDue_35 : decode cX7_isDue 35 = .ok (.aload_n 0, 1) := by decide +kernel
theorem dX7_isDue_36 : decode cX7_isDue 36 = .ok (.getfield 43, 3) := by decide +kernel
theorem dX7_isDue_39 : decode cX7_isDue 39 = .ok (.iload_n 1, 1) := by decide +kernel
theorem dX7_isDue_40 : decode cX7_isDue 40 = .ok (.iaload, 1) := by decide +kernel
theorem dX7_isDue_41 : decode cX7_isDue 41 = .ok (.iconst (-1), 1) := by decide +kernel
theorem dX7_isDue_42 : decode cX7_isDue 42 = .ok (.if_icmp .eq 16, 3) := by decide +kernel
theorem dX7_isDue_45 : decode cX7_isDue 45 = .ok (.aload_n 0, 1) := by decide +kernel
theorem dX7_isDue_46 : decode cX7_isDue 46 = .ok (.getfield 43, 3) := by decide +kernel
theorem dX7_isDue_49 : decode cX7_isDue 49 = .ok (.iload_n 1, 1) := by decide +kernel
theorem dX7_isDue_50 : decode cX7_isDue 50 = .ok (.iaload, 1) := by decide +kernel
theorem dX7_isDue_51 : decode cX7_isDue 51 = .ok (.aload_n 0, 1) := by decide +kernel
theorem dX7_isDue_52 : decode cX7_isDue 52 = .ok (.getfield 118, 3) := by decide +kernel
theorem dX7_isDue_55 : decode cX7_isDue 55 = .ok (.if_icmp .ne 7, 3) := by decide +kernel
theorem dX7_isDue_58 : decode cX7_isDue 58 = .ok (.iconst 1, 1) := by decide +kernel
theorem dX7_isDue_59 : decode cX7_isDue 59 = .ok (.goto 4, 3) := by decide +kernel
theorem dX7_isDue_62 : decode cX7_isDue 62 = .ok (.iconst 0, 1) := by decide +kernel
theorem dX7_isDue_63 : decode cX7_isDue 63 = .ok (.istore_n 2, 1) := by decide +kernel
theorem dX7_isDue_64 : decode cX7_isDue 64 = .ok (.iload_n 2, 1) := by decide +kernel
theorem dX7_isDue_65 : decode cX7_isDue 65 = .ok (.ifCond .eq 26, 3) := by decide +kernel
theorem dX7_isDue_68 : decode cX7_isDue 68 = .ok (.aload_n 0, 1) := by decide +kernel
theorem dX7_isDue_69 : decode cX7_isDue 69 = .ok (.getfield 21, 3) := by decide +kernel
theorem dX7_isDue_72 : decode cX7_isDue 72 = .ok (.aload_n 0, 1) := by decide +kernel
theorem dX7_isDue_73 : decode cX7_isDue 73 = .ok (.getfield 121, 3) := by decide +kernel
theorem dX7_isDue_76 : decode cX7_isDue 76 = .ok (.invokevirtual 143, 3) := by decide +kernel
theorem dX7_isDue_79 : decode cX7_isDue 79 = .ok (.iload_n 1, 1) := by decide +kernel
theorem dX7_isDue_80 : decode cX7_isDue 80 = .ok (.ishr, 1) := by decide +kernel
theorem dX7_isDue_81 : decode cX7_isDue 81 = .ok (.iconst 1, 1) := by decide +kernel
theorem dX7_isDue_82 : decode cX7_isDue 82 = .ok (.iand, 1) := by decide +kernel
theorem dX7_isDue_83 : decode cX7_isDue 83 = .ok (.iconst 1, 1) := by decide +kernel
theorem dX7_isDue_84 : decode cX7_isDue 84 = .ok (.if_icmp .ne 7, 3) := by decide +kernel
theorem dX7_isDue_87 : decode cX7_isDue 87 = .ok (.iconst 1, 1) := by decide +kernel
theorem dX7_isDue_88 : decode cX7_isDue 88 = .ok (.goto 4, 3) := by decide +kernel
theorem dX7_isDue_91 : decode cX7_isDue 91 = .ok (.iconst 0, 1) := by decide +kernel
theorem dX7_isDue_92 : decode cX7_isDue 92 = .ok (.ireturn, 1) := by decide +kernel
theorem dX7_doRule_0 : decode cX7_doRule 0 = .ok (.aload_n 0, 1) := by decide +kernel
theorem dX7_doRule_1 : decode cX7_doRule 1 = .ok (.aload_n 1, 1) := by decide +kernel
theorem dX7_doRule_2 : decode cX7_doRule 2 = .ok (.iconst 1, 1) := by decide +kernel
theorem dX7_doRule_3 : decode cX7_doRule 3 = .ok (.invokevirtual 146, 3) := by decide +kernel
theorem dX7_doRule_6 : decode cX7_doRule 6 = .ok (.ifCond .ne 5, 3) := by decide +kernel
theorem dX7_doRule_9 : decode cX7_doRule 9 = .ok (.iconst 0, 1) := by decide +kernel
theorem dX7_doRule_10 : decode cX7_doRule 10 = .ok (.ireturn, 1) := by decide +kernel
theorem dX7_doRule_11 : decode cX7_doRule 11 = .ok (.aload_n 1, 1) := by decide +kernel
theorem dX7_doRule_12 : decode cX7_doRule 12 = .ok (.iload_n 2, 1) := by decide +kernel
theorem dX7_doRule_13 : decode cX7_doRule 13 = .ok (.invokevirtual 150, 3) := by decide +kernel
theorem dX7_doRule_16 : decode cX7_doRule 16 = .ok (.istore_n 3, 1) := by decide +kernel
theorem dX7_doRule_17 : decode cX7_doRule 17 = .ok (.aload_n 1, 1) := by decide +kernel
theorem dX7_doRule_18 : decode cX7_doRule 18 = .ok (.iload_n 2, 1) := by decide +kernel
theorem dX7_doRule_19 : decode cX7_doRule 19 = .ok (.invokevirtual 153, 3) := by decide +kernel
theorem dX7_doRule_22 : decode cX7_doRule 22 = .ok (.istore 4, 2) := by decide +kernel
theorem dX7_doRule_24 : decode cX7_doRule 24 = .ok (.iconst (-1), 1) := by decide +kernel
theorem dX7_doRule_25 : decode cX7_doRule 25 = .ok (.istore 5, 2) := by decide +kernel
theorem dX7_doRule_27 : decode cX7_doRule 27 = .ok (.aload_n 1, 1) := by decide +kernel
theorem dX7_doRule_28 : decode cX7_doRule 28 = .ok (.iload_n 2, 1) := by decide +kernel
theorem dX7_doRule_29 : decode cX7_doRule 29 = .ok (.invokevirtual 156, 3) := by decide +kernel
theorem dX7_doRule_32 : decode cX7_doRule 32 = .ok (.tableswitch 186 0 9 #[56, 68, 80, 87, 116, 127, 140, 147, 159, 174], 56) := by decide +kernel
theorem dX7_doRule_88 : decode cX7_doRule 88 = .ok (.aload_n 0, 1) := by decide +kernel
theorem dX7_doRule_89 : decode cX7_doRule 89 = .ok (.aload_n 1, 1) := by decide +kernel
theorem dX7_doRule_90 : decode cX7_doRule 90 = .ok (.iload_n 2, 1) := by decide +kernel
theorem dX7_doRule_91 : decode cX7_doRule 91 = .ok (.invokevirtual 132, 3) := by decide +kernel
theorem dX7_doRule_94 : decode cX7_doRule 94 = .ok (.invokevirtual 159, 3) := by decide +kernel
theorem dX7_doRule_97 : decode cX7_doRule 97 = .ok (.goto 121, 3) := by decide +kernel
theorem dX7_doRule_100 : decode cX7_doRule 100 = .ok (.aload_n 0, 1) := by decide +kernel
theorem dX7_doRule_101 : decode cX7_doRule 101 = .ok (.iload_n 3, 1) := by decide +kernel
theorem dX7_doRule_102 : decode cX7_doRule 102 = .ok (.iload 4, 2) := by decide +kernel
theorem dX7_doRule_104 : decode cX7_doRule 104 = .ok (.invokevirtual 162, 3) := by decide +kernel
theorem dX7_doRule_107 : decode cX7_doRule 107 = .ok (.istore 5, 2) := by decide +kernel
theorem dX7_doRule_109 : decode cX7_doRule 109 = .ok (.goto 109, 3) := by decide +kernel
theorem dX7_doRule_112 : decode cX7_doRule 112 = .ok (.iload 4, 2) := by decide +kernel
theorem dX7_doRule_114 : decode cX7_doRule 114 = .ok (.istore 5, 2) := by decide +kernel
theorem dX7_doRule_116 : decode cX7_doRule 116 = .ok (.goto 102, 3) := by decide +kernel
theorem dX7_doRule_119 : decode cX7_doRule 119 = .ok (.aload_n 1, 1) := by decide +kernel
theorem dX7_doRule_120 : decode cX7_doRule 120 = .ok (.dup, 1) := by decide +kernel
theorem dX7_doRule_121 : decode cX7_doRule 121 = .ok (.getfield 166, 3) := by decide +kernel
theorem dX7_doRule_124 : decode cX7_doRule 124 = .ok (.iload_n 3, 1) := by decide +kernel
theorem dX7_doRule_125 : decode cX7_doRule 125 = .ok (.bipush 127, 2) := by decide +kernel
theorem dX7_doRule_127 : decode cX7_doRule 127 = .ok (.if_icmp .le 13, 3) := by decide +kernel
theorem dX7_doRule_130 : decode cX7_doRule 130 = .ok (.iload_n 3, 1) := by decide +kernel
theorem dX7_doRule_131 : decode cX7_doRule 131 = .ok (.sipush 255, 3) := by decide +kernel
theorem dX7_doRule_134 : decode cX7_doRule 134 = .ok (.isub, 1) := by decide +kernel
theorem dX7_doRule_135 : decode cX7_doRule 135 = .ok (.iconst 1, 1) := by decide +kernel
theorem dX7_doRule_136 : decode cX7_doRule 136 = .ok (.isub, 1) := by decide +kernel
theorem dX7_doRule_137 : decode cX7_doRule 137 = .ok (.goto 4, 3) := by decide +kernel
theorem dX7_doRule_140 : decode cX7_doRule 140 = .ok (.iload_n 3, 1) := by decide +kernel
theorem dX7_doRule_141 : decode cX7_doRule 141 = .ok (.iadd, 1) := by decide +kernel
theorem dX7_doRule_142 : decode cX7_doRule 142 = .ok (.putfield 166, 3) := by decide +kernel
theorem dX7_doRule_145 : decode cX7_doRule 145 = .ok (.goto 73, 3) := by decide +kernel
theorem dX7_doRule_148 : decode cX7_doRule 148 = .ok (.iconst 5, 1) := by decide +kernel
theorem dX7_doRule_149 : decode cX7_doRule 149 = .ok (.istore 5, 2) := by decide +kernel
theorem dX7_doRule_151 : decode cX7_doRule 151 = .ok (.aload_n 0, 1) := by decide +kernel
theorem dX7_doRule_152 : decode cX7_doRule 152 = .ok (.aload_n 1, 1) := by decide +kernel
theorem dX7_doRule_153 : decode cX7_doRule 153 = .ok (.invokevirtual 169, 3) := by decide +kernel
theorem dX7_doRule_156 : decode cX7_doRule 156 = .ok (.goto 62, 3) := by decide +kernel
theorem dX7_doRule_159 : decode cX7_doRule 159 = .ok (.aload_n 0, 1) := by decide +kernel
theorem dX7_doRule_160 : decode cX7_doRule 160 = .ok (.aload_n 1, 1) := by decide +kernel
theorem dX7_doRule_161 : decode cX7_doRule 161 = .ok (.iload_n 3, 1) := by decide +kernel
theorem dX7_doRule_162 : decode cX7_doRule 162 = .ok (.iload 4, 2) := by decide +kernel
theorem dX7_doRule_164 : decode cX7_doRule 164 = .ok (.imul, 1) := by decide +kernel
theorem dX7_doRule_165 : decode cX7_doRule 165 = .ok (.invokevirtual 146, 3) := by decide +kernel
theorem dX7_doRule_168 : decode cX7_doRule 168 = .ok (.pop, 1) := by decide +kernel
theorem dX7_doRule_169 : decode cX7_doRule 169 = .ok (.goto 49, 3) := by decide +kernel
theorem dX7_doRule_172 : decode cX7_doRule 172 = .ok (.bipush 6, 2) := by decide +kernel
theorem dX7_doRule_174 : decode cX7_doRule 174 = .ok (.istore 5, 2) := by decide +kernel
theorem dX7_doRule_176 : decode cX7_doRule 176 = .ok (.goto 42, 3) := by decide +kernel
theorem dX7_doRule_179 : decode cX7_doRule 179 = .ok (.aload_n 0, 1) := by decide +kernel
theorem dX7_doRule_180 : decode cX7_doRule 180 = .ok (.iload_n 3, 1) := by decide +kernel
theorem dX7_doRule_181 : decode cX7_doRule 181 = .ok (.iload 4, 2) := by decide +kernel
theorem dX7_doRule_183 : decode cX7_doRule 183 = .ok (.invokevirtual 173, 3) := by decide +kernel
theorem dX7_doRule_186 : decode cX7_doRule 186 = .ok (.istore 5, 2) := by decide +kernel
theorem dX7_doRule_188 : decode cX7_doRule 188 = .ok (.goto 30, 3) := by decide +kernel
theorem dX7_doRule_191 : decode cX7_doRule 191 = .ok (.aload_n 1, 1) := by decide +kernel
theorem dX7_doRule_192 : decode cX7_doRule 192 = .ok (.getfield 166, 3) := by decide +kernel
theorem dX7_doRule_195 : decode cX7_doRule 195 = .ok (.iload_n 3, 1) := by decide +kernel
theorem dX7_doRule_196 : decode cX7_doRule 196 = .ok (.if_icmp .lt 8, 3) := by decide +kernel
theorem dX7_doRule_199 : decode cX7_doRule 199 = .ok (.iload 4, 2) := by decide +kernel
theorem dX7_doRule_201 : decode cX7_doRule 201 = .ok (.goto 4, 3) := by decide +kernel
theorem dX7_doRule_204 : decode cX7_doRule 204 = .ok (.iconst 0, 1) := by decide +kernel
theorem dX7_doRule_205 : decode cX7_doRule 205 = .ok (.ireturn, 1) := by decide +kernel
theorem dX7_doRule_206 : decode cX7_doRule 206 = .ok (.aload_n 1, 1) := by decide +kernel
theorem dX7_doRule_207 : decode cX7_doRule 207 = .ok (.aload_n 0, 1) := by decide +kernel
theorem dX7_doRule_208 : decode cX7_doRule 208 = .ok (.iload_n 3, 1) := by decide +kernel
theorem dX7_doRule_209 : decode cX7_doRule 209 = .ok (.invokevirtual 176, 3) := by decide +kernel
theorem dX7_doRule_212 : decode cX7_doRule 212 = .ok (.putfield 166, 3) := by decide +kernel
theorem dX7_doRule_215 : decode cX7_doRule 215 = .ok (.goto 3, 3) := by decide +kernel
theorem dX7_doRule_218 : decode cX7_doRule 218 = .ok (.iload 5, 2) := by decide +kernel
theorem dX7_doRule_220 : decode cX7_doRule 220 = .ok (.iconst (-1), 1) := by decide +kernel
theorem dX7_doRule_221 : decode cX7_doRule 221 = .ok (.if_icmp .eq 32, 3) := by decide +kernel
theorem dX7_doRule_224 : decode cX7_doRule 224 = .ok (.aload_n 0, 1) := by decide +kernel
theorem dX7_doRule_225 : decode cX7_doRule 225 = .ok (.getfield 28, 3) := by decide +kernel
theorem dX7_doRule_228 : decode cX7_doRule 228 = .ok (.iload 5, 2) := by decide +kernel
theorem dX7_doRule_230 : decode cX7_doRule 230 = .ok (.aload_n 0, 1) := by decide +kernel
theorem dX7_doRule_231 : decode cX7_doRule 231 = .ok (.getfield 118, 3) := by decide +kernel
theorem dX7_doRule_234 : decode cX7_doRule 234 = .ok (.aload_n 0, 1) := by decide +kernel
theorem dX7_doRule_235 : decode cX7_doRule 235 = .ok (.getfield 21, 3) := by decide +kernel
theorem dX7_doRule_238 : decode cX7_doRule 238 = .ok (.aload_n 0, 1) := by decide +kernel
theorem dX7_doRule_239 : decode cX7_doRule 239 = .ok (.getfield 121, 3) := by decide +kernel
theorem dX7_doRule_242 : decode cX7_doRule 242 = .ok (.invokevirtual 179, 3) := by decide +kernel
theorem dX7_doRule_245 : decode cX7_doRule 245 = .ok (.iload_n 3, 1) := by decide +kernel
theorem dX7_doRule_246 : decode cX7_doRule 246 = .ok (.aload_n 0, 1) := by decide +kernel
theorem dX7_doRule_247 : decode cX7_doRule 247 = .ok (.getfield 103, 3) := by decide +kernel
theorem dX7_doRule_250 : decode cX7_doRule 250 = .ok (.invokevirtual 182, 3) := by decide +kernel
theorem dX7_doRule_253 : decode cX7_doRule 253 = .ok (.iconst 0, 1) := by decide +kernel
theorem dX7_doRule_254 : decode cX7_doRule 254 = .ok (.ireturn, 1) := by decide +kernel
theorem dX7_takeSteps_0 : decode cX7_takeSteps 0 = .ok (.iload_n 2, 1) := by decide +kernel
theorem dX7_takeSteps_1 : decode cX7_takeSteps 1 = .ok (.aload_n 0, 1) := by decide +kernel
theorem dX7_takeSteps_2 : decode cX7_takeSteps 2 = .ok (.getfield 81, 3) := by decide +kernel
theorem dX7_takeSteps_5 : decode cX7_takeSteps 5 = .ok (.aload_n 0, 1) := by decide +kernel
theorem dX7_takeSteps_6 : decode cX7_takeSteps 6 = .ok (.getfield 88, 3) := by decide +kernel
theorem dX7_takeSteps_9 : decode cX7_takeSteps 9 = .ok (.isub, 1) := by decide +kernel
theorem dX7_takeSteps_10 : decode cX7_takeSteps 10 = .ok (.if_icmp .le 11, 3) := by decide +kernel
theorem dX7_takeSteps_13 : decode cX7_takeSteps 13 = .ok (.aload_n 0, 1) := by decide +kernel
theorem dX7_takeSteps_14 : decode cX7_takeSteps 14 = .ok (.bipush (-11), 2) := by decide +kernel
theorem dX7_takeSteps_16 : decode cX7_takeSteps 16 = .ok (.putfield 57, 3) := by decide +kernel
theorem dX7_takeSteps_19 : decode cX7_takeSteps 19 = .ok (.iconst 0, 1) := by decide +kernel
theorem dX7_takeSteps_20 : decode cX7_takeSteps 20 = .ok (.ireturn, 1) := by decide +kernel
theorem dX7_takeSteps_21 : decode cX7_takeSteps 21 = .ok (.aload_n 0, 1) := by decide +kernel
theorem dX7_takeSteps_22 : decode cX7_takeSteps 22 = .ok (.dup, 1) := by decide +kernel
theorem dX7_takeSteps_23 : decode cX7_takeSteps 23 = .ok (.getfield 88, 3) := by decide +kernel
theorem dX7_takeSteps_26 : decode cX7_takeSteps 26 = .ok (.iload_n 2, 1) := by decide +kernel
theorem dX7_takeSteps_27 : decode cX7_takeSteps 27 = .ok (.iadd, 1) := by decide +kernel
theorem dX7_takeSteps_28 : decode cX7_takeSteps 28 = .ok (.putfield 88, 3) := by decide +kernel
theorem dX7_takeSteps_31 : decode cX7_takeSteps 31 = .ok (.aload_n 1, 1) := by decide +kernel
theorem dX7_takeSteps_32 : decode cX7_takeSteps 32 = .ok (.dup, 1) := by decide +kernel
theorem dX7_takeSteps_33 : decode cX7_takeSteps 33 = .ok (.getfield 186, 3) := by decide +kernel
theorem dX7_takeSteps_36 : decode cX7_takeSteps 36 = .ok (.iload_n 2, 1) := by decide +kernel
theorem dX7_takeSteps_37 : decode cX7_takeSteps 37 = .ok (.iadd, 1) := by decide +kernel
theorem dX7_takeSteps_38 : decode cX7_takeSteps 38 = .ok (.putfield 186, 3) := by decide +kernel
theorem dX7_takeSteps_41 : decode cX7_takeSteps 41 = .ok (.iconst 1, 1) := by decide +kernel
theorem dX7_takeSteps_42 : decode cX7_takeSteps 42 = .ok (.ireturn, 1) := by decide +kernel
theorem dX7_claim_0 : decode cX7_claim 0 = .ok (.iload_n 1, 1) := by decide +kernel
theorem dX7_claim_1 : decode cX7_claim 1 = .ok (.ifCond .lt 22, 3) := by decide +kernel
theorem dX7_claim_4 : decode cX7_claim 4 = .ok (.iload_n 1, 1) := by decide +kernel
theorem dX7_claim_5 : decode cX7_claim 5 = .ok (.aload_n 0, 1) := by decide +kernel
theorem dX7_claim_6 : decode cX7_claim 6 = .ok (.getfield 43, 3) := by decide +kernel
theorem dX7_claim_9 : decode cX7_claim 9 = .ok (.arraylength, 1) := by decide +kernel
theorem dX7_claim_10 : decode cX7_claim 10 = .ok (.if_icmp .ge 13, 3) := by decide +kernel
theorem dX7_claim_13 : decode cX7_claim 13 = .ok (.aload_n 0, 1) := by decide +kernel
theorem dX7_claim_14 : decode cX7_claim 14 = .ok (.getfield 43, 3) := by decide +kernel
theorem dX7_claim_17 : decode cX7_claim 17 = .ok (.iload_n 1, 1) := by decide +kernel
theorem dX7_claim_18 : decode cX7_claim 18 = .ok (.aload_n 0, 1) := by decide +kernel
theorem dX7_claim_19 : decode cX7_claim 19 = .ok (.getfield 118, 3) := by decide +kernel
theorem dX7_claim_22 : decode cX7_claim 22 = .ok (.iastore, 1) := by decide +kernel
theorem dX7_claim_23 : decode cX7_claim 23 = .ok (.return_, 1) := by decide +kernel
theorem dX7_make_0 : decode cX7_make 0 = .ok (.aload_n 0, 1) := by decide +kernel
theorem dX7_make_1 : decode cX7_make 1 = .ok (.getfield 21, 3) := by decide +kernel
theorem dX7_make_4 : decode cX7_make 4 = .ok (.iload_n 1, 1) := by decide +kernel
theorem dX7_make_5 : decode cX7_make 5 = .ok (.invokevirtual 187, 3) := by decide +kernel
theorem dX7_make_8 : decode cX7_make 8 = .ok (.ifCond .eq 5, 3) := by decide +kernel
theorem dX7_make_11 : decode cX7_make 11 = .ok (.iconst 3, 1) := by decide +kernel
theorem dX7_make_12 : decode cX7_make 12 = .ok (.ireturn, 1) := by decide +kernel
theorem dX7_make_13 : decode cX7_make 13 = .ok (.aload_n 0, 1) := by decide +kernel
theorem dX7_make_14 : decode cX7_make 14 = .ok (.getfield 21, 3) := by decide +kernel
theorem dX7_make_17 : decode cX7_make 17 = .ok (.invokevirtual 190, 3) := by decide +kernel
theorem dX7_make_20 : decode cX7_make 20 = .ok (.ifCond .eq 5, 3) := by decide +kernel
theorem dX7_make_23 : decode cX7_make 23 = .ok (.iconst 4, 1) := by decide +kernel
theorem dX7_make_24 : decode cX7_make 24 = .ok (.ireturn, 1) := by decide +kernel
theorem dX7_make_25 : decode cX7_make 25 = .ok (.aload_n 0, 1) := by decide +kernel
theorem dX7_make_26 : decode cX7_make 26 = .ok (.getfield 21, 3) := by decide +kernel
theorem dX7_make_29 : decode cX7_make 29 = .ok (.iload_n 1, 1) := by decide +kernel
theorem dX7_make_30 : decode cX7_make 30 = .ok (.iload_n 2, 1) := by decide +kernel
theorem dX7_make_31 : decode cX7_make 31 = .ok (.aload_n 0, 1) := by decide +kernel
theorem dX7_make_32 : decode cX7_make 32 = .ok (.getfield 118, 3) := by decide +kernel
theorem dX7_make_35 : decode cX7_make 35 = .ok (.aload_n 0, 1) := by decide +kernel
theorem dX7_make_36 : decode cX7_make 36 = .ok (.getfield 103, 3) := by decide +kernel
theorem dX7_make_39 : decode cX7_make 39 = .ok (.invokevirtual 194, 3) := by decide +kernel
theorem dX7_make_42 : decode cX7_make 42 = .ok (.pop, 1) := by decide +kernel
theorem dX7_make_43 : decode cX7_make 43 = .ok (.aload_n 0, 1) := by decide +kernel
theorem dX7_make_44 : decode cX7_make 44 = .ok (.getfield 121, 3) := by decide +kernel
theorem dX7_make_47 : decode cX7_make 47 = .ok (.iconst (-1), 1) := by decide +kernel
theorem dX7_make_48 : decode cX7_make 48 = .ok (.if_icmp .ne 8, 3) := by decide +kernel
theorem dX7_make_51 : decode cX7_make 51 = .ok (.bipush 7, 2) := by decide +kernel
theorem dX7_make_53 : decode cX7_make 53 = .ok (.goto 4, 3) := by decide +kernel
theorem dX7_make_56 : decode cX7_make 56 = .ok (.iconst (-1), 1) := by decide +kernel
theorem dX7_make_57 : decode cX7_make 57 = .ok (.ireturn, 1) := by decide +kernel
theorem dX7_stop_0 : decode cX7_stop 0 = .ok (.aload_n 1, 1) := by decide +kernel
theorem dX7_stop_1 : decode cX7_stop 1 = .ok (.iconst 1, 1) := by decide +kernel
theorem dX7_stop_2 : decode cX7_stop 2 = .ok (.putfield 129, 3) := by decide +kernel
theorem dX7_stop_5 : decode cX7_stop 5 = .ok (.aload_n 0, 1) := by decide +kernel
theorem dX7_stop_6 : decode cX7_stop 6 = .ok (.getfield 84, 3) := by decide +kernel
theorem dX7_stop_9 : decode cX7_stop 9 = .ok (.ifCond .ne 9, 3) := by decide +kernel
theorem dX7_stop_12 : decode cX7_stop 12 = .ok (.aload_n 0, 1) := by decide +kernel
theorem dX7_stop_13 : decode cX7_stop 13 = .ok (.bipush (-12), 2) := by decide +kernel
theorem dX7_stop_15 : decode cX7_stop 15 = .ok (.putfield 57, 3) := by decide +kernel
theorem dX7_stop_18 : decode cX7_stop 18 = .ok (.return_, 1) := by decide +kernel
theorem dX7_write_0 : decode cX7_write 0 = .ok (.aload_n 0, 1) := by decide +kernel
theorem dX7_write_1 : decode cX7_write 1 = .ok (.getfield 35, 3) := by decide +kernel
theorem dX7_write_4 : decode cX7_write 4 = .ok (.iload_n 1, 1) := by decide +kernel
theorem dX7_write_5 : decode cX7_write 5 = .ok (.invokevirtual 198, 3) := by decide +kernel
theorem dX7_write_8 : decode cX7_write 8 = .ok (.astore_n 3, 1) := by decide +kernel
theorem dX7_write_9 : decode cX7_write 9 = .ok (.aload_n 3, 1) := by decide +kernel
theorem dX7_write_10 : decode cX7_write 10 = .ok (.ifnull 15, 3) := by decide +kernel
theorem dX7_write_13 : decode cX7_write 13 = .ok (.aload_n 3, 1) := by decide +kernel
theorem dX7_write_14 : decode cX7_write 14 = .ok (.iload_n 2, 1) := by decide +kernel
theorem dX7_write_15 : decode cX7_write 15 = .ok (.invokevirtual 201, 3) := by decide +kernel
theorem dX7_write_18 : decode cX7_write 18 = .ok (.ifCond .eq 7, 3) := by decide +kernel
theorem dX7_write_21 : decode cX7_write 21 = .ok (.iconst (-1), 1) := by decide +kernel
theorem dX7_write_22 : decode cX7_write 22 = .ok (.goto 4, 3) := by decide +kernel
theorem dX7_write_25 : decode cX7_write 25 = .ok (.iconst 4, 1) := by decide +kernel
theorem dX7_write_26 : decode cX7_write 26 = .ok (.ireturn, 1) := by decide +kernel
theorem dX7_optionAt_0 : decode cX7_optionAt 0 = .ok (.iload_n 1, 1) := by decide +kernel
theorem dX7_optionAt_1 : decode cX7_optionAt 1 = .ok (.ifCond .lt 21, 3) := by decide +kernel
theorem dX7_optionAt_4 : decode cX7_optionAt 4 = .ok (.iload_n 1, 1) := by decide +kernel
theorem dX7_optionAt_5 : decode cX7_optionAt 5 = .ok (.aload_n 0, 1) := by decide +kernel
theorem dX7_optionAt_6 : decode cX7_optionAt 6 = .ok (.getfield 39, 3) := by decide +kernel
theorem dX7_optionAt_9 : decode cX7_optionAt 9 = .ok (.arraylength, 1) := by decide +kernel
theorem dX7_optionAt_10 : decode cX7_optionAt 10 = .ok (.if_icmp .ge 12, 3) := by decide +kernel
theorem dX7_optionAt_13 : decode cX7_optionAt 13 = .ok (.aload_n 0, 1) := by decide +kernel
theorem dX7_optionAt_14 : decode cX7_optionAt 14 = .ok (.getfield 39, 3) := by decide +kernel
theorem dX7_optionAt_17 : decode cX7_optionAt 17 = .ok (.iload_n 1, 1) := by decide +kernel
theorem dX7_optionAt_18 : decode cX7_optionAt 18 = .ok (.iaload, 1) := by decide +kernel
theorem dX7_optionAt_19 : decode cX7_optionAt 19 = .ok (.goto 4, 3) := by decide +kernel
theorem dX7_optionAt_22 : decode cX7_optionAt 22 = .ok (.iconst 0, 1) := by decide +kernel
theorem dX7_optionAt_23 : decode cX7_optionAt 23 = .ok (.ireturn, 1) := by decide +kernel
theorem dX8_init_0 : decode cX8_init 0 = .ok (.aload_n 0, 1) := by decide +kernel
theorem dX8_init_1 : decode cX8_init 1 = .ok (.invokespecial 3, 3) := by decide +kernel
theorem dX8_init_4 : decode cX8_init 4 = .ok (.aload_n 0, 1) := by decide +kernel
theorem dX8_init_5 : decode cX8_init 5 = .ok (.bipush 40, 2) := by decide +kernel
theorem dX8_init_7 : decode cX8_init 7 = .ok (.newarray .int, 2) := by decide +kernel
theorem dX8_init_9 : decode cX8_init 9 = .ok (.putfield 9, 3) := by decide +kernel
theorem dX8_init_12 : decode cX8_init 12 = .ok (.aload_n 0, 1) := by decide +kernel
theorem dX8_init_13 : decode cX8_init 13 = .ok (.bipush 40, 2) := by decide +kernel
theorem dX8_init_15 : decode cX8_init 15 = .ok (.newarray .int, 2) := by decide +kernel
theorem dX8_init_17 : decode cX8_init 17 = .ok (.putfield 15, 3) := by decide +kernel
theorem dX8_init_20 : decode cX8_init 20 = .ok (.aload_n 0, 1) := by decide +kernel
theorem dX8_init_21 : decode cX8_init 21 = .ok (.bipush 40, 2) := by decide +kernel
theorem dX8_init_23 : decode cX8_init 23 = .ok (.newarray .boolean, 2) := by decide +kernel
theorem dX8_init_25 : decode cX8_init 25 = .ok (.putfield 18, 3) := by decide +kernel
theorem dX8_init_28 : decode cX8_init 28 = .ok (.aload_n 0, 1) := by decide +kernel
theorem dX8_init_29 : decode cX8_init 29 = .ok (.bipush 40, 2) := by decide +kernel
theorem dX8_init_31 : decode cX8_init 31 = .ok (.newarray .int, 2) := by decide +kernel
theorem dX8_init_33 : decode cX8_init 33 = .ok (.putfield 22, 3) := by decide +kernel
theorem dX8_init_36 : decode cX8_init 36 = .ok (.aload_n 0, 1) := by decide +kernel
theorem dX8_init_37 : decode cX8_init 37 = .ok (.bipush 40, 2) := by decide +kernel
theorem dX8_init_39 : decode cX8_init 39 = .ok (.newarray .int, 2) := by decide +kernel
theorem dX8_init_41 : decode cX8_init 41 = .ok (.putfield 25, 3) := by decide +kernel
theorem dX8_init_44 : decode cX8_init 44 = .ok (.return_, 1) := by decide +kernel
theorem dX8_size_0 : decode cX8_size 0 = .ok (.aload_n 0, 1) := by decide +kernel
theorem dX8_size_1 : decode cX8_size 1 = .ok (.getfield 28, 3) := by decide +kernel
theorem dX8_size_4 : decode cX8_size 4 = .ok (.ireturn, 1) := by decide +kernel
theorem dX8_isFull_0 : decode cX8_isFull 0 = .ok (.aload_n 0, 1) := by decide +kernel
theorem dX8_isFull_1 : decode cX8_isFull 1 = .ok (.getfield 28, 3) := by decide +kernel
theorem dX8_isFull_4 : decode cX8_isFull 4 = .ok (.bipush 40, 2) := by decide +kernel
theorem dX8_isFull_6 : decode cX8_isFull 6 = .ok (.if_icmp .lt 7, 3) := by decide +kernel
theorem dX8_isFull_9 : decode cX8_isFull 9 = .ok (.iconst 1, 1) := by decide +kernel
theorem dX8_isFull_10 : decode cX8_isFull 10 = .ok (.goto 4, 3) := by decide +kernel
theorem dX8_isFull_13 : decode cX8_isFull 13 = .ok (.iconst 0, 1) := by decide +kernel
theorem dX8_isFull_14 : decode cX8_isFull 14 = .ok (.ireturn, 1) := by decide +kernel
theorem dX8_has_0 : decode cX8_has 0 = .ok (.iload_n 1, 1) := by decide +kernel
theorem dX8_has_1 : decode cX8_has 1 = .ok (.ifCond .lt 15, 3) := by decide +kernel
theorem dX8_has_4 : decode cX8_has 4 = .ok (.iload_n 1, 1) := by decide +kernel
theorem dX8_has_5 : decode cX8_has 5 = .ok (.aload_n 0, 1) := by decide +kernel
theorem dX8_has_6 : decode cX8_has 6 = .ok (.getfield 28, 3) := by decide +kernel
theorem dX8_has_9 : decode cX8_has 9 = .ok (.if_icmp .ge 7, 3) := by decide +kernel
theorem dX8_has_12 : decode cX8_has 12 = .ok (.iconst 1, 1) := by decide +kernel
theorem dX8_has_13 : decode cX8_has 13 = .ok (.goto 4, 3) := by decide +kernel
theorem dX8_has_16 : decode cX8_has 16 = .ok (.iconst 0, 1) := by decide +kernel
theorem dX8_has_17 : decode cX8_has 17 = .ok (.ireturn, 1) := by decide +kernel
theorem dX8_bears_0 : decode cX8_bears 0 = .ok (.iconst 0, 1) := by decide +kernel
theorem dX8_bears_1 : decode cX8_bears 1 = .ok (.istore_n 2, 1) := by decide +kernel
theorem dX8_bears_2 : decode cX8_bears 2 = .ok (.iload_n 2, 1) := by decide +kernel
theorem dX8_bears_3 : decode cX8_bears 3 = .ok (.aload_n 0, 1) := by decide +kernel
theorem dX8_bears_4 : decode cX8_bears 4 = .ok (.getfield 28, 3) := by decide +kernel
theorem dX8_bears_7 : decode cX8_bears 7 = .ok (.if_icmp .ge 21, 3) := by decide +kernel
theorem dX8_bears_10 : decode cX8_bears 10 = .ok (.aload_n 0, 1) := by decide +kernel
theorem dX8_bears_11 : decode cX8_bears 11 = .ok (.getfield 9, 3) := by decide +kernel
theorem dX8_bears_14 : decode cX8_bears 14 = .ok (.iload_n 2, 1) := by decide +kernel
theorem dX8_bears_15 : decode cX8_bears 15 = .ok (.iaload, 1) := by decide +kernel
theorem dX8_bears_16 : decode cX8_bears 16 = .ok (.iload_n 1, 1) := by decide +kernel
theorem dX8_bears_17 : decode cX8_bears 17 = .ok (.if_icmp .ne 5, 3) := by decide +kernel
theorem dX8_bears_20 : decode cX8_bears 20 = .ok (.iconst 1, 1) := by decide +kernel
theorem dX8_bears_21 : decode cX8_bears 21 = .ok (.ireturn, 1) := by decide +kernel
theorem dX8_bears_22 : decode cX8_bears 22 = .ok (.iinc 2 1, 3) := by decide +kernel
theorem dX8_bears_25 : decode cX8_bears 25 = .ok (.goto (-23), 3) := by decide +kernel
theorem dX8_bears_28 : decode cX8_bears 28 = .ok (.iconst 0, 1) := by decide +kernel
theorem dX8_bears_29 : decode cX8_bears 29 = .ok (.ireturn, 1) := by decide +kernel
theorem dX8_enter_0 : decode cX8_enter 0 = .ok (.aload_n 0, 1) := by decide +kernel
theorem dX8_enter_1 : decode cX8_enter 1 = .ok (.getfield 28, 3) := by decide +kernel
theorem dX8_enter_4 : decode cX8_enter 4 = .ok (.bipush 40, 2) := by decide +kernel
theorem dX8_enter_6 : decode cX8_enter 6 = .ok (.if_icmp .lt 6, 3) := by decide +kernel
theorem dX8_enter_9 : decode cX8_enter 9 = .ok (.bipush (-104), 2) := by decide +kernel
theorem dX8_enter_11 : decode cX8_enter 11 = .ok (.ireturn, 1) := by decide +kernel
theorem dX8_enter_12 : decode cX8_enter 12 = .ok (.aload_n 0, 1) := by decide +kernel
theorem dX8_enter_13 : decode cX8_enter 13 = .ok (.getfield 9, 3) := by decide +kernel
theorem dX8_enter_16 : decode cX8_enter 16 = .ok (.aload_n 0, 1) := by decide +kernel
theorem dX8_enter_17 : decode cX8_enter 17 = .ok (.getfield 28, 3) := by decide +kernel
theorem dX8_enter_20 : decode cX8_enter 20 = .ok (.iload_n 1, 1) := by decide +kernel
theorem dX8_enter_21 : decode cX8_enter 21 = .ok (.iastore, 1) := by decide +kernel
theorem dX8_enter_22 : decode cX8_enter 22 = .ok (.aload_n 0, 1) := by decide +kernel
theorem dX8_enter_23 : decode cX8_enter 23 = .ok (.getfield 15, 3) := by decide +kernel
theorem dX8_enter_26 : decode cX8_enter 26 = .ok (.aload_n 0, 1) := by decide +kernel
theorem dX8_enter_27 : decode cX8_enter 27 = .ok (.getfield 28, 3) := by decide +kernel
theorem dX8_enter_30 : decode cX8_enter 30 = .ok (.iload_n 2, 1) := by decide +kernel
theorem dX8_enter_31 : decode cX8_enter 31 = .ok (.iastore, 1) := by decide +kernel
theorem dX8_enter_32 : decode cX8_enter 32 = .ok (.aload_n 0, 1) := by decide +kernel
theorem dX8_enter_33 : decode cX8_enter 33 = .ok (.getfield 18, 3) := by decide +kernel
theorem dX8_enter_36 : decode cX8_enter 36 = .ok (.aload_n 0, 1) := by decide +kernel
theorem dX8_enter_37 : decode cX8_enter 37 = .ok (.getfield 28, 3) := by decide +kernel
theorem dX8_enter_40 : decode cX8_enter 40 = .ok (.iconst 1, 1) := by decide +kernel
theorem dX8_enter_41 : decode cX8_enter 41 = .ok (.bastore, 1) := by decide +kernel
theorem dX8_enter_42 : decode cX8_enter 42 = .ok (.aload_n 0, 1) := by decide +kernel
theorem dX8_enter_43 : decode cX8_enter 43 = .ok (.getfield 22, 3) := by decide +kernel
theorem dX8_enter_46 : decode cX8_enter 46 = .ok (.aload_n 0, 1) := by decide +kernel
theorem dX8_enter_47 : decode cX8_enter 47 = .ok (.getfield 28, 3) := by decide +kernel
theorem dX8_enter_50 : decode cX8_enter 50 = .ok (.iload_n 3, 1) := by decide +kernel
theorem dX8_enter_51 : decode cX8_enter 51 = .ok (.iastore, 1) := by decide +kernel
theorem dX8_enter_52 : decode cX8_enter 52 = .ok (.aload_n 0, 1) := by decide +kernel
theorem dX8_enter_53 : decode cX8_enter 53 = .ok (.getfield 25, 3) := by decide +kernel
theorem dX8_enter_56 : decode cX8_enter 56 = .ok (.aload_n 0, 1) := by decide +kernel
theorem dX8_enter_57 : decode cX8_enter 57 = .ok (.getfield 28, 3) := by decide +kernel
theorem dX8_enter_60 : decode cX8_enter 60 = .ok (.iload 4, 2) := by decide +kernel
theorem dX8_enter_62 : decode cX8_enter 62 = .ok (.iastore, 1) := by decide +kernel
theorem dX8_enter_63 : decode cX8_enter 63 = .ok (.aload_n 0, 1) := by decide +kernel
theorem dX8_enter_64 : decode cX8_enter 64 = .ok (.dup, 1) := by decide +kernel
theorem dX8_enter_65 : decode cX8_enter 65 = .ok (.getfield 28, 3) := by decide +kernel
theorem dX8_enter_68 : decode cX8_enter 68 = .ok (.iconst 1, 1) := by decide +kernel
theorem dX8_enter_69 : decode cX8_enter 69 = .ok (.iadd, 1) := by decide +kernel
theorem dX8_enter_70 : decode cX8_enter 70 = .ok (.putfield 28, 3) := by decide +kernel
theorem dX8_enter_73 : decode cX8_enter 73 = .ok (.aload_n 0, 1) := by decide +kernel
theorem dX8_enter_74 : decode cX8_enter 74 = .ok (.getfield 28, 3) := by decide +kernel
theorem dX8_enter_77 : decode cX8_enter 77 = .ok (.iconst 1, 1) := by decide +kernel
theorem dX8_enter_78 : decode cX8_enter 78 = .ok (.isub, 1) := by decide +kernel
theorem dX8_enter_79 : decode cX8_enter 79 = .ok (.ireturn, 1) := by decide +kernel
theorem dX8_nameOf_0 : decode cX8_nameOf 0 = .ok (.iload_n 1, 1) := by decide +kernel
theorem dX8_nameOf_1 : decode cX8_nameOf 1 = .ok (.ifCond .lt 20, 3) := by decide +kernel
theorem dX8_nameOf_4 : decode cX8_nameOf 4 = .ok (.iload_n 1, 1) := by decide +kernel
theorem dX8_nameOf_5 : decode cX8_nameOf 5 = .ok (.aload_n 0, 1) := by decide +kernel
theorem dX8_nameOf_6 : decode cX8_nameOf 6 = .ok (.getfield 28, 3) := by decide +kernel
theorem dX8_nameOf_9 : decode cX8_nameOf 9 = .ok (.if_icmp .ge 12, 3) := by decide +kernel
theorem dX8_nameOf_12 : decode cX8_nameOf 12 = .ok (.aload_n 0, 1) := by decide +kernel
theorem dX8_nameOf_13 : decode cX8_nameOf 13 = .ok (.getfield 9, 3) := by decide +kernel
theorem dX8_nameOf_16 : decode cX8_nameOf 16 = .ok (.iload_n 1, 1) := by decide +kernel
theorem dX8_nameOf_17 : decode cX8_nameOf 17 = .ok (.iaload, 1) := by decide +kernel
theorem dX8_nameOf_18 : decode cX8_nameOf 18 = .ok (.goto 4, 3) := by decide +kernel
theorem dX8_nameOf_21 : decode cX8_nameOf 21 = .ok (.iconst (-1), 1) := by decide +kernel
theorem dX8_nameOf_22 : decode cX8_nameOf 22 = .ok (.ireturn, 1) := by decide +kernel
theorem dX8_marksOf_0 : decode cX8_marksOf 0 = .ok (.iload_n 1, 1) := by decide +kernel
theorem dX8_marksOf_1 : decode cX8_marksOf 1 = .ok (.ifCond .lt 20, 3) := by decide +kernel
theorem dX8_marksOf_4 : decode cX8_marksOf 4 = .ok (.iload_n 1, 1) := by decide +kernel
theorem dX8_marksOf_5 : decode cX8_marksOf 5 = .ok (.aload_n 0, 1) := by decide +kernel
theorem dX8_marksOf_6 : decode cX8_marksOf 6 = .ok (.getfield 28, 3) := by decide +kernel
theorem dX8_marksOf_9 : decode cX8_marksOf 9 = .ok (.if_icmp .ge 12, 3) := by decide +kernel
theorem dX8_marksOf_12 : decode cX8_marksOf 12 = .ok (.aload_n 0, 1) := by decide +kernel
theorem dX8_marksOf_13 : decode cX8_marksOf 13 = .ok (.getfield 15, 3) := by decide +kernel
theorem dX8_marksOf_16 : decode cX8_marksOf 16 = .ok (.iload_n 1, 1) := by decide +kernel
theorem dX8_marksOf_17 : decode cX8_marksOf 17 = .ok (.iaload, 1) := by decide +kernel
theorem dX8_marksOf_18 : decode cX8_marksOf 18 = .ok (.goto 4, 3) := by decide +kernel
theorem dX8_marksOf_21 : decode cX8_marksOf 21 = .ok (.iconst 0, 1) := by decide +kernel
theorem dX8_marksOf_22 : decode cX8_marksOf 22 = .ok (.ireturn, 1) := by decide +kernel
theorem dX8_isNew_0 : decode cX8_isNew 0 = .ok (.iload_n 1, 1) := by decide +kernel
theorem dX8_isNew_1 : decode cX8_isNew 1 = .ok (.ifCond .lt 24, 3) := by decide +kernel
theorem dX8_isNew_4 : decode cX8_isNew 4 = .ok (.iload_n 1, 1) := by decide +kernel
theorem dX8_isNew_5 : decode cX8_isNew 5 = .ok (.aload_n 0, 1) := by decide +kernel
theorem dX8_isNew_6 : decode cX8_isNew 6 = .ok (.getfield 28, 3) := by decide +kernel
theorem dX8_isNew_9 : decode cX8_isNew 9 = .ok (.if_icmp .ge 16, 3) := by decide +kernel
theorem dX8_isNew_12 : decode cX8_isNew 12 = .ok (.aload_n 0, 1) := by decide +kernel
theorem dX8_isNew_13 : decode cX8_isNew 13 = .ok (.getfield 18, 3) := by decide +kernel
theorem dX8_isNew_16 : decode cX8_isNew 16 = .ok (.iload_n 1, 1) := by decide +kernel
theorem dX8_isNew_17 : decode cX8_isNew 17 = .ok (.baload, 1) := by decide +kernel
theorem dX8_isNew_18 : decode cX8_isNew 18 = .ok (.ifCond .eq 7, 3) := by decide +kernel
theorem dX8_isNew_21 : decode cX8_isNew 21 = .ok (.iconst 1, 1) := by decide +kernel
theorem dX8_isNew_22 : decode cX8_isNew 22 = .ok (.goto 4, 3) := by decide +kernel
theorem dX8_isNew_25 : decode cX8_isNew 25 = .ok (.iconst 0, 1) := by decide +kernel
theorem dX8_isNew_26 : decode cX8_isNew 26 = .ok (.ireturn, 1) := by decide +kernel
theorem dX8_retell_0 : decode cX8_retell 0 = .ok (.iload_n 1, 1) := by decide +kernel
theorem dX8_retell_1 : decode cX8_retell 1 = .ok (.ifCond .lt 25, 3) := by decide +kernel
theorem dX8_retell_4 : decode cX8_retell 4 = .ok (.iload_n 1, 1) := by decide +kernel
theorem dX8_retell_5 : decode cX8_retell 5 = .ok (.aload_n 0, 1) := by decide +kernel
theorem dX8_retell_6 : decode cX8_retell 6 = .ok (.getfield 28, 3) := by decide +kernel
theorem dX8_retell_9 : decode cX8_retell 9 = .ok (.if_icmp .ge 17, 3) := by decide +kernel
theorem dX8_retell_12 : decode cX8_retell 12 = .ok (.aload_n 0, 1) := by decide +kernel
theorem dX8_retell_13 : decode cX8_retell 13 = .ok (.getfield 15, 3) := by decide +kernel
theorem dX8_retell_16 : decode cX8_retell 16 = .ok (.iload_n 1, 1) := by decide +kernel
theorem dX8_retell_17 : decode cX8_retell 17 = .ok (.iload_n 2, 1) := by decide +kernel
theorem dX8_retell_18 : decode cX8_retell 18 = .ok (.iastore, 1) := by decide +kernel
theorem dX8_retell_19 : decode cX8_retell 19 = .ok (.aload_n 0, 1) := by decide +kernel
theorem dX8_retell_20 : decode cX8_retell 20 = .ok (.getfield 18, 3) := by decide +kernel
theorem dX8_retell_23 : decode cX8_retell 23 = .ok (.iload_n 1, 1) := by decide +kernel
theorem dX8_retell_24 : decode cX8_retell 24 = .ok (.iconst 1, 1) := by decide +kernel
theorem dX8_retell_25 : decode cX8_retell 25 = .ok (.bastore, 1) := by decide +kernel
theorem dX8_retell_26 : decode cX8_retell 26 = .ok (.return_, 1) := by decide +kernel
theorem dX8_countNew_0 : decode cX8_countNew 0 = .ok (.iconst 0, 1) := by decide +kernel
theorem dX8_countNew_1 : decode cX8_countNew 1 = .ok (.istore_n 1, 1) := by decide +kernel
theorem dX8_countNew_2 : decode cX8_countNew 2 = .ok (.iconst 0, 1) := by decide +kernel
theorem dX8_countNew_3 : decode cX8_countNew 3 = .ok (.istore_n 2, 1) := by decide +kernel
theorem dX8_countNew_4 : decode cX8_countNew 4 = .ok (.iload_n 2, 1) := by decide +kernel
theorem dX8_countNew_5 : decode cX8_countNew 5 = .ok (.aload_n 0, 1) := by decide +kernel
theorem dX8_countNew_6 : decode cX8_countNew 6 = .ok (.getfield 28, 3) := by decide +kernel
theorem dX8_countNew_9 : decode cX8_countNew 9 = .ok (.if_icmp .ge 21, 3) := by decide +kernel
theorem dX8_countNew_12 : decode cX8_countNew 12 = .ok (.iload_n 1, 1) := by decide +kernel
theorem dX8_countNew_13 : decode cX8_countNew 13 = .ok (.aload_n 0, 1) := by decide +kernel
theorem dX8_countNew_14 : decode cX8_countNew 14 = .ok (.getfield 18, 3) := by decide +kernel
theorem dX8_countNew_17 : decode cX8_countNew 17 = .ok (.iload_n 2, 1) := by decide +kernel
theorem dX8_countNew_18 : decode cX8_countNew 18 = .ok (.baload, 1) := by decide +kernel
theorem dX8_countNew_19 : decode cX8_countNew 19 = .ok (.invokestatic 32, 3) := by decide +kernel
theorem dX8_countNew_22 : decode cX8_countNew 22 = .ok (.iadd, 1) := by decide +kernel
theorem dX8_countNew_23 : decode cX8_countNew 23 = .ok (.istore_n 1, 1) := by decide +kernel
theorem dX8_countNew_24 : decode cX8_countNew 24 = .ok (.iinc 2 1, 3) := by decide +kernel
theorem dX8_countNew_27 : decode cX8_countNew 27 = .ok (.goto (-23), 3) := by decide +kernel
theorem dX8_countNew_30 : decode cX8_countNew 30 = .ok (.iload_n 1, 1) := by decide +kernel
theorem dX8_countNew_31 : decode cX8_countNew 31 = .ok (.ireturn, 1) := by decide +kernel
theorem dX8_makeAllNew_0 : decode cX8_makeAllNew 0 = .ok (.iconst 0, 1) := by decide +kernel
theorem dX8_makeAllNew_1 : decode cX8_makeAllNew 1 = .ok (.istore_n 1, 1) := by decide +kernel
theorem dX8_makeAllNew_2 : decode cX8_makeAllNew 2 = .ok (.iload_n 1, 1) := by decide +kernel
theorem dX8_makeAllNew_3 : decode cX8_makeAllNew 3 = .ok (.aload_n 0, 1) := by decide +kernel
theorem dX8_makeAllNew_4 : decode cX8_makeAllNew 4 = .ok (.getfield 28, 3) := by decide +kernel
theorem dX8_makeAllNew_7 : decode cX8_makeAllNew 7 = .ok (.if_icmp .ge 16, 3) := by decide +kernel
theorem dX8_makeAllNew_10 : decode cX8_makeAllNew 10 = .ok (.aload_n 0, 1) := by decide +kernel
theorem dX8_makeAllNew_11 : decode cX8_makeAllNew 11 = .ok (.getfield 18, 3) := by decide +kernel
theorem dX8_makeAllNew_14 : decode cX8_makeAllNew 14 = .ok (.iload_n 1, 1) := by decide +kernel
theorem dX8_makeAllNew_15 : decode cX8_makeAllNew 15 = .ok (.iconst 1, 1) := by decide +kernel
theorem dX8_makeAllNew_16 : decode cX8_makeAllNew 16 = .ok (.bastore, 1) := by decide +kernel
theorem dX8_makeAllNew_17 : decode cX8_makeAllNew 17 = .ok (.iinc 1 1, 3) := by decide +kernel
theorem dX8_makeAllNew_20 : decode cX8_makeAllNew 20 = .ok (.goto (-18), 3) := by decide +kernel
theorem dX8_makeAllNew_23 : decode cX8_makeAllNew 23 = .ok (.return_, 1) := by decide +kernel
theorem dX8_makeOldAheadOf_0 : decode cX8_makeOldAheadOf 0 = .ok (.iconst 0, 1) := by decide +kernel
theorem dX8_makeOldAheadOf_1 : decode cX8_makeOldAheadOf 1 = .ok (.istore_n 2, 1) := by decide +kernel
theorem dX8_makeOldAheadOf_2 : decode cX8_makeOldAheadOf 2 = .ok (.iload_n 2, 1) := by decide +kernel
theorem dX8_makeOldAheadOf_3 : decode cX8_makeOldAheadOf 3 = .ok (.aload_n 0, 1) := by decide +kernel
theorem dX8_makeOldAheadOf_4 : decode cX8_makeOldAheadOf 4 = .ok (.getfield 28, 3) := by decide +kernel
theorem dX8_makeOldAheadOf_7 : decode cX8_makeOldAheadOf 7 = .ok (.if_icmp .ge 21, 3) := by decide +kernel
theorem dX8_makeOldAheadOf_10 : decode cX8_makeOldAheadOf 10 = .ok (.iload_n 2, 1) := by decide +kernel
theorem dX8_makeOldAheadOf_11 : decode cX8_makeOldAheadOf 11 = .ok (.iload_n 1, 1) := by decide +kernel
theorem dX8_makeOldAheadOf_12 : decode cX8_makeOldAheadOf 12 = .ok (.if_icmp .ge 16, 3) := by decide +kernel
theorem dX8_makeOldAheadOf_15 : decode cX8_makeOldAheadOf 15 = .ok (.aload_n 0, 1) := by decide +kernel
theorem dX8_makeOldAheadOf_16 : decode cX8_makeOldAheadOf 16 = .ok (.getfield 18, 3) := by decide +kernel
theorem dX8_makeOldAheadOf_19 : decode cX8_makeOldAheadOf 19 = .ok (.iload_n 2, 1) := by decide +kernel
theorem dX8_makeOldAheadOf_20 : decode cX8_makeOldAheadOf 20 = .ok (.iconst 0, 1) := by decide +kernel
theorem dX8_makeOldAheadOf_21 : decode cX8_makeOldAheadOf 21 = .ok (.bastore, 1) := by decide +kernel
theorem dX8_makeOldAheadOf_22 : decode cX8_makeOldAheadOf 22 = .ok (.iinc 2 1, 3) := by decide +kernel
theorem dX8_makeOldAheadOf_25 : decode cX8_makeOldAheadOf 25 = .ok (.goto (-23), 3) := by decide +kernel
theorem dX8_makeOldAheadOf_28 : decode cX8_makeOldAheadOf 28 = .ok (.return_, 1) := by decide +kernel
theorem dX8_cutTo_0 : decode cX8_cutTo 0 = .ok (.aload_n 0, 1) := by decide +kernel
theorem dX8_cutTo_1 : decode cX8_cutTo 1 = .ok (.iconst 0, 1) := by decide +kernel
theorem dX8_cutTo_2 : decode cX8_cutTo 2 = .ok (.iload_n 1, 1) := by decide +kernel
theorem dX8_cutTo_3 : decode cX8_cutTo 3 = .ok (.aload_n 0, 1) := by decide +kernel
theorem dX8_cutTo_4 : decode cX8_cutTo 4 = .ok (.getfield 28, 3) := by decide +kernel
theorem dX8_cutTo_7 : decode cX8_cutTo 7 = .ok (.invokestatic 36, 3) := by decide +kernel
theorem dX8_cutTo_10 : decode cX8_cutTo 10 = .ok (.invokestatic 42, 3) := by decide +kernel
theorem dX8_cutTo_13 : decode cX8_cutTo 13 = .ok (.putfield 28, 3) := by decide +kernel
theorem dX8_cutTo_16 : decode cX8_cutTo 16 = .ok (.return_, 1) := by decide +kernel
theorem dX8_aspect_0 : decode cX8_aspect 0 = .ok (.iload_n 1, 1) := by decide +kernel
theorem dX8_aspect_1 : decode cX8_aspect 1 = .ok (.ifCond .lt 11, 3) := by decide +kernel
theorem dX8_aspect_4 : decode cX8_aspect 4 = .ok (.iload_n 1, 1) := by decide +kernel
theorem dX8_aspect_5 : decode cX8_aspect 5 = .ok (.aload_n 0, 1) := by decide +kernel
theorem dX8_aspect_6 : decode cX8_aspect 6 = .ok (.getfield 28, 3) := by decide +kernel
theorem dX8_aspect_9 : decode cX8_aspect 9 = .ok (.if_icmp .lt 6, 3) := by decide +kernel
theorem dX8_aspect_12 : decode cX8_aspect 12 = .ok (.bipush (-101), 2) := by decide +kernel
theorem dX8_aspect_14 : decode cX8_aspect 14 = .ok (.ireturn, 1) := by decide +kernel
theorem dX8_aspect_15 : decode cX8_aspect 15 = .ok (.iload_n 2, 1) := by decide +kernel
theorem dX8_aspect_16 : decode cX8_aspect 16 = .ok (.tableswitch 63 0 3 #[32, 39, 46, 56], 32) := by decide +kernel
theorem dX8_aspect_48 : decode cX8_aspect 48 = .ok (.aload_n 0, 1) := by decide +kernel
theorem dX8_aspect_49 : decode cX8_aspect 49 = .ok (.getfield 9, 3) := by decide +kernel
theorem dX8_aspect_52 : decode cX8_aspect 52 = .ok (.iload_n 1, 1) := by decide +kernel
theorem dX8_aspect_53 : decode cX8_aspect 53 = .ok (.iaload, 1) := by decide +kernel
theorem dX8_aspect_54 : decode cX8_aspect 54 = .ok (.ireturn, 1) := by decide +kernel
theorem dX8_aspect_55 : decode cX8_aspect 55 = .ok (.aload_n 0, 1) := by decide +kernel
theorem dX8_aspect_56 : decode cX8_aspect 56 = .ok (.getfield 15, 3) := by decide +kernel
theorem dX8_aspect_59 : decode cX8_aspect 59 = .ok (.iload_n 1, 1) := by decide +kernel
theorem dX8_aspect_60 : decode cX8_aspect 60 = .ok (.iaload, 1) := by decide +kernel
theorem dX8_aspect_61 : decode cX8_aspect 61 = .ok (.ireturn, 1) := by decide +kernel
theorem dX8_aspect_62 : decode cX8_aspect 62 = .ok (.aload_n 0, 1) := by decide +kernel
theorem dX8_aspect_63 : decode cX8_aspect 63 = .ok (.getfield 18, 3) := by decide +kernel
theorem dX8_aspect_66 : decode cX8_aspect 66 = .ok (.iload_n 1, 1) := by decide +kernel
theorem dX8_aspect_67 : decode cX8_aspect 67 = .ok (.baload, 1) := by decide +kernel
theorem dX8_aspect_68 : decode cX8_aspect 68 = .ok (.invokestatic 32, 3) := by decide +kernel
theorem dX8_aspect_71 : decode cX8_aspect 71 = .ok (.ireturn, 1) := by decide +kernel
theorem dX8_aspect_72 : decode cX8_aspect 72 = .ok (.aload_n 0, 1) := by decide +kernel
theorem dX8_aspect_73 : decode cX8_aspect 73 = .ok (.getfield 22, 3) := by decide +kernel
theorem dX8_aspect_76 : decode cX8_aspect 76 = .ok (.iload_n 1, 1) := by decide +kernel
theorem dX8_aspect_77 : decode cX8_aspect 77 = .ok (.iaload, 1) := by decide +kernel
theorem dX8_aspect_78 : decode cX8_aspect 78 = .ok (.ireturn, 1) := by decide +kernel
theorem dX8_aspect_79 : decode cX8_aspect 79 = .ok (.aload_n 0, 1) := by decide +kernel
theorem dX8_aspect_80 : decode cX8_aspect 80 = .ok (.getfield 25, 3) := by decide +kernel
theorem dX8_aspect_83 : decode cX8_aspect 83 = .ok (.iload_n 1, 1) := by decide +kernel
theorem dX8_aspect_84 : decode cX8_aspect 84 = .ok (.iaload, 1) := by decide +kernel
theorem dX8_aspect_85 : decode cX8_aspect 85 = .ok (.ireturn, 1) := by decide +kernel
theorem dX9_init_0 : decode cX9_init 0 = .ok (.aload_n 0, 1) := by decide +kernel
theorem dX9_init_1 : decode cX9_init 1 = .ok (.invokespecial 1, 3) := by decide +kernel
theorem dX9_init_4 : decode cX9_init 4 = .ok (.aload_n 0, 1) := by decide +kernel
theorem dX9_init_5 : decode cX9_init 5 = .ok (.new 7, 3) := by decide +kernel
theorem dX9_init_8 : decode cX9_init 8 = .ok (.dup, 1) := by decide +kernel
theorem dX9_init_9 : decode cX9_init 9 = .ok (.bipush 64, 2) := by decide +kernel
theorem dX9_init_11 : decode cX9_init 11 = .ok (.invokespecial 11, 3) := by decide +kernel
theorem dX9_init_14 : decode cX9_init 14 = .ok (.putfield 14, 3) := by decide +kernel
theorem dX9_init_17 : decode cX9_init 17 = .ok (.aload_n 0, 1) := by decide +kernel
theorem dX9_init_18 : decode cX9_init 18 = .ok (.bipush 6, 2) := by decide +kernel
theorem dX9_init_20 : decode cX9_init 20 = .ok (.anewarray 18, 3) := by decide +kernel
theorem dX9_init_23 : decode cX9_init 23 = .ok (.putfield 20, 3) := by decide +kernel
theorem dX9_init_26 : decode cX9_init 26 = .ok (.iconst 0, 1) := by decide +kernel
theorem dX9_init_27 : decode cX9_init 27 = .ok (.istore_n 1, 1) := by decide +kernel
theorem dX9_init_28 : decode cX9_init 28 = .ok (.iload_n 1, 1) := by decide +kernel
theorem dX9_init_29 : decode cX9_init 29 = .ok (.aload_n 0, 1) := by decide +kernel
theorem dX9_init_30 : decode cX9_init 30 = .ok (.getfield 20, 3) := by decide +kernel
theorem dX9_init_33 : decode cX9_init 33 = .ok (.arraylength, 1) := by decide +kernel
theorem dX9_init_34 : decode cX9_init 34 = .ok (.if_icmp .ge 22, 3) := by decide +kernel
theorem dX9_init_37 : decode cX9_init 37 = .ok (.aload_n 0, 1) := by decide +kernel
theorem dX9_init_38 : decode cX9_init 38 = .ok (.getfield 20, 3) := by decide +kernel
theorem dX9_init_41 : decode cX9_init 41 = .ok (.iload_n 1, 1) := by decide +kernel
theorem dX9_init_42 : decode cX9_init 42 = .ok (.new 18, 3) := by decide +kernel
theorem dX9_init_45 : decode cX9_init 45 = .ok (.dup, 1) := by decide +kernel
theorem dX9_init_46 : decode cX9_init 46 = .ok (.invokespecial 24, 3) := by decide +kernel
theorem dX9_init_49 : decode cX9_init 49 = .ok (.aastore, 1) := by decide +kernel
theorem dX9_init_50 : decode cX9_init 50 = .ok (.iinc 1 1, 3) := by decide +kernel
theorem dX9_init_53 : decode cX9_init 53 = .ok (.goto (-25), 3) := by decide +kernel
theorem dX9_init_56 : decode cX9_init 56 = .ok (.aload_n 0, 1) := by decide +kernel
theorem dX9_init_57 : decode cX9_init 57 = .ok (.new 25, 3) := by decide +kernel
theorem dX9_init_60 : decode cX9_init 60 = .ok (.dup, 1) := by decide +kernel
theorem dX9_init_61 : decode cX9_init 61 = .ok (.invokespecial 27, 3) := by decide +kernel
theorem dX9_init_64 : decode cX9_init 64 = .ok (.putfield 28, 3) := by decide +kernel
theorem dX9_init_67 : decode cX9_init 67 = .ok (.aload_n 0, 1) := by decide +kernel
theorem dX9_init_68 : decode cX9_init 68 = .ok (.aload_n 0, 1) := by decide +kernel
theorem dX9_init_69 : decode cX9_init 69 = .ok (.getfield 28, 3) := by decide +kernel
theorem dX9_init_72 : decode cX9_init 72 = .ok (.getfield 32, 3) := by decide +kernel
theorem dX9_init_75 : decode cX9_init 75 = .ok (.putfield 36, 3) := by decide +kernel
theorem dX9_init_78 : decode cX9_init 78 = .ok (.aload_n 0, 1) := by decide +kernel
theorem dX9_init_79 : decode cX9_init 79 = .ok (.aload_n 0, 1) := by decide +kernel
theorem dX9_init_80 : decode cX9_init 80 = .ok (.getfield 28, 3) := by decide +kernel
theorem dX9_init_83 : decode cX9_init 83 = .ok (.getfield 37, 3) := by decide +kernel
theorem dX9_init_86 : decode cX9_init 86 = .ok (.putfield 41, 3) := by decide +kernel
theorem dX9_init_89 : decode cX9_init 89 = .ok (.aload_n 0, 1) := by decide +kernel
theorem dX9_init_90 : decode cX9_init 90 = .ok (.aload_n 0, 1) := by decide +kernel
theorem dX9_init_91 : decode cX9_init 91 = .ok (.getfield 28, 3) := by decide +kernel
theorem dX9_init_94 : decode cX9_init 94 = .ok (.getfield 42, 3) := by decide +kernel
theorem dX9_init_97 : decode cX9_init 97 = .ok (.putfield 46, 3) := by decide +kernel
theorem dX9_init_100 : decode cX9_init 100 = .ok (.aload_n 0, 1) := by decide +kernel
theorem dX9_init_101 : decode cX9_init 101 = .ok (.aload_n 0, 1) := by decide +kernel
theorem dX9_init_102 : decode cX9_init 102 = .ok (.getfield 28, 3) := by decide +kernel
theorem dX9_init_105 : decode cX9_init 105 = .ok (.getfield 47, 3) := by decide +kernel
theorem dX9_init_108 : decode cX9_init 108 = .ok (.putfield 51, 3) := by decide +kernel
theorem dX9_init_111 : decode cX9_init 111 = .ok (.aload_n 0, 1) := by decide +kernel
theorem dX9_init_112 : decode cX9_init 112 = .ok (.aload_n 0, 1) := by decide +kernel
theorem dX9_init_113 : decode cX9_init 113 = .ok (.getfield 28, 3) := by decide +kernel
theorem dX9_init_116 : decode cX9_init 116 = .ok (.getfield 52, 3) := by decide +kernel
theorem dX9_init_119 : decode cX9_init 119 = .ok (.putfield 56, 3) := by decide +kernel
theorem dX9_init_122 : decode cX9_init 122 = .ok (.return_, 1) := by decide +kernel
theorem dX9_feed_0 : decode cX9_feed 0 = .ok (.iload_n 1, 1) := by decide +kernel
theorem dX9_feed_1 : decode cX9_feed 1 = .ok (.iconst 1, 1) := by decide +kernel
theorem dX9_feed_2 : decode cX9_feed 2 = .ok (.if_icmp .lt 9, 3) := by decide +kernel
theorem dX9_feed_5 : decode cX9_feed 5 = .ok (.iload_n 1, 1) := by decide +kernel
theorem dX9_feed_6 : decode cX9_feed 6 = .ok (.bipush 8, 2) := by decide +kernel
theorem dX9_feed_8 : decode cX9_feed 8 = .ok (.if_icmp .le 6, 3) := by decide +kernel
theorem dX9_feed_11 : decode cX9_feed 11 = .ok (.bipush (-102), 2) := by decide +kernel
theorem dX9_feed_13 : decode cX9_feed 13 = .ok (.ireturn, 1) := by decide +kernel
theorem dX9_feed_14 : decode cX9_feed 14 = .ok (.iload_n 1, 1) := by decide +kernel
theorem dX9_feed_15 : decode cX9_feed 15 = .ok (.aload_n 0, 1) := by decide +kernel
theorem dX9_feed_16 : decode cX9_feed 16 = .ok (.getfield 14, 3) := by decide +kernel
theorem dX9_feed_19 : decode cX9_feed 19 = .ok (.invokevirtual 57, 3) := by decide +kernel
theorem dX9_feed_22 : decode cX9_feed 22 = .ok (.if_icmp .le 6, 3) := by decide +kernel
theorem dX9_feed_25 : decode cX9_feed 25 = .ok (.bipush (-104), 2) := by decide +kernel
theorem dX9_feed_27 : decode cX9_feed 27 = .ok (.ireturn, 1) := by decide +kernel
theorem dX9_feed_28 : decode cX9_feed 28 = .ok (.iload_n 1, 1) := by decide +kernel
theorem dX9_feed_29 : decode cX9_feed 29 = .ok (.iconst 1, 1) := by decide +kernel
theorem dX9_feed_30 : decode cX9_feed 30 = .ok (.isub, 1) := by decide +kernel
theorem dX9_feed_31 : decode cX9_feed 31 = .ok (.istore 4, 2) := by decide +kernel
theorem dX9_feed_33 : decode cX9_feed 33 = .ok (.iload 4, 2) := by decide +kernel
theorem dX9_feed_35 : decode cX9_feed 35 = .ok (.ifCond .lt 29, 3) := by decide +kernel
theorem dX9_feed_38 : decode cX9_feed 38 = .ok (.aload_n 0, 1) := by decide +kernel
theorem dX9_feed_39 : decode cX9_feed 39 = .ok (.getfield 14, 3) := by decide +kernel
theorem dX9_feed_42 : decode cX9_feed 42 = .ok (.lload_n 2, 1) := by decide +kernel
theorem dX9_feed_43 : decode cX9_feed 43 = .ok (.bipush 8, 2) := by decide +kernel
theorem dX9_feed_45 : decode cX9_feed 45 = .ok (.iload 4, 2) := by decide +kernel
theorem dX9_feed_47 : decode cX9_feed 47 = .ok (.imul, 1) := by decide +kernel
theorem dX9_feed_48 : decode cX9_feed 48 = .ok (.lushr, 1) := by decide +kernel
theorem dX9_feed_49 : decode cX9_feed 49 = .ok (.l2i, 1) := by decide +kernel
theorem dX9_feed_50 : decode cX9_feed 50 = .ok (.sipush 255, 3) := by decide +kernel
theorem dX9_feed_53 : decode cX9_feed 53 = .ok (.iand, 1) := by decide +kernel
theorem dX9_feed_54 : decode cX9_feed 54 = .ok (.invokevirtual 61, 3) := by decide +kernel
theorem dX9_feed_57 : decode cX9_feed 57 = .ok (.pop, 1) := by decide +kernel
theorem dX9_feed_58 : decode cX9_feed 58 = .ok (.iinc 4 (-1), 3) := by decide +kernel
theorem dX9_feed_61 : decode cX9_feed 61 = .ok (.goto (-28), 3) := by decide +kernel
theorem dX9_feed_64 : decode cX9_feed 64 = .ok (.aload_n 0, 1) := by decide +kernel
theorem dX9_feed_65 : decode cX9_feed 65 = .ok (.getfield 14, 3) := by decide +kernel
theorem dX9_feed_68 : decode cX9_feed 68 = .ok (.invokevirtual 65, 3) := by decide +kernel
theorem dX9_feed_71 : decode cX9_feed 71 = .ok (.ireturn, 1) := by decide +kernel
theorem dX9_lay_0 : decode cX9_lay 0 = .ok (.aload_n 0, 1) := by decide +kernel
theorem dX9_lay_1 : decode cX9_lay 1 = .ok (.iload_n 1, 1) := by decide +kernel
theorem dX9_lay_2 : decode cX9_lay 2 = .ok (.invokevirtual 68, 3) := by decide +kernel
theorem dX9_lay_5 : decode cX9_lay 5 = .ok (.astore_n 2, 1) := by decide +kernel
theorem dX9_lay_6 : decode cX9_lay 6 = .ok (.aload_n 2, 1) := by decide +kernel
theorem dX9_lay_7 : decode cX9_lay 7 = .ok (.ifnonnull 6, 3) := by decide +kernel
theorem dX9_lay_10 : decode cX9_lay 10 = .ok (.bipush (-101), 2) := by decide +kernel
theorem dX9_lay_12 : decode cX9_lay 12 = .ok (.ireturn, 1) := by decide +kernel
theorem dX9_lay_13 : decode cX9_lay 13 = .ok (.aload_n 2, 1) := by decide +kernel
theorem dX9_lay_14 : decode cX9_lay 14 = .ok (.getfield 72, 3) := by decide +kernel
theorem dX9_lay_17 : decode cX9_lay 17 = .ok (.aload_n 0, 1) := by decide +kernel
theorem dX9_lay_18 : decode cX9_lay 18 = .ok (.getfield 14, 3) := by decide +kernel
theorem dX9_lay_21 : decode cX9_lay 21 = .ok (.invokevirtual 75, 3) := by decide +kernel
theorem dX9_lay_24 : decode cX9_lay 24 = .ok (.aload_n 2, 1) := by decide +kernel
theorem dX9_lay_25 : decode cX9_lay 25 = .ok (.iconst 0, 1) := by decide +kernel
theorem dX9_lay_26 : decode cX9_lay 26 = .ok (.invokevirtual 79, 3) := by decide +kernel
theorem dX9_lay_29 : decode cX9_lay 29 = .ok (.aload_n 0, 1) := by decide +kernel
theorem dX9_lay_30 : decode cX9_lay 30 = .ok (.getfield 14, 3) := by decide +kernel
theorem dX9_lay_33 : decode cX9_lay 33 = .ok (.invokevirtual 83, 3) := by decide +kernel
theorem dX9_lay_36 : decode cX9_lay 36 = .ok (.aload_n 2, 1) := by decide +kernel
theorem dX9_lay_37 : decode cX9_lay 37 = .ok (.getfield 72, 3) := by decide +kernel
theorem dX9_lay_40 : decode cX9_lay 40 = .ok (.invokevirtual 65, 3) := by decide +kernel
theorem dX9_lay_43 : decode cX9_lay 43 = .ok (.ireturn, 1) := by decide +kernel
theorem dX9_octet_0 : decode cX9_octet 0 = .ok (.aload_n 0, 1) := by decide +kernel
theorem dX9_octet_1 : decode cX9_octet 1 = .ok (.iload_n 1, 1) := by decide +kernel
theorem dX9_octet_2 : decode cX9_octet 2 = .ok (.invokevirtual 68, 3) := by decide +kernel
theorem dX9_octet_5 : decode cX9_octet 5 = .ok (.astore_n 3, 1) := by decide +kernel
theorem dX9_octet_6 : decode cX9_octet 6 = .ok (.aload_n 3, 1) := by decide +kernel
theorem dX9_octet_7 : decode cX9_octet 7 = .ok (.ifnonnull 13, 3) := by decide +kernel
theorem dX9_octet_10 : decode cX9_octet 10 = .ok (.new 86, 3) := by decide +kernel
theorem dX9_octet_13 : decode cX9_octet 13 = .ok (.dup, 1) := by decide +kernel
theorem dX9_octet_14 : decode cX9_octet 14 = .ok (.ldc 88, 2) := by decide +kernel
theorem dX9_octet_16 : decode cX9_octet 16 = .ok (.invokespecial 90, 3) := by decide +kernel
theorem dX9_octet_19 : decode cX9_octet 19 = .ok (.athrow, 1) := by decide +kernel
theorem dX9_octet_20 : decode cX9_octet 20 = .ok (.aload_n 3, 1) := by decide +kernel
theorem dX9_octet_21 : decode cX9_octet 21 = .ok (.getfield 72, 3) := by decide +kernel
theorem dX9_octet_24 : decode cX9_octet 24 = .ok (.iload_n 2, 1) := by decide +kernel
theorem dX9_octet_25 : decode cX9_octet 25 = .ok (.invokevirtual 93, 3) := by decide +kernel
theorem dX9_octet_28 : decode cX9_octet 28 = .ok (.ifCond .ne 13, 3) := by decide +kernel
theorem dX9_octet_31 : decode cX9_octet 31 = .ok (.new 86, 3) := by decide +kernel
theorem dX9_octet_34 : decode cX9_octet 34 = .ok (.dup, 1) := by decide +kernel
theorem dX9_octet_35 : decode cX9_octet 35 = .ok (.ldc 96, 2) := by decide +kernel
theorem dX9_octet_37 : decode cX9_octet 37 = .ok (.invokespecial 90, 3) := by decide +kernel
theorem dX9_octet_40 : decode cX9_octet 40 = .ok (.athrow, 1) := by decide +kernel
theorem dX9_octet_41 : decode cX9_octet 41 = .ok (.aload_n 3, 1) := by decide +kernel
theorem dX9_octet_42 : decode cX9_octet 42 = .ok (.getfield 72, 3) := by decide +kernel
theorem dX9_octet_45 : decode cX9_octet 45 = .ok (.iload_n 2, 1) := by decide +kernel
theorem dX9_octet_46 : decode cX9_octet 46 = .ok (.invokevirtual 98, 3) := by decide +kernel
theorem dX9_octet_49 : decode cX9_octet 49 = .ok (.i2b, 1) := by decide +kernel
theorem dX9_octet_50 : decode cX9_octet 50 = .ok (.ireturn, 1) := by decide +kernel
theorem dX9_plant_0 : decode cX9_plant 0 = .ok (.aload_n 0, 1) := by decide +kernel
theorem dX9_plant_1 : decode cX9_plant 1 = .ok (.iload_n 1, 1) := by decide +kernel
theorem dX9_plant_2 : decode cX9_plant 2 = .ok (.invokevirtual 68, 3) := by decide +kernel
theorem dX9_plant_5 : decode cX9_plant 5 = .ok (.astore 4, 2) := by decide +kernel
theorem dX9_plant_7 : decode cX9_plant 7 = .ok (.aload 4, 2) := by decide +kernel
theorem dX9_plant_9 : decode cX9_plant 9 = .ok (.ifnull 15, 3) := by decide +kernel
theorem dX9_plant_12 : decode cX9_plant 12 = .ok (.aload 4, 2) := by decide +kernel
theorem dX9_plant_14 : decode cX9_plant 14 = .ok (.getfield 72, 3) := by decide +kernel
theorem dX9_plant_17 : decode cX9_plant 17 = .ok (.iload_n 2, 1) := by decide +kernel
theorem dX9_plant_18 : decode cX9_plant 18 = .ok (.invokevirtual 93, 3) := by decide +kernel
theorem dX9_plant_21 : decode cX9_plant 21 = .ok (.ifCond .ne 6, 3) := by decide +kernel
theorem dX9_plant_24 : decode cX9_plant 24 = .ok (.bipush (-101), 2) := by decide +kernel
theorem dX9_plant_26 : decode cX9_plant 26 = .ok (.ireturn, 1) := by decide +kernel
theorem dX9_plant_27 : decode cX9_plant 27 = .ok (.iload_n 3, 1) := by decide +kernel
theorem dX9_plant_28 : decode cX9_plant 28 = .ok (.ifCond .lt 10, 3) := by decide +kernel
theorem dX9_plant_31 : decode cX9_plant 31 = .ok (.iload_n 3, 1) := by decide +kernel
theorem dX9_plant_32 : decode cX9_plant 32 = .ok (.sipush 255, 3) := by decide +kernel
theorem dX9_plant_35 : decode cX9_plant 35 = .ok (.if_icmp .le 6, 3) := by decide +kernel
theorem dX9_plant_38 : decode cX9_plant 38 = .ok (.bipush (-102), 2) := by decide +kernel
theorem dX9_plant_40 : decode cX9_plant 40 = .ok (.ireturn, 1) := by decide +kernel
theorem dX9_plant_41 : decode cX9_plant 41 = .ok (.aload 4, 2) := by decide +kernel
theorem dX9_plant_43 : decode cX9_plant 43 = .ok (.getfield 72, 3) := by decide +kernel
theorem dX9_plant_46 : decode cX9_plant 46 = .ok (.iload_n 2, 1) := by decide +kernel
theorem dX9_plant_47 : decode cX9_plant 47 = .ok (.aload 4, 2) := by decide +kernel
theorem dX9_plant_49 : decode cX9_plant 49 = .ok (.getfield 72, 3) := by decide +kernel
theorem dX9_plant_52 : decode cX9_plant 52 = .ok (.iload_n 2, 1) := by decide +kernel
theorem dX9_plant_53 : decode cX9_plant 53 = .ok (.invokevirtual 98, 3) := by decide +kernel
theorem dX9_plant_56 : decode cX9_plant 56 = .ok (.iload_n 3, 1) := by decide +kernel
theorem dX9_plant_57 : decode cX9_plant 57 = .ok (.ixor, 1) := by decide +kernel
theorem dX9_plant_58 : decode cX9_plant 58 = .ok (.invokevirtual 102, 3) := by decide +kernel
theorem dX9_plant_61 : decode cX9_plant 61 = .ok (.aload 4, 2) := by decide +kernel
theorem dX9_plant_63 : decode cX9_plant 63 = .ok (.getfield 72, 3) := by decide +kernel
theorem dX9_plant_66 : decode cX9_plant 66 = .ok (.iload_n 2, 1) := by decide +kernel
theorem dX9_plant_67 : decode cX9_plant 67 = .ok (.invokevirtual 98, 3) := by decide +kernel
theorem dX9_plant_70 : decode cX9_plant 70 = .ok (.ireturn, 1) := by decide +kernel
theorem dX9_fails_0 : decode cX9_fails 0 = .ok (.aload_n 0, 1) := by decide +kernel
theorem dX9_fails_1 : decode cX9_fails 1 = .ok (.iload_n 1, 1) := by decide +kernel
theorem dX9_fails_2 : decode cX9_fails 2 = .ok (.invokevirtual 68, 3) := by decide +kernel
theorem dX9_fails_5 : decode cX9_fails 5 = .ok (.astore_n 3, 1) := by decide +kernel
theorem dX9_fails_6 : decode cX9_fails 6 = .ok (.aload_n 3, 1) := by decide +kernel
theorem dX9_fails_7 : decode cX9_fails 7 = .ok (.ifnonnull 6, 3) := by decide +kernel
theorem dX9_fails_10 : decode cX9_fails 10 = .ok (.bipush (-101), 2) := by decide +kernel
theorem dX9_fails_12 : decode cX9_fails 12 = .ok (.ireturn, 1) := by decide +kernel
theorem dX9_fails_13 : decode cX9_fails 13 = .ok (.aload_n 3, 1) := by decide +kernel
theorem dX9_fails_14 : decode cX9_fails 14 = .ok (.getfield 106, 3) := by decide +kernel
theorem dX9_fails_17 : decode cX9_fails 17 = .ok (.invokestatic 110, 3) := by decide +kernel
theorem dX9_fails_20 : decode cX9_fails 20 = .ok (.istore 4, 2) := by decide +kernel
theorem dX9_fails_22 : decode cX9_fails 22 = .ok (.aload_n 3, 1) := by decide +kernel
theorem dX9_fails_23 : decode cX9_fails 23 = .ok (.iload_n 2, 1) := by decide +kernel
theorem dX9_fails_24 : decode cX9_fails 24 = .ok (.invokevirtual 79, 3) := by decide +kernel
theorem dX9_fails_27 : decode cX9_fails 27 = .ok (.iload 4, 2) := by decide +kernel
theorem dX9_fails_29 : decode cX9_fails 29 = .ok (.ireturn, 1) := by decide +kernel
theorem dX9_judge_0 : decode cX9_judge 0 = .ok (.aload_n 0, 1) := by decide +kernel
theorem dX9_judge_1 : decode cX9_judge 1 = .ok (.iload_n 1, 1) := by decide +kernel
theorem dX9_judge_2 : decode cX9_judge 2 = .ok (.invokevirtual 68, 3) := by decide +kernel
theorem dX9_judge_5 : decode cX9_judge 5 = .ok (.astore_n 2, 1) := by decide +kernel
theorem dX9_judge_6 : decode cX9_judge 6 = .ok (.aload_n 2, 1) := by decide +kernel
theorem dX9_judge_7 : decode cX9_judge 7 = .ok (.ifnonnull 8, 3) := by decide +kernel
theorem dX9_judge_10 : decode cX9_judge 10 = .ok (.bipush (-101), 2) := by decide +kernel
theorem dX9_judge_12 : decode cX9_judge 12 = .ok (.goto 10, 3) := by decide +kernel
theorem dX9_judge_15 : decode cX9_judge 15 = .ok (.aload_n 2, 1) := by decide +kernel
theorem dX9_judge_16 : decode cX9_judge 16 = .ok (.getfield 72, 3) := by decide +kernel
theorem dX9_judge_19 : decode cX9_judge 19 = .ok (.invokestatic 114, 3) := by decide +kernel
theorem dX9_judge_22 : decode cX9_judge 22 = .ok (.ireturn, 1) := by decide +kernel
theorem dX9_define_0 : decode cX9_define 0 = .ok (.aload_n 0, 1) := by decide +kernel
theorem dX9_define_1 : decode cX9_define 1 = .ok (.iload_n 1, 1) := by decide +kernel
theorem dX9_define_2 : decode cX9_define 2 = .ok (.invokevirtual 68, 3) := by decide +kernel
theorem dX9_define_5 : decode cX9_define 5 = .ok (.astore_n 2, 1) := by decide +kernel
theorem dX9_define_6 : decode cX9_define 6 = .ok (.aload_n 2, 1) := by decide +kernel
theorem dX9_define_7 : decode cX9_define 7 = .ok (.ifnonnull 6, 3) := by decide +kernel
theorem dX9_define_10 : decode cX9_define 10 = .ok (.bipush (-101), 2) := by decide +kernel
theorem dX9_define_12 : decode cX9_define 12 = .ok (.ireturn, 1) := by decide +kernel
theorem dX9_define_13 : decode cX9_define 13 = .ok (.aload_n 2, 1) := by decide +kernel
theorem dX9_define_14 : decode cX9_define 14 = .ok (.getfield 72, 3) := by decide +kernel
theorem dX9_define_17 : decode cX9_define 17 = .ok (.invokestatic 114, 3) := by decide +kernel
theorem dX9_define_20 : decode cX9_define 20 = .ok (.istore_n 3, 1) := by decide +kernel
theorem dX9_define_21 : decode cX9_define 21 = .ok (.iload_n 3, 1) := by decide +kernel
theorem dX9_define_22 : decode cX9_define 22 = .ok (.ifCond .eq 8, 3) := by decide +kernel
theorem dX9_define_25 : decode cX9_define 25 = .ok (.bipush (-10), 2) := by decide +kernel
theorem dX9_define_27 : decode cX9_define 27 = .ok (.iload_n 3, 1) := by decide +kernel
theorem dX9_define_28 : decode cX9_define 28 = .ok (.isub, 1) := by decide +kernel
theorem dX9_define_29 : decode cX9_define 29 = .ok (.ireturn, 1) := by decide +kernel
theorem dX9_define_30 : decode cX9_define 30 = .ok (.aload_n 0, 1) := by decide +kernel
theorem dX9_define_31 : decode cX9_define 31 = .ok (.getfield 41, 3) := by decide +kernel
theorem dX9_define_34 : decode cX9_define 34 = .ok (.invokevirtual 120, 3) := by decide +kernel
theorem dX9_define_37 : decode cX9_define 37 = .ok (.ifCond .eq 6, 3) := by decide +kernel
theorem dX9_define_40 : decode cX9_define 40 = .ok (.bipush (-104), 2) := by decide +kernel
theorem dX9_define_42 : decode cX9_define 42 = .ok (.ireturn, 1) := by decide +kernel
theorem dX9_define_43 : decode cX9_define 43 = .ok (.aload_n 2, 1) := by decide +kernel
theorem dX9_define_44 : decode cX9_define 44 = .ok (.getfield 106, 3) := by decide +kernel
theorem dX9_define_47 : decode cX9_define 47 = .ok (.ifCond .eq 8, 3) := by decide +kernel
theorem dX9_define_50 : decode cX9_define 50 = .ok (.aload_n 2, 1) := by decide +kernel
theorem dX9_define_51 : decode cX9_define 51 = .ok (.invokevirtual 126, 3) := by decide +kernel
theorem dX9_define_54 : decode cX9_define 54 = .ok (.ireturn, 1) := by decide +kernel
theorem dX9_define_55 : decode cX9_define 55 = .ok (.aload_n 0, 1) := by decide +kernel
theorem dX9_define_56 : decode cX9_define 56 = .ok (.getfield 41, 3) := by decide +kernel
theorem dX9_define_59 : decode cX9_define 59 = .ok (.iload_n 1, 1) := by decide +kernel
theorem dX9_define_60 : decode cX9_define 60 = .ok (.aload_n 2, 1) := by decide +kernel
theorem dX9_define_61 : decode cX9_define 61 = .ok (.getfield 72, 3) := by decide +kernel
theorem dX9_define_64 : decode cX9_define 64 = .ok (.invokevirtual 129, 3) := by decide +kernel
theorem dX9_define_67 : decode cX9_define 67 = .ok (.ireturn, 1) := by decide +kernel
theorem dX9_unit_0 : decode cX9_unit 0 = .ok (.iload_n 1, 1) := by decide +kernel
theorem dX9_unit_1 : decode cX9_unit 1 = .ok (.ifCond .lt 16, 3) := by decide +kernel
theorem dX9_unit_4 : decode cX9_unit 4 = .ok (.iload_n 1, 1) := by decide +kernel
theorem dX9_unit_5 : decode cX9_unit 5 = .ok (.bipush 64, 2) := by decide +kernel
theorem dX9_unit_7 : decode cX9_unit 7 = .ok (.if_icmp .ge 10, 3) := by decide +kernel
theorem dX9_unit_10 : decode cX9_unit 10 = .ok (.iload_n 2, 1) := by decide +kernel
theorem dX9_unit_11 : decode cX9_unit 11 = .ok (.invokestatic 133, 3) := by decide +kernel
theorem dX9_unit_14 : decode cX9_unit 14 = .ok (.ifCond .ne 6, 3) := by decide +kernel
theorem dX9_unit_17 : decode cX9_unit 17 = .ok (.bipush (-102), 2) := by decide +kernel
theorem dX9_unit_19 : decode cX9_unit 19 = .ok (.ireturn, 1) := by decide +kernel
theorem dX9_unit_20 : decode cX9_unit 20 = .ok (.aload_n 0, 1) := by decide +kernel
theorem dX9_unit_21 : decode cX9_unit 21 = .ok (.getfield 46, 3) := by decide +kernel
theorem dX9_unit_24 : decode cX9_unit 24 = .ok (.iload_n 1, 1) := by decide +kernel
theorem dX9_unit_25 : decode cX9_unit 25 = .ok (.invokevirtual 136, 3) := by decide +kernel
theorem dX9_unit_28 : decode cX9_unit 28 = .ok (.ifCond .eq 6, 3) := by decide +kernel
theorem dX9_unit_31 : decode cX9_unit 31 = .ok (.bipush (-103), 2) := by decide +kernel
theorem dX9_unit_33 : decode cX9_unit 33 = .ok (.ireturn, 1) := by decide +kernel
theorem dX9_unit_34 : decode cX9_unit 34 = .ok (.aload_n 0, 1) := by decide +kernel
theorem dX9_unit_35 : decode cX9_unit 35 = .ok (.getfield 46, 3) := by decide +kernel
theorem dX9_unit_38 : decode cX9_unit 38 = .ok (.invokevirtual 141, 3) := by decide +kernel
theorem dX9_unit_41 : decode cX9_unit 41 = .ok (.ifCond .eq 6, 3) := by decide +kernel
theorem dX9_unit_44 : decode cX9_unit 44 = .ok (.bipush (-104), 2) := by decide +kernel
theorem dX9_unit_46 : decode cX9_unit 46 = .ok (.ireturn, 1) := by decide +kernel
theorem dX9_unit_47 : decode cX9_unit 47 = .ok (.aload_n 0, 1) := by decide +kernel
theorem dX9_unit_48 : decode cX9_unit 48 = .ok (.getfield 46, 3) := by decide +kernel
theorem dX9_unit_51 : decode cX9_unit 51 = .ok (.iload_n 1, 1) := by decide +kernel
theorem dX9_unit_52 : decode cX9_unit 52 = .ok (.iload_n 2, 1) := by decide +kernel
theorem dX9_unit_53 : decode cX9_unit 53 = .ok (.iconst (-1), 1) := by decide +kernel
theorem dX9_unit_54 : decode cX9_unit 54 = .ok (.iconst 0, 1) := by decide +kernel
theorem dX9_unit_55 : decode cX9_unit 55 = .ok (.invokevirtual 142, 3) := by decide +kernel
theorem dX9_unit_58 : decode cX9_unit 58 = .ok (.ireturn, 1) := by decide +kernel
theorem dX9_marks_0 : decode cX9_marks 0 = .ok (.aload_n 0, 1) := by decide +kernel
theorem dX9_marks_1 : decode cX9_marks 1 = .ok (.getfield 46, 3) := by decide +kernel
theorem dX9_marks_4 : decode cX9_marks 4 = .ok (.iload_n 1, 1) := by decide +kernel
theorem dX9_marks_5 : decode cX9_marks 5 = .ok (.invokevirtual 146, 3) := by decide +kernel
theorem dX9_marks_8 : decode cX9_marks 8 = .ok (.ifCond .ne 6, 3) := by decide +kernel
theorem dX9_marks_11 : decode cX9_marks 11 = .ok (.bipush (-101), 2) := by decide +kernel
theorem dX9_marks_13 : decode cX9_marks 13 = .ok (.ireturn, 1) := by decide +kernel
theorem dX9_marks_14 : decode cX9_marks 14 = .ok (.iload_n 2, 1) := by decide +kernel
theorem dX9_marks_15 : decode cX9_marks 15 = .ok (.invokestatic 133, 3) := by decide +kernel
theorem dX9_marks_18 : decode cX9_marks 18 = .ok (.ifCond .ne 6, 3) := by decide +kernel
theorem dX9_marks_21 : decode cX9_marks 21 = .ok (.bipush (-102), 2) := by decide +kernel
theorem dX9_marks_23 : decode cX9_marks 23 = .ok (.ireturn, 1) := by decide +kernel
theorem dX9_marks_24 : decode cX9_marks 24 = .ok (.aload_n 0, 1) := by decide +kernel
theorem dX9_marks_25 : decode cX9_marks 25 = .ok (.getfield 46, 3) := by decide +kernel
theorem dX9_marks_28 : decode cX9_marks 28 = .ok (.iload_n 1, 1) := by decide +kernel
theorem dX9_marks_29 : decode cX9_marks 29 = .ok (.invokevirtual 147, 3) := by decide +kernel
theorem dX9_marks_32 : decode cX9_marks 32 = .ok (.istore_n 3, 1) := by decide +kernel
theorem dX9_marks_33 : decode cX9_marks 33 = .ok (.aload_n 0, 1) := by decide +kernel
theorem dX9_marks_34 : decode cX9_marks 34 = .ok (.getfield 46, 3) := by decide +kernel
theorem dX9_marks_37 : decode cX9_marks 37 = .ok (.iload_n 1, 1) := by decide +kernel
theorem dX9_marks_38 : decode cX9_marks 38 = .ok (.iload_n 2, 1) := by decide +kernel
theorem dX9_marks_39 : decode cX9_marks 39 = .ok (.invokevirtual 150, 3) := by decide +kernel
theorem dX9_marks_42 : decode cX9_marks 42 = .ok (.iload_n 3, 1) := by decide +kernel
theorem dX9_marks_43 : decode cX9_marks 43 = .ok (.ireturn, 1) := by decide +kernel
theorem dX9_anew_0 : decode cX9_anew 0 = .ok (.aload_n 0, 1) := by decide +kernel
theorem dX9_anew_1 : decode cX9_anew 1 = .ok (.getfield 46, 3) := by decide +kernel
theorem dX9_anew_4 : decode cX9_anew 4 = .ok (.invokevirtual 153, 3) := by decide +kernel
theorem dX9_anew_7 : decode cX9_anew 7 = .ok (.aload_n 0, 1) := by decide +kernel
theorem dX9_anew_8 : decode cX9_anew 8 = .ok (.getfield 46, 3) := by decide +kernel
theorem dX9_anew_11 : decode cX9_anew 11 = .ok (.invokevirtual 154, 3) := by decide +kernel
theorem dX9_anew_14 : decode cX9_anew 14 = .ok (.isub, 1) := by decide +kernel
theorem dX9_anew_15 : decode cX9_anew 15 = .ok (.istore_n 1, 1) := by decide +kernel
theorem dX9_anew_16 : decode cX9_anew 16 = .ok (.aload_n 0, 1) := by decide +kernel
theorem dX9_anew_17 : decode cX9_anew 17 = .ok (.getfield 46, 3) := by decide +kernel
theorem dX9_anew_20 : decode cX9_anew 20 = .ok (.invokevirtual 157, 3) := by decide +kernel
theorem dX9_anew_23 : decode cX9_anew 23 = .ok (.iload_n 1, 1) := by decide +kernel
theorem dX9_anew_24 : decode cX9_anew 24 = .ok (.ireturn, 1) := by decide +kernel
theorem dX9_option_0 : decode cX9_option 0 = .ok (.iload_n 1, 1) := by decide +kernel
theorem dX9_option_1 : decode cX9_option 1 = .ok (.ifCond .lt 12, 3) := by decide +kernel
theorem dX9_option_4 : decode cX9_option 4 = .ok (.iload_n 1, 1) := by decide +kernel
theorem dX9_option_5 : decode cX9_option 5 = .ok (.aload_n 0, 1) := by decide +kernel
theorem dX9_option_6 : decode cX9_option 6 = .ok (.getfield 36, 3) := by decide +kernel
theorem dX9_option_9 : decode cX9_option 9 = .ok (.arraylength, 1) := by decide +kernel
theorem dX9_option_10 : decode cX9_option 10 = .ok (.if_icmp .lt 6, 3) := by decide +kernel
theorem dX9_option_13 : decode cX9_option 13 = .ok (.bipush (-102), 2) := by decide +kernel
theorem dX9_option_15 : decode cX9_option 15 = .ok (.ireturn, 1) := by decide +kernel
theorem dX9_option_16 : decode cX9_option 16 = .ok (.aload_n 0, 1) := by decide +kernel
theorem dX9_option_17 : decode cX9_option 17 = .ok (.getfield 36, 3) := by decide +kernel
theorem dX9_option_20 : decode cX9_option 20 = .ok (.iload_n 1, 1) := by decide +kernel
theorem dX9_option_21 : decode cX9_option 21 = .ok (.iaload, 1) := by decide +kernel
theorem dX9_option_22 : decode cX9_option 22 = .ok (.istore_n 3, 1) := by decide +kernel
theorem dX9_option_23 : decode cX9_option 23 = .ok (.aload_n 0, 1) := by decide +kernel
theorem dX9_option_24 : decode cX9_option 24 = .ok (.getfield 36, 3) := by decide +kernel
theorem dX9_option_27 : decode cX9_option 27 = .ok (.iload_n 1, 1) := by decide +kernel
theorem dX9_option_28 : decode cX9_option 28 = .ok (.iload_n 2, 1) := by decide +kernel
theorem dX9_option_29 : decode cX9_option 29 = .ok (.iastore, 1) := by decide +kernel
theorem dX9_option_30 : decode cX9_option 30 = .ok (.iload_n 3, 1) := by decide +kernel
theorem dX9_option_31 : decode cX9_option 31 = .ok (.ireturn, 1) := by decide +kernel
theorem dX9_pass_0 : decode cX9_pass 0 = .ok (.aload_n 0, 1) := by decide +kernel
theorem dX9_pass_1 : decode cX9_pass 1 = .ok (.getfield 160, 3) := by decide +kernel
theorem dX9_pass_4 : decode cX9_pass 4 = .ok (.invokestatic 110, 3) := by decide +kernel
theorem dX9_pass_7 : decode cX9_pass 7 = .ok (.istore_n 2, 1) := by decide +kernel
theorem dX9_pass_8 : decode cX9_pass 8 = .ok (.aload_n 0, 1) := by decide +kernel
theorem dX9_pass_9 : decode cX9_pass 9 = .ok (.iload_n 1, 1) := by decide +kernel
theorem dX9_pass_10 : decode cX9_pass 10 = .ok (.putfield 160, 3) := by decide +kernel
theorem dX9_pass_13 : decode cX9_pass 13 = .ok (.iload_n 2, 1) := by decide +kernel
theorem dX9_pass_14 : decode cX9_pass 14 = .ok (.ireturn, 1) := by decide +kernel
theorem dX9_run_0 : decode cX9_run 0 = .ok (.iload_n 1, 1) := by decide +kernel
theorem dX9_run_1 : decode cX9_run 1 = .ok (.ifCond .lt 9, 3) := by decide +kernel
theorem dX9_run_4 : decode cX9_run 4 = .ok (.iload_n 1, 1) := by decide +kernel
theorem dX9_run_5 : decode cX9_run 5 = .ok (.ldc 163, 2) := by decide +kernel
theorem dX9_run_7 : decode cX9_run 7 = .ok (.if_icmp .le 6, 3) := by decide +kernel
theorem dX9_run_10 : decode cX9_run 10 = .ok (.bipush (-102), 2) := by decide +kernel
theorem dX9_run_12 : decode cX9_run 12 = .ok (.ireturn, 1) := by decide +kernel
theorem dX9_run_13 : decode cX9_run 13 = .ok (.aload_n 0, 1) := by decide +kernel
theorem dX9_run_14 : decode cX9_run 14 = .ok (.getfield 28, 3) := by decide +kernel
theorem dX9_run_17 : decode cX9_run 17 = .ok (.iload_n 1, 1) := by decide +kernel
theorem dX9_run_18 : decode cX9_run 18 = .ok (.aload_n 0, 1) := by decide +kernel
theorem dX9_run_19 : decode cX9_run 19 = .ok (.getfield 160, 3) := by decide +kernel
theorem dX9_run_22 : decode cX9_run 22 = .ok (.invokevirtual 164, 3) := by decide +kernel
theorem dX9_run_25 : decode cX9_run 25 = .ok (.ireturn, 1) := by decide +kernel
theorem dX9_mirror_0 : decode cX9_mirror 0 = .ok (.aload_n 0, 1) := by decide +kernel
theorem dX9_mirror_1 : decode cX9_mirror 1 = .ok (.getfield 46, 3) := by decide +kernel
theorem dX9_mirror_4 : decode cX9_mirror 4 = .ok (.iload_n 1, 1) := by decide +kernel
theorem dX9_mirror_5 : decode cX9_mirror 5 = .ok (.invokevirtual 146, 3) := by decide +kernel
theorem dX9_mirror_8 : decode cX9_mirror 8 = .ok (.ifCond .ne 6, 3) := by decide +kernel
theorem dX9_mirror_11 : decode cX9_mirror 11 = .ok (.bipush (-101), 2) := by decide +kernel
theorem dX9_mirror_13 : decode cX9_mirror 13 = .ok (.ireturn, 1) := by decide +kernel
theorem dX9_mirror_14 : decode cX9_mirror 14 = .ok (.iload_n 2, 1) := by decide +kernel
theorem dX9_mirror_15 : decode cX9_mirror 15 = .ok (.ifCond .lt 8, 3) := by decide +kernel
theorem dX9_mirror_18 : decode cX9_mirror 18 = .ok (.iload_n 2, 1) := by decide +kernel
theorem dX9_mirror_19 : decode cX9_mirror 19 = .ok (.iconst 5, 1) := by decide +kernel
theorem dX9_mirror_20 : decode cX9_mirror 20 = .ok (.if_icmp .lt 6, 3) := by decide +kernel
theorem dX9_mirror_23 : decode cX9_mirror 23 = .ok (.bipush (-102), 2) := by decide +kernel
theorem dX9_mirror_25 : decode cX9_mirror 25 = .ok (.ireturn, 1) := by decide +kernel
theorem dX9_mirror_26 : decode cX9_mirror 26 = .ok (.aload_n 0, 1) := by decide +kernel
theorem dX9_mirror_27 : decode cX9_mirror 27 = .ok (.getfield 46, 3) := by decide +kernel
theorem dX9_mirror_30 : decode cX9_mirror 30 = .ok (.iload_n 1, 1) := by decide +kernel
theorem dX9_mirror_31 : decode cX9_mirror 31 = .ok (.iload_n 2, 1) := by decide +kernel
theorem dX9_mirror_32 : decode cX9_mirror 32 = .ok (.invokevirtual 168, 3) := by decide +kernel
theorem dX9_mirror_35 : decode cX9_mirror 35 = .ok (.ireturn, 1) := by decide +kernel
theorem dX9_message_0 : decode cX9_message 0 = .ok (.aload_n 0, 1) := by decide +kernel
theorem dX9_message_1 : decode cX9_message 1 = .ok (.getfield 51, 3) := by decide +kernel
theorem dX9_message_4 : decode cX9_message 4 = .ok (.iload_n 1, 1) := by decide +kernel
theorem dX9_message_5 : decode cX9_message 5 = .ok (.invokevirtual 172, 3) := by decide +kernel
theorem dX9_message_8 : decode cX9_message 8 = .ok (.ifCond .ne 6, 3) := by decide +kernel
theorem dX9_message_11 : decode cX9_message 11 = .ok (.bipush (-101), 2) := by decide +kernel
theorem dX9_message_13 : decode cX9_message 13 = .ok (.ireturn, 1) := by decide +kernel
theorem dX9_message_14 : decode cX9_message 14 = .ok (.iload_n 2, 1) := by decide +kernel
theorem dX9_message_15 : decode cX9_message 15 = .ok (.ifCond .lt 8, 3) := by decide +kernel
theorem dX9_message_18 : decode cX9_message 18 = .ok (.iload_n 2, 1) := by decide +kernel
theorem dX9_message_19 : decode cX9_message 19 = .ok (.iconst 5, 1) := by decide +kernel
theorem dX9_message_20 : decode cX9_message 20 = .ok (.if_icmp .lt 6, 3) := by decide +kernel
theorem dX9_message_23 : decode cX9_message 23 = .ok (.bipush (-102), 2) := by decide +kernel
theorem dX9_message_25 : decode cX9_message 25 = .ok (.ireturn, 1) := by decide +kernel
theorem dX9_message_26 : decode cX9_message 26 = .ok (.aload_n 0, 1) := by decide +kernel
theorem dX9_message_27 : decode cX9_message 27 = .ok (.getfield 51, 3) := by decide +kernel
theorem dX9_message_30 : decode cX9_message 30 = .ok (.iload_n 1, 1) := by decide +kernel
theorem dX9_message_31 : decode cX9_message 31 = .ok (.iload_n 2, 1) := by decide +kernel
theorem dX9_message_32 : decode cX9_message 32 = .ok (.invokevirtual 175, 3) := by decide +kernel
theorem dX9_message_35 : decode cX9_message 35 = .ok (.ireturn, 1) := by decide +kernel
theorem dX9_told_0 : decode cX9_told 0 = .ok (.aload_n 0, 1) := by decide +kernel
theorem dX9_told_1 : decode cX9_told 1 = .ok (.getfield 41, 3) := by decide +kernel
theorem dX9_told_4 : decode cX9_told 4 = .ok (.iload_n 1, 1) := by decide +kernel
theorem dX9_told_5 : decode cX9_told 5 = .ok (.invokevirtual 176, 3) := by decide +kernel
theorem dX9_told_8 : decode cX9_told 8 = .ok (.astore_n 3, 1) := by decide +kernel
theorem dX9_told_9 : decode cX9_told 9 = .ok (.aload_n 3, 1) := by decide +kernel
theorem dX9_told_10 : decode cX9_told 10 = .ok (.ifnonnull 6, 3) := by decide +kernel
theorem dX9_told_13 : decode cX9_told 13 = .ok (.bipush (-101), 2) := by decide +kernel
theorem dX9_told_15 : decode cX9_told 15 = .ok (.ireturn, 1) := by decide +kernel
theorem dX9_told_16 : decode cX9_told 16 = .ok (.iload_n 2, 1) := by decide +kernel
theorem dX9_told_17 : decode cX9_told 17 = .ok (.ifCond .lt 8, 3) := by decide +kernel
theorem dX9_told_20 : decode cX9_told 20 = .ok (.iload_n 2, 1) := by decide +kernel
theorem dX9_told_21 : decode cX9_told 21 = .ok (.iconst 4, 1) := by decide +kernel
theorem dX9_told_22 : decode cX9_told 22 = .ok (.if_icmp .lt 6, 3) := by decide +kernel
theorem dX9_told_25 : decode cX9_told 25 = .ok (.bipush (-102), 2) := by decide +kernel
theorem dX9_told_27 : decode cX9_told 27 = .ok (.ireturn, 1) := by decide +kernel
theorem dX9_told_28 : decode cX9_told 28 = .ok (.aload_n 3, 1) := by decide +kernel
theorem dX9_told_29 : decode cX9_told 29 = .ok (.iload_n 2, 1) := by decide +kernel
theorem dX9_told_30 : decode cX9_told 30 = .ok (.invokevirtual 179, 3) := by decide +kernel
theorem dX9_told_33 : decode cX9_told 33 = .ok (.ireturn, 1) := by decide +kernel
theorem dX9_cell_0 : decode cX9_cell 0 = .ok (.iload_n 1, 1) := by decide +kernel
theorem dX9_cell_1 : decode cX9_cell 1 = .ok (.ifCond .lt 9, 3) := by decide +kernel
theorem dX9_cell_4 : decode cX9_cell 4 = .ok (.iload_n 1, 1) := by decide +kernel
theorem dX9_cell_5 : decode cX9_cell 5 = .ok (.bipush 6, 2) := by decide +kernel
theorem dX9_cell_7 : decode cX9_cell 7 = .ok (.if_icmp .lt 13, 3) := by decide +kernel
theorem dX9_cell_10 : decode cX9_cell 10 = .ok (.new 86, 3) := by decide +kernel
theorem dX9_cell_13 : decode cX9_cell 13 = .ok (.dup, 1) := by decide +kernel
theorem dX9_cell_14 : decode cX9_cell 14 = .ok (.ldc 183, 2) := by decide +kernel
theorem dX9_cell_16 : decode cX9_cell 16 = .ok (.invokespecial 90, 3) := by decide +kernel
theorem dX9_cell_19 : decode cX9_cell 19 = .ok (.athrow, 1) := by decide +kernel
theorem dX9_cell_20 : decode cX9_cell 20 = .ok (.aload_n 0, 1) := by decide +kernel
theorem dX9_cell_21 : decode cX9_cell 21 = .ok (.getfield 41, 3) := by decide +kernel
theorem dX9_cell_24 : decode cX9_cell 24 = .ok (.iload_n 1, 1) := by decide +kernel
theorem dX9_cell_25 : decode cX9_cell 25 = .ok (.invokevirtual 176, 3) := by decide +kernel
theorem dX9_cell_28 : decode cX9_cell 28 = .ok (.astore_n 2, 1) := by decide +kernel
theorem dX9_cell_29 : decode cX9_cell 29 = .ok (.aload_n 2, 1) := by decide +kernel
theorem dX9_cell_30 : decode cX9_cell 30 = .ok (.ifnonnull 13, 3) := by decide +kernel
theorem dX9_cell_33 : decode cX9_cell 33 = .ok (.new 185, 3) := by decide +kernel
theorem dX9_cell_36 : decode cX9_cell 36 = .ok (.dup, 1) := by decide +kernel
theorem dX9_cell_37 : decode cX9_cell 37 = .ok (.ldc 187, 2) := by decide +kernel
theorem dX9_cell_39 : decode cX9_cell 39 = .ok (.invokespecial 189, 3) := by decide +kernel
theorem dX9_cell_42 : decode cX9_cell 42 = .ok (.athrow, 1) := by decide +kernel
theorem dX9_cell_43 : decode cX9_cell 43 = .ok (.aload_n 2, 1) := by decide +kernel
theorem dX9_cell_44 : decode cX9_cell 44 = .ok (.getfield 190, 3) := by decide +kernel
theorem dX9_cell_47 : decode cX9_cell 47 = .ok (.ireturn, 1) := by decide +kernel
theorem dX9_resource_0 : decode cX9_resource 0 = .ok (.aload_n 0, 1) := by decide +kernel
theorem dX9_resource_1 : decode cX9_resource 1 = .ok (.getfield 56, 3) := by decide +kernel
theorem dX9_resource_4 : decode cX9_resource 4 = .ok (.iload_n 1, 1) := by decide +kernel
theorem dX9_resource_5 : decode cX9_resource 5 = .ok (.invokevirtual 194, 3) := by decide +kernel
theorem dX9_resource_8 : decode cX9_resource 8 = .ok (.astore_n 3, 1) := by decide +kernel
theorem dX9_resource_9 : decode cX9_resource 9 = .ok (.aload_n 3, 1) := by decide +kernel
theorem dX9_resource_10 : decode cX9_resource 10 = .ok (.ifnonnull 13, 3) := by decide +kernel
theorem dX9_resource_13 : decode cX9_resource 13 = .ok (.new 86, 3) := by decide +kernel
theorem dX9_resource_16 : decode cX9_resource 16 = .ok (.dup, 1) := by decide +kernel
theorem dX9_resource_17 : decode cX9_resource 17 = .ok (.ldc 199, 2) := by decide +kernel
theorem dX9_resource_19 : decode cX9_resource 19 = .ok (.invokespecial 90, 3) := by decide +kernel
theorem dX9_resource_22 : decode cX9_resource 22 = .ok (.athrow, 1) := by decide +kernel
theorem dX9_resource_23 : decode cX9_resource 23 = .ok (.aload_n 3, 1) := by decide +kernel
theorem dX9_resource_24 : decode cX9_resource 24 = .ok (.iload_n 2, 1) := by decide +kernel
theorem dX9_resource_25 : decode cX9_resource 25 = .ok (.invokevirtual 93, 3) := by decide +kernel
theorem dX9_resource_28 : decode cX9_resource 28 = .ok (.ifCond .ne 13, 3) := by decide +kernel
theorem dX9_resource_31 : decode cX9_resource 31 = .ok (.new 86, 3) := by decide +kernel
theorem dX9_resource_34 : decode cX9_resource 34 = .ok (.dup, 1) := by decide +kernel
theorem dX9_resource_35 : decode cX9_resource 35 = .ok (.ldc 96, 2) := by decide +kernel
theorem dX9_resource_37 : decode cX9_resource 37 = .ok (.invokespecial 90, 3) := by decide +kernel
theorem dX9_resource_40 : decode cX9_resource 40 = .ok (.athrow, 1) := by decide +kernel
theorem dX9_resource_41 : decode cX9_resource 41 = .ok (.aload_n 3, 1) := by decide +kernel
theorem dX9_resource_42 : decode cX9_resource 42 = .ok (.iload_n 2, 1) := by decide +kernel
theorem dX9_resource_43 : decode cX9_resource 43 = .ok (.invokevirtual 98, 3) := by decide +kernel
theorem dX9_resource_46 : decode cX9_resource 46 = .ok (.ireturn, 1) := by decide +kernel
theorem dX9_about_0 : decode cX9_about 0 = .ok (.iload_n 1, 1) := by decide +kernel
theorem dX9_about_1 : decode cX9_about 1 = .ok (.tableswitch 99 0 6 #[43, 51, 59, 67, 75, 83, 91], 43) := by decide +kernel
theorem dX9_about_44 : decode cX9_about 44 = .ok (.aload_n 0, 1) := by decide +kernel
theorem dX9_about_45 : decode cX9_about 45 = .ok (.getfield 46, 3) := by decide +kernel
theorem dX9_about_48 : decode cX9_about 48 = .ok (.invokevirtual 153, 3) := by decide +kernel
theorem dX9_about_51 : decode cX9_about 51 = .ok (.ireturn, 1) := by decide +kernel
theorem dX9_about_52 : decode cX9_about 52 = .ok (.aload_n 0, 1) := by decide +kernel
theorem dX9_about_53 : decode cX9_about 53 = .ok (.getfield 41, 3) := by decide +kernel
theorem dX9_about_56 : decode cX9_about 56 = .ok (.invokevirtual 201, 3) := by decide +kernel
theorem dX9_about_59 : decode cX9_about 59 = .ok (.ireturn, 1) := by decide +kernel
theorem dX9_about_60 : decode cX9_about 60 = .ok (.aload_n 0, 1) := by decide +kernel
theorem dX9_about_61 : decode cX9_about 61 = .ok (.getfield 51, 3) := by decide +kernel
theorem dX9_about_64 : decode cX9_about 64 = .ok (.invokevirtual 202, 3) := by decide +kernel
theorem dX9_about_67 : decode cX9_about 67 = .ok (.ireturn, 1) := by decide +kernel
theorem dX9_about_68 : decode cX9_about 68 = .ok (.aload_n 0, 1) := by decide +kernel
theorem dX9_about_69 : decode cX9_about 69 = .ok (.getfield 46, 3) := by decide +kernel
theorem dX9_about_72 : decode cX9_about 72 = .ok (.invokevirtual 154, 3) := by decide +kernel
theorem dX9_about_75 : decode cX9_about 75 = .ok (.ireturn, 1) := by decide +kernel
theorem dX9_about_76 : decode cX9_about 76 = .ok (.aload_n 0, 1) := by decide +kernel
theorem dX9_about_77 : decode cX9_about 77 = .ok (.getfield 28, 3) := by decide +kernel
theorem dX9_about_80 : decode cX9_about 80 = .ok (.getfield 203, 3) := by decide +kernel
theorem dX9_about_83 : decode cX9_about 83 = .ok (.ireturn, 1) := by decide +kernel
theorem dX9_about_84 : decode cX9_about 84 = .ok (.aload_n 0, 1) := by decide +kernel
theorem dX9_about_85 : decode cX9_about 85 = .ok (.getfield 28, 3) := by decide +kernel
theorem dX9_about_88 : decode cX9_about 88 = .ok (.getfield 206, 3) := by decide +kernel
theorem dX9_about_91 : decode cX9_about 91 = .ok (.ireturn, 1) := by decide +kernel
theorem dX9_about_92 : decode cX9_about 92 = .ok (.aload_n 0, 1) := by decide +kernel
theorem dX9_about_93 : decode cX9_about 93 = .ok (.getfield 28, 3) := by decide +kernel
theorem dX9_about_96 : decode cX9_about 96 = .ok (.getfield 209, 3) := by decide +kernel
theorem dX9_about_99 : decode cX9_about 99 = .ok (.ireturn, 1) := by decide +kernel
theorem dX9_about_100 : decode cX9_about 100 = .ok (.aload_n 0, 1) := by decide +kernel
theorem dX9_about_101 : decode cX9_about 101 = .ok (.iload_n 1, 1) := by decide +kernel
theorem dX9_about_102 : decode cX9_about 102 = .ok (.bipush 10, 2) := by decide +kernel
theorem dX9_about_104 : decode cX9_about 104 = .ok (.isub, 1) := by decide +kernel
theorem dX9_about_105 : decode cX9_about 105 = .ok (.invokevirtual 212, 3) := by decide +kernel
theorem dX9_about_108 : decode cX9_about 108 = .ok (.ireturn, 1) := by decide +kernel
theorem dX9_clear_0 : decode cX9_clear 0 = .ok (.aload_n 0, 1) := by decide +kernel
theorem dX9_clear_1 : decode cX9_clear 1 = .ok (.getfield 46, 3) := by decide +kernel
theorem dX9_clear_4 : decode cX9_clear 4 = .ok (.invokevirtual 153, 3) := by decide +kernel
theorem dX9_clear_7 : decode cX9_clear 7 = .ok (.istore_n 1, 1) := by decide +kernel
theorem dX9_clear_8 : decode cX9_clear 8 = .ok (.aload_n 0, 1) := by decide +kernel
theorem dX9_clear_9 : decode cX9_clear 9 = .ok (.getfield 46, 3) := by decide +kernel
theorem dX9_clear_12 : decode cX9_clear 12 = .ok (.iconst 0, 1) := by decide +kernel
theorem dX9_clear_13 : decode cX9_clear 13 = .ok (.invokevirtual 215, 3) := by decide +kernel
theorem dX9_clear_16 : decode cX9_clear 16 = .ok (.aload_n 0, 1) := by decide +kernel
theorem dX9_clear_17 : decode cX9_clear 17 = .ok (.getfield 41, 3) := by decide +kernel
theorem dX9_clear_20 : decode cX9_clear 20 = .ok (.invokevirtual 218, 3) := by decide +kernel
theorem dX9_clear_23 : decode cX9_clear 23 = .ok (.aload_n 0, 1) := by decide +kernel
theorem dX9_clear_24 : decode cX9_clear 24 = .ok (.getfield 51, 3) := by decide +kernel
theorem dX9_clear_27 : decode cX9_clear 27 = .ok (.invokevirtual 221, 3) := by decide +kernel
theorem dX9_clear_30 : decode cX9_clear 30 = .ok (.aload_n 0, 1) := by decide +kernel
theorem dX9_clear_31 : decode cX9_clear 31 = .ok (.getfield 56, 3) := by decide +kernel
theorem dX9_clear_34 : decode cX9_clear 34 = .ok (.invokevirtual 224, 3) := by decide +kernel
theorem dX9_clear_37 : decode cX9_clear 37 = .ok (.iload_n 1, 1) := by decide +kernel
theorem dX9_clear_38 : decode cX9_clear 38 = .ok (.ireturn, 1) := by decide +kernel
theorem dX9_fileAt_0 : decode cX9_fileAt 0 = .ok (.iload_n 1, 1) := by decide +kernel
theorem dX9_fileAt_1 : decode cX9_fileAt 1 = .ok (.ifCond .lt 21, 3) := by decide +kernel
theorem dX9_fileAt_4 : decode cX9_fileAt 4 = .ok (.iload_n 1, 1) := by decide +kernel
theorem dX9_fileAt_5 : decode cX9_fileAt 5 = .ok (.aload_n 0, 1) := by decide +kernel
theorem dX9_fileAt_6 : decode cX9_fileAt 6 = .ok (.getfield 20, 3) := by decide +kernel
theorem dX9_fileAt_9 : decode cX9_fileAt 9 = .ok (.arraylength, 1) := by decide +kernel
theorem dX9_fileAt_10 : decode cX9_fileAt 10 = .ok (.if_icmp .ge 12, 3) := by decide +kernel
theorem dX9_fileAt_13 : decode cX9_fileAt 13 = .ok (.aload_n 0, 1) := by decide +kernel
theorem dX9_fileAt_14 : decode cX9_fileAt 14 = .ok (.getfield 20, 3) := by decide +kernel
theorem dX9_fileAt_17 : decode cX9_fileAt 17 = .ok (.iload_n 1, 1) := by decide +kernel
theorem dX9_fileAt_18 : decode cX9_fileAt 18 = .ok (.aaload, 1) := by decide +kernel
theorem dX9_fileAt_19 : decode cX9_fileAt 19 = .ok (.goto 4, 3) := by decide +kernel
theorem dX9_fileAt_22 : decode cX9_fileAt 22 = .ok (.aconst_null, 1) := by decide +kernel
theorem dX9_fileAt_23 : decode cX9_fileAt 23 = .ok (.areturn, 1) := by decide +kernel
theorem dX9_bytesOfResource_0 : decode cX9_bytesOfResource 0 = .ok (.aload_n 0, 1) := by decide +kernel
theorem dX9_bytesOfResource_1 : decode cX9_bytesOfResource 1 = .ok (.getfield 56, 3) := by decide +kernel
theorem dX9_bytesOfResource_4 : decode cX9_bytesOfResource 4 = .ok (.iload_n 1, 1) := by decide +kernel
theorem dX9_bytesOfResource_5 : decode cX9_bytesOfResource 5 = .ok (.invokevirtual 194, 3) := by decide +kernel
theorem dX9_bytesOfResource_8 : decode cX9_bytesOfResource 8 = .ok (.astore_n 2, 1) := by decide +kernel
theorem dX9_bytesOfResource_9 : decode cX9_bytesOfResource 9 = .ok (.aload_n 2, 1) := by decide +kernel
theorem dX9_bytesOfResource_10 : decode cX9_bytesOfResource 10 = .ok (.ifnonnull 8, 3) := by decide +kernel
theorem dX9_bytesOfResource_13 : decode cX9_bytesOfResource 13 = .ok (.bipush (-102), 2) := by decide +kernel
theorem dX9_bytesOfResource_15 : decode cX9_bytesOfResource 15 = .ok (.goto 7, 3) := by decide +kernel
theorem dX9_bytesOfResource_18 : decode cX9_bytesOfResource 18 = .ok (.aload_n 2, 1) := by decide +kernel
theorem dX9_bytesOfResource_19 : decode cX9_bytesOfResource 19 = .ok (.invokevirtual 65, 3) := by decide +kernel
theorem dX9_bytesOfResource_22 : decode cX9_bytesOfResource 22 = .ok (.ireturn, 1) := by decide +kernel
theorem dX9_areMarks_0 : decode cX9_areMarks 0 = .ok (.iload_n 0, 1) := by decide +kernel
theorem dX9_areMarks_1 : decode cX9_areMarks 1 = .ok (.ifCond .lt 14, 3) := by decide +kernel
theorem dX9_areMarks_4 : decode cX9_areMarks 4 = .ok (.iload_n 0, 1) := by decide +kernel
theorem dX9_areMarks_5 : decode cX9_areMarks 5 = .ok (.sipush 256, 3) := by decide +kernel
theorem dX9_areMarks_8 : decode cX9_areMarks 8 = .ok (.if_icmp .ge 7, 3) := by decide +kernel
theorem dX9_areMarks_11 : decode cX9_areMarks 11 = .ok (.iconst 1, 1) := by decide +kernel
theorem dX9_areMarks_12 : decode cX9_areMarks 12 = .ok (.goto 4, 3) := by decide +kernel
theorem dX9_areMarks_15 : decode cX9_areMarks 15 = .ok (.iconst 0, 1) := by decide +kernel
theorem dX9_areMarks_16 : decode cX9_areMarks 16 = .ok (.ireturn, 1) := by decide +kernel
theorem dX9_oneIf_0 : decode cX9_oneIf 0 = .ok (.iload_n 0, 1) := by decide +kernel
theorem dX9_oneIf_1 : decode cX9_oneIf 1 = .ok (.ifCond .eq 7, 3) := by decide +kernel
theorem dX9_oneIf_4 : decode cX9_oneIf 4 = .ok (.iconst 1, 1) := by decide +kernel
theorem dX9_oneIf_5 : decode cX9_oneIf 5 = .ok (.goto 4, 3) := by decide +kernel
theorem dX9_oneIf_8 : decode cX9_oneIf 8 = .ok (.iconst 0, 1) := by decide +kernel
theorem dX9_oneIf_9 : decode cX9_oneIf 9 = .ok (.ireturn, 1) := by decide +kernel
end
section
theorem dX10_init_0 : decode cX10_init 0 = .ok (.aload_n 0, 1) := by decide +kernel
theorem dX10_init_1 : decode cX10_init 1 = .ok (.invokespecial 1, 3) := by decide +kernel
theorem dX10_init_4 : decode cX10_init 4 = .ok (.aload_n 0, 1) := by decide +kernel
theorem dX10_init_5 : decode cX10_init 5 = .ok (.bipush 64, 2) := by decide +kernel
theorem dX10_init_7 : decode cX10_init 7 = .ok (.newarray .int, 2) := by decide +kernel
theorem dX10_init_9 : decode cX10_init 9 = .ok (.putfield 7, 3) := by decide +kernel
theorem dX10_init_12 : decode cX10_init 12 = .ok (.aload_n 0, 1) := by decide +kernel
theorem dX10_init_13 : decode cX10_init 13 = .ok (.bipush 6, 2) := by decide +kernel
theorem dX10_init_15 : decode cX10_init 15 = .ok (.newarray .int, 2) := by decide +kernel
theorem dX10_init_17 : decode cX10_init 17 = .ok (.putfield 13, 3) := by decide +kernel
theorem dX10_init_20 : decode cX10_init 20 = .ok (.aload_n 0, 1) := by decide +kernel
theorem dX10_init_21 : decode cX10_init 21 = .ok (.sipush 384, 3) := by decide +kernel
theorem dX10_init_24 : decode cX10_init 24 = .ok (.newarray .int, 2) := by decide +kernel
theorem dX10_init_26 : decode cX10_init 26 = .ok (.putfield 16, 3) := by decide +kernel
theorem dX10_init_29 : decode cX10_init 29 = .ok (.aload_n 0, 1) := by decide +kernel
theorem dX10_init_30 : decode cX10_init 30 = .ok (.bipush 6, 2) := by decide +kernel
theorem dX10_init_32 : decode cX10_init 32 = .ok (.newarray .boolean, 2) := by decide +kernel
theorem dX10_init_34 : decode cX10_init 34 = .ok (.putfield 19, 3) := by decide +kernel
theorem dX10_init_37 : decode cX10_init 37 = .ok (.aload_n 0, 1) := by decide +kernel
theorem dX10_init_38 : decode cX10_init 38 = .ok (.bipush 6, 2) := by decide +kernel
theorem dX10_init_40 : decode cX10_init 40 = .ok (.newarray .boolean, 2) := by decide +kernel
theorem dX10_init_42 : decode cX10_init 42 = .ok (.putfield 23, 3) := by decide +kernel
theorem dX10_init_45 : decode cX10_init 45 = .ok (.aload_n 0, 1) := by decide +kernel
theorem dX10_init_46 : decode cX10_init 46 = .ok (.bipush 6, 2) := by decide +kernel
theorem dX10_init_48 : decode cX10_init 48 = .ok (.newarray .int, 2) := by decide +kernel
theorem dX10_init_50 : decode cX10_init 50 = .ok (.putfield 26, 3) := by decide +kernel
theorem dX10_init_53 : decode cX10_init 53 = .ok (.aload_n 0, 1) := by decide +kernel
theorem dX10_init_54 : decode cX10_init 54 = .ok (.bipush 6, 2) := by decide +kernel
theorem dX10_init_56 : decode cX10_init 56 = .ok (.newarray .int, 2) := by decide +kernel
theorem dX10_init_58 : decode cX10_init 58 = .ok (.putfield 29, 3) := by decide +kernel
theorem dX10_init_61 : decode cX10_init 61 = .ok (.aload_n 0, 1) := by decide +kernel
theorem dX10_init_62 : decode cX10_init 62 = .ok (.sipush 288, 3) := by decide +kernel
theorem dX10_init_65 : decode cX10_init 65 = .ok (.newarray .int, 2) := by decide +kernel
theorem dX10_init_67 : decode cX10_init 67 = .ok (.putfield 32, 3) := by decide +kernel
theorem dX10_init_70 : decode cX10_init 70 = .ok (.aload_n 0, 1) := by decide +kernel
theorem dX10_init_71 : decode cX10_init 71 = .ok (.bipush 6, 2) := by decide +kernel
theorem dX10_init_73 : decode cX10_init 73 = .ok (.newarray .int, 2) := by decide +kernel
theorem dX10_init_75 : decode cX10_init 75 = .ok (.putfield 35, 3) := by decide +kernel
theorem dX10_init_78 : decode cX10_init 78 = .ok (.aload_n 0, 1) := by decide +kernel
theorem dX10_init_79 : decode cX10_init 79 = .ok (.bipush 6, 2) := by decide +kernel
theorem dX10_init_81 : decode cX10_init 81 = .ok (.newarray .int, 2) := by decide +kernel
theorem dX10_init_83 : decode cX10_init 83 = .ok (.putfield 38, 3) := by decide +kernel
theorem dX10_init_86 : decode cX10_init 86 = .ok (.aload_n 0, 1) := by decide +kernel
theorem dX10_init_87 : decode cX10_init 87 = .ok (.bipush 6, 2) := by decide +kernel
theorem dX10_init_89 : decode cX10_init 89 = .ok (.newarray .boolean, 2) := by decide +kernel
theorem dX10_init_91 : decode cX10_init 91 = .ok (.putfield 41, 3) := by decide +kernel
theorem dX10_init_94 : decode cX10_init 94 = .ok (.aload_n 0, 1) := by decide +kernel
theorem dX10_init_95 : decode cX10_init 95 = .ok (.bipush 6, 2) := by decide +kernel
theorem dX10_init_97 : decode cX10_init 97 = .ok (.newarray .int, 2) := by decide +kernel
theorem dX10_init_99 : decode cX10_init 99 = .ok (.putfield 44, 3) := by decide +kernel
theorem dX10_init_102 : decode cX10_init 102 = .ok (.aload_n 0, 1) := by decide +kernel
theorem dX10_init_103 : decode cX10_init 103 = .ok (.bipush 40, 2) := by decide +kernel
theorem dX10_init_105 : decode cX10_init 105 = .ok (.newarray .int, 2) := by decide +kernel
theorem dX10_init_107 : decode cX10_init 107 = .ok (.putfield 47, 3) := by decide +kernel
theorem dX10_init_110 : decode cX10_init 110 = .ok (.aload_n 0, 1) := by decide +kernel
theorem dX10_init_111 : decode cX10_init 111 = .ok (.bipush 40, 2) := by decide +kernel
theorem dX10_init_113 : decode cX10_init 113 = .ok (.newarray .int, 2) := by decide +kernel
theorem dX10_init_115 : decode cX10_init 115 = .ok (.putfield 50, 3) := by decide +kernel
theorem dX10_init_118 : decode cX10_init 118 = .ok (.aload_n 0, 1) := by decide +kernel
theorem dX10_init_119 : decode cX10_init 119 = .ok (.bipush 40, 2) := by decide +kernel
theorem dX10_init_121 : decode cX10_init 121 = .ok (.newarray .boolean, 2) := by decide +kernel
theorem dX10_init_123 : decode cX10_init 123 = .ok (.putfield 53, 3) := by decide +kernel
theorem dX10_init_126 : decode cX10_init 126 = .ok (.aload_n 0, 1) := by decide +kernel
theorem dX10_init_127 : decode cX10_init 127 = .ok (.bipush 40, 2) := by decide +kernel
theorem dX10_init_129 : decode cX10_init 129 = .ok (.newarray .int, 2) := by decide +kernel
theorem dX10_init_131 : decode cX10_init 131 = .ok (.putfield 56, 3) := by decide +kernel
theorem dX10_init_134 : decode cX10_init 134 = .ok (.aload_n 0, 1) := by decide +kernel
theorem dX10_init_135 : decode cX10_init 135 = .ok (.bipush 40, 2) := by decide +kernel
theorem dX10_init_137 : decode cX10_init 137 = .ok (.newarray .int, 2) := by decide +kernel
theorem dX10_init_139 : decode cX10_init 139 = .ok (.putfield 59, 3) := by decide +kernel
theorem dX10_init_142 : decode cX10_init 142 = .ok (.aload_n 0, 1) := by decide +kernel
theorem dX10_init_143 : decode cX10_init 143 = .ok (.iconst 4, 1) := by decide +kernel
theorem dX10_init_144 : decode cX10_init 144 = .ok (.newarray .int, 2) := by decide +kernel
theorem dX10_init_146 : decode cX10_init 146 = .ok (.putfield 62, 3) := by decide +kernel
theorem dX10_init_149 : decode cX10_init 149 = .ok (.aload_n 0, 1) := by decide +kernel
theorem dX10_init_150 : decode cX10_init 150 = .ok (.iconst 4, 1) := by decide +kernel
theorem dX10_init_151 : decode cX10_init 151 = .ok (.newarray .int, 2) := by decide +kernel
theorem dX10_init_153 : decode cX10_init 153 = .ok (.putfield 65, 3) := by decide +kernel
theorem dX10_init_156 : decode cX10_init 156 = .ok (.aload_n 0, 1) := by decide +kernel
theorem dX10_init_157 : decode cX10_init 157 = .ok (.iconst 4, 1) := by decide +kernel
theorem dX10_init_158 : decode cX10_init 158 = .ok (.newarray .int, 2) := by decide +kernel
theorem dX10_init_160 : decode cX10_init 160 = .ok (.putfield 68, 3) := by decide +kernel
theorem dX10_init_163 : decode cX10_init 163 = .ok (.aload_n 0, 1) := by decide +kernel
theorem dX10_init_164 : decode cX10_init 164 = .ok (.sipush 400, 3) := by decide +kernel
theorem dX10_init_167 : decode cX10_init 167 = .ok (.newarray .int, 2) := by decide +kernel
theorem dX10_init_169 : decode cX10_init 169 = .ok (.putfield 71, 3) := by decide +kernel
theorem dX10_init_172 : decode cX10_init 172 = .ok (.aload_n 0, 1) := by decide +kernel
theorem dX10_init_173 : decode cX10_init 173 = .ok (.sipush 600, 3) := by decide +kernel
theorem dX10_init_176 : decode cX10_init 176 = .ok (.newarray .int, 2) := by decide +kernel
theorem dX10_init_178 : decode cX10_init 178 = .ok (.putfield 74, 3) := by decide +kernel
theorem dX10_init_181 : decode cX10_init 181 = .ok (.aload_n 0, 1) := by decide +kernel
theorem dX10_init_182 : decode cX10_init 182 = .ok (.bipush 8, 2) := by decide +kernel
theorem dX10_init_184 : decode cX10_init 184 = .ok (.newarray .int, 2) := by decide +kernel
theorem dX10_init_186 : decode cX10_init 186 = .ok (.putfield 77, 3) := by decide +kernel
theorem dX10_init_189 : decode cX10_init 189 = .ok (.aload_n 0, 1) := by decide +kernel
theorem dX10_init_190 : decode cX10_init 190 = .ok (.iconst 0, 1) := by decide +kernel
theorem dX10_init_191 : decode cX10_init 191 = .ok (.putfield 80, 3) := by decide +kernel
theorem dX10_init_194 : decode cX10_init 194 = .ok (.return_, 1) := by decide +kernel
theorem dX10_thrown_0 : decode cX10_thrown 0 = .ok (.aload_n 0, 1) := by decide +kernel
theorem dX10_thrown_1 : decode cX10_thrown 1 = .ok (.getfield 84, 3) := by decide +kernel
theorem dX10_thrown_4 : decode cX10_thrown 4 = .ok (.ireturn, 1) := by decide +kernel
theorem dX10_in_0 : decode cX10_in 0 = .ok (.lload_n 0, 1) := by decide +kernel
theorem dX10_in_1 : decode cX10_in 1 = .ok (.lload_n 2, 1) := by decide +kernel
theorem dX10_in_2 : decode cX10_in 2 = .ok (.lcmp, 1) := by decide +kernel
theorem dX10_in_3 : decode cX10_in 3 = .ok (.ifCond .lt 14, 3) := by decide +kernel
theorem dX10_in_6 : decode cX10_in 6 = .ok (.lload_n 0, 1) := by decide +kernel
theorem dX10_in_7 : decode cX10_in 7 = .ok (.lload 4, 2) := by decide +kernel
theorem dX10_in_9 : decode cX10_in 9 = .ok (.lcmp, 1) := by decide +kernel
theorem dX10_in_10 : decode cX10_in 10 = .ok (.ifCond .gt 7, 3) := by decide +kernel
theorem dX10_in_13 : decode cX10_in 13 = .ok (.iconst 1, 1) := by decide +kernel
theorem dX10_in_14 : decode cX10_in 14 = .ok (.goto 4, 3) := by decide +kernel
theorem dX10_in_17 : decode cX10_in 17 = .ok (.iconst 0, 1) := by decide +kernel
theorem dX10_in_18 : decode cX10_in 18 = .ok (.ireturn, 1) := by decide +kernel
theorem dX10_feed_0 : decode cX10_feed 0 = .ok (.iload_n 1, 1) := by decide +kernel
theorem dX10_feed_1 : decode cX10_feed 1 = .ok (.i2l, 1) := by decide +kernel
theorem dX10_feed_2 : decode cX10_feed 2 = .ok (.lconst 1, 1) := by decide +kernel
theorem dX10_feed_3 : decode cX10_feed 3 = .ok (.ldc2_w 87, 3) := by decide +kernel
theorem dX10_feed_6 : decode cX10_feed 6 = .ok (.invokestatic 89, 3) := by decide +kernel
theorem dX10_feed_9 : decode cX10_feed 9 = .ok (.ifCond .ne 6, 3) := by decide +kernel
theorem dX10_feed_12 : decode cX10_feed 12 = .ok (.bipush (-102), 2) := by decide +kernel
theorem dX10_feed_14 : decode cX10_feed 14 = .ok (.ireturn, 1) := by decide +kernel
theorem dX10_feed_15 : decode cX10_feed 15 = .ok (.aload_n 0, 1) := by decide +kernel
theorem dX10_feed_16 : decode cX10_feed 16 = .ok (.getfield 93, 3) := by decide +kernel
theorem dX10_feed_19 : decode cX10_feed 19 = .ok (.iload_n 1, 1) := by decide +kernel
theorem dX10_feed_20 : decode cX10_feed 20 = .ok (.iadd, 1) := by decide +kernel
theorem dX10_feed_21 : decode cX10_feed 21 = .ok (.bipush 64, 2) := by decide +kernel
theorem dX10_feed_23 : decode cX10_feed 23 = .ok (.if_icmp .le 6, 3) := by decide +kernel
theorem dX10_feed_26 : decode cX10_feed 26 = .ok (.bipush (-104), 2) := by decide +kernel
theorem dX10_feed_28 : decode cX10_feed 28 = .ok (.ireturn, 1) := by decide +kernel
theorem dX10_feed_29 : decode cX10_feed 29 = .ok (.iload_n 1, 1) := by decide +kernel
theorem dX10_feed_30 : decode cX10_feed 30 = .ok (.iconst 1, 1) := by decide +kernel
theorem dX10_feed_31 : decode cX10_feed 31 = .ok (.isub, 1) := by decide +kernel
theorem dX10_feed_32 : decode cX10_feed 32 = .ok (.istore 4, 2) := by decide +kernel
theorem dX10_feed_34 : decode cX10_feed 34 = .ok (.iload 4, 2) := by decide +kernel
theorem dX10_feed_36 : decode cX10_feed 36 = .ok (.ifCond .lt 40, 3) := by decide +kernel
theorem dX10_feed_39 : decode cX10_feed 39 = .ok (.aload_n 0, 1) := by decide +kernel
theorem dX10_feed_40 : decode cX10_feed 40 = .ok (.getfield 7, 3) := by decide +kernel
theorem dX10_feed_43 : decode cX10_feed 43 = .ok (.aload_n 0, 1) := by decide +kernel
theorem dX10_feed_44 : decode cX10_feed 44 = .ok (.getfield 93, 3) := by decide +kernel
theorem dX10_feed_47 : decode cX10_feed 47 = .ok (.lload_n 2, 1) := by decide +kernel
theorem dX10_feed_48 : decode cX10_feed 48 = .ok (.bipush 8, 2) := by decide +kernel
theorem dX10_feed_50 : decode cX10_feed 50 = .ok (.iload 4, 2) := by decide +kernel
theorem dX10_feed_52 : decode cX10_feed 52 = .ok (.imul, 1) := by decide +kernel
theorem dX10_feed_53 : decode cX10_feed 53 = .ok (.lshr, 1) := by decide +kernel
theorem dX10_feed_54 : decode cX10_feed 54 = .ok (.ldc2_w 96, 3) := by decide +kernel
theorem dX10_feed_57 : decode cX10_feed 57 = .ok (.land, 1) := by decide +kernel
theorem dX10_feed_58 : decode cX10_feed 58 = .ok (.l2i, 1) := by decide +kernel
theorem dX10_feed_59 : decode cX10_feed 59 = .ok (.iastore, 1) := by decide +kernel
theorem dX10_feed_60 : decode cX10_feed 60 = .ok (.aload_n 0, 1) := by decide +kernel
theorem dX10_feed_61 : decode cX10_feed 61 = .ok (.dup, 1) := by decide +kernel
theorem dX10_feed_62 : decode cX10_feed 62 = .ok (.getfield 93, 3) := by decide +kernel
theorem dX10_feed_65 : decode cX10_feed 65 = .ok (.iconst 1, 1) := by decide +kernel
theorem dX10_feed_66 : decode cX10_feed 66 = .ok (.iadd, 1) := by decide +kernel
theorem dX10_feed_67 : decode cX10_feed 67 = .ok (.putfield 93, 3) := by decide +kernel
theorem dX10_feed_70 : decode cX10_feed 70 = .ok (.iinc 4 (-1), 3) := by decide +kernel
theorem dX10_feed_73 : decode cX10_feed 73 = .ok (.goto (-39), 3) := by decide +kernel
theorem dX10_feed_76 : decode cX10_feed 76 = .ok (.aload_n 0, 1) := by decide +kernel
theorem dX10_feed_77 : decode cX10_feed 77 = .ok (.getfield 93, 3) := by decide +kernel
theorem dX10_feed_80 : decode cX10_feed 80 = .ok (.ireturn, 1) := by decide +kernel
theorem dX10_isFile_0 : decode cX10_isFile 0 = .ok (.iload_n 0, 1) := by decide +kernel
theorem dX10_isFile_1 : decode cX10_isFile 1 = .ok (.i2l, 1) := by decide +kernel
theorem dX10_isFile_2 : decode cX10_isFile 2 = .ok (.lconst 0, 1) := by decide +kernel
theorem dX10_isFile_3 : decode cX10_isFile 3 = .ok (.ldc2_w 98, 3) := by decide +kernel
theorem dX10_isFile_6 : decode cX10_isFile 6 = .ok (.invokestatic 89, 3) := by decide +kernel
theorem dX10_isFile_9 : decode cX10_isFile 9 = .ok (.ireturn, 1) := by decide +kernel
theorem dX10_lay_0 : decode cX10_lay 0 = .ok (.iload_n 1, 1) := by decide +kernel
theorem dX10_lay_1 : decode cX10_lay 1 = .ok (.invokestatic 100, 3) := by decide +kernel
theorem dX10_lay_4 : decode cX10_lay 4 = .ok (.ifCond .ne 6, 3) := by decide +kernel
theorem dX10_lay_7 : decode cX10_lay 7 = .ok (.bipush (-101), 2) := by decide +kernel
theorem dX10_lay_9 : decode cX10_lay 9 = .ok (.ireturn, 1) := by decide +kernel
theorem dX10_lay_10 : decode cX10_lay 10 = .ok (.iconst 0, 1) := by decide +kernel
theorem dX10_lay_11 : decode cX10_lay 11 = .ok (.istore_n 2, 1) := by decide +kernel
theorem dX10_lay_12 : decode cX10_lay 12 = .ok (.iload_n 2, 1) := by decide +kernel
theorem dX10_lay_13 : decode cX10_lay 13 = .ok (.aload_n 0, 1) := by decide +kernel
theorem dX10_lay_14 : decode cX10_lay 14 = .ok (.getfield 93, 3) := by decide +kernel
theorem dX10_lay_17 : decode cX10_lay 17 = .ok (.if_icmp .ge 26, 3) := by decide +kernel
theorem dX10_lay_20 : decode cX10_lay 20 = .ok (.aload_n 0, 1) := by decide +kernel
theorem dX10_lay_21 : decode cX10_lay 21 = .ok (.getfield 16, 3) := by decide +kernel
theorem dX10_lay_24 : decode cX10_lay 24 = .ok (.bipush 64, 2) := by decide +kernel
theorem dX10_lay_26 : decode cX10_lay 26 = .ok (.iload_n 1, 1) := by decide +kernel
theorem dX10_lay_27 : decode cX10_lay 27 = .ok (.imul, 1) := by decide +kernel
theorem dX10_lay_28 : decode cX10_lay 28 = .ok (.iload_n 2, 1) := by decide +kernel
theorem dX10_lay_29 : decode cX10_lay 29 = .ok (.iadd, 1) := by decide +kernel
theorem dX10_lay_30 : decode cX10_lay 30 = .ok (.aload_n 0, 1) := by decide +kernel
theorem dX10_lay_31 : decode cX10_lay 31 = .ok (.getfield 7, 3) := by decide +kernel
theorem dX10_lay_34 : decode cX10_lay 34 = .ok (.iload_n 2, 1) := by decide +kernel
theorem dX10_lay_35 : decode cX10_lay 35 = .ok (.iaload, 1) := by decide +kernel
theorem dX10_lay_36 : decode cX10_lay 36 = .ok (.iastore, 1) := by decide +kernel
theorem dX10_lay_37 : decode cX10_lay 37 = .ok (.iinc 2 1, 3) := by decide +kernel
theorem dX10_lay_40 : decode cX10_lay 40 = .ok (.goto (-28), 3) := by decide +kernel
theorem dX10_lay_43 : decode cX10_lay 43 = .ok (.aload_n 0, 1) := by decide +kernel
theorem dX10_lay_44 : decode cX10_lay 44 = .ok (.getfield 13, 3) := by decide +kernel
theorem dX10_lay_47 : decode cX10_lay 47 = .ok (.iload_n 1, 1) := by decide +kernel
theorem dX10_lay_48 : decode cX10_lay 48 = .ok (.aload_n 0, 1) := by decide +kernel
theorem dX10_lay_49 : decode cX10_lay 49 = .ok (.getfield 93, 3) := by decide +kernel
theorem dX10_lay_52 : decode cX10_lay 52 = .ok (.iastore, 1) := by decide +kernel
theorem dX10_lay_53 : decode cX10_lay 53 = .ok (.aload_n 0, 1) := by decide +kernel
theorem dX10_lay_54 : decode cX10_lay 54 = .ok (.iconst 0, 1) := by decide +kernel
theorem dX10_lay_55 : decode cX10_lay 55 = .ok (.putfield 93, 3) := by decide +kernel
theorem dX10_lay_58 : decode cX10_lay 58 = .ok (.aload_n 0, 1) := by decide +kernel
theorem dX10_lay_59 : decode cX10_lay 59 = .ok (.getfield 19, 3) := by decide +kernel
theorem dX10_lay_62 : decode cX10_lay 62 = .ok (.iload_n 1, 1) := by decide +kernel
theorem dX10_lay_63 : decode cX10_lay 63 = .ok (.iconst 0, 1) := by decide +kernel
theorem dX10_lay_64 : decode cX10_lay 64 = .ok (.bastore, 1) := by decide +kernel
theorem dX10_lay_65 : decode cX10_lay 65 = .ok (.aload_n 0, 1) := by decide +kernel
theorem dX10_lay_66 : decode cX10_lay 66 = .ok (.getfield 23, 3) := by decide +kernel
theorem dX10_lay_69 : decode cX10_lay 69 = .ok (.iload_n 1, 1) := by decide +kernel
theorem dX10_lay_70 : decode cX10_lay 70 = .ok (.iconst 0, 1) := by decide +kernel
theorem dX10_lay_71 : decode cX10_lay 71 = .ok (.bastore, 1) := by decide +kernel
theorem dX10_lay_72 : decode cX10_lay 72 = .ok (.aload_n 0, 1) := by decide +kernel
theorem dX10_lay_73 : decode cX10_lay 73 = .ok (.getfield 13, 3) := by decide +kernel
theorem dX10_lay_76 : decode cX10_lay 76 = .ok (.iload_n 1, 1) := by decide +kernel
theorem dX10_lay_77 : decode cX10_lay 77 = .ok (.iaload, 1) := by decide +kernel
theorem dX10_lay_78 : decode cX10_lay 78 = .ok (.ireturn, 1) := by decide +kernel
theorem dX10_octet_0 : decode cX10_octet 0 = .ok (.iload_n 1, 1) := by decide +kernel
theorem dX10_octet_1 : decode cX10_octet 1 = .ok (.invokestatic 100, 3) := by decide +kernel
theorem dX10_octet_4 : decode cX10_octet 4 = .ok (.ifCond .eq 36, 3) := by decide +kernel
theorem dX10_octet_7 : decode cX10_octet 7 = .ok (.iload_n 2, 1) := by decide +kernel
theorem dX10_octet_8 : decode cX10_octet 8 = .ok (.i2l, 1) := by decide +kernel
theorem dX10_octet_9 : decode cX10_octet 9 = .ok (.lconst 0, 1) := by decide +kernel
theorem dX10_octet_10 : decode cX10_octet 10 = .ok (.aload_n 0, 1) := by decide +kernel
theorem dX10_octet_11 : decode cX10_octet 11 = .ok (.getfield 13, 3) := by decide +kernel
theorem dX10_octet_14 : decode cX10_octet 14 = .ok (.iload_n 1, 1) := by decide +kernel
theorem dX10_octet_15 : decode cX10_octet 15 = .ok (.invokestatic 100, 3) := by decide +kernel
theorem dX10_octet_18 : decode cX10_octet 18 = .ok (.ifCond .eq 7, 3) := by decide +kernel
theorem dX10_octet_21 : decode cX10_octet 21 = .ok (.iload_n 1, 1) := by decide +kernel
theorem dX10_octet_22 : decode cX10_octet 22 = .ok (.goto 4, 3) := by decide +kernel
theorem dX10_octet_25 : decode cX10_octet 25 = .ok (.iconst 0, 1) := by decide +kernel
theorem dX10_octet_26 : decode cX10_octet 26 = .ok (.iaload, 1) := by decide +kernel
theorem dX10_octet_27 : decode cX10_octet 27 = .ok (.iconst 1, 1) := by decide +kernel
theorem dX10_octet_28 : decode cX10_octet 28 = .ok (.isub, 1) := by decide +kernel
theorem dX10_octet_29 : decode cX10_octet 29 = .ok (.i2l, 1) := by decide +kernel
theorem dX10_octet_30 : decode cX10_octet 30 = .ok (.invokestatic 89, 3) := by decide +kernel
theorem dX10_octet_33 : decode cX10_octet 33 = .ok (.ifCond .eq 7, 3) := by decide +kernel
theorem dX10_octet_36 : decode cX10_octet 36 = .ok (.iconst 1, 1) := by decide +kernel
theorem dX10_octet_37 : decode cX10_octet 37 = .ok (.goto 4, 3) := by decide +kernel
theorem dX10_octet_40 : decode cX10_octet 40 = .ok (.iconst 0, 1) := by decide +kernel
theorem dX10_octet_41 : decode cX10_octet 41 = .ok (.istore_n 3, 1) := by decide +kernel
theorem dX10_octet_42 : decode cX10_octet 42 = .ok (.aload_n 0, 1) := by decide +kernel
theorem dX10_octet_43 : decode cX10_octet 43 = .ok (.iload_n 3, 1) := by decide +kernel
theorem dX10_octet_44 : decode cX10_octet 44 = .ok (.ifCond .eq 7, 3) := by decide +kernel
theorem dX10_octet_47 : decode cX10_octet 47 = .ok (.iconst 0, 1) := by decide +kernel
theorem dX10_octet_48 : decode cX10_octet 48 = .ok (.goto 4, 3) := by decide +kernel
theorem dX10_octet_51 : decode cX10_octet 51 = .ok (.iconst 1, 1) := by decide +kernel
theorem dX10_octet_52 : decode cX10_octet 52 = .ok (.putfield 84, 3) := by decide +kernel
theorem dX10_octet_55 : decode cX10_octet 55 = .ok (.iload_n 3, 1) := by decide +kernel
theorem dX10_octet_56 : decode cX10_octet 56 = .ok (.ifCond .eq 18, 3) := by decide +kernel
theorem dX10_octet_59 : decode cX10_octet 59 = .ok (.aload_n 0, 1) := by decide +kernel
theorem dX10_octet_60 : decode cX10_octet 60 = .ok (.getfield 16, 3) := by decide +kernel
theorem dX10_octet_63 : decode cX10_octet 63 = .ok (.bipush 64, 2) := by decide +kernel
theorem dX10_octet_65 : decode cX10_octet 65 = .ok (.iload_n 1, 1) := by decide +kernel
theorem dX10_octet_66 : decode cX10_octet 66 = .ok (.imul, 1) := by decide +kernel
theorem dX10_octet_67 : decode cX10_octet 67 = .ok (.iload_n 2, 1) := by decide +kernel
theorem dX10_octet_68 : decode cX10_octet 68 = .ok (.iadd, 1) := by decide +kernel
theorem dX10_octet_69 : decode cX10_octet 69 = .ok (.iaload, 1) := by decide +kernel
theorem dX10_octet_70 : decode cX10_octet 70 = .ok (.i2b, 1) := by decide +kernel
theorem dX10_octet_71 : decode cX10_octet 71 = .ok (.goto 4, 3) := by decide +kernel
theorem dX10_octet_74 : decode cX10_octet 74 = .ok (.iconst 0, 1) := by decide +kernel
theorem dX10_octet_75 : decode cX10_octet 75 = .ok (.ireturn, 1) := by decide +kernel
theorem dX10_plant_0 : decode cX10_plant 0 = .ok (.iload_n 1, 1) := by decide +kernel
theorem dX10_plant_1 : decode cX10_plant 1 = .ok (.invokestatic 100, 3) := by decide +kernel
theorem dX10_plant_4 : decode cX10_plant 4 = .ok (.ifCond .eq 21, 3) := by decide +kernel
theorem dX10_plant_7 : decode cX10_plant 7 = .ok (.iload_n 2, 1) := by decide +kernel
theorem dX10_plant_8 : decode cX10_plant 8 = .ok (.i2l, 1) := by decide +kernel
theorem dX10_plant_9 : decode cX10_plant 9 = .ok (.lconst 0, 1) := by decide +kernel
theorem dX10_plant_10 : decode cX10_plant 10 = .ok (.aload_n 0, 1) := by decide +kernel
theorem dX10_plant_11 : decode cX10_plant 11 = .ok (.getfield 13, 3) := by decide +kernel
theorem dX10_plant_14 : decode cX10_plant 14 = .ok (.iload_n 1, 1) := by decide +kernel
theorem dX10_plant_15 : decode cX10_plant 15 = .ok (.iaload, 1) := by decide +kernel
theorem dX10_plant_16 : decode cX10_plant 16 = .ok (.iconst 1, 1) := by decide +kernel
theorem dX10_plant_17 : decode cX10_plant 17 = .ok (.isub, 1) := by decide +kernel
theorem dX10_plant_18 : decode cX10_plant 18 = .ok (.i2l, 1) := by decide +kernel
theorem dX10_plant_19 : decode cX10_plant 19 = .ok (.invokestatic 89, 3) := by decide +kernel
theorem dX10_plant_22 : decode cX10_plant 22 = .ok (.ifCond .ne 6, 3) := by decide +kernel
theorem dX10_plant_25 : decode cX10_plant 25 = .ok (.bipush (-101), 2) := by decide +kernel
theorem dX10_plant_27 : decode cX10_plant 27 = .ok (.ireturn, 1) := by decide +kernel
theorem dX10_plant_28 : decode cX10_plant 28 = .ok (.iload_n 3, 1) := by decide +kernel
theorem dX10_plant_29 : decode cX10_plant 29 = .ok (.i2l, 1) := by decide +kernel
theorem dX10_plant_30 : decode cX10_plant 30 = .ok (.lconst 0, 1) := by decide +kernel
theorem dX10_plant_31 : decode cX10_plant 31 = .ok (.ldc2_w 96, 3) := by decide +kernel
theorem dX10_plant_34 : decode cX10_plant 34 = .ok (.invokestatic 89, 3) := by decide +kernel
theorem dX10_plant_37 : decode cX10_plant 37 = .ok (.ifCond .ne 6, 3) := by decide +kernel
theorem dX10_plant_40 : decode cX10_plant 40 = .ok (.bipush (-102), 2) := by decide +kernel
theorem dX10_plant_42 : decode cX10_plant 42 = .ok (.ireturn, 1) := by decide +kernel
theorem dX10_plant_43 : decode cX10_plant 43 = .ok (.aload_n 0, 1) := by decide +kernel
theorem dX10_plant_44 : decode cX10_plant 44 = .ok (.getfield 16, 3) := by decide +kernel
theorem dX10_plant_47 : decode cX10_plant 47 = .ok (.bipush 64, 2) := by decide +kernel
theorem dX10_plant_49 : decode cX10_plant 49 = .ok (.iload_n 1, 1) := by decide +kernel
theorem dX10_plant_50 : decode cX10_plant 50 = .ok (.imul, 1) := by decide +kernel
theorem dX10_plant_51 : decode cX10_plant 51 = .ok (.iload_n 2, 1) := by decide +kernel
theorem dX10_plant_52 : decode cX10_plant 52 = .ok (.iadd, 1) := by decide +kernel
theorem dX10_plant_53 : decode cX10_plant 53 = .ok (.dup2, 1) := by decide +kernel
theorem dX10_plant_54 : decode cX10_plant 54 = .ok (.iaload, 1) := by decide +kernel
theorem dX10_plant_55 : decode cX10_plant 55 = .ok (.iload_n 3, 1) := by decide +kernel
theorem dX10_plant_56 : decode cX10_plant 56 = .ok (.ixor, 1) := by decide +kernel
theorem dX10_plant_57 : decode cX10_plant 57 = .ok (.iastore, 1) := by decide +kernel
theorem dX10_plant_58 : decode cX10_plant 58 = .ok (.aload_n 0, 1) := by decide +kernel
theorem dX10_plant_59 : decode cX10_plant 59 = .ok (.getfield 16, 3) := by decide +kernel
theorem dX10_plant_62 : decode cX10_plant 62 = .ok (.bipush 64, 2) := by decide +kernel
theorem dX10_plant_64 : decode cX10_plant 64 = .ok (.iload_n 1, 1) := by decide +kernel
theorem dX10_plant_65 : decode cX10_plant 65 = .ok (.imul, 1) := by decide +kernel
theorem dX10_plant_66 : decode cX10_plant 66 = .ok (.iload_n 2, 1) := by decide +kernel
theorem dX10_plant_67 : decode cX10_plant 67 = .ok (.iadd, 1) := by decide +kernel
theorem dX10_plant_68 : decode cX10_plant 68 = .ok (.iaload, 1) := by decide +kernel
theorem dX10_plant_69 : decode cX10_plant 69 = .ok (.ireturn, 1) := by decide +kernel
theorem dX10_fails_0 : decode cX10_fails 0 = .ok (.iload_n 1, 1) := by decide +kernel
theorem dX10_fails_1 : decode cX10_fails 1 = .ok (.invokestatic 100, 3) := by decide +kernel
theorem dX10_fails_4 : decode cX10_fails 4 = .ok (.ifCond .ne 6, 3) := by decide +kernel
theorem dX10_fails_7 : decode cX10_fails 7 = .ok (.bipush (-101), 2) := by decide +kernel
theorem dX10_fails_9 : decode cX10_fails 9 = .ok (.ireturn, 1) := by decide +kernel
theorem dX10_fails_10 : decode cX10_fails 10 = .ok (.aload_n 0, 1) := by decide +kernel
theorem dX10_fails_11 : decode cX10_fails 11 = .ok (.getfield 19, 3) := by decide +kernel
theorem dX10_fails_14 : decode cX10_fails 14 = .ok (.iload_n 1, 1) := by decide +kernel
theorem dX10_fails_15 : decode cX10_fails 15 = .ok (.baload, 1) := by decide +kernel
theorem dX10_fails_16 : decode cX10_fails 16 = .ok (.ifCond .eq 7, 3) := by decide +kernel
theorem dX10_fails_19 : decode cX10_fails 19 = .ok (.iconst 1, 1) := by decide +kernel
theorem dX10_fails_20 : decode cX10_fails 20 = .ok (.goto 4, 3) := by decide +kernel
theorem dX10_fails_23 : decode cX10_fails 23 = .ok (.iconst 0, 1) := by decide +kernel
theorem dX10_fails_24 : decode cX10_fails 24 = .ok (.istore_n 3, 1) := by decide +kernel
theorem dX10_fails_25 : decode cX10_fails 25 = .ok (.aload_n 0, 1) := by decide +kernel
theorem dX10_fails_26 : decode cX10_fails 26 = .ok (.getfield 19, 3) := by decide +kernel
theorem dX10_fails_29 : decode cX10_fails 29 = .ok (.iload_n 1, 1) := by decide +kernel
theorem dX10_fails_30 : decode cX10_fails 30 = .ok (.iload_n 2, 1) := by decide +kernel
theorem dX10_fails_31 : decode cX10_fails 31 = .ok (.bastore, 1) := by decide +kernel
theorem dX10_fails_32 : decode cX10_fails 32 = .ok (.aload_n 0, 1) := by decide +kernel
theorem dX10_fails_33 : decode cX10_fails 33 = .ok (.getfield 23, 3) := by decide +kernel
theorem dX10_fails_36 : decode cX10_fails 36 = .ok (.iload_n 1, 1) := by decide +kernel
theorem dX10_fails_37 : decode cX10_fails 37 = .ok (.iconst 0, 1) := by decide +kernel
theorem dX10_fails_38 : decode cX10_fails 38 = .ok (.bastore, 1) := by decide +kernel
theorem dX10_fails_39 : decode cX10_fails 39 = .ok (.iload_n 3, 1) := by decide +kernel
theorem dX10_fails_40 : decode cX10_fails 40 = .ok (.ireturn, 1) := by decide +kernel
theorem dX10_isRule_0 : decode cX10_isRule 0 = .ok (.aload_n 0, 1) := by decide +kernel
theorem dX10_isRule_1 : decode cX10_isRule 1 = .ok (.getfield 16, 3) := by decide +kernel
theorem dX10_isRule_4 : decode cX10_isRule 4 = .ok (.iload_n 1, 1) := by decide +kernel
theorem dX10_isRule_5 : decode cX10_isRule 5 = .ok (.iaload, 1) := by decide +kernel
theorem dX10_isRule_6 : decode cX10_isRule 6 = .ok (.istore_n 2, 1) := by decide +kernel
theorem dX10_isRule_7 : decode cX10_isRule 7 = .ok (.aload_n 0, 1) := by decide +kernel
theorem dX10_isRule_8 : decode cX10_isRule 8 = .ok (.getfield 16, 3) := by decide +kernel
theorem dX10_isRule_11 : decode cX10_isRule 11 = .ok (.iload_n 1, 1) := by decide +kernel
theorem dX10_isRule_12 : decode cX10_isRule 12 = .ok (.iconst 1, 1) := by decide +kernel
theorem dX10_isRule_13 : decode cX10_isRule 13 = .ok (.iadd, 1) := by decide +kernel
theorem dX10_isRule_14 : decode cX10_isRule 14 = .ok (.iaload, 1) := by decide +kernel
theorem dX10_isRule_15 : decode cX10_isRule 15 = .ok (.istore_n 3, 1) := by decide +kernel
theorem dX10_isRule_16 : decode cX10_isRule 16 = .ok (.aload_n 0, 1) := by decide +kernel
theorem dX10_isRule_17 : decode cX10_isRule 17 = .ok (.getfield 16, 3) := by decide +kernel
theorem dX10_isRule_20 : decode cX10_isRule 20 = .ok (.iload_n 1, 1) := by decide +kernel
theorem dX10_isRule_21 : decode cX10_isRule 21 = .ok (.iconst 2, 1) := by decide +kernel
theorem dX10_isRule_22 : decode cX10_isRule 22 = .ok (.iadd, 1) := by decide +kernel
theorem dX10_isRule_23 : decode cX10_isRule 23 = .ok (.iaload, 1) := by decide +kernel
theorem dX10_isRule_24 : decode cX10_isRule 24 = .ok (.istore 4, 2) := by decide +kernel
theorem dX10_isRule_26 : decode cX10_isRule 26 = .ok (.aload_n 0, 1) := by decide +kernel
theorem dX10_isRule_27 : decode cX10_isRule 27 = .ok (.getfield 16, 3) := by decide +kernel
theorem dX10_isRule_30 : decode cX10_isRule 30 = .ok (.iload_n 1, 1) := by decide +kernel
theorem dX10_isRule_31 : decode cX10_isRule 31 = .ok (.iconst 3, 1) := by decide +kernel
theorem dX10_isRule_32 : decode cX10_isRule 32 = .ok (.iadd, 1) := by decide +kernel
theorem dX10_isRule_33 : decode cX10_isRule 33 = .ok (.iaload, 1) := by decide +kernel
theorem dX10_isRule_34 : decode cX10_isRule 34 = .ok (.istore 5, 2) := by decide +kernel
theorem dX10_isRule_36 : decode cX10_isRule 36 = .ok (.iload_n 2, 1) := by decide +kernel
theorem dX10_isRule_37 : decode cX10_isRule 37 = .ok (.bipush 8, 2) := by decide +kernel
theorem dX10_isRule_39 : decode cX10_isRule 39 = .ok (.if_icmp .lt 9, 3) := by decide +kernel
theorem dX10_isRule_42 : decode cX10_isRule 42 = .ok (.iload_n 2, 1) := by decide +kernel
theorem dX10_isRule_43 : decode cX10_isRule 43 = .ok (.bipush 15, 2) := by decide +kernel
theorem dX10_isRule_45 : decode cX10_isRule 45 = .ok (.if_icmp .ne 54, 3) := by decide +kernel
theorem dX10_isRule_48 : decode cX10_isRule 48 = .ok (.iload_n 3, 1) := by decide +kernel
theorem dX10_isRule_49 : decode cX10_isRule 49 = .ok (.bipush 10, 2) := by decide +kernel
theorem dX10_isRule_51 : decode cX10_isRule 51 = .ok (.if_icmp .ge 48, 3) := by decide +kernel
theorem dX10_isRule_54 : decode cX10_isRule 54 = .ok (.iload_n 3, 1) := by decide +kernel
theorem dX10_isRule_55 : decode cX10_isRule 55 = .ok (.iconst 1, 1) := by decide +kernel
theorem dX10_isRule_56 : decode cX10_isRule 56 = .ok (.if_icmp .ne 10, 3) := by decide +kernel
theorem dX10_isRule_59 : decode cX10_isRule 59 = .ok (.iload 4, 2) := by decide +kernel
theorem dX10_isRule_61 : decode cX10_isRule 61 = .ok (.bipush 64, 2) := by decide +kernel
theorem dX10_isRule_63 : decode cX10_isRule 63 = .ok (.if_icmp .ge 36, 3) := by decide +kernel
theorem dX10_isRule_66 : decode cX10_isRule 66 = .ok (.iload_n 3, 1) := by decide +kernel
theorem dX10_isRule_67 : decode cX10_isRule 67 = .ok (.bipush 7, 2) := by decide +kernel
theorem dX10_isRule_69 : decode cX10_isRule 69 = .ok (.if_icmp .eq 9, 3) := by decide +kernel
theorem dX10_isRule_72 : decode cX10_isRule 72 = .ok (.iload_n 3, 1) := by decide +kernel
theorem dX10_isRule_73 : decode cX10_isRule 73 = .ok (.bipush 9, 2) := by decide +kernel
theorem dX10_isRule_75 : decode cX10_isRule 75 = .ok (.if_icmp .ne 9, 3) := by decide +kernel
theorem dX10_isRule_78 : decode cX10_isRule 78 = .ok (.iload 4, 2) := by decide +kernel
theorem dX10_isRule_80 : decode cX10_isRule 80 = .ok (.iconst 4, 1) := by decide +kernel
theorem dX10_isRule_81 : decode cX10_isRule 81 = .ok (.if_icmp .ge 18, 3) := by decide +kernel
theorem dX10_isRule_84 : decode cX10_isRule 84 = .ok (.iload_n 3, 1) := by decide +kernel
theorem dX10_isRule_85 : decode cX10_isRule 85 = .ok (.iconst 2, 1) := by decide +kernel
theorem dX10_isRule_86 : decode cX10_isRule 86 = .ok (.if_icmp .ne 9, 3) := by decide +kernel
theorem dX10_isRule_89 : decode cX10_isRule 89 = .ok (.iload 5, 2) := by decide +kernel
theorem dX10_isRule_91 : decode cX10_isRule 91 = .ok (.iconst 3, 1) := by decide +kernel
theorem dX10_isRule_92 : decode cX10_isRule 92 = .ok (.if_icmp .ge 7, 3) := by decide +kernel
theorem dX10_isRule_95 : decode cX10_isRule 95 = .ok (.iconst 1, 1) := by decide +kernel
theorem dX10_isRule_96 : decode cX10_isRule 96 = .ok (.goto 4, 3) := by decide +kernel
theorem dX10_isRule_99 : decode cX10_isRule 99 = .ok (.iconst 0, 1) := by decide +kernel
theorem dX10_isRule_100 : decode cX10_isRule 100 = .ok (.ireturn, 1) := by decide +kernel
theorem dX10_clause_0 : decode cX10_clause 0 = .ok (.bipush 64, 2) := by decide +kernel
theorem dX10_clause_2 : decode cX10_clause 2 = .ok (.iload_n 1, 1) := by decide +kernel
theorem dX10_clause_3 : decode cX10_clause 3 = .ok (.imul, 1) := by decide +kernel
theorem dX10_clause_4 : decode cX10_clause 4 = .ok (.istore_n 2, 1) := by decide +kernel
theorem dX10_clause_5 : decode cX10_clause 5 = .ok (.aload_n 0, 1) := by decide +kernel
theorem dX10_clause_6 : decode cX10_clause 6 = .ok (.getfield 13, 3) := by decide +kernel
theorem dX10_clause_9 : decode cX10_clause 9 = .ok (.iload_n 1, 1) := by decide +kernel
theorem dX10_clause_10 : decode cX10_clause 10 = .ok (.iaload, 1) := by decide +kernel
theorem dX10_clause_11 : decode cX10_clause 11 = .ok (.iconst 4, 1) := by decide +kernel
theorem dX10_clause_12 : decode cX10_clause 12 = .ok (.if_icmp .ge 5, 3) := by decide +kernel
theorem dX10_clause_15 : decode cX10_clause 15 = .ok (.iconst 1, 1) := by decide +kernel
theorem dX10_clause_16 : decode cX10_clause 16 = .ok (.ireturn, 1) := by decide +kernel
theorem dX10_clause_17 : decode cX10_clause 17 = .ok (.aload_n 0, 1) := by decide +kernel
theorem dX10_clause_18 : decode cX10_clause 18 = .ok (.getfield 16, 3) := by decide +kernel
theorem dX10_clause_21 : decode cX10_clause 21 = .ok (.iload_n 2, 1) := by decide +kernel
theorem dX10_clause_22 : decode cX10_clause 22 = .ok (.iaload, 1) := by decide +kernel
theorem dX10_clause_23 : decode cX10_clause 23 = .ok (.bipush 80, 2) := by decide +kernel
theorem dX10_clause_25 : decode cX10_clause 25 = .ok (.if_icmp .ne 16, 3) := by decide +kernel
theorem dX10_clause_28 : decode cX10_clause 28 = .ok (.aload_n 0, 1) := by decide +kernel
theorem dX10_clause_29 : decode cX10_clause 29 = .ok (.getfield 16, 3) := by decide +kernel
theorem dX10_clause_32 : decode cX10_clause 32 = .ok (.iload_n 2, 1) := by decide +kernel
theorem dX10_clause_33 : decode cX10_clause 33 = .ok (.iconst 1, 1) := by decide +kernel
theorem dX10_clause_34 : decode cX10_clause 34 = .ok (.iadd, 1) := by decide +kernel
theorem dX10_clause_35 : decode cX10_clause 35 = .ok (.iaload, 1) := by decide +kernel
theorem dX10_clause_36 : decode cX10_clause 36 = .ok (.bipush 82, 2) := by decide +kernel
theorem dX10_clause_38 : decode cX10_clause 38 = .ok (.if_icmp .eq 5, 3) := by decide +kernel
theorem dX10_clause_41 : decode cX10_clause 41 = .ok (.iconst 2, 1) := by decide +kernel
theorem dX10_clause_42 : decode cX10_clause 42 = .ok (.ireturn, 1) := by decide +kernel
theorem dX10_clause_43 : decode cX10_clause 43 = .ok (.aload_n 0, 1) := by decide +kernel
theorem dX10_clause_44 : decode cX10_clause 44 = .ok (.getfield 16, 3) := by decide +kernel
theorem dX10_clause_47 : decode cX10_clause 47 = .ok (.iload_n 2, 1) := by decide +kernel
theorem dX10_clause_48 : decode cX10_clause 48 = .ok (.iconst 2, 1) := by decide +kernel
theorem dX10_clause_49 : decode cX10_clause 49 = .ok (.iadd, 1) := by decide +kernel
theorem dX10_clause_50 : decode cX10_clause 50 = .ok (.iaload, 1) := by decide +kernel
theorem dX10_clause_51 : decode cX10_clause 51 = .ok (.istore_n 3, 1) := by decide +kernel
theorem dX10_clause_52 : decode cX10_clause 52 = .ok (.iload_n 3, 1) := by decide +kernel
theorem dX10_clause_53 : decode cX10_clause 53 = .ok (.i2l, 1) := by decide +kernel
theorem dX10_clause_54 : decode cX10_clause 54 = .ok (.lconst 1, 1) := by decide +kernel
theorem dX10_clause_55 : decode cX10_clause 55 = .ok (.ldc2_w 104, 3) := by decide +kernel
theorem dX10_clause_58 : decode cX10_clause 58 = .ok (.invokestatic 89, 3) := by decide +kernel
theorem dX10_clause_61 : decode cX10_clause 61 = .ok (.ifCond .ne 5, 3) := by decide +kernel
theorem dX10_clause_64 : decode cX10_clause 64 = .ok (.iconst 3, 1) := by decide +kernel
theorem dX10_clause_65 : decode cX10_clause 65 = .ok (.ireturn, 1) := by decide +kernel
theorem dX10_clause_66 : decode cX10_clause 66 = .ok (.aload_n 0, 1) := by decide +kernel
theorem dX10_clause_67 : decode cX10_clause 67 = .ok (.getfield 13, 3) := by decide +kernel
theorem dX10_clause_70 : decode cX10_clause 70 = .ok (.iload_n 1, 1) := by decide +kernel
theorem dX10_clause_71 : decode cX10_clause 71 = .ok (.iaload, 1) := by decide +kernel
theorem dX10_clause_72 : decode cX10_clause 72 = .ok (.iconst 4, 1) := by decide +kernel
theorem dX10_clause_73 : decode cX10_clause 73 = .ok (.iload_n 3, 1) := by decide +kernel
theorem dX10_clause_74 : decode cX10_clause 74 = .ok (.imul, 1) := by decide +kernel
theorem dX10_clause_75 : decode cX10_clause 75 = .ok (.iconst 4, 1) := by decide +kernel
theorem dX10_clause_76 : decode cX10_clause 76 = .ok (.iadd, 1) := by decide +kernel
theorem dX10_clause_77 : decode cX10_clause 77 = .ok (.if_icmp .eq 5, 3) := by decide +kernel
theorem dX10_clause_80 : decode cX10_clause 80 = .ok (.iconst 4, 1) := by decide +kernel
theorem dX10_clause_81 : decode cX10_clause 81 = .ok (.ireturn, 1) := by decide +kernel
theorem dX10_clause_82 : decode cX10_clause 82 = .ok (.aload_n 0, 1) := by decide +kernel
theorem dX10_clause_83 : decode cX10_clause 83 = .ok (.getfield 16, 3) := by decide +kernel
theorem dX10_clause_86 : decode cX10_clause 86 = .ok (.iload_n 2, 1) := by decide +kernel
theorem dX10_clause_87 : decode cX10_clause 87 = .ok (.iaload, 1) := by decide +kernel
theorem dX10_clause_88 : decode cX10_clause 88 = .ok (.aload_n 0, 1) := by decide +kernel
theorem dX10_clause_89 : decode cX10_clause 89 = .ok (.getfield 16, 3) := by decide +kernel
theorem dX10_clause_92 : decode cX10_clause 92 = .ok (.iload_n 2, 1) := by decide +kernel
theorem dX10_clause_93 : decode cX10_clause 93 = .ok (.iconst 1, 1) := by decide +kernel
theorem dX10_clause_94 : decode cX10_clause 94 = .ok (.iadd, 1) := by decide +kernel
theorem dX10_clause_95 : decode cX10_clause 95 = .ok (.iaload, 1) := by decide +kernel
theorem dX10_clause_96 : decode cX10_clause 96 = .ok (.iadd, 1) := by decide +kernel
theorem dX10_clause_97 : decode cX10_clause 97 = .ok (.iload_n 3, 1) := by decide +kernel
theorem dX10_clause_98 : decode cX10_clause 98 = .ok (.iadd, 1) := by decide +kernel
theorem dX10_clause_99 : decode cX10_clause 99 = .ok (.istore 4, 2) := by decide +kernel
theorem dX10_clause_101 : decode cX10_clause 101 = .ok (.iconst 0, 1) := by decide +kernel
theorem dX10_clause_102 : decode cX10_clause 102 = .ok (.istore 5, 2) := by decide +kernel
theorem dX10_clause_104 : decode cX10_clause 104 = .ok (.iload 5, 2) := by decide +kernel
theorem dX10_clause_106 : decode cX10_clause 106 = .ok (.iload_n 3, 1) := by decide +kernel
theorem dX10_clause_107 : decode cX10_clause 107 = .ok (.if_icmp .ge 26, 3) := by decide +kernel
theorem dX10_clause_110 : decode cX10_clause 110 = .ok (.aload_n 0, 1) := by decide +kernel
theorem dX10_clause_111 : decode cX10_clause 111 = .ok (.iload_n 2, 1) := by decide +kernel
theorem dX10_clause_112 : decode cX10_clause 112 = .ok (.iconst 3, 1) := by decide +kernel
theorem dX10_clause_113 : decode cX10_clause 113 = .ok (.iadd, 1) := by decide +kernel
theorem dX10_clause_114 : decode cX10_clause 114 = .ok (.iconst 4, 1) := by decide +kernel
theorem dX10_clause_115 : decode cX10_clause 115 = .ok (.iload 5, 2) := by decide +kernel
theorem dX10_clause_117 : decode cX10_clause 117 = .ok (.imul, 1) := by decide +kernel
theorem dX10_clause_118 : decode cX10_clause 118 = .ok (.iadd, 1) := by decide +kernel
theorem dX10_clause_119 : decode cX10_clause 119 = .ok (.invokevirtual 106, 3) := by decide +kernel
theorem dX10_clause_122 : decode cX10_clause 122 = .ok (.ifCond .ne 5, 3) := by decide +kernel
theorem dX10_clause_125 : decode cX10_clause 125 = .ok (.iconst 5, 1) := by decide +kernel
theorem dX10_clause_126 : decode cX10_clause 126 = .ok (.ireturn, 1) := by decide +kernel
theorem dX10_clause_127 : decode cX10_clause 127 = .ok (.iinc 5 1, 3) := by decide +kernel
theorem dX10_clause_130 : decode cX10_clause 130 = .ok (.goto (-26), 3) := by decide +kernel
theorem dX10_clause_133 : decode cX10_clause 133 = .ok (.iconst 3, 1) := by decide +kernel
theorem dX10_clause_134 : decode cX10_clause 134 = .ok (.istore 5, 2) := by decide +kernel
theorem dX10_clause_136 : decode cX10_clause 136 = .ok (.iload 5, 2) := by decide +kernel
theorem dX10_clause_138 : decode cX10_clause 138 = .ok (.iconst 4, 1) := by decide +kernel
theorem dX10_clause_139 : decode cX10_clause 139 = .ok (.iload_n 3, 1) := by decide +kernel
theorem dX10_clause_140 : decode cX10_clause 140 = .ok (.imul, 1) := by decide +kernel
theorem dX10_clause_141 : decode cX10_clause 141 = .ok (.iconst 3, 1) := by decide +kernel
theorem dX10_clause_142 : decode cX10_clause 142 = .ok (.iadd, 1) := by decide +kernel
theorem dX10_clause_143 : decode cX10_clause 143 = .ok (.if_icmp .ge 23, 3) := by decide +kernel
theorem dX10_clause_146 : decode cX10_clause 146 = .ok (.iload 4, 2) := by decide +kernel
theorem dX10_clause_148 : decode cX10_clause 148 = .ok (.aload_n 0, 1) := by decide +kernel
theorem dX10_clause_149 : decode cX10_clause 149 = .ok (.getfield 16, 3) := by decide +kernel
theorem dX10_clause_152 : decode cX10_clause 152 = .ok (.iload_n 2, 1) := by decide +kernel
theorem dX10_clause_153 : decode cX10_clause 153 = .ok (.iload 5, 2) := by decide +kernel
theorem dX10_clause_155 : decode cX10_clause 155 = .ok (.iadd, 1) := by decide +kernel
theorem dX10_clause_156 : decode cX10_clause 156 = .ok (.iaload, 1) := by decide +kernel
theorem dX10_clause_157 : decode cX10_clause 157 = .ok (.iadd, 1) := by decide +kernel
theorem dX10_clause_158 : decode cX10_clause 158 = .ok (.istore 4, 2) := by decide +kernel
theorem dX10_clause_160 : decode cX10_clause 160 = .ok (.iinc 5 1, 3) := by decide +kernel
theorem dX10_clause_163 : decode cX10_clause 163 = .ok (.goto (-27), 3) := by decide +kernel
theorem dX10_clause_166 : decode cX10_clause 166 = .ok (.iload 4, 2) := by decide +kernel
theorem dX10_clause_168 : decode cX10_clause 168 = .ok (.sipush 255, 3) := by decide +kernel
theorem dX10_clause_171 : decode cX10_clause 171 = .ok (.iand, 1) := by decide +kernel
theorem dX10_clause_172 : decode cX10_clause 172 = .ok (.aload_n 0, 1) := by decide +kernel
theorem dX10_clause_173 : decode cX10_clause 173 = .ok (.getfield 16, 3) := by decide +kernel
theorem dX10_clause_176 : decode cX10_clause 176 = .ok (.iload_n 2, 1) := by decide +kernel
theorem dX10_clause_177 : decode cX10_clause 177 = .ok (.iconst 4, 1) := by decide +kernel
theorem dX10_clause_178 : decode cX10_clause 178 = .ok (.iload_n 3, 1) := by decide +kernel
theorem dX10_clause_179 : decode cX10_clause 179 = .ok (.imul, 1) := by decide +kernel
theorem dX10_clause_180 : decode cX10_clause 180 = .ok (.iadd, 1) := by decide +kernel
theorem dX10_clause_181 : decode cX10_clause 181 = .ok (.iconst 3, 1) := by decide +kernel
theorem dX10_clause_182 : decode cX10_clause 182 = .ok (.iadd, 1) := by decide +kernel
theorem dX10_clause_183 : decode cX10_clause 183 = .ok (.iaload, 1) := by decide +kernel
theorem dX10_clause_184 : decode cX10_clause 184 = .ok (.if_icmp .ne 7, 3) := by decide +kernel
theorem dX10_clause_187 : decode cX10_clause 187 = .ok (.iconst 0, 1) := by decide +kernel
theorem dX10_clause_188 : decode cX10_clause 188 = .ok (.goto 5, 3) := by decide +kernel
theorem dX10_clause_191 : decode cX10_clause 191 = .ok (.bipush 6, 2) := by decide +kernel
theorem dX10_clause_193 : decode cX10_clause 193 = .ok (.ireturn, 1) := by decide +kernel
theorem dX10_judge_0 : decode cX10_judge 0 = .ok (.iload_n 1, 1) := by decide +kernel
theorem dX10_judge_1 : decode cX10_judge 1 = .ok (.invokestatic 100, 3) := by decide +kernel
theorem dX10_judge_4 : decode cX10_judge 4 = .ok (.ifCond .eq 11, 3) := by decide +kernel
theorem dX10_judge_7 : decode cX10_judge 7 = .ok (.aload_n 0, 1) := by decide +kernel
theorem dX10_judge_8 : decode cX10_judge 8 = .ok (.iload_n 1, 1) := by decide +kernel
theorem dX10_judge_9 : decode cX10_judge 9 = .ok (.invokevirtual 109, 3) := by decide +kernel
theorem dX10_judge_12 : decode cX10_judge 12 = .ok (.goto 5, 3) := by decide +kernel
theorem dX10_judge_15 : decode cX10_judge 15 = .ok (.bipush (-101), 2) := by decide +kernel
theorem dX10_judge_17 : decode cX10_judge 17 = .ok (.ireturn, 1) := by decide +kernel
theorem dX10_define_0 : decode cX10_define 0 = .ok (.iload_n 1, 1) := by decide +kernel
theorem dX10_define_1 : decode cX10_define 1 = .ok (.invokestatic 100, 3) := by decide +kernel
theorem dX10_define_4 : decode cX10_define 4 = .ok (.ifCond .ne 6, 3) := by decide +kernel
theorem dX10_define_7 : decode cX10_define 7 = .ok (.bipush (-101), 2) := by decide +kernel
theorem dX10_define_9 : decode cX10_define 9 = .ok (.ireturn, 1) := by decide +kernel
theorem dX10_define_10 : decode cX10_define 10 = .ok (.aload_n 0, 1) := by decide +kernel
theorem dX10_define_11 : decode cX10_define 11 = .ok (.iload_n 1, 1) := by decide +kernel
theorem dX10_define_12 : decode cX10_define 12 = .ok (.invokevirtual 109, 3) := by decide +kernel
theorem dX10_define_15 : decode cX10_define 15 = .ok (.istore_n 2, 1) := by decide +kernel
theorem dX10_define_16 : decode cX10_define 16 = .ok (.iload_n 2, 1) := by decide +kernel
theorem dX10_define_17 : decode cX10_define 17 = .ok (.ifCond .le 8, 3) := by decide +kernel
theorem dX10_define_20 : decode cX10_define 20 = .ok (.bipush (-10), 2) := by decide +kernel
theorem dX10_define_22 : decode cX10_define 22 = .ok (.iload_n 2, 1) := by decide +kernel
theorem dX10_define_23 : decode cX10_define 23 = .ok (.isub, 1) := by decide +kernel
theorem dX10_define_24 : decode cX10_define 24 = .ok (.ireturn, 1) := by decide +kernel
theorem dX10_define_25 : decode cX10_define 25 = .ok (.aload_n 0, 1) := by decide +kernel
theorem dX10_define_26 : decode cX10_define 26 = .ok (.getfield 113, 3) := by decide +kernel
theorem dX10_define_29 : decode cX10_define 29 = .ok (.bipush 6, 2) := by decide +kernel
theorem dX10_define_31 : decode cX10_define 31 = .ok (.if_icmp .ne 6, 3) := by decide +kernel
theorem dX10_define_34 : decode cX10_define 34 = .ok (.bipush (-104), 2) := by decide +kernel
theorem dX10_define_36 : decode cX10_define 36 = .ok (.ireturn, 1) := by decide +kernel
theorem dX10_define_37 : decode cX10_define 37 = .ok (.aload_n 0, 1) := by decide +kernel
theorem dX10_define_38 : decode cX10_define 38 = .ok (.getfield 19, 3) := by decide +kernel
theorem dX10_define_41 : decode cX10_define 41 = .ok (.iload_n 1, 1) := by decide +kernel
theorem dX10_define_42 : decode cX10_define 42 = .ok (.baload, 1) := by decide +kernel
theorem dX10_define_43 : decode cX10_define 43 = .ok (.ifCond .eq 29, 3) := by decide +kernel
theorem dX10_define_46 : decode cX10_define 46 = .ok (.aload_n 0, 1) := by decide +kernel
theorem dX10_define_47 : decode cX10_define 47 = .ok (.getfield 23, 3) := by decide +kernel
theorem dX10_define_50 : decode cX10_define 50 = .ok (.iload_n 1, 1) := by decide +kernel
theorem dX10_define_51 : decode cX10_define 51 = .ok (.baload, 1) := by decide +kernel
theorem dX10_define_52 : decode cX10_define 52 = .ok (.ifCond .eq 8, 3) := by decide +kernel
theorem dX10_define_55 : decode cX10_define 55 = .ok (.bipush (-32), 2) := by decide +kernel
theorem dX10_define_57 : decode cX10_define 57 = .ok (.goto 5, 3) := by decide +kernel
theorem dX10_define_60 : decode cX10_define 60 = .ok (.bipush (-31), 2) := by decide +kernel
theorem dX10_define_62 : decode cX10_define 62 = .ok (.istore_n 3, 1) := by decide +kernel
theorem dX10_define_63 : decode cX10_define 63 = .ok (.aload_n 0, 1) := by decide +kernel
theorem dX10_define_64 : decode cX10_define 64 = .ok (.getfield 23, 3) := by decide +kernel
theorem dX10_define_67 : decode cX10_define 67 = .ok (.iload_n 1, 1) := by decide +kernel
theorem dX10_define_68 : decode cX10_define 68 = .ok (.iconst 1, 1) := by decide +kernel
theorem dX10_define_69 : decode cX10_define 69 = .ok (.bastore, 1) := by decide +kernel
theorem dX10_define_70 : decode cX10_define 70 = .ok (.iload_n 3, 1) := by decide +kernel
theorem dX10_define_71 : decode cX10_define 71 = .ok (.ireturn, 1) := by decide +kernel
theorem dX10_define_72 : decode cX10_define 72 = .ok (.aload_n 0, 1) := by decide +kernel
theorem dX10_define_73 : decode cX10_define 73 = .ok (.getfield 113, 3) := by decide +kernel
theorem dX10_define_76 : decode cX10_define 76 = .ok (.istore_n 3, 1) := by decide +kernel
theorem dX10_define_77 : decode cX10_define 77 = .ok (.aload_n 0, 1) := by decide +kernel
theorem dX10_define_78 : decode cX10_define 78 = .ok (.getfield 26, 3) := by decide +kernel
theorem dX10_define_81 : decode cX10_define 81 = .ok (.iload_n 3, 1) := by decide +kernel
theorem dX10_define_82 : decode cX10_define 82 = .ok (.iload_n 1, 1) := by decide +kernel
theorem dX10_define_83 : decode cX10_define 83 = .ok (.iastore, 1) := by decide +kernel
theorem dX10_define_84 : decode cX10_define 84 = .ok (.aload_n 0, 1) := by decide +kernel
theorem dX10_define_85 : decode cX10_define 85 = .ok (.getfield 29, 3) := by decide +kernel
theorem dX10_define_88 : decode cX10_define 88 = .ok (.iload_n 3, 1) := by decide +kernel
theorem dX10_define_89 : decode cX10_define 89 = .ok (.aload_n 0, 1) := by decide +kernel
theorem dX10_define_90 : decode cX10_define 90 = .ok (.getfield 16, 3) := by decide +kernel
theorem dX10_define_93 : decode cX10_define 93 = .ok (.bipush 64, 2) := by decide +kernel
theorem dX10_define_95 : decode cX10_define 95 = .ok (.iload_n 1, 1) := by decide +kernel
theorem dX10_define_96 : decode cX10_define 96 = .ok (.imul, 1) := by decide +kernel
theorem dX10_define_97 : decode cX10_define 97 = .ok (.iconst 2, 1) := by decide +kernel
theorem dX10_define_98 : decode cX10_define 98 = .ok (.iadd, 1) := by decide +kernel
theorem dX10_define_99 : decode cX10_define 99 = .ok (.iaload, 1) := by decide +kernel
theorem dX10_define_100 : decode cX10_define 100 = .ok (.iastore, 1) := by decide +kernel
theorem dX10_define_101 : decode cX10_define 101 = .ok (.iconst 0, 1) := by decide +kernel
theorem dX10_define_102 : decode cX10_define 102 = .ok (.istore 4, 2) := by decide +kernel
theorem dX10_define_104 : decode cX10_define 104 = .ok (.iload 4, 2) := by decide +kernel
theorem dX10_define_106 : decode cX10_define 106 = .ok (.iconst 4, 1) := by decide +kernel
theorem dX10_define_107 : decode cX10_define 107 = .ok (.aload_n 0, 1) := by decide +kernel
theorem dX10_define_108 : decode cX10_define 108 = .ok (.getfield 29, 3) := by decide +kernel
theorem dX10_define_111 : decode cX10_define 111 = .ok (.iload_n 3, 1) := by decide +kernel
theorem dX10_define_112 : decode cX10_define 112 = .ok (.iaload, 1) := by decide +kernel
theorem dX10_define_113 : decode cX10_define 113 = .ok (.imul, 1) := by decide +kernel
theorem dX10_define_114 : decode cX10_define 114 = .ok (.if_icmp .ge 35, 3) := by decide +kernel
theorem dX10_define_117 : decode cX10_define 117 = .ok (.aload_n 0, 1) := by decide +kernel
theorem dX10_define_118 : decode cX10_define 118 = .ok (.getfield 32, 3) := by decide +kernel
theorem dX10_define_121 : decode cX10_define 121 = .ok (.bipush 48, 2) := by decide +kernel
theorem dX10_define_123 : decode cX10_define 123 = .ok (.iload_n 3, 1) := by decide +kernel
theorem dX10_define_124 : decode cX10_define 124 = .ok (.imul, 1) := by decide +kernel
theorem dX10_define_125 : decode cX10_define 125 = .ok (.iload 4, 2) := by decide +kernel
theorem dX10_define_127 : decode cX10_define 127 = .ok (.iadd, 1) := by decide +kernel
theorem dX10_define_128 : decode cX10_define 128 = .ok (.aload_n 0, 1) := by decide +kernel
theorem dX10_define_129 : decode cX10_define 129 = .ok (.getfield 16, 3) := by decide +kernel
theorem dX10_define_132 : decode cX10_define 132 = .ok (.bipush 64, 2) := by decide +kernel
theorem dX10_define_134 : decode cX10_define 134 = .ok (.iload_n 1, 1) := by decide +kernel
theorem dX10_define_135 : decode cX10_define 135 = .ok (.imul, 1) := by decide +kernel
theorem dX10_define_136 : decode cX10_define 136 = .ok (.iconst 3, 1) := by decide +kernel
theorem dX10_define_137 : decode cX10_define 137 = .ok (.iadd, 1) := by decide +kernel
theorem dX10_define_138 : decode cX10_define 138 = .ok (.iload 4, 2) := by decide +kernel
theorem dX10_define_140 : decode cX10_define 140 = .ok (.iadd, 1) := by decide +kernel
theorem dX10_define_141 : decode cX10_define 141 = .ok (.iaload, 1) := by decide +kernel
theorem dX10_define_142 : decode cX10_define 142 = .ok (.iastore, 1) := by decide +kernel
theorem dX10_define_143 : decode cX10_define 143 = .ok (.iinc 4 1, 3) := by decide +kernel
theorem dX10_define_146 : decode cX10_define 146 = .ok (.goto (-42), 3) := by decide +kernel
theorem dX10_define_149 : decode cX10_define 149 = .ok (.aload_n 0, 1) := by decide +kernel
theorem dX10_define_150 : decode cX10_define 150 = .ok (.getfield 35, 3) := by decide +kernel
theorem dX10_define_153 : decode cX10_define 153 = .ok (.iload_n 3, 1) := by decide +kernel
theorem dX10_define_154 : decode cX10_define 154 = .ok (.iconst 0, 1) := by decide +kernel
theorem dX10_define_155 : decode cX10_define 155 = .ok (.iastore, 1) := by decide +kernel
theorem dX10_define_156 : decode cX10_define 156 = .ok (.aload_n 0, 1) := by decide +kernel
theorem dX10_define_157 : decode cX10_define 157 = .ok (.getfield 41, 3) := by decide +kernel
theorem dX10_define_160 : decode cX10_define 160 = .ok (.iload_n 3, 1) := by decide +kernel
theorem dX10_define_161 : decode cX10_define 161 = .ok (.iconst 0, 1) := by decide +kernel
theorem dX10_define_162 : decode cX10_define 162 = .ok (.bastore, 1) := by decide +kernel
theorem dX10_define_163 : decode cX10_define 163 = .ok (.aload_n 0, 1) := by decide +kernel
theorem dX10_define_164 : decode cX10_define 164 = .ok (.getfield 44, 3) := by decide +kernel
theorem dX10_define_167 : decode cX10_define 167 = .ok (.iload_n 3, 1) := by decide +kernel
theorem dX10_define_168 : decode cX10_define 168 = .ok (.iconst 0, 1) := by decide +kernel
theorem dX10_define_169 : decode cX10_define 169 = .ok (.iastore, 1) := by decide +kernel
theorem dX10_define_170 : decode cX10_define 170 = .ok (.aload_n 0, 1) := by decide +kernel
theorem dX10_define_171 : decode cX10_define 171 = .ok (.dup, 1) := by decide +kernel
theorem dX10_define_172 : decode cX10_define 172 = .ok (.getfield 113, 3) := by decide +kernel
theorem dX10_define_175 : decode cX10_define 175 = .ok (.iconst 1, 1) := by decide +kernel
theorem dX10_define_176 : decode cX10_define 176 = .ok (.iadd, 1) := by decide +kernel
theorem dX10_define_177 : decode cX10_define 177 = .ok (.putfield 113, 3) := by decide +kernel
theorem dX10_define_180 : decode cX10_define 180 = .ok (.iload_n 3, 1) := by decide +kernel
theorem dX10_define_181 : decode cX10_define 181 = .ok (.ireturn, 1) := by decide +kernel
theorem dX10_find_0 : decode cX10_find 0 = .ok (.iconst (-1), 1) := by decide +kernel
theorem dX10_find_1 : decode cX10_find 1 = .ok (.istore_n 2, 1) := by decide +kernel
theorem dX10_find_2 : decode cX10_find 2 = .ok (.iconst 0, 1) := by decide +kernel
theorem dX10_find_3 : decode cX10_find 3 = .ok (.istore_n 3, 1) := by decide +kernel
theorem dX10_find_4 : decode cX10_find 4 = .ok (.iload_n 3, 1) := by decide +kernel
theorem dX10_find_5 : decode cX10_find 5 = .ok (.aload_n 0, 1) := by decide +kernel
theorem dX10_find_6 : decode cX10_find 6 = .ok (.getfield 80, 3) := by decide +kernel
theorem dX10_find_9 : decode cX10_find 9 = .ok (.if_icmp .ge 25, 3) := by decide +kernel
theorem dX10_find_12 : decode cX10_find 12 = .ok (.aload_n 0, 1) := by decide +kernel
theorem dX10_find_13 : decode cX10_find 13 = .ok (.getfield 47, 3) := by decide +kernel
theorem dX10_find_16 : decode cX10_find 16 = .ok (.iload_n 3, 1) := by decide +kernel
theorem dX10_find_17 : decode cX10_find 17 = .ok (.iaload, 1) := by decide +kernel
theorem dX10_find_18 : decode cX10_find 18 = .ok (.iload_n 1, 1) := by decide +kernel
theorem dX10_find_19 : decode cX10_find 19 = .ok (.if_icmp .ne 7, 3) := by decide +kernel
theorem dX10_find_22 : decode cX10_find 22 = .ok (.iload_n 3, 1) := by decide +kernel
theorem dX10_find_23 : decode cX10_find 23 = .ok (.goto 4, 3) := by decide +kernel
theorem dX10_find_26 : decode cX10_find 26 = .ok (.iload_n 2, 1) := by decide +kernel
theorem dX10_find_27 : decode cX10_find 27 = .ok (.istore_n 2, 1) := by decide +kernel
theorem dX10_find_28 : decode cX10_find 28 = .ok (.iinc 3 1, 3) := by decide +kernel
theorem dX10_find_31 : decode cX10_find 31 = .ok (.goto (-27), 3) := by decide +kernel
theorem dX10_find_34 : decode cX10_find 34 = .ok (.iload_n 2, 1) := by decide +kernel
theorem dX10_find_35 : decode cX10_find 35 = .ok (.ireturn, 1) := by decide +kernel
theorem dX10_come_0 : decode cX10_come 0 = .ok (.aload_n 0, 1) := by decide +kernel
theorem dX10_come_1 : decode cX10_come 1 = .ok (.getfield 47, 3) := by decide +kernel
theorem dX10_come_4 : decode cX10_come 4 = .ok (.aload_n 0, 1) := by decide +kernel
theorem dX10_come_5 : decode cX10_come 5 = .ok (.getfield 80, 3) := by decide +kernel
theorem dX10_come_8 : decode cX10_come 8 = .ok (.iload_n 1, 1) := by decide +kernel
theorem dX10_come_9 : decode cX10_come 9 = .ok (.iastore, 1) := by decide +kernel
theorem dX10_come_10 : decode cX10_come 10 = .ok (.aload_n 0, 1) := by decide +kernel
theorem dX10_come_11 : decode cX10_come 11 = .ok (.getfield 50, 3) := by decide +kernel
theorem dX10_come_14 : decode cX10_come 14 = .ok (.aload_n 0, 1) := by decide +kernel
theorem dX10_come_15 : decode cX10_come 15 = .ok (.getfield 80, 3) := by decide +kernel
theorem dX10_come_18 : decode cX10_come 18 = .ok (.iload_n 2, 1) := by decide +kernel
theorem dX10_come_19 : decode cX10_come 19 = .ok (.iastore, 1) := by decide +kernel
theorem dX10_come_20 : decode cX10_come 20 = .ok (.aload_n 0, 1) := by decide +kernel
theorem dX10_come_21 : decode cX10_come 21 = .ok (.getfield 56, 3) := by decide +kernel
theorem dX10_come_24 : decode cX10_come 24 = .ok (.aload_n 0, 1) := by decide +kernel
theorem dX10_come_25 : decode cX10_come 25 = .ok (.getfield 80, 3) := by decide +kernel
theorem dX10_come_28 : decode cX10_come 28 = .ok (.iload_n 3, 1) := by decide +kernel
theorem dX10_come_29 : decode cX10_come 29 = .ok (.iastore, 1) := by decide +kernel
theorem dX10_come_30 : decode cX10_come 30 = .ok (.aload_n 0, 1) := by decide +kernel
theorem dX10_come_31 : decode cX10_come 31 = .ok (.getfield 59, 3) := by decide +kernel
theorem dX10_come_34 : decode cX10_come 34 = .ok (.aload_n 0, 1) := by decide +kernel
theorem dX10_come_35 : decode cX10_come 35 = .ok (.getfield 80, 3) := by decide +kernel
theorem dX10_come_38 : decode cX10_come 38 = .ok (.iload 4, 2) := by decide +kernel
theorem dX10_come_40 : decode cX10_come 40 = .ok (.iastore, 1) := by decide +kernel
theorem dX10_come_41 : decode cX10_come 41 = .ok (.aload_n 0, 1) := by decide +kernel
theorem dX10_come_42 : decode cX10_come 42 = .ok (.getfield 53, 3) := by decide +kernel
theorem dX10_come_45 : decode cX10_come 45 = .ok (.aload_n 0, 1) := by decide +kernel
theorem dX10_come_46 : decode cX10_come 46 = .ok (.getfield 80, 3) := by decide +kernel
theorem dX10_come_49 : decode cX10_come 49 = .ok (.iconst 1, 1) := by decide +kernel
theorem dX10_come_50 : decode cX10_come 50 = .ok (.bastore, 1) := by decide +kernel
theorem dX10_come_51 : decode cX10_come 51 = .ok (.aload_n 0, 1) := by decide +kernel
theorem dX10_come_52 : decode cX10_come 52 = .ok (.dup, 1) := by decide +kernel
theorem dX10_come_53 : decode cX10_come 53 = .ok (.getfield 80, 3) := by decide +kernel
theorem dX10_come_56 : decode cX10_come 56 = .ok (.iconst 1, 1) := by decide +kernel
theorem dX10_come_57 : decode cX10_come 57 = .ok (.iadd, 1) := by decide +kernel
theorem dX10_come_58 : decode cX10_come 58 = .ok (.putfield 80, 3) := by decide +kernel
theorem dX10_come_61 : decode cX10_come 61 = .ok (.return_, 1) := by decide +kernel
theorem dX10_unit_0 : decode cX10_unit 0 = .ok (.iload_n 1, 1) := by decide +kernel
theorem dX10_unit_1 : decode cX10_unit 1 = .ok (.i2l, 1) := by decide +kernel
theorem dX10_unit_2 : decode cX10_unit 2 = .ok (.lconst 0, 1) := by decide +kernel
theorem dX10_unit_3 : decode cX10_unit 3 = .ok (.ldc2_w 116, 3) := by decide +kernel
theorem dX10_unit_6 : decode cX10_unit 6 = .ok (.invokestatic 89, 3) := by decide +kernel
theorem dX10_unit_9 : decode cX10_unit 9 = .ok (.ifCond .eq 15, 3) := by decide +kernel
theorem dX10_unit_12 : decode cX10_unit 12 = .ok (.iload_n 2, 1) := by decide +kernel
theorem dX10_unit_13 : decode cX10_unit 13 = .ok (.i2l, 1) := by decide +kernel
theorem dX10_unit_14 : decode cX10_unit 14 = .ok (.lconst 0, 1) := by decide +kernel
theorem dX10_unit_15 : decode cX10_unit 15 = .ok (.ldc2_w 96, 3) := by decide +kernel
theorem dX10_unit_18 : decode cX10_unit 18 = .ok (.invokestatic 89, 3) := by decide +kernel
theorem dX10_unit_21 : decode cX10_unit 21 = .ok (.ifCond .ne 6, 3) := by decide +kernel
theorem dX10_unit_24 : decode cX10_unit 24 = .ok (.bipush (-102), 2) := by decide +kernel
theorem dX10_unit_26 : decode cX10_unit 26 = .ok (.ireturn, 1) := by decide +kernel
theorem dX10_unit_27 : decode cX10_unit 27 = .ok (.aload_n 0, 1) := by decide +kernel
theorem dX10_unit_28 : decode cX10_unit 28 = .ok (.iload_n 1, 1) := by decide +kernel
theorem dX10_unit_29 : decode cX10_unit 29 = .ok (.invokevirtual 118, 3) := by decide +kernel
theorem dX10_unit_32 : decode cX10_unit 32 = .ok (.ifCond .lt 6, 3) := by decide +kernel
theorem dX10_unit_35 : decode cX10_unit 35 = .ok (.bipush (-103), 2) := by decide +kernel
theorem dX10_unit_37 : decode cX10_unit 37 = .ok (.ireturn, 1) := by decide +kernel
theorem dX10_unit_38 : decode cX10_unit 38 = .ok (.aload_n 0, 1) := by decide +kernel
theorem dX10_unit_39 : decode cX10_unit 39 = .ok (.getfield 80, 3) := by decide +kernel
theorem dX10_unit_42 : decode cX10_unit 42 = .ok (.bipush 40, 2) := by decide +kernel
theorem dX10_unit_44 : decode cX10_unit 44 = .ok (.if_icmp .ne 6, 3) := by decide +kernel
theorem dX10_unit_47 : decode cX10_unit 47 = .ok (.bipush (-104), 2) := by decide +kernel
theorem dX10_unit_49 : decode cX10_unit 49 = .ok (.ireturn, 1) := by decide +kernel
theorem dX10_unit_50 : decode cX10_unit 50 = .ok (.aload_n 0, 1) := by decide +kernel
theorem dX10_unit_51 : decode cX10_unit 51 = .ok (.iload_n 1, 1) := by decide +kernel
theorem dX10_unit_52 : decode cX10_unit 52 = .ok (.iload_n 2, 1) := by decide +kernel
theorem dX10_unit_53 : decode cX10_unit 53 = .ok (.iconst (-1), 1) := by decide +kernel
theorem dX10_unit_54 : decode cX10_unit 54 = .ok (.iconst 0, 1) := by decide +kernel
theorem dX10_unit_55 : decode cX10_unit 55 = .ok (.invokevirtual 121, 3) := by decide +kernel
theorem dX10_unit_58 : decode cX10_unit 58 = .ok (.aload_n 0, 1) := by decide +kernel
theorem dX10_unit_59 : decode cX10_unit 59 = .ok (.getfield 80, 3) := by decide +kernel
theorem dX10_unit_62 : decode cX10_unit 62 = .ok (.iconst 1, 1) := by decide +kernel
theorem dX10_unit_63 : decode cX10_unit 63 = .ok (.isub, 1) := by decide +kernel
theorem dX10_unit_64 : decode cX10_unit 64 = .ok (.ireturn, 1) := by decide +kernel
theorem dX10_isUnit_0 : decode cX10_isUnit 0 = .ok (.iload_n 1, 1) := by decide +kernel
theorem dX10_isUnit_1 : decode cX10_isUnit 1 = .ok (.i2l, 1) := by decide +kernel
theorem dX10_isUnit_2 : decode cX10_isUnit 2 = .ok (.lconst 0, 1) := by decide +kernel
theorem dX10_isUnit_3 : decode cX10_isUnit 3 = .ok (.aload_n 0, 1) := by decide +kernel
theorem dX10_isUnit_4 : decode cX10_isUnit 4 = .ok (.getfield 80, 3) := by decide +kernel
theorem dX10_isUnit_7 : decode cX10_isUnit 7 = .ok (.iconst 1, 1) := by decide +kernel
theorem dX10_isUnit_8 : decode cX10_isUnit 8 = .ok (.isub, 1) := by decide +kernel
theorem dX10_isUnit_9 : decode cX10_isUnit 9 = .ok (.i2l, 1) := by decide +kernel
theorem dX10_isUnit_10 : decode cX10_isUnit 10 = .ok (.invokestatic 89, 3) := by decide +kernel
theorem dX10_isUnit_13 : decode cX10_isUnit 13 = .ok (.ireturn, 1) := by decide +kernel
theorem dX10_marks_0 : decode cX10_marks 0 = .ok (.aload_n 0, 1) := by decide +kernel
theorem dX10_marks_1 : decode cX10_marks 1 = .ok (.iload_n 1, 1) := by decide +kernel
theorem dX10_marks_2 : decode cX10_marks 2 = .ok (.invokevirtual 125, 3) := by decide +kernel
theorem dX10_marks_5 : decode cX10_marks 5 = .ok (.ifCond .ne 6, 3) := by decide +kernel
theorem dX10_marks_8 : decode cX10_marks 8 = .ok (.bipush (-101), 2) := by decide +kernel
theorem dX10_marks_10 : decode cX10_marks 10 = .ok (.ireturn, 1) := by decide +kernel
theorem dX10_marks_11 : decode cX10_marks 11 = .ok (.iload_n 2, 1) := by decide +kernel
theorem dX10_marks_12 : decode cX10_marks 12 = .ok (.i2l, 1) := by decide +kernel
theorem dX10_marks_13 : decode cX10_marks 13 = .ok (.lconst 0, 1) := by decide +kernel
theorem dX10_marks_14 : decode cX10_marks 14 = .ok (.ldc2_w 96, 3) := by decide +kernel
theorem dX10_marks_17 : decode cX10_marks 17 = .ok (.invokestatic 89, 3) := by decide +kernel
theorem dX10_marks_20 : decode cX10_marks 20 = .ok (.ifCond .ne 6, 3) := by decide +kernel
theorem dX10_marks_23 : decode cX10_marks 23 = .ok (.bipush (-102), 2) := by decide +kernel
theorem dX10_marks_25 : decode cX10_marks 25 = .ok (.ireturn, 1) := by decide +kernel
theorem dX10_marks_26 : decode cX10_marks 26 = .ok (.aload_n 0, 1) := by decide +kernel
theorem dX10_marks_27 : decode cX10_marks 27 = .ok (.getfield 50, 3) := by decide +kernel
theorem dX10_marks_30 : decode cX10_marks 30 = .ok (.iload_n 1, 1) := by decide +kernel
theorem dX10_marks_31 : decode cX10_marks 31 = .ok (.iaload, 1) := by decide +kernel
theorem dX10_marks_32 : decode cX10_marks 32 = .ok (.istore_n 3, 1) := by decide +kernel
theorem dX10_marks_33 : decode cX10_marks 33 = .ok (.aload_n 0, 1) := by decide +kernel
theorem dX10_marks_34 : decode cX10_marks 34 = .ok (.getfield 50, 3) := by decide +kernel
theorem dX10_marks_37 : decode cX10_marks 37 = .ok (.iload_n 1, 1) := by decide +kernel
theorem dX10_marks_38 : decode cX10_marks 38 = .ok (.iload_n 2, 1) := by decide +kernel
theorem dX10_marks_39 : decode cX10_marks 39 = .ok (.iastore, 1) := by decide +kernel
theorem dX10_marks_40 : decode cX10_marks 40 = .ok (.aload_n 0, 1) := by decide +kernel
theorem dX10_marks_41 : decode cX10_marks 41 = .ok (.getfield 53, 3) := by decide +kernel
theorem dX10_marks_44 : decode cX10_marks 44 = .ok (.iload_n 1, 1) := by decide +kernel
theorem dX10_marks_45 : decode cX10_marks 45 = .ok (.iconst 1, 1) := by decide +kernel
theorem dX10_marks_46 : decode cX10_marks 46 = .ok (.bastore, 1) := by decide +kernel
theorem dX10_marks_47 : decode cX10_marks 47 = .ok (.iload_n 3, 1) := by decide +kernel
theorem dX10_marks_48 : decode cX10_marks 48 = .ok (.ireturn, 1) := by decide +kernel
theorem dX10_anew_0 : decode cX10_anew 0 = .ok (.iconst 0, 1) := by decide +kernel
theorem dX10_anew_1 : decode cX10_anew 1 = .ok (.istore_n 1, 1) := by decide +kernel
theorem dX10_anew_2 : decode cX10_anew 2 = .ok (.iconst 0, 1) := by decide +kernel
theorem dX10_anew_3 : decode cX10_anew 3 = .ok (.istore_n 2, 1) := by decide +kernel
theorem dX10_anew_4 : decode cX10_anew 4 = .ok (.iload_n 2, 1) := by decide +kernel
theorem dX10_anew_5 : decode cX10_anew 5 = .ok (.aload_n 0, 1) := by decide +kernel
theorem dX10_anew_6 : decode cX10_anew 6 = .ok (.getfield 80, 3) := by decide +kernel
theorem dX10_anew_9 : decode cX10_anew 9 = .ok (.if_icmp .ge 33, 3) := by decide +kernel
theorem dX10_anew_12 : decode cX10_anew 12 = .ok (.iload_n 1, 1) := by decide +kernel
theorem dX10_anew_13 : decode cX10_anew 13 = .ok (.aload_n 0, 1) := by decide +kernel
theorem dX10_anew_14 : decode cX10_anew 14 = .ok (.getfield 53, 3) := by decide +kernel
theorem dX10_anew_17 : decode cX10_anew 17 = .ok (.iload_n 2, 1) := by decide +kernel
theorem dX10_anew_18 : decode cX10_anew 18 = .ok (.baload, 1) := by decide +kernel
theorem dX10_anew_19 : decode cX10_anew 19 = .ok (.ifCond .eq 7, 3) := by decide +kernel
theorem dX10_anew_22 : decode cX10_anew 22 = .ok (.iconst 0, 1) := by decide +kernel
theorem dX10_anew_23 : decode cX10_anew 23 = .ok (.goto 4, 3) := by decide +kernel
theorem dX10_anew_26 : decode cX10_anew 26 = .ok (.iconst 1, 1) := by decide +kernel
theorem dX10_anew_27 : decode cX10_anew 27 = .ok (.iadd, 1) := by decide +kernel
theorem dX10_anew_28 : decode cX10_anew 28 = .ok (.istore_n 1, 1) := by decide +kernel
theorem dX10_anew_29 : decode cX10_anew 29 = .ok (.aload_n 0, 1) := by decide +kernel
theorem dX10_anew_30 : decode cX10_anew 30 = .ok (.getfield 53, 3) := by decide +kernel
theorem dX10_anew_33 : decode cX10_anew 33 = .ok (.iload_n 2, 1) := by decide +kernel
theorem dX10_anew_34 : decode cX10_anew 34 = .ok (.iconst 1, 1) := by decide +kernel
theorem dX10_anew_35 : decode cX10_anew 35 = .ok (.bastore, 1) := by decide +kernel
theorem dX10_anew_36 : decode cX10_anew 36 = .ok (.iinc 2 1, 3) := by decide +kernel
theorem dX10_anew_39 : decode cX10_anew 39 = .ok (.goto (-35), 3) := by decide +kernel
theorem dX10_anew_42 : decode cX10_anew 42 = .ok (.iload_n 1, 1) := by decide +kernel
theorem dX10_anew_43 : decode cX10_anew 43 = .ok (.ireturn, 1) := by decide +kernel
theorem dX10_option_0 : decode cX10_option 0 = .ok (.iload_n 1, 1) := by decide +kernel
theorem dX10_option_1 : decode cX10_option 1 = .ok (.i2l, 1) := by decide +kernel
theorem dX10_option_2 : decode cX10_option 2 = .ok (.lconst 0, 1) := by decide +kernel
theorem dX10_option_3 : decode cX10_option 3 = .ok (.ldc2_w 128, 3) := by decide +kernel
theorem dX10_option_6 : decode cX10_option 6 = .ok (.invokestatic 89, 3) := by decide +kernel
theorem dX10_option_9 : decode cX10_option 9 = .ok (.ifCond .ne 6, 3) := by decide +kernel
theorem dX10_option_12 : decode cX10_option 12 = .ok (.bipush (-102), 2) := by decide +kernel
theorem dX10_option_14 : decode cX10_option 14 = .ok (.ireturn, 1) := by decide +kernel
theorem dX10_option_15 : decode cX10_option 15 = .ok (.aload_n 0, 1) := by decide +kernel
theorem dX10_option_16 : decode cX10_option 16 = .ok (.getfield 62, 3) := by decide +kernel
theorem dX10_option_19 : decode cX10_option 19 = .ok (.iload_n 1, 1) := by decide +kernel
theorem dX10_option_20 : decode cX10_option 20 = .ok (.iaload, 1) := by decide +kernel
theorem dX10_option_21 : decode cX10_option 21 = .ok (.istore_n 3, 1) := by decide +kernel
theorem dX10_option_22 : decode cX10_option 22 = .ok (.aload_n 0, 1) := by decide +kernel
theorem dX10_option_23 : decode cX10_option 23 = .ok (.getfield 62, 3) := by decide +kernel
theorem dX10_option_26 : decode cX10_option 26 = .ok (.iload_n 1, 1) := by decide +kernel
theorem dX10_option_27 : decode cX10_option 27 = .ok (.iload_n 2, 1) := by decide +kernel
theorem dX10_option_28 : decode cX10_option 28 = .ok (.iastore, 1) := by decide +kernel
theorem dX10_option_29 : decode cX10_option 29 = .ok (.iload_n 3, 1) := by decide +kernel
theorem dX10_option_30 : decode cX10_option 30 = .ok (.ireturn, 1) := by decide +kernel
theorem dX10_pass_0 : decode cX10_pass 0 = .ok (.aload_n 0, 1) := by decide +kernel
theorem dX10_pass_1 : decode cX10_pass 1 = .ok (.getfield 130, 3) := by decide +kernel
theorem dX10_pass_4 : decode cX10_pass 4 = .ok (.ifCond .eq 7, 3) := by decide +kernel
theorem dX10_pass_7 : decode cX10_pass 7 = .ok (.iconst 1, 1) := by decide +kernel
theorem dX10_pass_8 : decode cX10_pass 8 = .ok (.goto 4, 3) := by decide +kernel
theorem dX10_pass_11 : decode cX10_pass 11 = .ok (.iconst 0, 1) := by decide +kernel
theorem dX10_pass_12 : decode cX10_pass 12 = .ok (.istore_n 2, 1) := by decide +kernel
theorem dX10_pass_13 : decode cX10_pass 13 = .ok (.aload_n 0, 1) := by decide +kernel
theorem dX10_pass_14 : decode cX10_pass 14 = .ok (.iload_n 1, 1) := by decide +kernel
theorem dX10_pass_15 : decode cX10_pass 15 = .ok (.putfield 130, 3) := by decide +kernel
theorem dX10_pass_18 : decode cX10_pass 18 = .ok (.iload_n 2, 1) := by decide +kernel
theorem dX10_pass_19 : decode cX10_pass 19 = .ok (.ireturn, 1) := by decide +kernel
theorem dX10_tell_0 : decode cX10_tell 0 = .ok (.aload_n 0, 1) := by decide +kernel
theorem dX10_tell_1 : decode cX10_tell 1 = .ok (.getfield 134, 3) := by decide +kernel
theorem dX10_tell_4 : decode cX10_tell 4 = .ok (.bipush 120, 2) := by decide +kernel
theorem dX10_tell_6 : decode cX10_tell 6 = .ok (.if_icmp .ne 4, 3) := by decide +kernel
theorem dX10_tell_9 : decode cX10_tell 9 = .ok (.return_, 1) := by decide +kernel
theorem dX10_tell_10 : decode cX10_tell 10 = .ok (.iconst 5, 1) := by decide +kernel
theorem dX10_tell_11 : decode cX10_tell 11 = .ok (.aload_n 0, 1) := by decide +kernel
theorem dX10_tell_12 : decode cX10_tell 12 = .ok (.getfield 134, 3) := by decide +kernel
theorem dX10_tell_15 : decode cX10_tell 15 = .ok (.imul, 1) := by decide +kernel
theorem dX10_tell_16 : decode cX10_tell 16 = .ok (.istore 5, 2) := by decide +kernel
theorem dX10_tell_18 : decode cX10_tell 18 = .ok (.aload_n 0, 1) := by decide +kernel
theorem dX10_tell_19 : decode cX10_tell 19 = .ok (.getfield 74, 3) := by decide +kernel
theorem dX10_tell_22 : decode cX10_tell 22 = .ok (.iload 5, 2) := by decide +kernel
theorem dX10_tell_24 : decode cX10_tell 24 = .ok (.iload_n 1, 1) := by decide +kernel
theorem dX10_tell_25 : decode cX10_tell 25 = .ok (.iastore, 1) := by decide +kernel
theorem dX10_tell_26 : decode cX10_tell 26 = .ok (.aload_n 0, 1) := by decide +kernel
theorem dX10_tell_27 : decode cX10_tell 27 = .ok (.getfield 74, 3) := by decide +kernel
theorem dX10_tell_30 : decode cX10_tell 30 = .ok (.iload 5, 2) := by decide +kernel
theorem dX10_tell_32 : decode cX10_tell 32 = .ok (.iconst 1, 1) := by decide +kernel
theorem dX10_tell_33 : decode cX10_tell 33 = .ok (.iadd, 1) := by decide +kernel
theorem dX10_tell_34 : decode cX10_tell 34 = .ok (.iload_n 2, 1) := by decide +kernel
theorem dX10_tell_35 : decode cX10_tell 35 = .ok (.iastore, 1) := by decide +kernel
theorem dX10_tell_36 : decode cX10_tell 36 = .ok (.aload_n 0, 1) := by decide +kernel
theorem dX10_tell_37 : decode cX10_tell 37 = .ok (.getfield 74, 3) := by decide +kernel
theorem dX10_tell_40 : decode cX10_tell 40 = .ok (.iload 5, 2) := by decide +kernel
theorem dX10_tell_42 : decode cX10_tell 42 = .ok (.iconst 2, 1) := by decide +kernel
theorem dX10_tell_43 : decode cX10_tell 43 = .ok (.iadd, 1) := by decide +kernel
theorem dX10_tell_44 : decode cX10_tell 44 = .ok (.iload_n 3, 1) := by decide +kernel
theorem dX10_tell_45 : decode cX10_tell 45 = .ok (.iconst (-1), 1) := by decide +kernel
theorem dX10_tell_46 : decode cX10_tell 46 = .ok (.if_icmp .ne 7, 3) := by decide +kernel
theorem dX10_tell_49 : decode cX10_tell 49 = .ok (.iconst (-1), 1) := by decide +kernel
theorem dX10_tell_50 : decode cX10_tell 50 = .ok (.goto 9, 3) := by decide +kernel
theorem dX10_tell_53 : decode cX10_tell 53 = .ok (.aload_n 0, 1) := by decide +kernel
theorem dX10_tell_54 : decode cX10_tell 54 = .ok (.getfield 47, 3) := by decide +kernel
theorem dX10_tell_57 : decode cX10_tell 57 = .ok (.iload_n 3, 1) := by decide +kernel
theorem dX10_tell_58 : decode cX10_tell 58 = .ok (.iaload, 1) := by decide +kernel
theorem dX10_tell_59 : decode cX10_tell 59 = .ok (.iastore, 1) := by decide +kernel
theorem dX10_tell_60 : decode cX10_tell 60 = .ok (.aload_n 0, 1) := by decide +kernel
theorem dX10_tell_61 : decode cX10_tell 61 = .ok (.getfield 74, 3) := by decide +kernel
theorem dX10_tell_64 : decode cX10_tell 64 = .ok (.iload 5, 2) := by decide +kernel
theorem dX10_tell_66 : decode cX10_tell 66 = .ok (.iconst 3, 1) := by decide +kernel
theorem dX10_tell_67 : decode cX10_tell 67 = .ok (.iadd, 1) := by decide +kernel
theorem dX10_tell_68 : decode cX10_tell 68 = .ok (.iload 4, 2) := by decide +kernel
theorem dX10_tell_70 : decode cX10_tell 70 = .ok (.iastore, 1) := by decide +kernel
theorem dX10_tell_71 : decode cX10_tell 71 = .ok (.aload_n 0, 1) := by decide +kernel
theorem dX10_tell_72 : decode cX10_tell 72 = .ok (.getfield 74, 3) := by decide +kernel
theorem dX10_tell_75 : decode cX10_tell 75 = .ok (.iload 5, 2) := by decide +kernel
theorem dX10_tell_77 : decode cX10_tell 77 = .ok (.iconst 4, 1) := by decide +kernel
theorem dX10_tell_78 : decode cX10_tell 78 = .ok (.iadd, 1) := by decide +kernel
theorem dX10_tell_79 : decode cX10_tell 79 = .ok (.aload_n 0, 1) := by decide +kernel
theorem dX10_tell_80 : decode cX10_tell 80 = .ok (.getfield 137, 3) := by decide +kernel
theorem dX10_tell_83 : decode cX10_tell 83 = .ok (.iastore, 1) := by decide +kernel
theorem dX10_tell_84 : decode cX10_tell 84 = .ok (.aload_n 0, 1) := by decide +kernel
theorem dX10_tell_85 : decode cX10_tell 85 = .ok (.dup, 1) := by decide +kernel
theorem dX10_tell_86 : decode cX10_tell 86 = .ok (.getfield 134, 3) := by decide +kernel
theorem dX10_tell_89 : decode cX10_tell 89 = .ok (.iconst 1, 1) := by decide +kernel
theorem dX10_tell_90 : decode cX10_tell 90 = .ok (.iadd, 1) := by decide +kernel
theorem dX10_tell_91 : decode cX10_tell 91 = .ok (.putfield 134, 3) := by decide +kernel
theorem dX10_tell_94 : decode cX10_tell 94 = .ok (.return_, 1) := by decide +kernel
theorem dX10_step_0 : decode cX10_step 0 = .ok (.iload_n 2, 1) := by decide +kernel
theorem dX10_step_1 : decode cX10_step 1 = .ok (.aload_n 0, 1) := by decide +kernel
theorem dX10_step_2 : decode cX10_step 2 = .ok (.getfield 140, 3) := by decide +kernel
theorem dX10_step_5 : decode cX10_step 5 = .ok (.if_icmp .le 9, 3) := by decide +kernel
theorem dX10_step_8 : decode cX10_step 8 = .ok (.aload_n 0, 1) := by decide +kernel
theorem dX10_step_9 : decode cX10_step 9 = .ok (.iconst 1, 1) := by decide +kernel
theorem dX10_step_10 : decode cX10_step 10 = .ok (.putfield 143, 3) := by decide +kernel
theorem dX10_step_13 : decode cX10_step 13 = .ok (.return_, 1) := by decide +kernel
theorem dX10_step_14 : decode cX10_step 14 = .ok (.aload_n 0, 1) := by decide +kernel
theorem dX10_step_15 : decode cX10_step 15 = .ok (.dup, 1) := by decide +kernel
theorem dX10_step_16 : decode cX10_step 16 = .ok (.getfield 140, 3) := by decide +kernel
theorem dX10_step_19 : decode cX10_step 19 = .ok (.iload_n 2, 1) := by decide +kernel
theorem dX10_step_20 : decode cX10_step 20 = .ok (.isub, 1) := by decide +kernel
theorem dX10_step_21 : decode cX10_step 21 = .ok (.putfield 140, 3) := by decide +kernel
theorem dX10_step_24 : decode cX10_step 24 = .ok (.aload_n 0, 1) := by decide +kernel
theorem dX10_step_25 : decode cX10_step 25 = .ok (.dup, 1) := by decide +kernel
theorem dX10_step_26 : decode cX10_step 26 = .ok (.getfield 146, 3) := by decide +kernel
theorem dX10_step_29 : decode cX10_step 29 = .ok (.iload_n 2, 1) := by decide +kernel
theorem dX10_step_30 : decode cX10_step 30 = .ok (.iadd, 1) := by decide +kernel
theorem dX10_step_31 : decode cX10_step 31 = .ok (.putfield 146, 3) := by decide +kernel
theorem dX10_step_34 : decode cX10_step 34 = .ok (.aload_n 0, 1) := by decide +kernel
theorem dX10_step_35 : decode cX10_step 35 = .ok (.getfield 44, 3) := by decide +kernel
theorem dX10_step_38 : decode cX10_step 38 = .ok (.iload_n 1, 1) := by decide +kernel
theorem dX10_step_39 : decode cX10_step 39 = .ok (.dup2, 1) := by decide +kernel
theorem dX10_step_40 : decode cX10_step 40 = .ok (.iaload, 1) := by decide +kernel
theorem dX10_step_41 : decode cX10_step 41 = .ok (.iload_n 2, 1) := by decide +kernel
theorem dX10_step_42 : decode cX10_step 42 = .ok (.iadd, 1) := by decide +kernel
theorem dX10_step_43 : decode cX10_step 43 = .ok (.iastore, 1) := by decide +kernel
theorem dX10_step_44 : decode cX10_step 44 = .ok (.return_, 1) := by decide +kernel
theorem dX10_act_0 : decode cX10_act 0 = .ok (.aload_n 0, 1) := by decide +kernel
theorem dX10_act_1 : decode cX10_act 1 = .ok (.getfield 32, 3) := by decide +kernel
theorem dX10_act_4 : decode cX10_act 4 = .ok (.iload_n 2, 1) := by decide +kernel
theorem dX10_act_5 : decode cX10_act 5 = .ok (.iconst 2, 1) := by decide +kernel
theorem dX10_act_6 : decode cX10_act 6 = .ok (.iadd, 1) := by decide +kernel
theorem dX10_act_7 : decode cX10_act 7 = .ok (.iaload, 1) := by decide +kernel
theorem dX10_act_8 : decode cX10_act 8 = .ok (.istore 4, 2) := by decide +kernel
theorem dX10_act_10 : decode cX10_act 10 = .ok (.aload_n 0, 1) := by decide +kernel
theorem dX10_act_11 : decode cX10_act 11 = .ok (.getfield 32, 3) := by decide +kernel
theorem dX10_act_14 : decode cX10_act 14 = .ok (.iload_n 2, 1) := by decide +kernel
theorem dX10_act_15 : decode cX10_act 15 = .ok (.iconst 3, 1) := by decide +kernel
theorem dX10_act_16 : decode cX10_act 16 = .ok (.iadd, 1) := by decide +kernel
theorem dX10_act_17 : decode cX10_act 17 = .ok (.iaload, 1) := by decide +kernel
theorem dX10_act_18 : decode cX10_act 18 = .ok (.istore 5, 2) := by decide +kernel
theorem dX10_act_20 : decode cX10_act 20 = .ok (.aload_n 0, 1) := by decide +kernel
theorem dX10_act_21 : decode cX10_act 21 = .ok (.getfield 32, 3) := by decide +kernel
theorem dX10_act_24 : decode cX10_act 24 = .ok (.iload_n 2, 1) := by decide +kernel
theorem dX10_act_25 : decode cX10_act 25 = .ok (.iconst 1, 1) := by decide +kernel
theorem dX10_act_26 : decode cX10_act 26 = .ok (.iadd, 1) := by decide +kernel
theorem dX10_act_27 : decode cX10_act 27 = .ok (.iaload, 1) := by decide +kernel
theorem dX10_act_28 : decode cX10_act 28 = .ok (.tableswitch 324 0 8 #[52, 73, 147, 159, 188, 225, 237, 249, 306], 52) := by decide +kernel
theorem dX10_act_80 : decode cX10_act 80 = .ok (.aload_n 0, 1) := by decide +kernel
theorem dX10_act_81 : decode cX10_act 81 = .ok (.getfield 149, 3) := by decide +kernel
theorem dX10_act_84 : decode cX10_act 84 = .ok (.ifCond .ne 15, 3) := by decide +kernel
theorem dX10_act_87 : decode cX10_act 87 = .ok (.aload_n 0, 1) := by decide +kernel
theorem dX10_act_88 : decode cX10_act 88 = .ok (.getfield 77, 3) := by decide +kernel
theorem dX10_act_91 : decode cX10_act 91 = .ok (.aload_n 0, 1) := by decide +kernel
theorem dX10_act_92 : decode cX10_act 92 = .ok (.getfield 32, 3) := by decide +kernel
theorem dX10_act_95 : decode cX10_act 95 = .ok (.iload_n 2, 1) := by decide +kernel
theorem dX10_act_96 : decode cX10_act 96 = .ok (.iaload, 1) := by decide +kernel
theorem dX10_act_97 : decode cX10_act 97 = .ok (.iload_n 1, 1) := by decide +kernel
theorem dX10_act_98 : decode cX10_act 98 = .ok (.iastore, 1) := by decide +kernel
theorem dX10_act_99 : decode cX10_act 99 = .ok (.iconst 0, 1) := by decide +kernel
theorem dX10_act_100 : decode cX10_act 100 = .ok (.ireturn, 1) := by decide +kernel
theorem dX10_act_101 : decode cX10_act 101 = .ok (.aload_n 0, 1) := by decide +kernel
theorem dX10_act_102 : decode cX10_act 102 = .ok (.iload 4, 2) := by decide +kernel
theorem dX10_act_104 : decode cX10_act 104 = .ok (.invokevirtual 118, 3) := by decide +kernel
theorem dX10_act_107 : decode cX10_act 107 = .ok (.ifCond .lt 15, 3) := by decide +kernel
theorem dX10_act_110 : decode cX10_act 110 = .ok (.aload_n 0, 1) := by decide +kernel
theorem dX10_act_111 : decode cX10_act 111 = .ok (.iconst 3, 1) := by decide +kernel
theorem dX10_act_112 : decode cX10_act 112 = .ok (.iload_n 1, 1) := by decide +kernel
theorem dX10_act_113 : decode cX10_act 113 = .ok (.iload_n 3, 1) := by decide +kernel
theorem dX10_act_114 : decode cX10_act 114 = .ok (.iload 4, 2) := by decide +kernel
theorem dX10_act_116 : decode cX10_act 116 = .ok (.invokevirtual 152, 3) := by decide +kernel
theorem dX10_act_119 : decode cX10_act 119 = .ok (.goto 54, 3) := by decide +kernel
theorem dX10_act_122 : decode cX10_act 122 = .ok (.aload_n 0, 1) := by decide +kernel
theorem dX10_act_123 : decode cX10_act 123 = .ok (.getfield 80, 3) := by decide +kernel
theorem dX10_act_126 : decode cX10_act 126 = .ok (.bipush 40, 2) := by decide +kernel
theorem dX10_act_128 : decode cX10_act 128 = .ok (.if_icmp .ne 15, 3) := by decide +kernel
theorem dX10_act_131 : decode cX10_act 131 = .ok (.aload_n 0, 1) := by decide +kernel
theorem dX10_act_132 : decode cX10_act 132 = .ok (.iconst 4, 1) := by decide +kernel
theorem dX10_act_133 : decode cX10_act 133 = .ok (.iload_n 1, 1) := by decide +kernel
theorem dX10_act_134 : decode cX10_act 134 = .ok (.iload_n 3, 1) := by decide +kernel
theorem dX10_act_135 : decode cX10_act 135 = .ok (.iload 4, 2) := by decide +kernel
theorem dX10_act_137 : decode cX10_act 137 = .ok (.invokevirtual 152, 3) := by decide +kernel
theorem dX10_act_140 : decode cX10_act 140 = .ok (.goto 33, 3) := by decide +kernel
theorem dX10_act_143 : decode cX10_act 143 = .ok (.aload_n 0, 1) := by decide +kernel
theorem dX10_act_144 : decode cX10_act 144 = .ok (.iload 4, 2) := by decide +kernel
theorem dX10_act_146 : decode cX10_act 146 = .ok (.iload 5, 2) := by decide +kernel
theorem dX10_act_148 : decode cX10_act 148 = .ok (.iload_n 1, 1) := by decide +kernel
theorem dX10_act_149 : decode cX10_act 149 = .ok (.aload_n 0, 1) := by decide +kernel
theorem dX10_act_150 : decode cX10_act 150 = .ok (.getfield 137, 3) := by decide +kernel
theorem dX10_act_153 : decode cX10_act 153 = .ok (.invokevirtual 121, 3) := by decide +kernel
theorem dX10_act_156 : decode cX10_act 156 = .ok (.aload_n 0, 1) := by decide +kernel
theorem dX10_act_157 : decode cX10_act 157 = .ok (.getfield 149, 3) := by decide +kernel
theorem dX10_act_160 : decode cX10_act 160 = .ok (.ifCond .eq 13, 3) := by decide +kernel
theorem dX10_act_163 : decode cX10_act 163 = .ok (.aload_n 0, 1) := by decide +kernel
theorem dX10_act_164 : decode cX10_act 164 = .ok (.bipush 7, 2) := by decide +kernel
theorem dX10_act_166 : decode cX10_act 166 = .ok (.iload_n 1, 1) := by decide +kernel
theorem dX10_act_167 : decode cX10_act 167 = .ok (.iload_n 3, 1) := by decide +kernel
theorem dX10_act_168 : decode cX10_act 168 = .ok (.iload 4, 2) := by decide +kernel
theorem dX10_act_170 : decode cX10_act 170 = .ok (.invokevirtual 152, 3) := by decide +kernel
theorem dX10_act_173 : decode cX10_act 173 = .ok (.iconst 0, 1) := by decide +kernel
theorem dX10_act_174 : decode cX10_act 174 = .ok (.ireturn, 1) := by decide +kernel
theorem dX10_act_175 : decode cX10_act 175 = .ok (.aload_n 0, 1) := by decide +kernel
theorem dX10_act_176 : decode cX10_act 176 = .ok (.iload 5, 2) := by decide +kernel
theorem dX10_act_178 : decode cX10_act 178 = .ok (.iload_n 1, 1) := by decide +kernel
theorem dX10_act_179 : decode cX10_act 179 = .ok (.iload_n 3, 1) := by decide +kernel
theorem dX10_act_180 : decode cX10_act 180 = .ok (.iload 4, 2) := by decide +kernel
theorem dX10_act_182 : decode cX10_act 182 = .ok (.invokevirtual 152, 3) := by decide +kernel
theorem dX10_act_185 : decode cX10_act 185 = .ok (.iconst 0, 1) := by decide +kernel
theorem dX10_act_186 : decode cX10_act 186 = .ok (.ireturn, 1) := by decide +kernel
theorem dX10_act_187 : decode cX10_act 187 = .ok (.aload_n 0, 1) := by decide +kernel
theorem dX10_act_188 : decode cX10_act 188 = .ok (.getfield 35, 3) := by decide +kernel
theorem dX10_act_191 : decode cX10_act 191 = .ok (.iload_n 1, 1) := by decide +kernel
theorem dX10_act_192 : decode cX10_act 192 = .ok (.dup2, 1) := by decide +kernel
theorem dX10_act_193 : decode cX10_act 193 = .ok (.iaload, 1) := by decide +kernel
theorem dX10_act_194 : decode cX10_act 194 = .ok (.iload 4, 2) := by decide +kernel
theorem dX10_act_196 : decode cX10_act 196 = .ok (.bipush 127, 2) := by decide +kernel
theorem dX10_act_198 : decode cX10_act 198 = .ok (.if_icmp .le 12, 3) := by decide +kernel
theorem dX10_act_201 : decode cX10_act 201 = .ok (.iload 4, 2) := by decide +kernel
theorem dX10_act_203 : decode cX10_act 203 = .ok (.sipush 256, 3) := by decide +kernel
theorem dX10_act_206 : decode cX10_act 206 = .ok (.isub, 1) := by decide +kernel
theorem dX10_act_207 : decode cX10_act 207 = .ok (.goto 5, 3) := by decide +kernel
theorem dX10_act_210 : decode cX10_act 210 = .ok (.iload 4, 2) := by decide +kernel
theorem dX10_act_212 : decode cX10_act 212 = .ok (.iadd, 1) := by decide +kernel
theorem dX10_act_213 : decode cX10_act 213 = .ok (.iastore, 1) := by decide +kernel
theorem dX10_act_214 : decode cX10_act 214 = .ok (.iconst 0, 1) := by decide +kernel
theorem dX10_act_215 : decode cX10_act 215 = .ok (.ireturn, 1) := by decide +kernel
theorem dX10_act_216 : decode cX10_act 216 = .ok (.aload_n 0, 1) := by decide +kernel
theorem dX10_act_217 : decode cX10_act 217 = .ok (.iconst 5, 1) := by decide +kernel
theorem dX10_act_218 : decode cX10_act 218 = .ok (.iload_n 1, 1) := by decide +kernel
theorem dX10_act_219 : decode cX10_act 219 = .ok (.iload_n 3, 1) := by decide +kernel
theorem dX10_act_220 : decode cX10_act 220 = .ok (.iload 4, 2) := by decide +kernel
theorem dX10_act_222 : decode cX10_act 222 = .ok (.invokevirtual 152, 3) := by decide +kernel
theorem dX10_act_225 : decode cX10_act 225 = .ok (.aload_n 0, 1) := by decide +kernel
theorem dX10_act_226 : decode cX10_act 226 = .ok (.getfield 41, 3) := by decide +kernel
theorem dX10_act_229 : decode cX10_act 229 = .ok (.iload_n 1, 1) := by decide +kernel
theorem dX10_act_230 : decode cX10_act 230 = .ok (.iconst 1, 1) := by decide +kernel
theorem dX10_act_231 : decode cX10_act 231 = .ok (.bastore, 1) := by decide +kernel
theorem dX10_act_232 : decode cX10_act 232 = .ok (.aload_n 0, 1) := by decide +kernel
theorem dX10_act_233 : decode cX10_act 233 = .ok (.aload_n 0, 1) := by decide +kernel
theorem dX10_act_234 : decode cX10_act 234 = .ok (.getfield 130, 3) := by decide +kernel
theorem dX10_act_237 : decode cX10_act 237 = .ok (.ifCond .eq 10, 3) := by decide +kernel
theorem dX10_act_240 : decode cX10_act 240 = .ok (.aload_n 0, 1) := by decide +kernel
theorem dX10_act_241 : decode cX10_act 241 = .ok (.getfield 143, 3) := by decide +kernel
theorem dX10_act_244 : decode cX10_act 244 = .ok (.goto 4, 3) := by decide +kernel
theorem dX10_act_247 : decode cX10_act 247 = .ok (.iconst 2, 1) := by decide +kernel
theorem dX10_act_248 : decode cX10_act 248 = .ok (.putfield 143, 3) := by decide +kernel
theorem dX10_act_251 : decode cX10_act 251 = .ok (.iconst 0, 1) := by decide +kernel
theorem dX10_act_252 : decode cX10_act 252 = .ok (.ireturn, 1) := by decide +kernel
theorem dX10_act_253 : decode cX10_act 253 = .ok (.aload_n 0, 1) := by decide +kernel
theorem dX10_act_254 : decode cX10_act 254 = .ok (.iload_n 1, 1) := by decide +kernel
theorem dX10_act_255 : decode cX10_act 255 = .ok (.iload 4, 2) := by decide +kernel
theorem dX10_act_257 : decode cX10_act 257 = .ok (.iload 5, 2) := by decide +kernel
theorem dX10_act_259 : decode cX10_act 259 = .ok (.imul, 1) := by decide +kernel
theorem dX10_act_260 : decode cX10_act 260 = .ok (.invokevirtual 155, 3) := by decide +kernel
theorem dX10_act_263 : decode cX10_act 263 = .ok (.iconst 0, 1) := by decide +kernel
theorem dX10_act_264 : decode cX10_act 264 = .ok (.ireturn, 1) := by decide +kernel
theorem dX10_act_265 : decode cX10_act 265 = .ok (.aload_n 0, 1) := by decide +kernel
theorem dX10_act_266 : decode cX10_act 266 = .ok (.bipush 6, 2) := by decide +kernel
theorem dX10_act_268 : decode cX10_act 268 = .ok (.iload_n 1, 1) := by decide +kernel
theorem dX10_act_269 : decode cX10_act 269 = .ok (.iload_n 3, 1) := by decide +kernel
theorem dX10_act_270 : decode cX10_act 270 = .ok (.iload 4, 2) := by decide +kernel
theorem dX10_act_272 : decode cX10_act 272 = .ok (.invokevirtual 152, 3) := by decide +kernel
theorem dX10_act_275 : decode cX10_act 275 = .ok (.iconst 0, 1) := by decide +kernel
theorem dX10_act_276 : decode cX10_act 276 = .ok (.ireturn, 1) := by decide +kernel
theorem dX10_act_277 : decode cX10_act 277 = .ok (.aload_n 0, 1) := by decide +kernel
theorem dX10_act_278 : decode cX10_act 278 = .ok (.getfield 65, 3) := by decide +kernel
theorem dX10_act_281 : decode cX10_act 281 = .ok (.iload 4, 2) := by decide +kernel
theorem dX10_act_283 : decode cX10_act 283 = .ok (.iaload, 1) := by decide +kernel
theorem dX10_act_284 : decode cX10_act 284 = .ok (.bipush 100, 2) := by decide +kernel
theorem dX10_act_286 : decode cX10_act 286 = .ok (.if_icmp .ne 15, 3) := by decide +kernel
theorem dX10_act_289 : decode cX10_act 289 = .ok (.aload_n 0, 1) := by decide +kernel
theorem dX10_act_290 : decode cX10_act 290 = .ok (.iconst 4, 1) := by decide +kernel
theorem dX10_act_291 : decode cX10_act 291 = .ok (.iload_n 1, 1) := by decide +kernel
theorem dX10_act_292 : decode cX10_act 292 = .ok (.iload_n 3, 1) := by decide +kernel
theorem dX10_act_293 : decode cX10_act 293 = .ok (.iload 4, 2) := by decide +kernel
theorem dX10_act_295 : decode cX10_act 295 = .ok (.invokevirtual 152, 3) := by decide +kernel
theorem dX10_act_298 : decode cX10_act 298 = .ok (.goto 34, 3) := by decide +kernel
theorem dX10_act_301 : decode cX10_act 301 = .ok (.aload_n 0, 1) := by decide +kernel
theorem dX10_act_302 : decode cX10_act 302 = .ok (.getfield 71, 3) := by decide +kernel
theorem dX10_act_305 : decode cX10_act 305 = .ok (.bipush 100, 2) := by decide +kernel
theorem dX10_act_307 : decode cX10_act 307 = .ok (.iload 4, 2) := by decide +kernel
theorem dX10_act_309 : decode cX10_act 309 = .ok (.imul, 1) := by decide +kernel
theorem dX10_act_310 : decode cX10_act 310 = .ok (.aload_n 0, 1) := by decide +kernel
theorem dX10_act_311 : decode cX10_act 311 = .ok (.getfield 65, 3) := by decide +kernel
theorem dX10_act_314 : decode cX10_act 314 = .ok (.iload 4, 2) := by decide +kernel
theorem dX10_act_316 : decode cX10_act 316 = .ok (.iaload, 1) := by decide +kernel
theorem dX10_act_317 : decode cX10_act 317 = .ok (.iadd, 1) := by decide +kernel
theorem dX10_act_318 : decode cX10_act 318 = .ok (.iload 5, 2) := by decide +kernel
theorem dX10_act_320 : decode cX10_act 320 = .ok (.iastore, 1) := by decide +kernel
theorem dX10_act_321 : decode cX10_act 321 = .ok (.aload_n 0, 1) := by decide +kernel
theorem dX10_act_322 : decode cX10_act 322 = .ok (.getfield 65, 3) := by decide +kernel
theorem dX10_act_325 : decode cX10_act 325 = .ok (.iload 4, 2) := by decide +kernel
theorem dX10_act_327 : decode cX10_act 327 = .ok (.dup2, 1) := by decide +kernel
theorem dX10_act_328 : decode cX10_act 328 = .ok (.iaload, 1) := by decide +kernel
theorem dX10_act_329 : decode cX10_act 329 = .ok (.iconst 1, 1) := by decide +kernel
theorem dX10_act_330 : decode cX10_act 330 = .ok (.iadd, 1) := by decide +kernel
theorem dX10_act_331 : decode cX10_act 331 = .ok (.iastore, 1) := by decide +kernel
theorem dX10_act_332 : decode cX10_act 332 = .ok (.iconst 0, 1) := by decide +kernel
theorem dX10_act_333 : decode cX10_act 333 = .ok (.ireturn, 1) := by decide +kernel
theorem dX10_act_334 : decode cX10_act 334 = .ok (.aload_n 0, 1) := by decide +kernel
theorem dX10_act_335 : decode cX10_act 335 = .ok (.getfield 35, 3) := by decide +kernel
theorem dX10_act_338 : decode cX10_act 338 = .ok (.iload_n 1, 1) := by decide +kernel
theorem dX10_act_339 : decode cX10_act 339 = .ok (.iaload, 1) := by decide +kernel
theorem dX10_act_340 : decode cX10_act 340 = .ok (.iload 4, 2) := by decide +kernel
theorem dX10_act_342 : decode cX10_act 342 = .ok (.if_icmp .lt 8, 3) := by decide +kernel
theorem dX10_act_345 : decode cX10_act 345 = .ok (.iload 5, 2) := by decide +kernel
theorem dX10_act_347 : decode cX10_act 347 = .ok (.goto 4, 3) := by decide +kernel
theorem dX10_act_350 : decode cX10_act 350 = .ok (.iconst 0, 1) := by decide +kernel
theorem dX10_act_351 : decode cX10_act 351 = .ok (.ireturn, 1) := by decide +kernel
theorem dX10_act_352 : decode cX10_act 352 = .ok (.aload_n 0, 1) := by decide +kernel
theorem dX10_act_353 : decode cX10_act 353 = .ok (.getfield 35, 3) := by decide +kernel
theorem dX10_act_356 : decode cX10_act 356 = .ok (.iload_n 1, 1) := by decide +kernel
theorem dX10_act_357 : decode cX10_act 357 = .ok (.aload_n 0, 1) := by decide +kernel
theorem dX10_act_358 : decode cX10_act 358 = .ok (.getfield 62, 3) := by decide +kernel
theorem dX10_act_361 : decode cX10_act 361 = .ok (.iload 4, 2) := by decide +kernel
theorem dX10_act_363 : decode cX10_act 363 = .ok (.iaload, 1) := by decide +kernel
theorem dX10_act_364 : decode cX10_act 364 = .ok (.iastore, 1) := by decide +kernel
theorem dX10_act_365 : decode cX10_act 365 = .ok (.iconst 0, 1) := by decide +kernel
theorem dX10_act_366 : decode cX10_act 366 = .ok (.ireturn, 1) := by decide +kernel
theorem dX10_meet_0 : decode cX10_meet 0 = .ok (.iconst 0, 1) := by decide +kernel
theorem dX10_meet_1 : decode cX10_meet 1 = .ok (.istore_n 3, 1) := by decide +kernel
theorem dX10_meet_2 : decode cX10_meet 2 = .ok (.iload_n 3, 1) := by decide +kernel
theorem dX10_meet_3 : decode cX10_meet 3 = .ok (.aload_n 0, 1) := by decide +kernel
theorem dX10_meet_4 : decode cX10_meet 4 = .ok (.getfield 29, 3) := by decide +kernel
theorem dX10_meet_7 : decode cX10_meet 7 = .ok (.iload_n 1, 1) := by decide +kernel
theorem dX10_meet_8 : decode cX10_meet 8 = .ok (.iaload, 1) := by decide +kernel
theorem dX10_meet_9 : decode cX10_meet 9 = .ok (.if_icmp .ge 170, 3) := by decide +kernel
theorem dX10_meet_12 : decode cX10_meet 12 = .ok (.aload_n 0, 1) := by decide +kernel
theorem dX10_meet_13 : decode cX10_meet 13 = .ok (.getfield 143, 3) := by decide +kernel
theorem dX10_meet_16 : decode cX10_meet 16 = .ok (.ifCond .ne 163, 3) := by decide +kernel
theorem dX10_meet_19 : decode cX10_meet 19 = .ok (.aload_n 0, 1) := by decide +kernel
theorem dX10_meet_20 : decode cX10_meet 20 = .ok (.getfield 41, 3) := by decide +kernel
theorem dX10_meet_23 : decode cX10_meet 23 = .ok (.iload_n 1, 1) := by decide +kernel
theorem dX10_meet_24 : decode cX10_meet 24 = .ok (.baload, 1) := by decide +kernel
theorem dX10_meet_25 : decode cX10_meet 25 = .ok (.ifCond .ne 154, 3) := by decide +kernel
theorem dX10_meet_28 : decode cX10_meet 28 = .ok (.bipush 48, 2) := by decide +kernel
theorem dX10_meet_30 : decode cX10_meet 30 = .ok (.iload_n 1, 1) := by decide +kernel
theorem dX10_meet_31 : decode cX10_meet 31 = .ok (.imul, 1) := by decide +kernel
theorem dX10_meet_32 : decode cX10_meet 32 = .ok (.iconst 4, 1) := by decide +kernel
theorem dX10_meet_33 : decode cX10_meet 33 = .ok (.iload_n 3, 1) := by decide +kernel
theorem dX10_meet_34 : decode cX10_meet 34 = .ok (.imul, 1) := by decide +kernel
theorem dX10_meet_35 : decode cX10_meet 35 = .ok (.iadd, 1) := by decide +kernel
theorem dX10_meet_36 : decode cX10_meet 36 = .ok (.istore 4, 2) := by decide +kernel
theorem dX10_meet_38 : decode cX10_meet 38 = .ok (.aload_n 0, 1) := by decide +kernel
theorem dX10_meet_39 : decode cX10_meet 39 = .ok (.getfield 32, 3) := by decide +kernel
theorem dX10_meet_42 : decode cX10_meet 42 = .ok (.iload 4, 2) := by decide +kernel
theorem dX10_meet_44 : decode cX10_meet 44 = .ok (.iaload, 1) := by decide +kernel
theorem dX10_meet_45 : decode cX10_meet 45 = .ok (.istore 5, 2) := by decide +kernel
theorem dX10_meet_47 : decode cX10_meet 47 = .ok (.iload_n 2, 1) := by decide +kernel
theorem dX10_meet_48 : decode cX10_meet 48 = .ok (.iconst (-1), 1) := by decide +kernel
theorem dX10_meet_49 : decode cX10_meet 49 = .ok (.if_icmp .ne 18, 3) := by decide +kernel
theorem dX10_meet_52 : decode cX10_meet 52 = .ok (.iload 5, 2) := by decide +kernel
theorem dX10_meet_54 : decode cX10_meet 54 = .ok (.bipush 15, 2) := by decide +kernel
theorem dX10_meet_56 : decode cX10_meet 56 = .ok (.if_icmp .ne 7, 3) := by decide +kernel
theorem dX10_meet_59 : decode cX10_meet 59 = .ok (.iconst 1, 1) := by decide +kernel
theorem dX10_meet_60 : decode cX10_meet 60 = .ok (.goto 78, 3) := by decide +kernel
theorem dX10_meet_63 : decode cX10_meet 63 = .ok (.iconst 0, 1) := by decide +kernel
theorem dX10_meet_64 : decode cX10_meet 64 = .ok (.goto 74, 3) := by decide +kernel
theorem dX10_meet_67 : decode cX10_meet 67 = .ok (.iload 5, 2) := by decide +kernel
theorem dX10_meet_69 : decode cX10_meet 69 = .ok (.bipush 15, 2) := by decide +kernel
theorem dX10_meet_71 : decode cX10_meet 71 = .ok (.if_icmp .eq 66, 3) := by decide +kernel
theorem dX10_meet_74 : decode cX10_meet 74 = .ok (.aload_n 0, 1) := by decide +kernel
theorem dX10_meet_75 : decode cX10_meet 75 = .ok (.getfield 50, 3) := by decide +kernel
theorem dX10_meet_78 : decode cX10_meet 78 = .ok (.iload_n 2, 1) := by decide +kernel
theorem dX10_meet_79 : decode cX10_meet 79 = .ok (.iaload, 1) := by decide +kernel
theorem dX10_meet_80 : decode cX10_meet 80 = .ok (.iload 5, 2) := by decide +kernel
theorem dX10_meet_82 : decode cX10_meet 82 = .ok (.ishr, 1) := by decide +kernel
theorem dX10_meet_83 : decode cX10_meet 83 = .ok (.iconst 1, 1) := by decide +kernel
theorem dX10_meet_84 : decode cX10_meet 84 = .ok (.iand, 1) := by decide +kernel
theorem dX10_meet_85 : decode cX10_meet 85 = .ok (.iconst 1, 1) := by decide +kernel
theorem dX10_meet_86 : decode cX10_meet 86 = .ok (.if_icmp .ne 51, 3) := by decide +kernel
theorem dX10_meet_89 : decode cX10_meet 89 = .ok (.aload_n 0, 1) := by decide +kernel
theorem dX10_meet_90 : decode cX10_meet 90 = .ok (.getfield 77, 3) := by decide +kernel
theorem dX10_meet_93 : decode cX10_meet 93 = .ok (.iload 5, 2) := by decide +kernel
theorem dX10_meet_95 : decode cX10_meet 95 = .ok (.bipush 15, 2) := by decide +kernel
theorem dX10_meet_97 : decode cX10_meet 97 = .ok (.if_icmp .ne 7, 3) := by decide +kernel
theorem dX10_meet_100 : decode cX10_meet 100 = .ok (.iconst 0, 1) := by decide +kernel
theorem dX10_meet_101 : decode cX10_meet 101 = .ok (.goto 5, 3) := by decide +kernel
theorem dX10_meet_104 : decode cX10_meet 104 = .ok (.iload 5, 2) := by decide +kernel
theorem dX10_meet_106 : decode cX10_meet 106 = .ok (.iaload, 1) := by decide +kernel
theorem dX10_meet_107 : decode cX10_meet 107 = .ok (.iconst (-1), 1) := by decide +kernel
theorem dX10_meet_108 : decode cX10_meet 108 = .ok (.if_icmp .eq 25, 3) := by decide +kernel
theorem dX10_meet_111 : decode cX10_meet 111 = .ok (.aload_n 0, 1) := by decide +kernel
theorem dX10_meet_112 : decode cX10_meet 112 = .ok (.getfield 77, 3) := by decide +kernel
theorem dX10_meet_115 : decode cX10_meet 115 = .ok (.iload 5, 2) := by decide +kernel
theorem dX10_meet_117 : decode cX10_meet 117 = .ok (.bipush 15, 2) := by decide +kernel
theorem dX10_meet_119 : decode cX10_meet 119 = .ok (.if_icmp .ne 7, 3) := by decide +kernel
theorem dX10_meet_122 : decode cX10_meet 122 = .ok (.iconst 0, 1) := by decide +kernel
theorem dX10_meet_123 : decode cX10_meet 123 = .ok (.goto 5, 3) := by decide +kernel
theorem dX10_meet_126 : decode cX10_meet 126 = .ok (.iload 5, 2) := by decide +kernel
theorem dX10_meet_128 : decode cX10_meet 128 = .ok (.iaload, 1) := by decide +kernel
theorem dX10_meet_129 : decode cX10_meet 129 = .ok (.iload_n 1, 1) := by decide +kernel
theorem dX10_meet_130 : decode cX10_meet 130 = .ok (.if_icmp .ne 7, 3) := by decide +kernel
theorem dX10_meet_133 : decode cX10_meet 133 = .ok (.iconst 1, 1) := by decide +kernel
theorem dX10_meet_134 : decode cX10_meet 134 = .ok (.goto 4, 3) := by decide +kernel
theorem dX10_meet_137 : decode cX10_meet 137 = .ok (.iconst 0, 1) := by decide +kernel
theorem dX10_meet_138 : decode cX10_meet 138 = .ok (.istore 6, 2) := by decide +kernel
theorem dX10_meet_140 : decode cX10_meet 140 = .ok (.iinc 3 1, 3) := by decide +kernel
theorem dX10_meet_143 : decode cX10_meet 143 = .ok (.iload 6, 2) := by decide +kernel
theorem dX10_meet_145 : decode cX10_meet 145 = .ok (.ifCond .eq 31, 3) := by decide +kernel
theorem dX10_meet_148 : decode cX10_meet 148 = .ok (.aload_n 0, 1) := by decide +kernel
theorem dX10_meet_149 : decode cX10_meet 149 = .ok (.iload_n 1, 1) := by decide +kernel
theorem dX10_meet_150 : decode cX10_meet 150 = .ok (.iconst 1, 1) := by decide +kernel
theorem dX10_meet_151 : decode cX10_meet 151 = .ok (.invokevirtual 155, 3) := by decide +kernel
theorem dX10_meet_154 : decode cX10_meet 154 = .ok (.iload_n 3, 1) := by decide +kernel
theorem dX10_meet_155 : decode cX10_meet 155 = .ok (.aload_n 0, 1) := by decide +kernel
theorem dX10_meet_156 : decode cX10_meet 156 = .ok (.getfield 143, 3) := by decide +kernel
theorem dX10_meet_159 : decode cX10_meet 159 = .ok (.ifCond .ne 14, 3) := by decide +kernel
theorem dX10_meet_162 : decode cX10_meet 162 = .ok (.aload_n 0, 1) := by decide +kernel
theorem dX10_meet_163 : decode cX10_meet 163 = .ok (.iload_n 1, 1) := by decide +kernel
theorem dX10_meet_164 : decode cX10_meet 164 = .ok (.iload 4, 2) := by decide +kernel
theorem dX10_meet_166 : decode cX10_meet 166 = .ok (.iload_n 2, 1) := by decide +kernel
theorem dX10_meet_167 : decode cX10_meet 167 = .ok (.invokevirtual 159, 3) := by decide +kernel
theorem dX10_meet_170 : decode cX10_meet 170 = .ok (.goto 4, 3) := by decide +kernel
theorem dX10_meet_173 : decode cX10_meet 173 = .ok (.iconst 0, 1) := by decide +kernel
theorem dX10_meet_174 : decode cX10_meet 174 = .ok (.iadd, 1) := by decide +kernel
theorem dX10_meet_175 : decode cX10_meet 175 = .ok (.istore_n 3, 1) := by decide +kernel
theorem dX10_meet_176 : decode cX10_meet 176 = .ok (.goto (-174), 3) := by decide +kernel
theorem dX10_meet_179 : decode cX10_meet 179 = .ok (.return_, 1) := by decide +kernel
theorem dX10_turn_0 : decode cX10_turn 0 = .ok (.iconst 0, 1) := by decide +kernel
theorem dX10_turn_1 : decode cX10_turn 1 = .ok (.istore 4, 2) := by decide +kernel
theorem dX10_turn_3 : decode cX10_turn 3 = .ok (.iload 4, 2) := by decide +kernel
theorem dX10_turn_5 : decode cX10_turn 5 = .ok (.bipush 8, 2) := by decide +kernel
theorem dX10_turn_7 : decode cX10_turn 7 = .ok (.if_icmp .ge 17, 3) := by decide +kernel
theorem dX10_turn_10 : decode cX10_turn 10 = .ok (.aload_n 0, 1) := by decide +kernel
theorem dX10_turn_11 : decode cX10_turn 11 = .ok (.getfield 77, 3) := by decide +kernel
theorem dX10_turn_14 : decode cX10_turn 14 = .ok (.iload 4, 2) := by decide +kernel
theorem dX10_turn_16 : decode cX10_turn 16 = .ok (.iconst (-1), 1) := by decide +kernel
theorem dX10_turn_17 : decode cX10_turn 17 = .ok (.iastore, 1) := by decide +kernel
theorem dX10_turn_18 : decode cX10_turn 18 = .ok (.iinc 4 1, 3) := by decide +kernel
theorem dX10_turn_21 : decode cX10_turn 21 = .ok (.goto (-18), 3) := by decide +kernel
theorem dX10_turn_24 : decode cX10_turn 24 = .ok (.iconst 0, 1) := by decide +kernel
theorem dX10_turn_25 : decode cX10_turn 25 = .ok (.istore 4, 2) := by decide +kernel
theorem dX10_turn_27 : decode cX10_turn 27 = .ok (.iload 4, 2) := by decide +kernel
theorem dX10_turn_29 : decode cX10_turn 29 = .ok (.aload_n 0, 1) := by decide +kernel
theorem dX10_turn_30 : decode cX10_turn 30 = .ok (.getfield 113, 3) := by decide +kernel
theorem dX10_turn_33 : decode cX10_turn 33 = .ok (.if_icmp .ge 63, 3) := by decide +kernel
theorem dX10_turn_36 : decode cX10_turn 36 = .ok (.iload_n 1, 1) := by decide +kernel
theorem dX10_turn_37 : decode cX10_turn 37 = .ok (.istore 5, 2) := by decide +kernel
theorem dX10_turn_39 : decode cX10_turn 39 = .ok (.iload 5, 2) := by decide +kernel
theorem dX10_turn_41 : decode cX10_turn 41 = .ok (.iload_n 2, 1) := by decide +kernel
theorem dX10_turn_42 : decode cX10_turn 42 = .ok (.if_icmp .ge 48, 3) := by decide +kernel
theorem dX10_turn_45 : decode cX10_turn 45 = .ok (.aload_n 0, 1) := by decide +kernel
theorem dX10_turn_46 : decode cX10_turn 46 = .ok (.getfield 143, 3) := by decide +kernel
theorem dX10_turn_49 : decode cX10_turn 49 = .ok (.ifCond .ne 41, 3) := by decide +kernel
theorem dX10_turn_52 : decode cX10_turn 52 = .ok (.aload_n 0, 1) := by decide +kernel
theorem dX10_turn_53 : decode cX10_turn 53 = .ok (.getfield 41, 3) := by decide +kernel
theorem dX10_turn_56 : decode cX10_turn 56 = .ok (.iload 4, 2) := by decide +kernel
theorem dX10_turn_58 : decode cX10_turn 58 = .ok (.baload, 1) := by decide +kernel
theorem dX10_turn_59 : decode cX10_turn 59 = .ok (.ifCond .ne 31, 3) := by decide +kernel
theorem dX10_turn_62 : decode cX10_turn 62 = .ok (.iload_n 3, 1) := by decide +kernel
theorem dX10_turn_63 : decode cX10_turn 63 = .ok (.ifCond .eq 13, 3) := by decide +kernel
theorem dX10_turn_66 : decode cX10_turn 66 = .ok (.aload_n 0, 1) := by decide +kernel
theorem dX10_turn_67 : decode cX10_turn 67 = .ok (.getfield 53, 3) := by decide +kernel
theorem dX10_turn_70 : decode cX10_turn 70 = .ok (.iload 5, 2) := by decide +kernel
theorem dX10_turn_72 : decode cX10_turn 72 = .ok (.baload, 1) := by decide +kernel
theorem dX10_turn_73 : decode cX10_turn 73 = .ok (.ifCond .eq 11, 3) := by decide +kernel
theorem dX10_turn_76 : decode cX10_turn 76 = .ok (.aload_n 0, 1) := by decide +kernel
theorem dX10_turn_77 : decode cX10_turn 77 = .ok (.iload 4, 2) := by decide +kernel
theorem dX10_turn_79 : decode cX10_turn 79 = .ok (.iload 5, 2) := by decide +kernel
theorem dX10_turn_81 : decode cX10_turn 81 = .ok (.invokevirtual 163, 3) := by decide +kernel
theorem dX10_turn_84 : decode cX10_turn 84 = .ok (.iinc 5 1, 3) := by decide +kernel
theorem dX10_turn_87 : decode cX10_turn 87 = .ok (.goto (-48), 3) := by decide +kernel
theorem dX10_turn_90 : decode cX10_turn 90 = .ok (.iinc 4 1, 3) := by decide +kernel
theorem dX10_turn_93 : decode cX10_turn 93 = .ok (.goto (-66), 3) := by decide +kernel
theorem dX10_turn_96 : decode cX10_turn 96 = .ok (.return_, 1) := by decide +kernel
theorem dX10_run_0 : decode cX10_run 0 = .ok (.iload_n 1, 1) := by decide +kernel
theorem dX10_run_1 : decode cX10_run 1 = .ok (.i2l, 1) := by decide +kernel
theorem dX10_run_2 : decode cX10_run 2 = .ok (.lconst 0, 1) := by decide +kernel
theorem dX10_run_3 : decode cX10_run 3 = .ok (.ldc2_w 166, 3) := by decide +kernel
theorem dX10_run_6 : decode cX10_run 6 = .ok (.invokestatic 89, 3) := by decide +kernel
theorem dX10_run_9 : decode cX10_run 9 = .ok (.ifCond .ne 6, 3) := by decide +kernel
theorem dX10_run_12 : decode cX10_run 12 = .ok (.bipush (-102), 2) := by decide +kernel
theorem dX10_run_14 : decode cX10_run 14 = .ok (.ireturn, 1) := by decide +kernel
theorem dX10_run_15 : decode cX10_run 15 = .ok (.aload_n 0, 1) := by decide +kernel
theorem dX10_run_16 : decode cX10_run 16 = .ok (.getfield 80, 3) := by decide +kernel
theorem dX10_run_19 : decode cX10_run 19 = .ok (.istore_n 2, 1) := by decide +kernel
theorem dX10_run_20 : decode cX10_run 20 = .ok (.iconst 0, 1) := by decide +kernel
theorem dX10_run_21 : decode cX10_run 21 = .ok (.istore_n 3, 1) := by decide +kernel
theorem dX10_run_22 : decode cX10_run 22 = .ok (.iconst 0, 1) := by decide +kernel
theorem dX10_run_23 : decode cX10_run 23 = .ok (.istore 4, 2) := by decide +kernel
theorem dX10_run_25 : decode cX10_run 25 = .ok (.iload 4, 2) := by decide +kernel
theorem dX10_run_27 : decode cX10_run 27 = .ok (.aload_n 0, 1) := by decide +kernel
theorem dX10_run_28 : decode cX10_run 28 = .ok (.getfield 80, 3) := by decide +kernel
theorem dX10_run_31 : decode cX10_run 31 = .ok (.if_icmp .ge 27, 3) := by decide +kernel
theorem dX10_run_34 : decode cX10_run 34 = .ok (.iload_n 3, 1) := by decide +kernel
theorem dX10_run_35 : decode cX10_run 35 = .ok (.aload_n 0, 1) := by decide +kernel
theorem dX10_run_36 : decode cX10_run 36 = .ok (.getfield 53, 3) := by decide +kernel
theorem dX10_run_39 : decode cX10_run 39 = .ok (.iload 4, 2) := by decide +kernel
theorem dX10_run_41 : decode cX10_run 41 = .ok (.baload, 1) := by decide +kernel
theorem dX10_run_42 : decode cX10_run 42 = .ok (.ifCond .eq 7, 3) := by decide +kernel
theorem dX10_run_45 : decode cX10_run 45 = .ok (.iconst 1, 1) := by decide +kernel
theorem dX10_run_46 : decode cX10_run 46 = .ok (.goto 4, 3) := by decide +kernel
theorem dX10_run_49 : decode cX10_run 49 = .ok (.iconst 0, 1) := by decide +kernel
theorem dX10_run_50 : decode cX10_run 50 = .ok (.iadd, 1) := by decide +kernel
theorem dX10_run_51 : decode cX10_run 51 = .ok (.istore_n 3, 1) := by decide +kernel
theorem dX10_run_52 : decode cX10_run 52 = .ok (.iinc 4 1, 3) := by decide +kernel
theorem dX10_run_55 : decode cX10_run 55 = .ok (.goto (-30), 3) := by decide +kernel
theorem dX10_run_58 : decode cX10_run 58 = .ok (.iconst 0, 1) := by decide +kernel
theorem dX10_run_59 : decode cX10_run 59 = .ok (.istore 4, 2) := by decide +kernel
theorem dX10_run_61 : decode cX10_run 61 = .ok (.iload 4, 2) := by decide +kernel
theorem dX10_run_63 : decode cX10_run 63 = .ok (.bipush 6, 2) := by decide +kernel
theorem dX10_run_65 : decode cX10_run 65 = .ok (.if_icmp .ge 39, 3) := by decide +kernel
theorem dX10_run_68 : decode cX10_run 68 = .ok (.aload_n 0, 1) := by decide +kernel
theorem dX10_run_69 : decode cX10_run 69 = .ok (.getfield 38, 3) := by decide +kernel
theorem dX10_run_72 : decode cX10_run 72 = .ok (.iload 4, 2) := by decide +kernel
theorem dX10_run_74 : decode cX10_run 74 = .ok (.aload_n 0, 1) := by decide +kernel
theorem dX10_run_75 : decode cX10_run 75 = .ok (.getfield 35, 3) := by decide +kernel
theorem dX10_run_78 : decode cX10_run 78 = .ok (.iload 4, 2) := by decide +kernel
theorem dX10_run_80 : decode cX10_run 80 = .ok (.iaload, 1) := by decide +kernel
theorem dX10_run_81 : decode cX10_run 81 = .ok (.iastore, 1) := by decide +kernel
theorem dX10_run_82 : decode cX10_run 82 = .ok (.aload_n 0, 1) := by decide +kernel
theorem dX10_run_83 : decode cX10_run 83 = .ok (.getfield 41, 3) := by decide +kernel
theorem dX10_run_86 : decode cX10_run 86 = .ok (.iload 4, 2) := by decide +kernel
theorem dX10_run_88 : decode cX10_run 88 = .ok (.iconst 0, 1) := by decide +kernel
theorem dX10_run_89 : decode cX10_run 89 = .ok (.bastore, 1) := by decide +kernel
theorem dX10_run_90 : decode cX10_run 90 = .ok (.aload_n 0, 1) := by decide +kernel
theorem dX10_run_91 : decode cX10_run 91 = .ok (.getfield 44, 3) := by decide +kernel
theorem dX10_run_94 : decode cX10_run 94 = .ok (.iload 4, 2) := by decide +kernel
theorem dX10_run_96 : decode cX10_run 96 = .ok (.iconst 0, 1) := by decide +kernel
theorem dX10_run_97 : decode cX10_run 97 = .ok (.iastore, 1) := by decide +kernel
theorem dX10_run_98 : decode cX10_run 98 = .ok (.iinc 4 1, 3) := by decide +kernel
theorem dX10_run_101 : decode cX10_run 101 = .ok (.goto (-40), 3) := by decide +kernel
theorem dX10_run_104 : decode cX10_run 104 = .ok (.iconst 0, 1) := by decide +kernel
theorem dX10_run_105 : decode cX10_run 105 = .ok (.istore 4, 2) := by decide +kernel
theorem dX10_run_107 : decode cX10_run 107 = .ok (.iload 4, 2) := by decide +kernel
theorem dX10_run_109 : decode cX10_run 109 = .ok (.iconst 4, 1) := by decide +kernel
theorem dX10_run_110 : decode cX10_run 110 = .ok (.if_icmp .ge 23, 3) := by decide +kernel
theorem dX10_run_113 : decode cX10_run 113 = .ok (.aload_n 0, 1) := by decide +kernel
theorem dX10_run_114 : decode cX10_run 114 = .ok (.getfield 68, 3) := by decide +kernel
theorem dX10_run_117 : decode cX10_run 117 = .ok (.iload 4, 2) := by decide +kernel
theorem dX10_run_119 : decode cX10_run 119 = .ok (.aload_n 0, 1) := by decide +kernel
theorem dX10_run_120 : decode cX10_run 120 = .ok (.getfield 65, 3) := by decide +kernel
theorem dX10_run_123 : decode cX10_run 123 = .ok (.iload 4, 2) := by decide +kernel
theorem dX10_run_125 : decode cX10_run 125 = .ok (.iaload, 1) := by decide +kernel
theorem dX10_run_126 : decode cX10_run 126 = .ok (.iastore, 1) := by decide +kernel
theorem dX10_run_127 : decode cX10_run 127 = .ok (.iinc 4 1, 3) := by decide +kernel
theorem dX10_run_130 : decode cX10_run 130 = .ok (.goto (-23), 3) := by decide +kernel
theorem dX10_run_133 : decode cX10_run 133 = .ok (.aload_n 0, 1) := by decide +kernel
theorem dX10_run_134 : decode cX10_run 134 = .ok (.iconst 0, 1) := by decide +kernel
theorem dX10_run_135 : decode cX10_run 135 = .ok (.putfield 146, 3) := by decide +kernel
theorem dX10_run_138 : decode cX10_run 138 = .ok (.aload_n 0, 1) := by decide +kernel
theorem dX10_run_139 : decode cX10_run 139 = .ok (.iload_n 1, 1) := by decide +kernel
theorem dX10_run_140 : decode cX10_run 140 = .ok (.putfield 140, 3) := by decide +kernel
theorem dX10_run_143 : decode cX10_run 143 = .ok (.aload_n 0, 1) := by decide +kernel
theorem dX10_run_144 : decode cX10_run 144 = .ok (.iconst 0, 1) := by decide +kernel
theorem dX10_run_145 : decode cX10_run 145 = .ok (.putfield 168, 3) := by decide +kernel
theorem dX10_run_148 : decode cX10_run 148 = .ok (.aload_n 0, 1) := by decide +kernel
theorem dX10_run_149 : decode cX10_run 149 = .ok (.iconst 0, 1) := by decide +kernel
theorem dX10_run_150 : decode cX10_run 150 = .ok (.putfield 137, 3) := by decide +kernel
theorem dX10_run_153 : decode cX10_run 153 = .ok (.aload_n 0, 1) := by decide +kernel
theorem dX10_run_154 : decode cX10_run 154 = .ok (.iconst 0, 1) := by decide +kernel
theorem dX10_run_155 : decode cX10_run 155 = .ok (.putfield 171, 3) := by decide +kernel
theorem dX10_run_158 : decode cX10_run 158 = .ok (.aload_n 0, 1) := by decide +kernel
theorem dX10_run_159 : decode cX10_run 159 = .ok (.iconst 0, 1) := by decide +kernel
theorem dX10_run_160 : decode cX10_run 160 = .ok (.putfield 143, 3) := by decide +kernel
theorem dX10_run_163 : decode cX10_run 163 = .ok (.aload_n 0, 1) := by decide +kernel
theorem dX10_run_164 : decode cX10_run 164 = .ok (.iconst 0, 1) := by decide +kernel
theorem dX10_run_165 : decode cX10_run 165 = .ok (.putfield 149, 3) := by decide +kernel
theorem dX10_run_168 : decode cX10_run 168 = .ok (.iconst 0, 1) := by decide +kernel
theorem dX10_run_169 : decode cX10_run 169 = .ok (.istore 4, 2) := by decide +kernel
theorem dX10_run_171 : decode cX10_run 171 = .ok (.iconst 1, 1) := by decide +kernel
theorem dX10_run_172 : decode cX10_run 172 = .ok (.istore 5, 2) := by decide +kernel
theorem dX10_run_174 : decode cX10_run 174 = .ok (.iload_n 3, 1) := by decide +kernel
theorem dX10_run_175 : decode cX10_run 175 = .ok (.ifCond .le 62, 3) := by decide +kernel
theorem dX10_run_178 : decode cX10_run 178 = .ok (.aload_n 0, 1) := by decide +kernel
theorem dX10_run_179 : decode cX10_run 179 = .ok (.getfield 143, 3) := by decide +kernel
theorem dX10_run_182 : decode cX10_run 182 = .ok (.ifCond .ne 55, 3) := by decide +kernel
theorem dX10_run_185 : decode cX10_run 185 = .ok (.aload_n 0, 1) := by decide +kernel
theorem dX10_run_186 : decode cX10_run 186 = .ok (.getfield 80, 3) := by decide +kernel
theorem dX10_run_189 : decode cX10_run 189 = .ok (.istore 6, 2) := by decide +kernel
theorem dX10_run_191 : decode cX10_run 191 = .ok (.aload_n 0, 1) := by decide +kernel
theorem dX10_run_192 : decode cX10_run 192 = .ok (.dup, 1) := by decide +kernel
theorem dX10_run_193 : decode cX10_run 193 = .ok (.getfield 168, 3) := by decide +kernel
theorem dX10_run_196 : decode cX10_run 196 = .ok (.iconst 1, 1) := by decide +kernel
theorem dX10_run_197 : decode cX10_run 197 = .ok (.iadd, 1) := by decide +kernel
theorem dX10_run_198 : decode cX10_run 198 = .ok (.putfield 168, 3) := by decide +kernel
theorem dX10_run_201 : decode cX10_run 201 = .ok (.aload_n 0, 1) := by decide +kernel
theorem dX10_run_202 : decode cX10_run 202 = .ok (.aload_n 0, 1) := by decide +kernel
theorem dX10_run_203 : decode cX10_run 203 = .ok (.getfield 168, 3) := by decide +kernel
theorem dX10_run_206 : decode cX10_run 206 = .ok (.putfield 137, 3) := by decide +kernel
theorem dX10_run_209 : decode cX10_run 209 = .ok (.aload_n 0, 1) := by decide +kernel
theorem dX10_run_210 : decode cX10_run 210 = .ok (.iload 4, 2) := by decide +kernel
theorem dX10_run_212 : decode cX10_run 212 = .ok (.iload 6, 2) := by decide +kernel
theorem dX10_run_214 : decode cX10_run 214 = .ok (.iload 5, 2) := by decide +kernel
theorem dX10_run_216 : decode cX10_run 216 = .ok (.invokevirtual 174, 3) := by decide +kernel
theorem dX10_run_219 : decode cX10_run 219 = .ok (.iconst 0, 1) := by decide +kernel
theorem dX10_run_220 : decode cX10_run 220 = .ok (.istore 5, 2) := by decide +kernel
theorem dX10_run_222 : decode cX10_run 222 = .ok (.iload 6, 2) := by decide +kernel
theorem dX10_run_224 : decode cX10_run 224 = .ok (.istore 4, 2) := by decide +kernel
theorem dX10_run_226 : decode cX10_run 226 = .ok (.aload_n 0, 1) := by decide +kernel
theorem dX10_run_227 : decode cX10_run 227 = .ok (.getfield 80, 3) := by decide +kernel
theorem dX10_run_230 : decode cX10_run 230 = .ok (.iload 6, 2) := by decide +kernel
theorem dX10_run_232 : decode cX10_run 232 = .ok (.isub, 1) := by decide +kernel
theorem dX10_run_233 : decode cX10_run 233 = .ok (.istore_n 3, 1) := by decide +kernel
theorem dX10_run_234 : decode cX10_run 234 = .ok (.goto (-60), 3) := by decide +kernel
theorem dX10_run_237 : decode cX10_run 237 = .ok (.aload_n 0, 1) := by decide +kernel
theorem dX10_run_238 : decode cX10_run 238 = .ok (.getfield 80, 3) := by decide +kernel
theorem dX10_run_241 : decode cX10_run 241 = .ok (.istore 6, 2) := by decide +kernel
theorem dX10_run_243 : decode cX10_run 243 = .ok (.aload_n 0, 1) := by decide +kernel
theorem dX10_run_244 : decode cX10_run 244 = .ok (.getfield 168, 3) := by decide +kernel
theorem dX10_run_247 : decode cX10_run 247 = .ok (.ifCond .le 50, 3) := by decide +kernel
theorem dX10_run_250 : decode cX10_run 250 = .ok (.aload_n 0, 1) := by decide +kernel
theorem dX10_run_251 : decode cX10_run 251 = .ok (.getfield 143, 3) := by decide +kernel
theorem dX10_run_254 : decode cX10_run 254 = .ok (.ifCond .ne 43, 3) := by decide +kernel
theorem dX10_run_257 : decode cX10_run 257 = .ok (.aload_n 0, 1) := by decide +kernel
theorem dX10_run_258 : decode cX10_run 258 = .ok (.iconst 1, 1) := by decide +kernel
theorem dX10_run_259 : decode cX10_run 259 = .ok (.putfield 149, 3) := by decide +kernel
theorem dX10_run_262 : decode cX10_run 262 = .ok (.aload_n 0, 1) := by decide +kernel
theorem dX10_run_263 : decode cX10_run 263 = .ok (.aload_n 0, 1) := by decide +kernel
theorem dX10_run_264 : decode cX10_run 264 = .ok (.getfield 168, 3) := by decide +kernel
theorem dX10_run_267 : decode cX10_run 267 = .ok (.iconst 1, 1) := by decide +kernel
theorem dX10_run_268 : decode cX10_run 268 = .ok (.iadd, 1) := by decide +kernel
theorem dX10_run_269 : decode cX10_run 269 = .ok (.putfield 137, 3) := by decide +kernel
theorem dX10_run_272 : decode cX10_run 272 = .ok (.iconst 0, 1) := by decide +kernel
theorem dX10_run_273 : decode cX10_run 273 = .ok (.istore 7, 2) := by decide +kernel
theorem dX10_run_275 : decode cX10_run 275 = .ok (.iload 7, 2) := by decide +kernel
theorem dX10_run_277 : decode cX10_run 277 = .ok (.aload_n 0, 1) := by decide +kernel
theorem dX10_run_278 : decode cX10_run 278 = .ok (.getfield 113, 3) := by decide +kernel
theorem dX10_run_281 : decode cX10_run 281 = .ok (.if_icmp .ge 16, 3) := by decide +kernel
theorem dX10_run_284 : decode cX10_run 284 = .ok (.aload_n 0, 1) := by decide +kernel
theorem dX10_run_285 : decode cX10_run 285 = .ok (.iload 7, 2) := by decide +kernel
theorem dX10_run_287 : decode cX10_run 287 = .ok (.iconst (-1), 1) := by decide +kernel
theorem dX10_run_288 : decode cX10_run 288 = .ok (.invokevirtual 163, 3) := by decide +kernel
theorem dX10_run_291 : decode cX10_run 291 = .ok (.iinc 7 1, 3) := by decide +kernel
theorem dX10_run_294 : decode cX10_run 294 = .ok (.goto (-19), 3) := by decide +kernel
theorem dX10_run_297 : decode cX10_run 297 = .ok (.aload_n 0, 1) := by decide +kernel
theorem dX10_run_298 : decode cX10_run 298 = .ok (.getfield 143, 3) := by decide +kernel
theorem dX10_run_301 : decode cX10_run 301 = .ok (.ifCond .ne 42, 3) := by decide +kernel
theorem dX10_run_304 : decode cX10_run 304 = .ok (.aload_n 0, 1) := by decide +kernel
theorem dX10_run_305 : decode cX10_run 305 = .ok (.aload_n 0, 1) := by decide +kernel
theorem dX10_run_306 : decode cX10_run 306 = .ok (.getfield 80, 3) := by decide +kernel
theorem dX10_run_309 : decode cX10_run 309 = .ok (.iload_n 2, 1) := by decide +kernel
theorem dX10_run_310 : decode cX10_run 310 = .ok (.isub, 1) := by decide +kernel
theorem dX10_run_311 : decode cX10_run 311 = .ok (.putfield 171, 3) := by decide +kernel
theorem dX10_run_314 : decode cX10_run 314 = .ok (.iconst 0, 1) := by decide +kernel
theorem dX10_run_315 : decode cX10_run 315 = .ok (.istore 7, 2) := by decide +kernel
theorem dX10_run_317 : decode cX10_run 317 = .ok (.iload 7, 2) := by decide +kernel
theorem dX10_run_319 : decode cX10_run 319 = .ok (.iload 6, 2) := by decide +kernel
theorem dX10_run_321 : decode cX10_run 321 = .ok (.if_icmp .ge 17, 3) := by decide +kernel
theorem dX10_run_324 : decode cX10_run 324 = .ok (.aload_n 0, 1) := by decide +kernel
theorem dX10_run_325 : decode cX10_run 325 = .ok (.getfield 53, 3) := by decide +kernel
theorem dX10_run_328 : decode cX10_run 328 = .ok (.iload 7, 2) := by decide +kernel
theorem dX10_run_330 : decode cX10_run 330 = .ok (.iconst 0, 1) := by decide +kernel
theorem dX10_run_331 : decode cX10_run 331 = .ok (.bastore, 1) := by decide +kernel
theorem dX10_run_332 : decode cX10_run 332 = .ok (.iinc 7 1, 3) := by decide +kernel
theorem dX10_run_335 : decode cX10_run 335 = .ok (.goto (-18), 3) := by decide +kernel
theorem dX10_run_338 : decode cX10_run 338 = .ok (.aload_n 0, 1) := by decide +kernel
theorem dX10_run_339 : decode cX10_run 339 = .ok (.getfield 168, 3) := by decide +kernel
theorem dX10_run_342 : decode cX10_run 342 = .ok (.ireturn, 1) := by decide +kernel
theorem dX10_run_343 : decode cX10_run 343 = .ok (.aload_n 0, 1) := by decide +kernel
theorem dX10_run_344 : decode cX10_run 344 = .ok (.iload_n 2, 1) := by decide +kernel
theorem dX10_run_345 : decode cX10_run 345 = .ok (.putfield 80, 3) := by decide +kernel
theorem dX10_run_348 : decode cX10_run 348 = .ok (.iconst 0, 1) := by decide +kernel
theorem dX10_run_349 : decode cX10_run 349 = .ok (.istore 7, 2) := by decide +kernel
theorem dX10_run_351 : decode cX10_run 351 = .ok (.iload 7, 2) := by decide +kernel
theorem dX10_run_353 : decode cX10_run 353 = .ok (.bipush 6, 2) := by decide +kernel
theorem dX10_run_355 : decode cX10_run 355 = .ok (.if_icmp .ge 23, 3) := by decide +kernel
theorem dX10_run_358 : decode cX10_run 358 = .ok (.aload_n 0, 1) := by decide +kernel
theorem dX10_run_359 : decode cX10_run 359 = .ok (.getfield 35, 3) := by decide +kernel
theorem dX10_run_362 : decode cX10_run 362 = .ok (.iload 7, 2) := by decide +kernel
theorem dX10_run_364 : decode cX10_run 364 = .ok (.aload_n 0, 1) := by decide +kernel
theorem dX10_run_365 : decode cX10_run 365 = .ok (.getfield 38, 3) := by decide +kernel
theorem dX10_run_368 : decode cX10_run 368 = .ok (.iload 7, 2) := by decide +kernel
theorem dX10_run_370 : decode cX10_run 370 = .ok (.iaload, 1) := by decide +kernel
theorem dX10_run_371 : decode cX10_run 371 = .ok (.iastore, 1) := by decide +kernel
theorem dX10_run_372 : decode cX10_run 372 = .ok (.iinc 7 1, 3) := by decide +kernel
theorem dX10_run_375 : decode cX10_run 375 = .ok (.goto (-24), 3) := by decide +kernel
theorem dX10_run_378 : decode cX10_run 378 = .ok (.iconst 0, 1) := by decide +kernel
theorem dX10_run_379 : decode cX10_run 379 = .ok (.istore 7, 2) := by decide +kernel
theorem dX10_run_381 : decode cX10_run 381 = .ok (.iload 7, 2) := by decide +kernel
theorem dX10_run_383 : decode cX10_run 383 = .ok (.iconst 4, 1) := by decide +kernel
theorem dX10_run_384 : decode cX10_run 384 = .ok (.if_icmp .ge 23, 3) := by decide +kernel
theorem dX10_run_387 : decode cX10_run 387 = .ok (.aload_n 0, 1) := by decide +kernel
theorem dX10_run_388 : decode cX10_run 388 = .ok (.getfield 65, 3) := by decide +kernel
theorem dX10_run_391 : decode cX10_run 391 = .ok (.iload 7, 2) := by decide +kernel
theorem dX10_run_393 : decode cX10_run 393 = .ok (.aload_n 0, 1) := by decide +kernel
theorem dX10_run_394 : decode cX10_run 394 = .ok (.getfield 68, 3) := by decide +kernel
theorem dX10_run_397 : decode cX10_run 397 = .ok (.iload 7, 2) := by decide +kernel
theorem dX10_run_399 : decode cX10_run 399 = .ok (.iaload, 1) := by decide +kernel
theorem dX10_run_400 : decode cX10_run 400 = .ok (.iastore, 1) := by decide +kernel
theorem dX10_run_401 : decode cX10_run 401 = .ok (.iinc 7 1, 3) := by decide +kernel
theorem dX10_run_404 : decode cX10_run 404 = .ok (.goto (-23), 3) := by decide +kernel
theorem dX10_run_407 : decode cX10_run 407 = .ok (.aload_n 0, 1) := by decide +kernel
theorem dX10_run_408 : decode cX10_run 408 = .ok (.getfield 143, 3) := by decide +kernel
theorem dX10_run_411 : decode cX10_run 411 = .ok (.iconst 1, 1) := by decide +kernel
theorem dX10_run_412 : decode cX10_run 412 = .ok (.if_icmp .ne 8, 3) := by decide +kernel
theorem dX10_run_415 : decode cX10_run 415 = .ok (.bipush (-11), 2) := by decide +kernel
theorem dX10_run_417 : decode cX10_run 417 = .ok (.goto 5, 3) := by decide +kernel
theorem dX10_run_420 : decode cX10_run 420 = .ok (.bipush (-12), 2) := by decide +kernel
theorem dX10_run_422 : decode cX10_run 422 = .ok (.ireturn, 1) := by decide +kernel
theorem dX10_mirror_0 : decode cX10_mirror 0 = .ok (.aload_n 0, 1) := by decide +kernel
theorem dX10_mirror_1 : decode cX10_mirror 1 = .ok (.iload_n 1, 1) := by decide +kernel
theorem dX10_mirror_2 : decode cX10_mirror 2 = .ok (.invokevirtual 125, 3) := by decide +kernel
theorem dX10_mirror_5 : decode cX10_mirror 5 = .ok (.ifCond .ne 6, 3) := by decide +kernel
theorem dX10_mirror_8 : decode cX10_mirror 8 = .ok (.bipush (-101), 2) := by decide +kernel
theorem dX10_mirror_10 : decode cX10_mirror 10 = .ok (.ireturn, 1) := by decide +kernel
theorem dX10_mirror_11 : decode cX10_mirror 11 = .ok (.iload_n 2, 1) := by decide +kernel
theorem dX10_mirror_12 : decode cX10_mirror 12 = .ok (.tableswitch 79 0 4 #[36, 43, 50, 65, 72], 36) := by decide +kernel
theorem dX10_mirror_48 : decode cX10_mirror 48 = .ok (.aload_n 0, 1) := by decide +kernel
theorem dX10_mirror_49 : decode cX10_mirror 49 = .ok (.getfield 47, 3) := by decide +kernel
theorem dX10_mirror_52 : decode cX10_mirror 52 = .ok (.iload_n 1, 1) := by decide +kernel
theorem dX10_mirror_53 : decode cX10_mirror 53 = .ok (.iaload, 1) := by decide +kernel
theorem dX10_mirror_54 : decode cX10_mirror 54 = .ok (.ireturn, 1) := by decide +kernel
theorem dX10_mirror_55 : decode cX10_mirror 55 = .ok (.aload_n 0, 1) := by decide +kernel
theorem dX10_mirror_56 : decode cX10_mirror 56 = .ok (.getfield 50, 3) := by decide +kernel
theorem dX10_mirror_59 : decode cX10_mirror 59 = .ok (.iload_n 1, 1) := by decide +kernel
theorem dX10_mirror_60 : decode cX10_mirror 60 = .ok (.iaload, 1) := by decide +kernel
theorem dX10_mirror_61 : decode cX10_mirror 61 = .ok (.ireturn, 1) := by decide +kernel
theorem dX10_mirror_62 : decode cX10_mirror 62 = .ok (.aload_n 0, 1) := by decide +kernel
theorem dX10_mirror_63 : decode cX10_mirror 63 = .ok (.getfield 53, 3) := by decide +kernel
theorem dX10_mirror_66 : decode cX10_mirror 66 = .ok (.iload_n 1, 1) := by decide +kernel
theorem dX10_mirror_67 : decode cX10_mirror 67 = .ok (.baload, 1) := by decide +kernel
theorem dX10_mirror_68 : decode cX10_mirror 68 = .ok (.ifCond .eq 7, 3) := by decide +kernel
theorem dX10_mirror_71 : decode cX10_mirror 71 = .ok (.iconst 1, 1) := by decide +kernel
theorem dX10_mirror_72 : decode cX10_mirror 72 = .ok (.goto 4, 3) := by decide +kernel
theorem dX10_mirror_75 : decode cX10_mirror 75 = .ok (.iconst 0, 1) := by decide +kernel
theorem dX10_mirror_76 : decode cX10_mirror 76 = .ok (.ireturn, 1) := by decide +kernel
theorem dX10_mirror_77 : decode cX10_mirror 77 = .ok (.aload_n 0, 1) := by decide +kernel
theorem dX10_mirror_78 : decode cX10_mirror 78 = .ok (.getfield 56, 3) := by decide +kernel
theorem dX10_mirror_81 : decode cX10_mirror 81 = .ok (.iload_n 1, 1) := by decide +kernel
theorem dX10_mirror_82 : decode cX10_mirror 82 = .ok (.iaload, 1) := by decide +kernel
theorem dX10_mirror_83 : decode cX10_mirror 83 = .ok (.ireturn, 1) := by decide +kernel
theorem dX10_mirror_84 : decode cX10_mirror 84 = .ok (.aload_n 0, 1) := by decide +kernel
theorem dX10_mirror_85 : decode cX10_mirror 85 = .ok (.getfield 59, 3) := by decide +kernel
theorem dX10_mirror_88 : decode cX10_mirror 88 = .ok (.iload_n 1, 1) := by decide +kernel
theorem dX10_mirror_89 : decode cX10_mirror 89 = .ok (.iaload, 1) := by decide +kernel
theorem dX10_mirror_90 : decode cX10_mirror 90 = .ok (.ireturn, 1) := by decide +kernel
theorem dX10_mirror_91 : decode cX10_mirror 91 = .ok (.bipush (-102), 2) := by decide +kernel
theorem dX10_mirror_93 : decode cX10_mirror 93 = .ok (.ireturn, 1) := by decide +kernel
theorem dX10_message_0 : decode cX10_message 0 = .ok (.iload_n 1, 1) := by decide +kernel
theorem dX10_message_1 : decode cX10_message 1 = .ok (.i2l, 1) := by decide +kernel
theorem dX10_message_2 : decode cX10_message 2 = .ok (.lconst 0, 1) := by decide +kernel
theorem dX10_message_3 : decode cX10_message 3 = .ok (.aload_n 0, 1) := by decide +kernel
theorem dX10_message_4 : decode cX10_message 4 = .ok (.getfield 134, 3) := by decide +kernel
theorem dX10_message_7 : decode cX10_message 7 = .ok (.iconst 1, 1) := by decide +kernel
theorem dX10_message_8 : decode cX10_message 8 = .ok (.isub, 1) := by decide +kernel
theorem dX10_message_9 : decode cX10_message 9 = .ok (.i2l, 1) := by decide +kernel
theorem dX10_message_10 : decode cX10_message 10 = .ok (.invokestatic 89, 3) := by decide +kernel
theorem dX10_message_13 : decode cX10_message 13 = .ok (.ifCond .ne 6, 3) := by decide +kernel
theorem dX10_message_16 : decode cX10_message 16 = .ok (.bipush (-101), 2) := by decide +kernel
theorem dX10_message_18 : decode cX10_message 18 = .ok (.ireturn, 1) := by decide +kernel
theorem dX10_message_19 : decode cX10_message 19 = .ok (.iload_n 2, 1) := by decide +kernel
theorem dX10_message_20 : decode cX10_message 20 = .ok (.i2l, 1) := by decide +kernel
theorem dX10_message_21 : decode cX10_message 21 = .ok (.lconst 0, 1) := by decide +kernel
theorem dX10_message_22 : decode cX10_message 22 = .ok (.ldc2_w 178, 3) := by decide +kernel
theorem dX10_message_25 : decode cX10_message 25 = .ok (.invokestatic 89, 3) := by decide +kernel
theorem dX10_message_28 : decode cX10_message 28 = .ok (.ifCond .eq 16, 3) := by decide +kernel
theorem dX10_message_31 : decode cX10_message 31 = .ok (.aload_n 0, 1) := by decide +kernel
theorem dX10_message_32 : decode cX10_message 32 = .ok (.getfield 74, 3) := by decide +kernel
theorem dX10_message_35 : decode cX10_message 35 = .ok (.iconst 5, 1) := by decide +kernel
theorem dX10_message_36 : decode cX10_message 36 = .ok (.iload_n 1, 1) := by decide +kernel
theorem dX10_message_37 : decode cX10_message 37 = .ok (.imul, 1) := by decide +kernel
theorem dX10_message_38 : decode cX10_message 38 = .ok (.iload_n 2, 1) := by decide +kernel
theorem dX10_message_39 : decode cX10_message 39 = .ok (.iadd, 1) := by decide +kernel
theorem dX10_message_40 : decode cX10_message 40 = .ok (.iaload, 1) := by decide +kernel
theorem dX10_message_41 : decode cX10_message 41 = .ok (.goto 5, 3) := by decide +kernel
theorem dX10_message_44 : decode cX10_message 44 = .ok (.bipush (-102), 2) := by decide +kernel
theorem dX10_message_46 : decode cX10_message 46 = .ok (.ireturn, 1) := by decide +kernel
theorem dX10_told_0 : decode cX10_told 0 = .ok (.iload_n 1, 1) := by decide +kernel
theorem dX10_told_1 : decode cX10_told 1 = .ok (.i2l, 1) := by decide +kernel
theorem dX10_told_2 : decode cX10_told 2 = .ok (.lconst 0, 1) := by decide +kernel
theorem dX10_told_3 : decode cX10_told 3 = .ok (.aload_n 0, 1) := by decide +kernel
theorem dX10_told_4 : decode cX10_told 4 = .ok (.getfield 113, 3) := by decide +kernel
theorem dX10_told_7 : decode cX10_told 7 = .ok (.iconst 1, 1) := by decide +kernel
theorem dX10_told_8 : decode cX10_told 8 = .ok (.isub, 1) := by decide +kernel
theorem dX10_told_9 : decode cX10_told 9 = .ok (.i2l, 1) := by decide +kernel
theorem dX10_told_10 : decode cX10_told 10 = .ok (.invokestatic 89, 3) := by decide +kernel
theorem dX10_told_13 : decode cX10_told 13 = .ok (.ifCond .ne 6, 3) := by decide +kernel
theorem dX10_told_16 : decode cX10_told 16 = .ok (.bipush (-101), 2) := by decide +kernel
theorem dX10_told_18 : decode cX10_told 18 = .ok (.ireturn, 1) := by decide +kernel
theorem dX10_told_19 : decode cX10_told 19 = .ok (.iload_n 2, 1) := by decide +kernel
theorem dX10_told_20 : decode cX10_told 20 = .ok (.tableswitch 68 0 3 #[32, 39, 46, 61], 32) := by decide +kernel
theorem dX10_told_52 : decode cX10_told 52 = .ok (.aload_n 0, 1) := by decide +kernel
theorem dX10_told_53 : decode cX10_told 53 = .ok (.getfield 26, 3) := by decide +kernel
theorem dX10_told_56 : decode cX10_told 56 = .ok (.iload_n 1, 1) := by decide +kernel
theorem dX10_told_57 : decode cX10_told 57 = .ok (.iaload, 1) := by decide +kernel
theorem dX10_told_58 : decode cX10_told 58 = .ok (.ireturn, 1) := by decide +kernel
theorem dX10_told_59 : decode cX10_told 59 = .ok (.aload_n 0, 1) := by decide +kernel
theorem dX10_told_60 : decode cX10_told 60 = .ok (.getfield 29, 3) := by decide +kernel
theorem dX10_told_63 : decode cX10_told 63 = .ok (.iload_n 1, 1) := by decide +kernel
theorem dX10_told_64 : decode cX10_told 64 = .ok (.iaload, 1) := by decide +kernel
theorem dX10_told_65 : decode cX10_told 65 = .ok (.ireturn, 1) := by decide +kernel
theorem dX10_told_66 : decode cX10_told 66 = .ok (.aload_n 0, 1) := by decide +kernel
theorem dX10_told_67 : decode cX10_told 67 = .ok (.getfield 41, 3) := by decide +kernel
theorem dX10_told_70 : decode cX10_told 70 = .ok (.iload_n 1, 1) := by decide +kernel
theorem dX10_told_71 : decode cX10_told 71 = .ok (.baload, 1) := by decide +kernel
theorem dX10_told_72 : decode cX10_told 72 = .ok (.ifCond .eq 7, 3) := by decide +kernel
theorem dX10_told_75 : decode cX10_told 75 = .ok (.iconst 1, 1) := by decide +kernel
theorem dX10_told_76 : decode cX10_told 76 = .ok (.goto 4, 3) := by decide +kernel
theorem dX10_told_79 : decode cX10_told 79 = .ok (.iconst 0, 1) := by decide +kernel
theorem dX10_told_80 : decode cX10_told 80 = .ok (.ireturn, 1) := by decide +kernel
theorem dX10_told_81 : decode cX10_told 81 = .ok (.aload_n 0, 1) := by decide +kernel
theorem dX10_told_82 : decode cX10_told 82 = .ok (.getfield 44, 3) := by decide +kernel
theorem dX10_told_85 : decode cX10_told 85 = .ok (.iload_n 1, 1) := by decide +kernel
theorem dX10_told_86 : decode cX10_told 86 = .ok (.iaload, 1) := by decide +kernel
theorem dX10_told_87 : decode cX10_told 87 = .ok (.ireturn, 1) := by decide +kernel
theorem dX10_told_88 : decode cX10_told 88 = .ok (.bipush (-102), 2) := by decide +kernel
theorem dX10_told_90 : decode cX10_told 90 = .ok (.ireturn, 1) := by decide +kernel
theorem dX10_cell_0 : decode cX10_cell 0 = .ok (.aload_n 0, 1) := by decide +kernel
theorem dX10_cell_1 : decode cX10_cell 1 = .ok (.iload_n 1, 1) := by decide +kernel
theorem dX10_cell_2 : decode cX10_cell 2 = .ok (.i2l, 1) := by decide +kernel
theorem dX10_cell_3 : decode cX10_cell 3 = .ok (.lconst 0, 1) := by decide +kernel
theorem dX10_cell_4 : decode cX10_cell 4 = .ok (.ldc2_w 98, 3) := by decide +kernel
theorem dX10_cell_7 : decode cX10_cell 7 = .ok (.invokestatic 89, 3) := by decide +kernel
theorem dX10_cell_10 : decode cX10_cell 10 = .ok (.ifCond .ne 7, 3) := by decide +kernel
theorem dX10_cell_13 : decode cX10_cell 13 = .ok (.iconst 1, 1) := by decide +kernel
theorem dX10_cell_14 : decode cX10_cell 14 = .ok (.goto 16, 3) := by decide +kernel
theorem dX10_cell_17 : decode cX10_cell 17 = .ok (.iload_n 1, 1) := by decide +kernel
theorem dX10_cell_18 : decode cX10_cell 18 = .ok (.aload_n 0, 1) := by decide +kernel
theorem dX10_cell_19 : decode cX10_cell 19 = .ok (.getfield 113, 3) := by decide +kernel
theorem dX10_cell_22 : decode cX10_cell 22 = .ok (.if_icmp .lt 7, 3) := by decide +kernel
theorem dX10_cell_25 : decode cX10_cell 25 = .ok (.iconst 2, 1) := by decide +kernel
theorem dX10_cell_26 : decode cX10_cell 26 = .ok (.goto 4, 3) := by decide +kernel
theorem dX10_cell_29 : decode cX10_cell 29 = .ok (.iconst 0, 1) := by decide +kernel
theorem dX10_cell_30 : decode cX10_cell 30 = .ok (.putfield 84, 3) := by decide +kernel
theorem dX10_cell_33 : decode cX10_cell 33 = .ok (.aload_n 0, 1) := by decide +kernel
theorem dX10_cell_34 : decode cX10_cell 34 = .ok (.getfield 84, 3) := by decide +kernel
theorem dX10_cell_37 : decode cX10_cell 37 = .ok (.ifCond .ne 12, 3) := by decide +kernel
theorem dX10_cell_40 : decode cX10_cell 40 = .ok (.aload_n 0, 1) := by decide +kernel
theorem dX10_cell_41 : decode cX10_cell 41 = .ok (.getfield 35, 3) := by decide +kernel
theorem dX10_cell_44 : decode cX10_cell 44 = .ok (.iload_n 1, 1) := by decide +kernel
theorem dX10_cell_45 : decode cX10_cell 45 = .ok (.iaload, 1) := by decide +kernel
theorem dX10_cell_46 : decode cX10_cell 46 = .ok (.goto 4, 3) := by decide +kernel
theorem dX10_cell_49 : decode cX10_cell 49 = .ok (.iconst 0, 1) := by decide +kernel
theorem dX10_cell_50 : decode cX10_cell 50 = .ok (.ireturn, 1) := by decide +kernel
theorem dX10_resource_0 : decode cX10_resource 0 = .ok (.iload_n 1, 1) := by decide +kernel
theorem dX10_resource_1 : decode cX10_resource 1 = .ok (.i2l, 1) := by decide +kernel
theorem dX10_resource_2 : decode cX10_resource 2 = .ok (.lconst 0, 1) := by decide +kernel
theorem dX10_resource_3 : decode cX10_resource 3 = .ok (.ldc2_w 128, 3) := by decide +kernel
theorem dX10_resource_6 : decode cX10_resource 6 = .ok (.invokestatic 89, 3) := by decide +kernel
theorem dX10_resource_9 : decode cX10_resource 9 = .ok (.ifCond .eq 41, 3) := by decide +kernel
theorem dX10_resource_12 : decode cX10_resource 12 = .ok (.iload_n 2, 1) := by decide +kernel
theorem dX10_resource_13 : decode cX10_resource 13 = .ok (.i2l, 1) := by decide +kernel
theorem dX10_resource_14 : decode cX10_resource 14 = .ok (.lconst 0, 1) := by decide +kernel
theorem dX10_resource_15 : decode cX10_resource 15 = .ok (.aload_n 0, 1) := by decide +kernel
theorem dX10_resource_16 : decode cX10_resource 16 = .ok (.getfield 65, 3) := by decide +kernel
theorem dX10_resource_19 : decode cX10_resource 19 = .ok (.iload_n 1, 1) := by decide +kernel
theorem dX10_resource_20 : decode cX10_resource 20 = .ok (.i2l, 1) := by decide +kernel
theorem dX10_resource_21 : decode cX10_resource 21 = .ok (.lconst 0, 1) := by decide +kernel
theorem dX10_resource_22 : decode cX10_resource 22 = .ok (.ldc2_w 128, 3) := by decide +kernel
theorem dX10_resource_25 : decode cX10_resource 25 = .ok (.invokestatic 89, 3) := by decide +kernel
theorem dX10_resource_28 : decode cX10_resource 28 = .ok (.ifCond .eq 7, 3) := by decide +kernel
theorem dX10_resource_31 : decode cX10_resource 31 = .ok (.iload_n 1, 1) := by decide +kernel
theorem dX10_resource_32 : decode cX10_resource 32 = .ok (.goto 4, 3) := by decide +kernel
theorem dX10_resource_35 : decode cX10_resource 35 = .ok (.iconst 0, 1) := by decide +kernel
theorem dX10_resource_36 : decode cX10_resource 36 = .ok (.iaload, 1) := by decide +kernel
theorem dX10_resource_37 : decode cX10_resource 37 = .ok (.iconst 1, 1) := by decide +kernel
theorem dX10_resource_38 : decode cX10_resource 38 = .ok (.isub, 1) := by decide +kernel
theorem dX10_resource_39 : decode cX10_resource 39 = .ok (.i2l, 1) := by decide +kernel
theorem dX10_resource_40 : decode cX10_resource 40 = .ok (.invokestatic 89, 3) := by decide +kernel
theorem dX10_resource_43 : decode cX10_resource 43 = .ok (.ifCond .eq 7, 3) := by decide +kernel
theorem dX10_resource_46 : decode cX10_resource 46 = .ok (.iconst 1, 1) := by decide +kernel
theorem dX10_resource_47 : decode cX10_resource 47 = .ok (.goto 4, 3) := by decide +kernel
theorem dX10_resource_50 : decode cX10_resource 50 = .ok (.iconst 0, 1) := by decide +kernel
theorem dX10_resource_51 : decode cX10_resource 51 = .ok (.istore_n 3, 1) := by decide +kernel
theorem dX10_resource_52 : decode cX10_resource 52 = .ok (.aload_n 0, 1) := by decide +kernel
theorem dX10_resource_53 : decode cX10_resource 53 = .ok (.iload_n 3, 1) := by decide +kernel
theorem dX10_resource_54 : decode cX10_resource 54 = .ok (.ifCond .eq 7, 3) := by decide +kernel
theorem dX10_resource_57 : decode cX10_resource 57 = .ok (.iconst 0, 1) := by decide +kernel
theorem dX10_resource_58 : decode cX10_resource 58 = .ok (.goto 4, 3) := by decide +kernel
theorem dX10_resource_61 : decode cX10_resource 61 = .ok (.iconst 1, 1) := by decide +kernel
theorem dX10_resource_62 : decode cX10_resource 62 = .ok (.putfield 84, 3) := by decide +kernel
theorem dX10_resource_65 : decode cX10_resource 65 = .ok (.iload_n 3, 1) := by decide +kernel
theorem dX10_resource_66 : decode cX10_resource 66 = .ok (.ifCond .eq 17, 3) := by decide +kernel
theorem dX10_resource_69 : decode cX10_resource 69 = .ok (.aload_n 0, 1) := by decide +kernel
theorem dX10_resource_70 : decode cX10_resource 70 = .ok (.getfield 71, 3) := by decide +kernel
theorem dX10_resource_73 : decode cX10_resource 73 = .ok (.bipush 100, 2) := by decide +kernel
theorem dX10_resource_75 : decode cX10_resource 75 = .ok (.iload_n 1, 1) := by decide +kernel
theorem dX10_resource_76 : decode cX10_resource 76 = .ok (.imul, 1) := by decide +kernel
theorem dX10_resource_77 : decode cX10_resource 77 = .ok (.iload_n 2, 1) := by decide +kernel
theorem dX10_resource_78 : decode cX10_resource 78 = .ok (.iadd, 1) := by decide +kernel
theorem dX10_resource_79 : decode cX10_resource 79 = .ok (.iaload, 1) := by decide +kernel
theorem dX10_resource_80 : decode cX10_resource 80 = .ok (.goto 4, 3) := by decide +kernel
theorem dX10_resource_83 : decode cX10_resource 83 = .ok (.iconst 0, 1) := by decide +kernel
theorem dX10_resource_84 : decode cX10_resource 84 = .ok (.ireturn, 1) := by decide +kernel
theorem dX10_about_0 : decode cX10_about 0 = .ok (.iconst 0, 1) := by decide +kernel
theorem dX10_about_1 : decode cX10_about 1 = .ok (.istore_n 2, 1) := by decide +kernel
theorem dX10_about_2 : decode cX10_about 2 = .ok (.iconst 0, 1) := by decide +kernel
theorem dX10_about_3 : decode cX10_about 3 = .ok (.istore_n 3, 1) := by decide +kernel
theorem dX10_about_4 : decode cX10_about 4 = .ok (.iload_n 3, 1) := by decide +kernel
theorem dX10_about_5 : decode cX10_about 5 = .ok (.aload_n 0, 1) := by decide +kernel
theorem dX10_about_6 : decode cX10_about 6 = .ok (.getfield 80, 3) := by decide +kernel
theorem dX10_about_9 : decode cX10_about 9 = .ok (.if_icmp .ge 26, 3) := by decide +kernel
theorem dX10_about_12 : decode cX10_about 12 = .ok (.iload_n 2, 1) := by decide +kernel
theorem dX10_about_13 : decode cX10_about 13 = .ok (.aload_n 0, 1) := by decide +kernel
theorem dX10_about_14 : decode cX10_about 14 = .ok (.getfield 53, 3) := by decide +kernel
theorem dX10_about_17 : decode cX10_about 17 = .ok (.iload_n 3, 1) := by decide +kernel
theorem dX10_about_18 : decode cX10_about 18 = .ok (.baload, 1) := by decide +kernel
theorem dX10_about_19 : decode cX10_about 19 = .ok (.ifCond .eq 7, 3) := by decide +kernel
theorem dX10_about_22 : decode cX10_about 22 = .ok (.iconst 1, 1) := by decide +kernel
theorem dX10_about_23 : decode cX10_about 23 = .ok (.goto 4, 3) := by decide +kernel
theorem dX10_about_26 : decode cX10_about 26 = .ok (.iconst 0, 1) := by decide +kernel
theorem dX10_about_27 : decode cX10_about 27 = .ok (.iadd, 1) := by decide +kernel
theorem dX10_about_28 : decode cX10_about 28 = .ok (.istore_n 2, 1) := by decide +kernel
theorem dX10_about_29 : decode cX10_about 29 = .ok (.iinc 3 1, 3) := by decide +kernel
theorem dX10_about_32 : decode cX10_about 32 = .ok (.goto (-28), 3) := by decide +kernel
theorem dX10_about_35 : decode cX10_about 35 = .ok (.iload_n 1, 1) := by decide +kernel
theorem dX10_about_36 : decode cX10_about 36 = .ok (.tableswitch 76 0 6 #[44, 49, 54, 59, 61, 66, 71], 44) := by decide +kernel
theorem dX10_about_80 : decode cX10_about 80 = .ok (.aload_n 0, 1) := by decide +kernel
theorem dX10_about_81 : decode cX10_about 81 = .ok (.getfield 80, 3) := by decide +kernel
theorem dX10_about_84 : decode cX10_about 84 = .ok (.ireturn, 1) := by decide +kernel
theorem dX10_about_85 : decode cX10_about 85 = .ok (.aload_n 0, 1) := by decide +kernel
theorem dX10_about_86 : decode cX10_about 86 = .ok (.getfield 113, 3) := by decide +kernel
theorem dX10_about_89 : decode cX10_about 89 = .ok (.ireturn, 1) := by decide +kernel
theorem dX10_about_90 : decode cX10_about 90 = .ok (.aload_n 0, 1) := by decide +kernel
theorem dX10_about_91 : decode cX10_about 91 = .ok (.getfield 134, 3) := by decide +kernel
theorem dX10_about_94 : decode cX10_about 94 = .ok (.ireturn, 1) := by decide +kernel
theorem dX10_about_95 : decode cX10_about 95 = .ok (.iload_n 2, 1) := by decide +kernel
theorem dX10_about_96 : decode cX10_about 96 = .ok (.ireturn, 1) := by decide +kernel
theorem dX10_about_97 : decode cX10_about 97 = .ok (.aload_n 0, 1) := by decide +kernel
theorem dX10_about_98 : decode cX10_about 98 = .ok (.getfield 146, 3) := by decide +kernel
theorem dX10_about_101 : decode cX10_about 101 = .ok (.ireturn, 1) := by decide +kernel
theorem dX10_about_102 : decode cX10_about 102 = .ok (.aload_n 0, 1) := by decide +kernel
theorem dX10_about_103 : decode cX10_about 103 = .ok (.getfield 168, 3) := by decide +kernel
theorem dX10_about_106 : decode cX10_about 106 = .ok (.ireturn, 1) := by decide +kernel
theorem dX10_about_107 : decode cX10_about 107 = .ok (.aload_n 0, 1) := by decide +kernel
theorem dX10_about_108 : decode cX10_about 108 = .ok (.getfield 171, 3) := by decide +kernel
theorem dX10_about_111 : decode cX10_about 111 = .ok (.ireturn, 1) := by decide +kernel
theorem dX10_about_112 : decode cX10_about 112 = .ok (.iload_n 1, 1) := by decide +kernel
theorem dX10_about_113 : decode cX10_about 113 = .ok (.i2l, 1) := by decide +kernel
theorem dX10_about_114 : decode cX10_about 114 = .ok (.ldc2_w 180, 3) := by decide +kernel
theorem dX10_about_117 : decode cX10_about 117 = .ok (.ldc2_w 182, 3) := by decide +kernel
theorem dX10_about_120 : decode cX10_about 120 = .ok (.invokestatic 89, 3) := by decide +kernel
theorem dX10_about_123 : decode cX10_about 123 = .ok (.ifCond .eq 15, 3) := by decide +kernel
theorem dX10_about_126 : decode cX10_about 126 = .ok (.aload_n 0, 1) := by decide +kernel
theorem dX10_about_127 : decode cX10_about 127 = .ok (.getfield 65, 3) := by decide +kernel
theorem dX10_about_130 : decode cX10_about 130 = .ok (.iload_n 1, 1) := by decide +kernel
theorem dX10_about_131 : decode cX10_about 131 = .ok (.bipush 10, 2) := by decide +kernel
theorem dX10_about_133 : decode cX10_about 133 = .ok (.isub, 1) := by decide +kernel
theorem dX10_about_134 : decode cX10_about 134 = .ok (.iaload, 1) := by decide +kernel
theorem dX10_about_135 : decode cX10_about 135 = .ok (.goto 5, 3) := by decide +kernel
theorem dX10_about_138 : decode cX10_about 138 = .ok (.bipush (-102), 2) := by decide +kernel
theorem dX10_about_140 : decode cX10_about 140 = .ok (.ireturn, 1) := by decide +kernel
theorem dX10_clear_0 : decode cX10_clear 0 = .ok (.aload_n 0, 1) := by decide +kernel
theorem dX10_clear_1 : decode cX10_clear 1 = .ok (.getfield 80, 3) := by decide +kernel
theorem dX10_clear_4 : decode cX10_clear 4 = .ok (.istore_n 1, 1) := by decide +kernel
theorem dX10_clear_5 : decode cX10_clear 5 = .ok (.aload_n 0, 1) := by decide +kernel
theorem dX10_clear_6 : decode cX10_clear 6 = .ok (.iconst 0, 1) := by decide +kernel
theorem dX10_clear_7 : decode cX10_clear 7 = .ok (.putfield 80, 3) := by decide +kernel
theorem dX10_clear_10 : decode cX10_clear 10 = .ok (.aload_n 0, 1) := by decide +kernel
theorem dX10_clear_11 : decode cX10_clear 11 = .ok (.iconst 0, 1) := by decide +kernel
theorem dX10_clear_12 : decode cX10_clear 12 = .ok (.putfield 113, 3) := by decide +kernel
theorem dX10_clear_15 : decode cX10_clear 15 = .ok (.aload_n 0, 1) := by decide +kernel
theorem dX10_clear_16 : decode cX10_clear 16 = .ok (.iconst 0, 1) := by decide +kernel
theorem dX10_clear_17 : decode cX10_clear 17 = .ok (.putfield 134, 3) := by decide +kernel
theorem dX10_clear_20 : decode cX10_clear 20 = .ok (.iconst 0, 1) := by decide +kernel
theorem dX10_clear_21 : decode cX10_clear 21 = .ok (.istore_n 2, 1) := by decide +kernel
theorem dX10_clear_22 : decode cX10_clear 22 = .ok (.iload_n 2, 1) := by decide +kernel
theorem dX10_clear_23 : decode cX10_clear 23 = .ok (.iconst 4, 1) := by decide +kernel
theorem dX10_clear_24 : decode cX10_clear 24 = .ok (.if_icmp .ge 16, 3) := by decide +kernel
theorem dX10_clear_27 : decode cX10_clear 27 = .ok (.aload_n 0, 1) := by decide +kernel
theorem dX10_clear_28 : decode cX10_clear 28 = .ok (.getfield 65, 3) := by decide +kernel
theorem dX10_clear_31 : decode cX10_clear 31 = .ok (.iload_n 2, 1) := by decide +kernel
theorem dX10_clear_32 : decode cX10_clear 32 = .ok (.iconst 0, 1) := by decide +kernel
theorem dX10_clear_33 : decode cX10_clear 33 = .ok (.iastore, 1) := by decide +kernel
theorem dX10_clear_34 : decode cX10_clear 34 = .ok (.iinc 2 1, 3) := by decide +kernel
theorem dX10_clear_37 : decode cX10_clear 37 = .ok (.goto (-15), 3) := by decide +kernel
theorem dX10_clear_40 : decode cX10_clear 40 = .ok (.iload_n 1, 1) := by decide +kernel
theorem dX10_clear_41 : decode cX10_clear 41 = .ok (.ireturn, 1) := by decide +kernel
end
section
theorem dL_octet_0 : decode cL_octet 0 = .ok (.aload_n 3, 1) := by decide +kernel
theorem dL_octet_1 : decode cL_octet 1 = .ok (.iconst 0, 1) := by decide +kernel
theorem dL_octet_2 : decode cL_octet 2 = .ok (.aload_n 0, 1) := by decide +kernel
theorem dL_octet_3 : decode cL_octet 3 = .ok (.iload_n 1, 1) := by decide +kernel
theorem dL_octet_4 : decode cL_octet 4 = .ok (.iload_n 2, 1) := by decide +kernel
theorem dL_octet_5 : decode cL_octet 5 = .ok (.invokevirtual 7, 3) := by decide +kernel
theorem dL_octet_8 : decode cL_octet 8 = .ok (.i2l, 1) := by decide +kernel
theorem dL_octet_9 : decode cL_octet 9 = .ok (.lastore, 1) := by decide +kernel
theorem dL_octet_10 : decode cL_octet 10 = .ok (.goto 7, 3) := by decide +kernel
theorem dL_octet_13 : decode cL_octet 13 = .ok (.astore 4, 2) := by decide +kernel
theorem dL_octet_15 : decode cL_octet 15 = .ok (.iconst 1, 1) := by decide +kernel
theorem dL_octet_16 : decode cL_octet 16 = .ok (.ireturn, 1) := by decide +kernel
theorem dL_octet_17 : decode cL_octet 17 = .ok (.iconst 0, 1) := by decide +kernel
theorem dL_octet_18 : decode cL_octet 18 = .ok (.ireturn, 1) := by decide +kernel
theorem dL_cell_0 : decode cL_cell 0 = .ok (.aload_n 2, 1) := by decide +kernel
theorem dL_cell_1 : decode cL_cell 1 = .ok (.iconst 0, 1) := by decide +kernel
theorem dL_cell_2 : decode cL_cell 2 = .ok (.aload_n 0, 1) := by decide +kernel
theorem dL_cell_3 : decode cL_cell 3 = .ok (.iload_n 1, 1) := by decide +kernel
theorem dL_cell_4 : decode cL_cell 4 = .ok (.invokevirtual 15, 3) := by decide +kernel
theorem dL_cell_7 : decode cL_cell 7 = .ok (.i2l, 1) := by decide +kernel
theorem dL_cell_8 : decode cL_cell 8 = .ok (.lastore, 1) := by decide +kernel
theorem dL_cell_9 : decode cL_cell 9 = .ok (.goto 9, 3) := by decide +kernel
theorem dL_cell_12 : decode cL_cell 12 = .ok (.astore_n 3, 1) := by decide +kernel
theorem dL_cell_13 : decode cL_cell 13 = .ok (.iconst 1, 1) := by decide +kernel
theorem dL_cell_14 : decode cL_cell 14 = .ok (.ireturn, 1) := by decide +kernel
theorem dL_cell_15 : decode cL_cell 15 = .ok (.astore_n 3, 1) := by decide +kernel
theorem dL_cell_16 : decode cL_cell 16 = .ok (.iconst 2, 1) := by decide +kernel
theorem dL_cell_17 : decode cL_cell 17 = .ok (.ireturn, 1) := by decide +kernel
theorem dL_cell_18 : decode cL_cell 18 = .ok (.iconst 0, 1) := by decide +kernel
theorem dL_cell_19 : decode cL_cell 19 = .ok (.ireturn, 1) := by decide +kernel
theorem dL_resource_0 : decode cL_resource 0 = .ok (.aload_n 3, 1) := by decide +kernel
theorem dL_resource_1 : decode cL_resource 1 = .ok (.iconst 0, 1) := by decide +kernel
theorem dL_resource_2 : decode cL_resource 2 = .ok (.aload_n 0, 1) := by decide +kernel
theorem dL_resource_3 : decode cL_resource 3 = .ok (.iload_n 1, 1) := by decide +kernel
theorem dL_resource_4 : decode cL_resource 4 = .ok (.iload_n 2, 1) := by decide +kernel
theorem dL_resource_5 : decode cL_resource 5 = .ok (.invokevirtual 21, 3) := by decide +kernel
theorem dL_resource_8 : decode cL_resource 8 = .ok (.i2l, 1) := by decide +kernel
theorem dL_resource_9 : decode cL_resource 9 = .ok (.lastore, 1) := by decide +kernel
theorem dL_resource_10 : decode cL_resource 10 = .ok (.goto 7, 3) := by decide +kernel
theorem dL_resource_13 : decode cL_resource 13 = .ok (.astore 4, 2) := by decide +kernel
theorem dL_resource_15 : decode cL_resource 15 = .ok (.iconst 1, 1) := by decide +kernel
theorem dL_resource_16 : decode cL_resource 16 = .ok (.ireturn, 1) := by decide +kernel
theorem dL_resource_17 : decode cL_resource 17 = .ok (.iconst 0, 1) := by decide +kernel
theorem dL_resource_18 : decode cL_resource 18 = .ok (.ireturn, 1) := by decide +kernel
theorem dL_law_0 : decode cL_law 0 = .ok (.new 8, 3) := by decide +kernel
theorem dL_law_3 : decode cL_law 3 = .ok (.dup, 1) := by decide +kernel
theorem dL_law_4 : decode cL_law 4 = .ok (.invokespecial 25, 3) := by decide +kernel
theorem dL_law_7 : decode cL_law 7 = .ok (.astore_n 1, 1) := by decide +kernel
theorem dL_law_8 : decode cL_law 8 = .ok (.new 26, 3) := by decide +kernel
theorem dL_law_11 : decode cL_law 11 = .ok (.dup, 1) := by decide +kernel
theorem dL_law_12 : decode cL_law 12 = .ok (.invokespecial 28, 3) := by decide +kernel
theorem dL_law_15 : decode cL_law 15 = .ok (.astore_n 2, 1) := by decide +kernel
theorem dL_law_16 : decode cL_law 16 = .ok (.iconst 1, 1) := by decide +kernel
theorem dL_law_17 : decode cL_law 17 = .ok (.newarray .long, 2) := by decide +kernel
theorem dL_law_19 : decode cL_law 19 = .ok (.astore_n 3, 1) := by decide +kernel
theorem dL_law_20 : decode cL_law 20 = .ok (.iconst 0, 1) := by decide +kernel
theorem dL_law_21 : decode cL_law 21 = .ok (.istore 4, 2) := by decide +kernel
theorem dL_law_23 : decode cL_law 23 = .ok (.iload 4, 2) := by decide +kernel
theorem dL_law_25 : decode cL_law 25 = .ok (.aload_n 0, 1) := by decide +kernel
theorem dL_law_26 : decode cL_law 26 = .ok (.arraylength, 1) := by decide +kernel
theorem dL_law_27 : decode cL_law 27 = .ok (.iconst 4, 1) := by decide +kernel
theorem dL_law_28 : decode cL_law 28 = .ok (.isub, 1) := by decide +kernel
theorem dL_law_29 : decode cL_law 29 = .ok (.if_icmp .gt 886, 3) := by decide +kernel
theorem dL_law_32 : decode cL_law 32 = .ok (.aload_n 0, 1) := by decide +kernel
theorem dL_law_33 : decode cL_law 33 = .ok (.iload 4, 2) := by decide +kernel
theorem dL_law_35 : decode cL_law 35 = .ok (.iaload, 1) := by decide +kernel
theorem dL_law_36 : decode cL_law 36 = .ok (.bipush 31, 2) := by decide +kernel
theorem dL_law_38 : decode cL_law 38 = .ok (.iand, 1) := by decide +kernel
theorem dL_law_39 : decode cL_law 39 = .ok (.tableswitch 870 0 19 #[93, 162, 187, 255, 304, 357, 382, 407, 444, 481, 494, 531, 572, 597, 634, 671, 708, 764, 832, 857], 93) := by decide +kernel
theorem dL_law_132 : decode cL_law 132 = .ok (.aload_n 1, 1) := by decide +kernel
theorem dL_law_133 : decode cL_law 133 = .ok (.aload_n 0, 1) := by decide +kernel
theorem dL_law_134 : decode cL_law 134 = .ok (.iload 4, 2) := by decide +kernel
theorem dL_law_136 : decode cL_law 136 = .ok (.iconst 1, 1) := by decide +kernel
theorem dL_law_137 : decode cL_law 137 = .ok (.iadd, 1) := by decide +kernel
theorem dL_law_138 : decode cL_law 138 = .ok (.iaload, 1) := by decide +kernel
theorem dL_law_139 : decode cL_law 139 = .ok (.aload_n 0, 1) := by decide +kernel
theorem dL_law_140 : decode cL_law 140 = .ok (.iload 4, 2) := by decide +kernel
theorem dL_law_142 : decode cL_law 142 = .ok (.iconst 2, 1) := by decide +kernel
theorem dL_law_143 : decode cL_law 143 = .ok (.iadd, 1) := by decide +kernel
theorem dL_law_144 : decode cL_law 144 = .ok (.iaload, 1) := by decide +kernel
theorem dL_law_145 : decode cL_law 145 = .ok (.i2l, 1) := by decide +kernel
theorem dL_law_146 : decode cL_law 146 = .ok (.bipush 32, 2) := by decide +kernel
theorem dL_law_148 : decode cL_law 148 = .ok (.lshl, 1) := by decide +kernel
theorem dL_law_149 : decode cL_law 149 = .ok (.aload_n 0, 1) := by decide +kernel
theorem dL_law_150 : decode cL_law 150 = .ok (.iload 4, 2) := by decide +kernel
theorem dL_law_152 : decode cL_law 152 = .ok (.iconst 3, 1) := by decide +kernel
theorem dL_law_153 : decode cL_law 153 = .ok (.iadd, 1) := by decide +kernel
theorem dL_law_154 : decode cL_law 154 = .ok (.iaload, 1) := by decide +kernel
theorem dL_law_155 : decode cL_law 155 = .ok (.i2l, 1) := by decide +kernel
theorem dL_law_156 : decode cL_law 156 = .ok (.ldc2_w 29, 3) := by decide +kernel
theorem dL_law_159 : decode cL_law 159 = .ok (.land, 1) := by decide +kernel
theorem dL_law_160 : decode cL_law 160 = .ok (.lor, 1) := by decide +kernel
theorem dL_law_161 : decode cL_law 161 = .ok (.invokevirtual 31, 3) := by decide +kernel
theorem dL_law_164 : decode cL_law 164 = .ok (.aload_n 2, 1) := by decide +kernel
theorem dL_law_165 : decode cL_law 165 = .ok (.aload_n 0, 1) := by decide +kernel
theorem dL_law_166 : decode cL_law 166 = .ok (.iload 4, 2) := by decide +kernel
theorem dL_law_168 : decode cL_law 168 = .ok (.iconst 1, 1) := by decide +kernel
theorem dL_law_169 : decode cL_law 169 = .ok (.iadd, 1) := by decide +kernel
theorem dL_law_170 : decode cL_law 170 = .ok (.iaload, 1) := by decide +kernel
theorem dL_law_171 : decode cL_law 171 = .ok (.aload_n 0, 1) := by decide +kernel
theorem dL_law_172 : decode cL_law 172 = .ok (.iload 4, 2) := by decide +kernel
theorem dL_law_174 : decode cL_law 174 = .ok (.iconst 2, 1) := by decide +kernel
theorem dL_law_175 : decode cL_law 175 = .ok (.iadd, 1) := by decide +kernel
theorem dL_law_176 : decode cL_law 176 = .ok (.iaload, 1) := by decide +kernel
theorem dL_law_177 : decode cL_law 177 = .ok (.i2l, 1) := by decide +kernel
theorem dL_law_178 : decode cL_law 178 = .ok (.bipush 32, 2) := by decide +kernel
theorem dL_law_180 : decode cL_law 180 = .ok (.lshl, 1) := by decide +kernel
theorem dL_law_181 : decode cL_law 181 = .ok (.aload_n 0, 1) := by decide +kernel
theorem dL_law_182 : decode cL_law 182 = .ok (.iload 4, 2) := by decide +kernel
theorem dL_law_184 : decode cL_law 184 = .ok (.iconst 3, 1) := by decide +kernel
theorem dL_law_185 : decode cL_law 185 = .ok (.iadd, 1) := by decide +kernel
theorem dL_law_186 : decode cL_law 186 = .ok (.iaload, 1) := by decide +kernel
theorem dL_law_187 : decode cL_law 187 = .ok (.i2l, 1) := by decide +kernel
theorem dL_law_188 : decode cL_law 188 = .ok (.ldc2_w 29, 3) := by decide +kernel
theorem dL_law_191 : decode cL_law 191 = .ok (.land, 1) := by decide +kernel
theorem dL_law_192 : decode cL_law 192 = .ok (.lor, 1) := by decide +kernel
theorem dL_law_193 : decode cL_law 193 = .ok (.invokevirtual 35, 3) := by decide +kernel
theorem dL_law_196 : decode cL_law 196 = .ok (.if_icmp .eq 713, 3) := by decide +kernel
theorem dL_law_199 : decode cL_law 199 = .ok (.iconst 0, 1) := by decide +kernel
theorem dL_law_200 : decode cL_law 200 = .ok (.ireturn, 1) := by decide +kernel
theorem dL_law_201 : decode cL_law 201 = .ok (.aload_n 1, 1) := by decide +kernel
theorem dL_law_202 : decode cL_law 202 = .ok (.aload_n 0, 1) := by decide +kernel
theorem dL_law_203 : decode cL_law 203 = .ok (.iload 4, 2) := by decide +kernel
theorem dL_law_205 : decode cL_law 205 = .ok (.iconst 1, 1) := by decide +kernel
theorem dL_law_206 : decode cL_law 206 = .ok (.iadd, 1) := by decide +kernel
theorem dL_law_207 : decode cL_law 207 = .ok (.iaload, 1) := by decide +kernel
theorem dL_law_208 : decode cL_law 208 = .ok (.invokevirtual 36, 3) := by decide +kernel
theorem dL_law_211 : decode cL_law 211 = .ok (.aload_n 2, 1) := by decide +kernel
theorem dL_law_212 : decode cL_law 212 = .ok (.aload_n 0, 1) := by decide +kernel
theorem dL_law_213 : decode cL_law 213 = .ok (.iload 4, 2) := by decide +kernel
theorem dL_law_215 : decode cL_law 215 = .ok (.iconst 1, 1) := by decide +kernel
theorem dL_law_216 : decode cL_law 216 = .ok (.iadd, 1) := by decide +kernel
theorem dL_law_217 : decode cL_law 217 = .ok (.iaload, 1) := by decide +kernel
theorem dL_law_218 : decode cL_law 218 = .ok (.invokevirtual 39, 3) := by decide +kernel
theorem dL_law_221 : decode cL_law 221 = .ok (.if_icmp .eq 688, 3) := by decide +kernel
theorem dL_law_224 : decode cL_law 224 = .ok (.iconst 0, 1) := by decide +kernel
theorem dL_law_225 : decode cL_law 225 = .ok (.ireturn, 1) := by decide +kernel
theorem dL_law_226 : decode cL_law 226 = .ok (.aload_n 1, 1) := by decide +kernel
theorem dL_law_227 : decode cL_law 227 = .ok (.aload_n 0, 1) := by decide +kernel
theorem dL_law_228 : decode cL_law 228 = .ok (.iload 4, 2) := by decide +kernel
theorem dL_law_230 : decode cL_law 230 = .ok (.iconst 1, 1) := by decide +kernel
theorem dL_law_231 : decode cL_law 231 = .ok (.iadd, 1) := by decide +kernel
theorem dL_law_232 : decode cL_law 232 = .ok (.iaload, 1) := by decide +kernel
theorem dL_law_233 : decode cL_law 233 = .ok (.aload_n 0, 1) := by decide +kernel
theorem dL_law_234 : decode cL_law 234 = .ok (.iload 4, 2) := by decide +kernel
theorem dL_law_236 : decode cL_law 236 = .ok (.iconst 2, 1) := by decide +kernel
theorem dL_law_237 : decode cL_law 237 = .ok (.iadd, 1) := by decide +kernel
theorem dL_law_238 : decode cL_law 238 = .ok (.iaload, 1) := by decide +kernel
theorem dL_law_239 : decode cL_law 239 = .ok (.aload_n 3, 1) := by decide +kernel
theorem dL_law_240 : decode cL_law 240 = .ok (.invokestatic 40, 3) := by decide +kernel
theorem dL_law_243 : decode cL_law 243 = .ok (.istore 5, 2) := by decide +kernel
theorem dL_law_245 : decode cL_law 245 = .ok (.aload_n 2, 1) := by decide +kernel
theorem dL_law_246 : decode cL_law 246 = .ok (.aload_n 0, 1) := by decide +kernel
theorem dL_law_247 : decode cL_law 247 = .ok (.iload 4, 2) := by decide +kernel
theorem dL_law_249 : decode cL_law 249 = .ok (.iconst 1, 1) := by decide +kernel
theorem dL_law_250 : decode cL_law 250 = .ok (.iadd, 1) := by decide +kernel
theorem dL_law_251 : decode cL_law 251 = .ok (.iaload, 1) := by decide +kernel
theorem dL_law_252 : decode cL_law 252 = .ok (.aload_n 0, 1) := by decide +kernel
theorem dL_law_253 : decode cL_law 253 = .ok (.iload 4, 2) := by decide +kernel
theorem dL_law_255 : decode cL_law 255 = .ok (.iconst 2, 1) := by decide +kernel
theorem dL_law_256 : decode cL_law 256 = .ok (.iadd, 1) := by decide +kernel
theorem dL_law_257 : decode cL_law 257 = .ok (.iaload, 1) := by decide +kernel
theorem dL_law_258 : decode cL_law 258 = .ok (.invokevirtual 45, 3) := by decide +kernel
theorem dL_law_261 : decode cL_law 261 = .ok (.istore 6, 2) := by decide +kernel
theorem dL_law_263 : decode cL_law 263 = .ok (.aload_n 2, 1) := by decide +kernel
theorem dL_law_264 : decode cL_law 264 = .ok (.invokevirtual 46, 3) := by decide +kernel
theorem dL_law_267 : decode cL_law 267 = .ok (.iload 5, 2) := by decide +kernel
theorem dL_law_269 : decode cL_law 269 = .ok (.if_icmp .eq 5, 3) := by decide +kernel
theorem dL_law_272 : decode cL_law 272 = .ok (.iconst 0, 1) := by decide +kernel
theorem dL_law_273 : decode cL_law 273 = .ok (.ireturn, 1) := by decide +kernel
theorem dL_law_274 : decode cL_law 274 = .ok (.iload 5, 2) := by decide +kernel
theorem dL_law_276 : decode cL_law 276 = .ok (.ifCond .ne 15, 3) := by decide +kernel
theorem dL_law_279 : decode cL_law 279 = .ok (.aload_n 3, 1) := by decide +kernel
theorem dL_law_280 : decode cL_law 280 = .ok (.iconst 0, 1) := by decide +kernel
theorem dL_law_281 : decode cL_law 281 = .ok (.laload, 1) := by decide +kernel
theorem dL_law_282 : decode cL_law 282 = .ok (.iload 6, 2) := by decide +kernel
theorem dL_law_284 : decode cL_law 284 = .ok (.i2l, 1) := by decide +kernel
theorem dL_law_285 : decode cL_law 285 = .ok (.lcmp, 1) := by decide +kernel
theorem dL_law_286 : decode cL_law 286 = .ok (.ifCond .eq 5, 3) := by decide +kernel
theorem dL_law_289 : decode cL_law 289 = .ok (.iconst 0, 1) := by decide +kernel
theorem dL_law_290 : decode cL_law 290 = .ok (.ireturn, 1) := by decide +kernel
theorem dL_law_291 : decode cL_law 291 = .ok (.goto 618, 3) := by decide +kernel
theorem dL_law_294 : decode cL_law 294 = .ok (.aload_n 1, 1) := by decide +kernel
theorem dL_law_295 : decode cL_law 295 = .ok (.aload_n 0, 1) := by decide +kernel
theorem dL_law_296 : decode cL_law 296 = .ok (.iload 4, 2) := by decide +kernel
theorem dL_law_298 : decode cL_law 298 = .ok (.iconst 1, 1) := by decide +kernel
theorem dL_law_299 : decode cL_law 299 = .ok (.iadd, 1) := by decide +kernel
theorem dL_law_300 : decode cL_law 300 = .ok (.iaload, 1) := by decide +kernel
theorem dL_law_301 : decode cL_law 301 = .ok (.aload_n 0, 1) := by decide +kernel
theorem dL_law_302 : decode cL_law 302 = .ok (.iload 4, 2) := by decide +kernel
theorem dL_law_304 : decode cL_law 304 = .ok (.iconst 2, 1) := by decide +kernel
theorem dL_law_305 : decode cL_law 305 = .ok (.iadd, 1) := by decide +kernel
theorem dL_law_306 : decode cL_law 306 = .ok (.iaload, 1) := by decide +kernel
theorem dL_law_307 : decode cL_law 307 = .ok (.aload_n 0, 1) := by decide +kernel
theorem dL_law_308 : decode cL_law 308 = .ok (.iload 4, 2) := by decide +kernel
theorem dL_law_310 : decode cL_law 310 = .ok (.iconst 3, 1) := by decide +kernel
theorem dL_law_311 : decode cL_law 311 = .ok (.iadd, 1) := by decide +kernel
theorem dL_law_312 : decode cL_law 312 = .ok (.iaload, 1) := by decide +kernel
theorem dL_law_313 : decode cL_law 313 = .ok (.invokevirtual 50, 3) := by decide +kernel
theorem dL_law_316 : decode cL_law 316 = .ok (.aload_n 2, 1) := by decide +kernel
theorem dL_law_317 : decode cL_law 317 = .ok (.aload_n 0, 1) := by decide +kernel
theorem dL_law_318 : decode cL_law 318 = .ok (.iload 4, 2) := by decide +kernel
theorem dL_law_320 : decode cL_law 320 = .ok (.iconst 1, 1) := by decide +kernel
theorem dL_law_321 : decode cL_law 321 = .ok (.iadd, 1) := by decide +kernel
theorem dL_law_322 : decode cL_law 322 = .ok (.iaload, 1) := by decide +kernel
theorem dL_law_323 : decode cL_law 323 = .ok (.aload_n 0, 1) := by decide +kernel
theorem dL_law_324 : decode cL_law 324 = .ok (.iload 4, 2) := by decide +kernel
theorem dL_law_326 : decode cL_law 326 = .ok (.iconst 2, 1) := by decide +kernel
theorem dL_law_327 : decode cL_law 327 = .ok (.iadd, 1) := by decide +kernel
theorem dL_law_328 : decode cL_law 328 = .ok (.iaload, 1) := by decide +kernel
theorem dL_law_329 : decode cL_law 329 = .ok (.aload_n 0, 1) := by decide +kernel
theorem dL_law_330 : decode cL_law 330 = .ok (.iload 4, 2) := by decide +kernel
theorem dL_law_332 : decode cL_law 332 = .ok (.iconst 3, 1) := by decide +kernel
theorem dL_law_333 : decode cL_law 333 = .ok (.iadd, 1) := by decide +kernel
theorem dL_law_334 : decode cL_law 334 = .ok (.iaload, 1) := by decide +kernel
theorem dL_law_335 : decode cL_law 335 = .ok (.invokevirtual 54, 3) := by decide +kernel
theorem dL_law_338 : decode cL_law 338 = .ok (.if_icmp .eq 571, 3) := by decide +kernel
theorem dL_law_341 : decode cL_law 341 = .ok (.iconst 0, 1) := by decide +kernel
theorem dL_law_342 : decode cL_law 342 = .ok (.ireturn, 1) := by decide +kernel
theorem dL_law_343 : decode cL_law 343 = .ok (.aload_n 1, 1) := by decide +kernel
theorem dL_law_344 : decode cL_law 344 = .ok (.aload_n 0, 1) := by decide +kernel
theorem dL_law_345 : decode cL_law 345 = .ok (.iload 4, 2) := by decide +kernel
theorem dL_law_347 : decode cL_law 347 = .ok (.iconst 1, 1) := by decide +kernel
theorem dL_law_348 : decode cL_law 348 = .ok (.iadd, 1) := by decide +kernel
theorem dL_law_349 : decode cL_law 349 = .ok (.iaload, 1) := by decide +kernel
theorem dL_law_350 : decode cL_law 350 = .ok (.aload_n 0, 1) := by decide +kernel
theorem dL_law_351 : decode cL_law 351 = .ok (.iload 4, 2) := by decide +kernel
theorem dL_law_353 : decode cL_law 353 = .ok (.iconst 2, 1) := by decide +kernel
theorem dL_law_354 : decode cL_law 354 = .ok (.iadd, 1) := by decide +kernel
theorem dL_law_355 : decode cL_law 355 = .ok (.iaload, 1) := by decide +kernel
theorem dL_law_356 : decode cL_law 356 = .ok (.ifCond .eq 7, 3) := by decide +kernel
theorem dL_law_359 : decode cL_law 359 = .ok (.iconst 1, 1) := by decide +kernel
theorem dL_law_360 : decode cL_law 360 = .ok (.goto 4, 3) := by decide +kernel
theorem dL_law_363 : decode cL_law 363 = .ok (.iconst 0, 1) := by decide +kernel
theorem dL_law_364 : decode cL_law 364 = .ok (.invokevirtual 55, 3) := by decide +kernel
theorem dL_law_367 : decode cL_law 367 = .ok (.aload_n 2, 1) := by decide +kernel
theorem dL_law_368 : decode cL_law 368 = .ok (.aload_n 0, 1) := by decide +kernel
theorem dL_law_369 : decode cL_law 369 = .ok (.iload 4, 2) := by decide +kernel
theorem dL_law_371 : decode cL_law 371 = .ok (.iconst 1, 1) := by decide +kernel
theorem dL_law_372 : decode cL_law 372 = .ok (.iadd, 1) := by decide +kernel
theorem dL_law_373 : decode cL_law 373 = .ok (.iaload, 1) := by decide +kernel
theorem dL_law_374 : decode cL_law 374 = .ok (.aload_n 0, 1) := by decide +kernel
theorem dL_law_375 : decode cL_law 375 = .ok (.iload 4, 2) := by decide +kernel
theorem dL_law_377 : decode cL_law 377 = .ok (.iconst 2, 1) := by decide +kernel
theorem dL_law_378 : decode cL_law 378 = .ok (.iadd, 1) := by decide +kernel
theorem dL_law_379 : decode cL_law 379 = .ok (.iaload, 1) := by decide +kernel
theorem dL_law_380 : decode cL_law 380 = .ok (.ifCond .eq 7, 3) := by decide +kernel
theorem dL_law_383 : decode cL_law 383 = .ok (.iconst 1, 1) := by decide +kernel
theorem dL_law_384 : decode cL_law 384 = .ok (.goto 4, 3) := by decide +kernel
theorem dL_law_387 : decode cL_law 387 = .ok (.iconst 0, 1) := by decide +kernel
theorem dL_law_388 : decode cL_law 388 = .ok (.invokevirtual 59, 3) := by decide +kernel
theorem dL_law_391 : decode cL_law 391 = .ok (.if_icmp .eq 518, 3) := by decide +kernel
theorem dL_law_394 : decode cL_law 394 = .ok (.iconst 0, 1) := by decide +kernel
theorem dL_law_395 : decode cL_law 395 = .ok (.ireturn, 1) := by decide +kernel
theorem dL_law_396 : decode cL_law 396 = .ok (.aload_n 1, 1) := by decide +kernel
theorem dL_law_397 : decode cL_law 397 = .ok (.aload_n 0, 1) := by decide +kernel
theorem dL_law_398 : decode cL_law 398 = .ok (.iload 4, 2) := by decide +kernel
theorem dL_law_400 : decode cL_law 400 = .ok (.iconst 1, 1) := by decide +kernel
theorem dL_law_401 : decode cL_law 401 = .ok (.iadd, 1) := by decide +kernel
theorem dL_law_402 : decode cL_law 402 = .ok (.iaload, 1) := by decide +kernel
theorem dL_law_403 : decode cL_law 403 = .ok (.invokevirtual 60, 3) := by decide +kernel
theorem dL_law_406 : decode cL_law 406 = .ok (.aload_n 2, 1) := by decide +kernel
theorem dL_law_407 : decode cL_law 407 = .ok (.aload_n 0, 1) := by decide +kernel
theorem dL_law_408 : decode cL_law 408 = .ok (.iload 4, 2) := by decide +kernel
theorem dL_law_410 : decode cL_law 410 = .ok (.iconst 1, 1) := by decide +kernel
theorem dL_law_411 : decode cL_law 411 = .ok (.iadd, 1) := by decide +kernel
theorem dL_law_412 : decode cL_law 412 = .ok (.iaload, 1) := by decide +kernel
theorem dL_law_413 : decode cL_law 413 = .ok (.invokevirtual 63, 3) := by decide +kernel
theorem dL_law_416 : decode cL_law 416 = .ok (.if_icmp .eq 493, 3) := by decide +kernel
theorem dL_law_419 : decode cL_law 419 = .ok (.iconst 0, 1) := by decide +kernel
theorem dL_law_420 : decode cL_law 420 = .ok (.ireturn, 1) := by decide +kernel
theorem dL_law_421 : decode cL_law 421 = .ok (.aload_n 1, 1) := by decide +kernel
theorem dL_law_422 : decode cL_law 422 = .ok (.aload_n 0, 1) := by decide +kernel
theorem dL_law_423 : decode cL_law 423 = .ok (.iload 4, 2) := by decide +kernel
theorem dL_law_425 : decode cL_law 425 = .ok (.iconst 1, 1) := by decide +kernel
theorem dL_law_426 : decode cL_law 426 = .ok (.iadd, 1) := by decide +kernel
theorem dL_law_427 : decode cL_law 427 = .ok (.iaload, 1) := by decide +kernel
theorem dL_law_428 : decode cL_law 428 = .ok (.invokevirtual 64, 3) := by decide +kernel
theorem dL_law_431 : decode cL_law 431 = .ok (.aload_n 2, 1) := by decide +kernel
theorem dL_law_432 : decode cL_law 432 = .ok (.aload_n 0, 1) := by decide +kernel
theorem dL_law_433 : decode cL_law 433 = .ok (.iload 4, 2) := by decide +kernel
theorem dL_law_435 : decode cL_law 435 = .ok (.iconst 1, 1) := by decide +kernel
theorem dL_law_436 : decode cL_law 436 = .ok (.iadd, 1) := by decide +kernel
theorem dL_law_437 : decode cL_law 437 = .ok (.iaload, 1) := by decide +kernel
theorem dL_law_438 : decode cL_law 438 = .ok (.invokevirtual 67, 3) := by decide +kernel
theorem dL_law_441 : decode cL_law 441 = .ok (.if_icmp .eq 468, 3) := by decide +kernel
theorem dL_law_444 : decode cL_law 444 = .ok (.iconst 0, 1) := by decide +kernel
theorem dL_law_445 : decode cL_law 445 = .ok (.ireturn, 1) := by decide +kernel
theorem dL_law_446 : decode cL_law 446 = .ok (.aload_n 1, 1) := by decide +kernel
theorem dL_law_447 : decode cL_law 447 = .ok (.aload_n 0, 1) := by decide +kernel
theorem dL_law_448 : decode cL_law 448 = .ok (.iload 4, 2) := by decide +kernel
theorem dL_law_450 : decode cL_law 450 = .ok (.iconst 1, 1) := by decide +kernel
theorem dL_law_451 : decode cL_law 451 = .ok (.iadd, 1) := by decide +kernel
theorem dL_law_452 : decode cL_law 452 = .ok (.iaload, 1) := by decide +kernel
theorem dL_law_453 : decode cL_law 453 = .ok (.aload_n 0, 1) := by decide +kernel
theorem dL_law_454 : decode cL_law 454 = .ok (.iload 4, 2) := by decide +kernel
theorem dL_law_456 : decode cL_law 456 = .ok (.iconst 2, 1) := by decide +kernel
theorem dL_law_457 : decode cL_law 457 = .ok (.iadd, 1) := by decide +kernel
theorem dL_law_458 : decode cL_law 458 = .ok (.iaload, 1) := by decide +kernel
theorem dL_law_459 : decode cL_law 459 = .ok (.invokevirtual 68, 3) := by decide +kernel
theorem dL_law_462 : decode cL_law 462 = .ok (.aload_n 2, 1) := by decide +kernel
theorem dL_law_463 : decode cL_law 463 = .ok (.aload_n 0, 1) := by decide +kernel
theorem dL_law_464 : decode cL_law 464 = .ok (.iload 4, 2) := by decide +kernel
theorem dL_law_466 : decode cL_law 466 = .ok (.iconst 1, 1) := by decide +kernel
theorem dL_law_467 : decode cL_law 467 = .ok (.iadd, 1) := by decide +kernel
theorem dL_law_468 : decode cL_law 468 = .ok (.iaload, 1) := by decide +kernel
theorem dL_law_469 : decode cL_law 469 = .ok (.aload_n 0, 1) := by decide +kernel
theorem dL_law_470 : decode cL_law 470 = .ok (.iload 4, 2) := by decide +kernel
theorem dL_law_472 : decode cL_law 472 = .ok (.iconst 2, 1) := by decide +kernel
theorem dL_law_473 : decode cL_law 473 = .ok (.iadd, 1) := by decide +kernel
theorem dL_law_474 : decode cL_law 474 = .ok (.iaload, 1) := by decide +kernel
theorem dL_law_475 : decode cL_law 475 = .ok (.invokevirtual 71, 3) := by decide +kernel
theorem dL_law_478 : decode cL_law 478 = .ok (.if_icmp .eq 431, 3) := by decide +kernel
theorem dL_law_481 : decode cL_law 481 = .ok (.iconst 0, 1) := by decide +kernel
theorem dL_law_482 : decode cL_law 482 = .ok (.ireturn, 1) := by decide +kernel
theorem dL_law_483 : decode cL_law 483 = .ok (.aload_n 1, 1) := by decide +kernel
theorem dL_law_484 : decode cL_law 484 = .ok (.aload_n 0, 1) := by decide +kernel
theorem dL_law_485 : decode cL_law 485 = .ok (.iload 4, 2) := by decide +kernel
theorem dL_law_487 : decode cL_law 487 = .ok (.iconst 1, 1) := by decide +kernel
theorem dL_law_488 : decode cL_law 488 = .ok (.iadd, 1) := by decide +kernel
theorem dL_law_489 : decode cL_law 489 = .ok (.iaload, 1) := by decide +kernel
theorem dL_law_490 : decode cL_law 490 = .ok (.aload_n 0, 1) := by decide +kernel
theorem dL_law_491 : decode cL_law 491 = .ok (.iload 4, 2) := by decide +kernel
theorem dL_law_493 : decode cL_law 493 = .ok (.iconst 2, 1) := by decide +kernel
theorem dL_law_494 : decode cL_law 494 = .ok (.iadd, 1) := by decide +kernel
theorem dL_law_495 : decode cL_law 495 = .ok (.iaload, 1) := by decide +kernel
theorem dL_law_496 : decode cL_law 496 = .ok (.invokevirtual 72, 3) := by decide +kernel
theorem dL_law_499 : decode cL_law 499 = .ok (.aload_n 2, 1) := by decide +kernel
theorem dL_law_500 : decode cL_law 500 = .ok (.aload_n 0, 1) := by decide +kernel
theorem dL_law_501 : decode cL_law 501 = .ok (.iload 4, 2) := by decide +kernel
theorem dL_law_503 : decode cL_law 503 = .ok (.iconst 1, 1) := by decide +kernel
theorem dL_law_504 : decode cL_law 504 = .ok (.iadd, 1) := by decide +kernel
theorem dL_law_505 : decode cL_law 505 = .ok (.iaload, 1) := by decide +kernel
theorem dL_law_506 : decode cL_law 506 = .ok (.aload_n 0, 1) := by decide +kernel
theorem dL_law_507 : decode cL_law 507 = .ok (.iload 4, 2) := by decide +kernel
theorem dL_law_509 : decode cL_law 509 = .ok (.iconst 2, 1) := by decide +kernel
theorem dL_law_510 : decode cL_law 510 = .ok (.iadd, 1) := by decide +kernel
theorem dL_law_511 : decode cL_law 511 = .ok (.iaload, 1) := by decide +kernel
theorem dL_law_512 : decode cL_law 512 = .ok (.invokevirtual 75, 3) := by decide +kernel
theorem dL_law_515 : decode cL_law 515 = .ok (.if_icmp .eq 394, 3) := by decide +kernel
theorem dL_law_518 : decode cL_law 518 = .ok (.iconst 0, 1) := by decide +kernel
theorem dL_law_519 : decode cL_law 519 = .ok (.ireturn, 1) := by decide +kernel
theorem dL_law_520 : decode cL_law 520 = .ok (.aload_n 1, 1) := by decide +kernel
theorem dL_law_521 : decode cL_law 521 = .ok (.invokevirtual 76, 3) := by decide +kernel
theorem dL_law_524 : decode cL_law 524 = .ok (.aload_n 2, 1) := by decide +kernel
theorem dL_law_525 : decode cL_law 525 = .ok (.invokevirtual 79, 3) := by decide +kernel
theorem dL_law_528 : decode cL_law 528 = .ok (.if_icmp .eq 381, 3) := by decide +kernel
theorem dL_law_531 : decode cL_law 531 = .ok (.iconst 0, 1) := by decide +kernel
theorem dL_law_532 : decode cL_law 532 = .ok (.ireturn, 1) := by decide +kernel
theorem dL_law_533 : decode cL_law 533 = .ok (.aload_n 1, 1) := by decide +kernel
theorem dL_law_534 : decode cL_law 534 = .ok (.aload_n 0, 1) := by decide +kernel
theorem dL_law_535 : decode cL_law 535 = .ok (.iload 4, 2) := by decide +kernel
theorem dL_law_537 : decode cL_law 537 = .ok (.iconst 1, 1) := by decide +kernel
theorem dL_law_538 : decode cL_law 538 = .ok (.iadd, 1) := by decide +kernel
theorem dL_law_539 : decode cL_law 539 = .ok (.iaload, 1) := by decide +kernel
theorem dL_law_540 : decode cL_law 540 = .ok (.aload_n 0, 1) := by decide +kernel
theorem dL_law_541 : decode cL_law 541 = .ok (.iload 4, 2) := by decide +kernel
theorem dL_law_543 : decode cL_law 543 = .ok (.iconst 2, 1) := by decide +kernel
theorem dL_law_544 : decode cL_law 544 = .ok (.iadd, 1) := by decide +kernel
theorem dL_law_545 : decode cL_law 545 = .ok (.iaload, 1) := by decide +kernel
theorem dL_law_546 : decode cL_law 546 = .ok (.invokevirtual 80, 3) := by decide +kernel
theorem dL_law_549 : decode cL_law 549 = .ok (.aload_n 2, 1) := by decide +kernel
theorem dL_law_550 : decode cL_law 550 = .ok (.aload_n 0, 1) := by decide +kernel
theorem dL_law_551 : decode cL_law 551 = .ok (.iload 4, 2) := by decide +kernel
theorem dL_law_553 : decode cL_law 553 = .ok (.iconst 1, 1) := by decide +kernel
theorem dL_law_554 : decode cL_law 554 = .ok (.iadd, 1) := by decide +kernel
theorem dL_law_555 : decode cL_law 555 = .ok (.iaload, 1) := by decide +kernel
theorem dL_law_556 : decode cL_law 556 = .ok (.aload_n 0, 1) := by decide +kernel
theorem dL_law_557 : decode cL_law 557 = .ok (.iload 4, 2) := by decide +kernel
theorem dL_law_559 : decode cL_law 559 = .ok (.iconst 2, 1) := by decide +kernel
theorem dL_law_560 : decode cL_law 560 = .ok (.iadd, 1) := by decide +kernel
theorem dL_law_561 : decode cL_law 561 = .ok (.iaload, 1) := by decide +kernel
theorem dL_law_562 : decode cL_law 562 = .ok (.invokevirtual 83, 3) := by decide +kernel
theorem dL_law_565 : decode cL_law 565 = .ok (.if_icmp .eq 344, 3) := by decide +kernel
theorem dL_law_568 : decode cL_law 568 = .ok (.iconst 0, 1) := by decide +kernel
theorem dL_law_569 : decode cL_law 569 = .ok (.ireturn, 1) := by decide +kernel
theorem dL_law_570 : decode cL_law 570 = .ok (.aload_n 1, 1) := by decide +kernel
theorem dL_law_571 : decode cL_law 571 = .ok (.aload_n 0, 1) := by decide +kernel
theorem dL_law_572 : decode cL_law 572 = .ok (.iload 4, 2) := by decide +kernel
theorem dL_law_574 : decode cL_law 574 = .ok (.iconst 1, 1) := by decide +kernel
theorem dL_law_575 : decode cL_law 575 = .ok (.iadd, 1) := by decide +kernel
theorem dL_law_576 : decode cL_law 576 = .ok (.iaload, 1) := by decide +kernel
theorem dL_law_577 : decode cL_law 577 = .ok (.ifCond .eq 7, 3) := by decide +kernel
theorem dL_law_580 : decode cL_law 580 = .ok (.iconst 1, 1) := by decide +kernel
theorem dL_law_581 : decode cL_law 581 = .ok (.goto 4, 3) := by decide +kernel
theorem dL_law_584 : decode cL_law 584 = .ok (.iconst 0, 1) := by decide +kernel
theorem dL_law_585 : decode cL_law 585 = .ok (.invokevirtual 84, 3) := by decide +kernel
theorem dL_law_588 : decode cL_law 588 = .ok (.aload_n 2, 1) := by decide +kernel
theorem dL_law_589 : decode cL_law 589 = .ok (.aload_n 0, 1) := by decide +kernel
theorem dL_law_590 : decode cL_law 590 = .ok (.iload 4, 2) := by decide +kernel
theorem dL_law_592 : decode cL_law 592 = .ok (.iconst 1, 1) := by decide +kernel
theorem dL_law_593 : decode cL_law 593 = .ok (.iadd, 1) := by decide +kernel
theorem dL_law_594 : decode cL_law 594 = .ok (.iaload, 1) := by decide +kernel
theorem dL_law_595 : decode cL_law 595 = .ok (.ifCond .eq 7, 3) := by decide +kernel
theorem dL_law_598 : decode cL_law 598 = .ok (.iconst 1, 1) := by decide +kernel
theorem dL_law_599 : decode cL_law 599 = .ok (.goto 4, 3) := by decide +kernel
theorem dL_law_602 : decode cL_law 602 = .ok (.iconst 0, 1) := by decide +kernel
theorem dL_law_603 : decode cL_law 603 = .ok (.invokevirtual 88, 3) := by decide +kernel
theorem dL_law_606 : decode cL_law 606 = .ok (.if_icmp .eq 303, 3) := by decide +kernel
theorem dL_law_609 : decode cL_law 609 = .ok (.iconst 0, 1) := by decide +kernel
theorem dL_law_610 : decode cL_law 610 = .ok (.ireturn, 1) := by decide +kernel
theorem dL_law_611 : decode cL_law 611 = .ok (.aload_n 1, 1) := by decide +kernel
theorem dL_law_612 : decode cL_law 612 = .ok (.aload_n 0, 1) := by decide +kernel
theorem dL_law_613 : decode cL_law 613 = .ok (.iload 4, 2) := by decide +kernel
theorem dL_law_615 : decode cL_law 615 = .ok (.iconst 1, 1) := by decide +kernel
theorem dL_law_616 : decode cL_law 616 = .ok (.iadd, 1) := by decide +kernel
theorem dL_law_617 : decode cL_law 617 = .ok (.iaload, 1) := by decide +kernel
theorem dL_law_618 : decode cL_law 618 = .ok (.invokevirtual 89, 3) := by decide +kernel
theorem dL_law_621 : decode cL_law 621 = .ok (.aload_n 2, 1) := by decide +kernel
theorem dL_law_622 : decode cL_law 622 = .ok (.aload_n 0, 1) := by decide +kernel
theorem dL_law_623 : decode cL_law 623 = .ok (.iload 4, 2) := by decide +kernel
theorem dL_law_625 : decode cL_law 625 = .ok (.iconst 1, 1) := by decide +kernel
theorem dL_law_626 : decode cL_law 626 = .ok (.iadd, 1) := by decide +kernel
theorem dL_law_627 : decode cL_law 627 = .ok (.iaload, 1) := by decide +kernel
theorem dL_law_628 : decode cL_law 628 = .ok (.invokevirtual 92, 3) := by decide +kernel
theorem dL_law_631 : decode cL_law 631 = .ok (.if_icmp .eq 278, 3) := by decide +kernel
theorem dL_law_634 : decode cL_law 634 = .ok (.iconst 0, 1) := by decide +kernel
theorem dL_law_635 : decode cL_law 635 = .ok (.ireturn, 1) := by decide +kernel
theorem dL_law_636 : decode cL_law 636 = .ok (.aload_n 1, 1) := by decide +kernel
theorem dL_law_637 : decode cL_law 637 = .ok (.aload_n 0, 1) := by decide +kernel
theorem dL_law_638 : decode cL_law 638 = .ok (.iload 4, 2) := by decide +kernel
theorem dL_law_640 : decode cL_law 640 = .ok (.iconst 1, 1) := by decide +kernel
theorem dL_law_641 : decode cL_law 641 = .ok (.iadd, 1) := by decide +kernel
theorem dL_law_642 : decode cL_law 642 = .ok (.iaload, 1) := by decide +kernel
theorem dL_law_643 : decode cL_law 643 = .ok (.aload_n 0, 1) := by decide +kernel
theorem dL_law_644 : decode cL_law 644 = .ok (.iload 4, 2) := by decide +kernel
theorem dL_law_646 : decode cL_law 646 = .ok (.iconst 2, 1) := by decide +kernel
theorem dL_law_647 : decode cL_law 647 = .ok (.iadd, 1) := by decide +kernel
theorem dL_law_648 : decode cL_law 648 = .ok (.iaload, 1) := by decide +kernel
theorem dL_law_649 : decode cL_law 649 = .ok (.invokevirtual 93, 3) := by decide +kernel
theorem dL_law_652 : decode cL_law 652 = .ok (.aload_n 2, 1) := by decide +kernel
theorem dL_law_653 : decode cL_law 653 = .ok (.aload_n 0, 1) := by decide +kernel
theorem dL_law_654 : decode cL_law 654 = .ok (.iload 4, 2) := by decide +kernel
theorem dL_law_656 : decode cL_law 656 = .ok (.iconst 1, 1) := by decide +kernel
theorem dL_law_657 : decode cL_law 657 = .ok (.iadd, 1) := by decide +kernel
theorem dL_law_658 : decode cL_law 658 = .ok (.iaload, 1) := by decide +kernel
theorem dL_law_659 : decode cL_law 659 = .ok (.aload_n 0, 1) := by decide +kernel
theorem dL_law_660 : decode cL_law 660 = .ok (.iload 4, 2) := by decide +kernel
theorem dL_law_662 : decode cL_law 662 = .ok (.iconst 2, 1) := by decide +kernel
theorem dL_law_663 : decode cL_law 663 = .ok (.iadd, 1) := by decide +kernel
theorem dL_law_664 : decode cL_law 664 = .ok (.iaload, 1) := by decide +kernel
theorem dL_law_665 : decode cL_law 665 = .ok (.invokevirtual 96, 3) := by decide +kernel
theorem dL_law_668 : decode cL_law 668 = .ok (.if_icmp .eq 241, 3) := by decide +kernel
theorem dL_law_671 : decode cL_law 671 = .ok (.iconst 0, 1) := by decide +kernel
theorem dL_law_672 : decode cL_law 672 = .ok (.ireturn, 1) := by decide +kernel
theorem dL_law_673 : decode cL_law 673 = .ok (.aload_n 1, 1) := by decide +kernel
theorem dL_law_674 : decode cL_law 674 = .ok (.aload_n 0, 1) := by decide +kernel
theorem dL_law_675 : decode cL_law 675 = .ok (.iload 4, 2) := by decide +kernel
theorem dL_law_677 : decode cL_law 677 = .ok (.iconst 1, 1) := by decide +kernel
theorem dL_law_678 : decode cL_law 678 = .ok (.iadd, 1) := by decide +kernel
theorem dL_law_679 : decode cL_law 679 = .ok (.iaload, 1) := by decide +kernel
theorem dL_law_680 : decode cL_law 680 = .ok (.aload_n 0, 1) := by decide +kernel
theorem dL_law_681 : decode cL_law 681 = .ok (.iload 4, 2) := by decide +kernel
theorem dL_law_683 : decode cL_law 683 = .ok (.iconst 2, 1) := by decide +kernel
theorem dL_law_684 : decode cL_law 684 = .ok (.iadd, 1) := by decide +kernel
theorem dL_law_685 : decode cL_law 685 = .ok (.iaload, 1) := by decide +kernel
theorem dL_law_686 : decode cL_law 686 = .ok (.invokevirtual 97, 3) := by decide +kernel
theorem dL_law_689 : decode cL_law 689 = .ok (.aload_n 2, 1) := by decide +kernel
theorem dL_law_690 : decode cL_law 690 = .ok (.aload_n 0, 1) := by decide +kernel
theorem dL_law_691 : decode cL_law 691 = .ok (.iload 4, 2) := by decide +kernel
theorem dL_law_693 : decode cL_law 693 = .ok (.iconst 1, 1) := by decide +kernel
theorem dL_law_694 : decode cL_law 694 = .ok (.iadd, 1) := by decide +kernel
theorem dL_law_695 : decode cL_law 695 = .ok (.iaload, 1) := by decide +kernel
theorem dL_law_696 : decode cL_law 696 = .ok (.aload_n 0, 1) := by decide +kernel
theorem dL_law_697 : decode cL_law 697 = .ok (.iload 4, 2) := by decide +kernel
theorem dL_law_699 : decode cL_law 699 = .ok (.iconst 2, 1) := by decide +kernel
theorem dL_law_700 : decode cL_law 700 = .ok (.iadd, 1) := by decide +kernel
theorem dL_law_701 : decode cL_law 701 = .ok (.iaload, 1) := by decide +kernel
theorem dL_law_702 : decode cL_law 702 = .ok (.invokevirtual 100, 3) := by decide +kernel
theorem dL_law_705 : decode cL_law 705 = .ok (.if_icmp .eq 204, 3) := by decide +kernel
theorem dL_law_708 : decode cL_law 708 = .ok (.iconst 0, 1) := by decide +kernel
theorem dL_law_709 : decode cL_law 709 = .ok (.ireturn, 1) := by decide +kernel
theorem dL_law_710 : decode cL_law 710 = .ok (.aload_n 1, 1) := by decide +kernel
theorem dL_law_711 : decode cL_law 711 = .ok (.aload_n 0, 1) := by decide +kernel
theorem dL_law_712 : decode cL_law 712 = .ok (.iload 4, 2) := by decide +kernel
theorem dL_law_714 : decode cL_law 714 = .ok (.iconst 1, 1) := by decide +kernel
theorem dL_law_715 : decode cL_law 715 = .ok (.iadd, 1) := by decide +kernel
theorem dL_law_716 : decode cL_law 716 = .ok (.iaload, 1) := by decide +kernel
theorem dL_law_717 : decode cL_law 717 = .ok (.aload_n 0, 1) := by decide +kernel
theorem dL_law_718 : decode cL_law 718 = .ok (.iload 4, 2) := by decide +kernel
theorem dL_law_720 : decode cL_law 720 = .ok (.iconst 2, 1) := by decide +kernel
theorem dL_law_721 : decode cL_law 721 = .ok (.iadd, 1) := by decide +kernel
theorem dL_law_722 : decode cL_law 722 = .ok (.iaload, 1) := by decide +kernel
theorem dL_law_723 : decode cL_law 723 = .ok (.invokevirtual 101, 3) := by decide +kernel
theorem dL_law_726 : decode cL_law 726 = .ok (.aload_n 2, 1) := by decide +kernel
theorem dL_law_727 : decode cL_law 727 = .ok (.aload_n 0, 1) := by decide +kernel
theorem dL_law_728 : decode cL_law 728 = .ok (.iload 4, 2) := by decide +kernel
theorem dL_law_730 : decode cL_law 730 = .ok (.iconst 1, 1) := by decide +kernel
theorem dL_law_731 : decode cL_law 731 = .ok (.iadd, 1) := by decide +kernel
theorem dL_law_732 : decode cL_law 732 = .ok (.iaload, 1) := by decide +kernel
theorem dL_law_733 : decode cL_law 733 = .ok (.aload_n 0, 1) := by decide +kernel
theorem dL_law_734 : decode cL_law 734 = .ok (.iload 4, 2) := by decide +kernel
theorem dL_law_736 : decode cL_law 736 = .ok (.iconst 2, 1) := by decide +kernel
theorem dL_law_737 : decode cL_law 737 = .ok (.iadd, 1) := by decide +kernel
theorem dL_law_738 : decode cL_law 738 = .ok (.iaload, 1) := by decide +kernel
theorem dL_law_739 : decode cL_law 739 = .ok (.invokevirtual 104, 3) := by decide +kernel
theorem dL_law_742 : decode cL_law 742 = .ok (.if_icmp .eq 167, 3) := by decide +kernel
theorem dL_law_745 : decode cL_law 745 = .ok (.iconst 0, 1) := by decide +kernel
theorem dL_law_746 : decode cL_law 746 = .ok (.ireturn, 1) := by decide +kernel
theorem dL_law_747 : decode cL_law 747 = .ok (.aload_n 1, 1) := by decide +kernel
theorem dL_law_748 : decode cL_law 748 = .ok (.aload_n 0, 1) := by decide +kernel
theorem dL_law_749 : decode cL_law 749 = .ok (.iload 4, 2) := by decide +kernel
theorem dL_law_751 : decode cL_law 751 = .ok (.iconst 1, 1) := by decide +kernel
theorem dL_law_752 : decode cL_law 752 = .ok (.iadd, 1) := by decide +kernel
theorem dL_law_753 : decode cL_law 753 = .ok (.iaload, 1) := by decide +kernel
theorem dL_law_754 : decode cL_law 754 = .ok (.aload_n 3, 1) := by decide +kernel
theorem dL_law_755 : decode cL_law 755 = .ok (.invokestatic 105, 3) := by decide +kernel
theorem dL_law_758 : decode cL_law 758 = .ok (.istore 5, 2) := by decide +kernel
theorem dL_law_760 : decode cL_law 760 = .ok (.aload_n 2, 1) := by decide +kernel
theorem dL_law_761 : decode cL_law 761 = .ok (.aload_n 0, 1) := by decide +kernel
theorem dL_law_762 : decode cL_law 762 = .ok (.iload 4, 2) := by decide +kernel
theorem dL_law_764 : decode cL_law 764 = .ok (.iconst 1, 1) := by decide +kernel
theorem dL_law_765 : decode cL_law 765 = .ok (.iadd, 1) := by decide +kernel
theorem dL_law_766 : decode cL_law 766 = .ok (.iaload, 1) := by decide +kernel
theorem dL_law_767 : decode cL_law 767 = .ok (.invokevirtual 108, 3) := by decide +kernel
theorem dL_law_770 : decode cL_law 770 = .ok (.istore 6, 2) := by decide +kernel
theorem dL_law_772 : decode cL_law 772 = .ok (.aload_n 2, 1) := by decide +kernel
theorem dL_law_773 : decode cL_law 773 = .ok (.invokevirtual 46, 3) := by decide +kernel
theorem dL_law_776 : decode cL_law 776 = .ok (.iload 5, 2) := by decide +kernel
theorem dL_law_778 : decode cL_law 778 = .ok (.if_icmp .eq 5, 3) := by decide +kernel
theorem dL_law_781 : decode cL_law 781 = .ok (.iconst 0, 1) := by decide +kernel
theorem dL_law_782 : decode cL_law 782 = .ok (.ireturn, 1) := by decide +kernel
theorem dL_law_783 : decode cL_law 783 = .ok (.iload 5, 2) := by decide +kernel
theorem dL_law_785 : decode cL_law 785 = .ok (.ifCond .ne 15, 3) := by decide +kernel
theorem dL_law_788 : decode cL_law 788 = .ok (.aload_n 3, 1) := by decide +kernel
theorem dL_law_789 : decode cL_law 789 = .ok (.iconst 0, 1) := by decide +kernel
theorem dL_law_790 : decode cL_law 790 = .ok (.laload, 1) := by decide +kernel
theorem dL_law_791 : decode cL_law 791 = .ok (.iload 6, 2) := by decide +kernel
theorem dL_law_793 : decode cL_law 793 = .ok (.i2l, 1) := by decide +kernel
theorem dL_law_794 : decode cL_law 794 = .ok (.lcmp, 1) := by decide +kernel
theorem dL_law_795 : decode cL_law 795 = .ok (.ifCond .eq 5, 3) := by decide +kernel
theorem dL_law_798 : decode cL_law 798 = .ok (.iconst 0, 1) := by decide +kernel
theorem dL_law_799 : decode cL_law 799 = .ok (.ireturn, 1) := by decide +kernel
theorem dL_law_800 : decode cL_law 800 = .ok (.goto 109, 3) := by decide +kernel
theorem dL_law_803 : decode cL_law 803 = .ok (.aload_n 1, 1) := by decide +kernel
theorem dL_law_804 : decode cL_law 804 = .ok (.aload_n 0, 1) := by decide +kernel
theorem dL_law_805 : decode cL_law 805 = .ok (.iload 4, 2) := by decide +kernel
theorem dL_law_807 : decode cL_law 807 = .ok (.iconst 1, 1) := by decide +kernel
theorem dL_law_808 : decode cL_law 808 = .ok (.iadd, 1) := by decide +kernel
theorem dL_law_809 : decode cL_law 809 = .ok (.iaload, 1) := by decide +kernel
theorem dL_law_810 : decode cL_law 810 = .ok (.aload_n 0, 1) := by decide +kernel
theorem dL_law_811 : decode cL_law 811 = .ok (.iload 4, 2) := by decide +kernel
theorem dL_law_813 : decode cL_law 813 = .ok (.iconst 2, 1) := by decide +kernel
theorem dL_law_814 : decode cL_law 814 = .ok (.iadd, 1) := by decide +kernel
theorem dL_law_815 : decode cL_law 815 = .ok (.iaload, 1) := by decide +kernel
theorem dL_law_816 : decode cL_law 816 = .ok (.aload_n 3, 1) := by decide +kernel
theorem dL_law_817 : decode cL_law 817 = .ok (.invokestatic 109, 3) := by decide +kernel
theorem dL_law_820 : decode cL_law 820 = .ok (.istore 5, 2) := by decide +kernel
theorem dL_law_822 : decode cL_law 822 = .ok (.aload_n 2, 1) := by decide +kernel
theorem dL_law_823 : decode cL_law 823 = .ok (.aload_n 0, 1) := by decide +kernel
theorem dL_law_824 : decode cL_law 824 = .ok (.iload 4, 2) := by decide +kernel
theorem dL_law_826 : decode cL_law 826 = .ok (.iconst 1, 1) := by decide +kernel
theorem dL_law_827 : decode cL_law 827 = .ok (.iadd, 1) := by decide +kernel
theorem dL_law_828 : decode cL_law 828 = .ok (.iaload, 1) := by decide +kernel
theorem dL_law_829 : decode cL_law 829 = .ok (.aload_n 0, 1) := by decide +kernel
theorem dL_law_830 : decode cL_law 830 = .ok (.iload 4, 2) := by decide +kernel
theorem dL_law_832 : decode cL_law 832 = .ok (.iconst 2, 1) := by decide +kernel
theorem dL_law_833 : decode cL_law 833 = .ok (.iadd, 1) := by decide +kernel
theorem dL_law_834 : decode cL_law 834 = .ok (.iaload, 1) := by decide +kernel
theorem dL_law_835 : decode cL_law 835 = .ok (.invokevirtual 111, 3) := by decide +kernel
theorem dL_law_838 : decode cL_law 838 = .ok (.istore 6, 2) := by decide +kernel
theorem dL_law_840 : decode cL_law 840 = .ok (.aload_n 2, 1) := by decide +kernel
theorem dL_law_841 : decode cL_law 841 = .ok (.invokevirtual 46, 3) := by decide +kernel
theorem dL_law_844 : decode cL_law 844 = .ok (.iload 5, 2) := by decide +kernel
theorem dL_law_846 : decode cL_law 846 = .ok (.if_icmp .eq 5, 3) := by decide +kernel
theorem dL_law_849 : decode cL_law 849 = .ok (.iconst 0, 1) := by decide +kernel
theorem dL_law_850 : decode cL_law 850 = .ok (.ireturn, 1) := by decide +kernel
theorem dL_law_851 : decode cL_law 851 = .ok (.iload 5, 2) := by decide +kernel
theorem dL_law_853 : decode cL_law 853 = .ok (.ifCond .ne 15, 3) := by decide +kernel
theorem dL_law_856 : decode cL_law 856 = .ok (.aload_n 3, 1) := by decide +kernel
theorem dL_law_857 : decode cL_law 857 = .ok (.iconst 0, 1) := by decide +kernel
theorem dL_law_858 : decode cL_law 858 = .ok (.laload, 1) := by decide +kernel
theorem dL_law_859 : decode cL_law 859 = .ok (.iload 6, 2) := by decide +kernel
theorem dL_law_861 : decode cL_law 861 = .ok (.i2l, 1) := by decide +kernel
theorem dL_law_862 : decode cL_law 862 = .ok (.lcmp, 1) := by decide +kernel
theorem dL_law_863 : decode cL_law 863 = .ok (.ifCond .eq 5, 3) := by decide +kernel
theorem dL_law_866 : decode cL_law 866 = .ok (.iconst 0, 1) := by decide +kernel
theorem dL_law_867 : decode cL_law 867 = .ok (.ireturn, 1) := by decide +kernel
theorem dL_law_868 : decode cL_law 868 = .ok (.goto 41, 3) := by decide +kernel
theorem dL_law_871 : decode cL_law 871 = .ok (.aload_n 1, 1) := by decide +kernel
theorem dL_law_872 : decode cL_law 872 = .ok (.aload_n 0, 1) := by decide +kernel
theorem dL_law_873 : decode cL_law 873 = .ok (.iload 4, 2) := by decide +kernel
theorem dL_law_875 : decode cL_law 875 = .ok (.iconst 1, 1) := by decide +kernel
theorem dL_law_876 : decode cL_law 876 = .ok (.iadd, 1) := by decide +kernel
theorem dL_law_877 : decode cL_law 877 = .ok (.iaload, 1) := by decide +kernel
theorem dL_law_878 : decode cL_law 878 = .ok (.invokevirtual 112, 3) := by decide +kernel
theorem dL_law_881 : decode cL_law 881 = .ok (.aload_n 2, 1) := by decide +kernel
theorem dL_law_882 : decode cL_law 882 = .ok (.aload_n 0, 1) := by decide +kernel
theorem dL_law_883 : decode cL_law 883 = .ok (.iload 4, 2) := by decide +kernel
theorem dL_law_885 : decode cL_law 885 = .ok (.iconst 1, 1) := by decide +kernel
theorem dL_law_886 : decode cL_law 886 = .ok (.iadd, 1) := by decide +kernel
theorem dL_law_887 : decode cL_law 887 = .ok (.iaload, 1) := by decide +kernel
theorem dL_law_888 : decode cL_law 888 = .ok (.invokevirtual 115, 3) := by decide +kernel
theorem dL_law_891 : decode cL_law 891 = .ok (.if_icmp .eq 18, 3) := by decide +kernel
theorem dL_law_894 : decode cL_law 894 = .ok (.iconst 0, 1) := by decide +kernel
theorem dL_law_895 : decode cL_law 895 = .ok (.ireturn, 1) := by decide +kernel
theorem dL_law_896 : decode cL_law 896 = .ok (.aload_n 1, 1) := by decide +kernel
theorem dL_law_897 : decode cL_law 897 = .ok (.invokevirtual 116, 3) := by decide +kernel
theorem dL_law_900 : decode cL_law 900 = .ok (.aload_n 2, 1) := by decide +kernel
theorem dL_law_901 : decode cL_law 901 = .ok (.invokevirtual 119, 3) := by decide +kernel
theorem dL_law_904 : decode cL_law 904 = .ok (.if_icmp .eq 5, 3) := by decide +kernel
theorem dL_law_907 : decode cL_law 907 = .ok (.iconst 0, 1) := by decide +kernel
theorem dL_law_908 : decode cL_law 908 = .ok (.ireturn, 1) := by decide +kernel
theorem dL_law_909 : decode cL_law 909 = .ok (.iinc 4 4, 3) := by decide +kernel
theorem dL_law_912 : decode cL_law 912 = .ok (.goto (-889), 3) := by decide +kernel
theorem dL_law_915 : decode cL_law 915 = .ok (.iconst 1, 1) := by decide +kernel
theorem dL_law_916 : decode cL_law 916 = .ok (.ireturn, 1) := by decide +kernel
end
section
/-! the world: every object and array of the class and of the reference, at fixed places, as a function of two states of ints -/
abbrev pSt : Type := Nat → Nat → Int32
def up2 (α : pSt) (v i : Nat) (x : Int32) : pSt := fun a => if a = v then upd (α a) i x else α a
theorem up2_ne {α : pSt} {v i a : Nat} {x : Int32} (h : ¬ a = v) : up2 α v i x a = α a := by simp [up2, h]
theorem up2_v {α : pSt} {v i : Nat} {x : Int32} : up2 α v i x v = upd (α v) i x := by simp [up2]
theorem up2_vv {α : pSt} {v i : Nat} {x : Int32} : up2 α v i x v i = x := by simp [up2, upd]
theorem up2_vn {α : pSt} {v i j : Nat} {x : Int32} (h : ¬ j = i) : up2 α v i x v j = α v j := by simp [up2, upd, h]
abbrev pE : Type := va_G × (Nat → ClassId) × (Nat → Nat)
abbrev pD (E : pE) : va_G := E.1
abbrev pC (E : pE) (k : Nat) : ClassId := E.2.1 k
abbrev pL (E : pE) (k : Nat) : Nat := E.2.2 k
abbrev pT (E : pE) : List (ClassId × FieldType) := [(pC E 0, .int), (pC E 1, .boolean), (pC E 2, .long), (pC E 3, .object "PlugRounds$PlugFile"), (pC E 4, .object "PlugRounds$Processor"), (pC E 5, .object "PlugRounds$Row")]
def pcap (r : Nat) : Nat := if r < 7 then 64 else 100
def pcl (E : pE) (α : pSt) (k : Nat) : va_E :=
  if k = 0 then .inr (11, [.ref (pL E 22), .ref (pL E 1), .ref (pL E 2), .ref (pL E 8), .ref (pL E 3), .ref (pL E 5), .ref (pL E 6), .ref (pL E 7), .int (α 22 0)])
  else if k = 1 then .inl (pC E 3, 6, .inr (.inr (.inr (.inr (fun i => some (pL E (10 + i)))))))
  else if k = 2 then .inr (9, [.ref (pL E 3), .ref (pL E 5), .ref (pL E 6), .ref (pL E 7), .ref (pL E 8), .ref (pL E 9), .int (α 13 0), .int (α 14 0), .int (α 15 0), .int (α 16 0), .int (α 17 0), .int (α 18 0), .int (α 19 0), .int (α 20 0), .int (α 21 0)])
  else if k = 3 then .inr (6, [.ref (pL E 4), .int (α 10 0)])
  else if k = 4 then .inl (pC E 4, 6, .inr (.inr (.inr (.inr (fun i => some (pL E (16 + i)))))))
  else if k = 5 then .inr (10, [.ref (pL E 50), .ref (pL E 51), .ref (pL E 52), .ref (pL E 53), .ref (pL E 54), .int (α 11 0)])
  else if k = 6 then .inr (3, [.ref (pL E 55), .int (α 12 0)])
  else if k = 7 then .inr (7, [.ref (pL E 56)])
  else if k = 8 then .inl (pC E 0, 4, .inl (α 23))
  else if k = 9 then .inl (pC E 0, 8, .inl (α 24))
  else if k < 16 then .inr (4, [.ref (pL E (22 + (1 + (k - 10)))), .int (α 2 (k - 10)), .int (α 3 (k - 10))])
  else if k < 22 then .inr (5, [.ref (pL E (44 + (k - 16))), .int (α 4 (k - 16)), .int (α 5 (k - 16)), .int (α 6 (k - 16)), .int (α 7 (k - 16)), .int (α 8 (k - 16)), .int (α 9 (k - 16))])
  else if k < 33 then .inr (8, [.ref (pL E (33 + (k - 22))), .int (α 0 (k - 22)), .int (α 1 (k - 22))])
  else if k < 44 then .inl (pC E 0, pcap (k - 33), .inl (α (40 + (k - 33))))
  else if k < 50 then .inl (pC E 0, 48, .inl (α (60 + (k - 44))))
  else if k = 50 then .inl (pC E 0, 40, .inl (α 25))
  else if k = 51 then .inl (pC E 0, 40, .inl (α 26))
  else if k = 52 then .inl (pC E 1, 40, .inl (α 27))
  else if k = 53 then .inl (pC E 0, 40, .inl (α 28))
  else if k = 54 then .inl (pC E 0, 40, .inl (α 29))
  else if k = 55 then .inl (pC E 0, 600, .inl (α 30))
  else .inl (pC E 5, 4, .inr (.inr (.inr (.inr (fun i => some (pL E (22 + (7 + i))))))))
def pml (E : pE) (β : pSt) (k : Nat) : va_E :=
  if k = 57 then .inr (12, [.int (β 0 0), .int (β 1 0), .ref (pL E 58), .ref (pL E 59), .ref (pL E 60), .ref (pL E 61), .ref (pL E 62), .int (β 7 0), .ref (pL E 63), .ref (pL E 64), .ref (pL E 65), .ref (pL E 66), .ref (pL E 67), .ref (pL E 68), .ref (pL E 69), .int (β 15 0), .ref (pL E 70), .ref (pL E 71), .ref (pL E 72), .ref (pL E 73), .ref (pL E 74), .ref (pL E 75), .int (β 22 0), .ref (pL E 76), .ref (pL E 77), .ref (pL E 78), .int (β 26 0), .ref (pL E 79), .int (β 28 0), .int (β 29 0), .int (β 30 0), .int (β 31 0), .int (β 32 0), .int (β 33 0), .int (β 34 0), .ref (pL E 80)])
  else if k = 58 then .inl (pC E 0, 64, .inl (β 2))
  else if k = 59 then .inl (pC E 0, 6, .inl (β 3))
  else if k = 60 then .inl (pC E 0, 384, .inl (β 4))
  else if k = 61 then .inl (pC E 1, 6, .inl (β 5))
  else if k = 62 then .inl (pC E 1, 6, .inl (β 6))
  else if k = 63 then .inl (pC E 0, 6, .inl (β 8))
  else if k = 64 then .inl (pC E 0, 6, .inl (β 9))
  else if k = 65 then .inl (pC E 0, 288, .inl (β 10))
  else if k = 66 then .inl (pC E 0, 6, .inl (β 11))
  else if k = 67 then .inl (pC E 0, 6, .inl (β 12))
  else if k = 68 then .inl (pC E 1, 6, .inl (β 13))
  else if k = 69 then .inl (pC E 0, 6, .inl (β 14))
  else if k = 70 then .inl (pC E 0, 40, .inl (β 16))
  else if k = 71 then .inl (pC E 0, 40, .inl (β 17))
  else if k = 72 then .inl (pC E 1, 40, .inl (β 18))
  else if k = 73 then .inl (pC E 0, 40, .inl (β 19))
  else if k = 74 then .inl (pC E 0, 40, .inl (β 20))
  else if k = 75 then .inl (pC E 0, 4, .inl (β 21))
  else if k = 76 then .inl (pC E 0, 4, .inl (β 23))
  else if k = 77 then .inl (pC E 0, 4, .inl (β 24))
  else if k = 78 then .inl (pC E 0, 400, .inl (β 25))
  else if k = 79 then .inl (pC E 0, 600, .inl (β 27))
  else .inl (pC E 0, 8, .inl (β 35))
def pe (E : pE) (α β : pSt) (k : Nat) : va_E := if k < 57 then pcl E α k else pml E β k
def pw (E : pE) (α β : pSt) : va_W := (List.range 81).map (fun k => (pL E k, pe E α β k))
theorem pw_at {E : pE} {α β : pSt} {k : Nat} (h : k < 81) : (pw E α β)[k]? = some (pL E k, pe E α β k) := by simp [pw, h]
theorem pw_lt {E : pE} {α β : pSt} {k : Nat} {q : Nat × va_E} (h : (pw E α β)[k]? = some q) : k < 81 ∧ q = (pL E k, pe E α β k) := by
  have h1 : k < 81 := by
    rcases Nat.lt_or_ge k 81 with h1 | h1
    · exact h1
    · rw [List.getElem?_eq_none (by simp [pw]; exact h1)] at h; cases h
  rw [pw_at h1] at h
  exact ⟨h1, (Option.some.inj h).symm⟩
theorem pw_is {E : pE} {α β : pSt} {k : Nat} {e : va_E} (h : k < 81) (he : pe E α β k = e) : (pw E α β)[k]? = some (pL E k, e) := by rw [pw_at h, he]
theorem pw_set {E : pE} {α β α' β' : pSt} {k : Nat} {e : va_E} (he : pe E α' β' k = e) (ho : ∀ j, j < 81 → ¬ j = k → pe E α' β' j = pe E α β j) : (pw E α β).set k (pL E k, e) = pw E α' β' := by
  apply List.ext_getElem?
  intro j
  rw [List.getElem?_set]
  rcases Nat.lt_or_ge j 81 with h1 | h1
  · by_cases hjk : k = j
    · subst hjk
      rw [if_pos rfl, if_pos (by simp [pw]; exact h1), pw_at h1, he]
    · rw [if_neg hjk, pw_at h1, pw_at h1, ho j h1 (fun h => hjk h.symm)]
  · have e1 : (pw E α' β')[j]? = none := List.getElem?_eq_none (by simp [pw]; exact h1)
    have e2 : (pw E α β)[j]? = none := List.getElem?_eq_none (by simp [pw]; exact h1)
    by_cases hjk : k = j
    · subst hjk
      rw [if_pos rfl, if_neg (by simp [pw]; omega), e1]
    · rw [if_neg hjk, e2, e1]
theorem pif {a b a' b' : va_E} {c : Prop} [Decidable c] (h1 : c → a = a') (h2 : ¬ c → b = b') : (if c then a else b) = (if c then a' else b') := by
  by_cases h : c
  · rw [if_pos h, if_pos h]; exact h1 h
  · rw [if_neg h, if_neg h]; exact h2 h
/-- the places are apart -/
def pInj (E : pE) : Prop := ∀ i j : Nat, i < 81 → j < 81 → pL E i = pL E j → i = j
/-- what a method may change: the world, and what is new -/
def pA (E : pE) (sz : Nat) : Nat → Prop := fun q => (∃ k, k < 81 ∧ q = pL E k) ∨ sz ≤ q
theorem pw_D {E : pE} {α β : pSt} {sz : Nat} (h : pInj E) : va_D (pA E sz) (pw E α β) := by
  refine ⟨fun i j p q hi hj hpq => ?_, fun k q hk => ?_⟩
  · obtain ⟨h1, rfl⟩ := pw_lt hi
    obtain ⟨h2, rfl⟩ := pw_lt hj
    exact h i j h1 h2 hpq
  · obtain ⟨h1, rfl⟩ := pw_lt hk
    exact Or.inl ⟨k, h1, rfl⟩
/-- the tables' words that a call keeps -/
def pTab (U : State) : Prop := (∀ w ∈ lw_tbl, goodWord w = true → ∀ a : Array Value, w.before a U = true) ∧ (∀ a i b n d h, Cond.fieldLinkNest a i b n d h ∈ lw_tbl → va_Nw (.fieldLinkNest a i b n d h) U) ∧ (∀ a i x h, Cond.methodLinkNest a i x h ∈ lw_tbl → va_Nw (.methodLinkNest a i x h) U)
theorem pTab.warm {s U : State} (hW : s.WarmedH U.vm) (h : pTab s) : pTab U :=
  ⟨fun w hw hg a => word_at hW (good_of_word hg) (h.1 w hw hg #[]), fun a i b n d h' hm => va_Nw.warmF hW (h.2.1 a i b n d h' hm), fun a i x h' hm => va_Nw.warmM hW (h.2.2 a i x h' hm)⟩
theorem pTab.calling {U : State} {g : JFrame} {mk : MethodId} {a : Array Value} (h : pTab U) : pTab (U.calling g mk a) :=
  ⟨fun w hw hg a' => word_at (U := U.calling g mk a) (State.WarmedH.refl U) (good_of_word hg) (h.1 w hw hg #[]), fun a1 i b n d h' hm => va_Nw.same rfl rfl (h.2.1 a1 i b n d h' hm), fun a1 i x h' hm => va_Nw.same rfl rfl (h.2.2 a1 i x h' hm)⟩
/-- a contract: from the state (α, β) the method returns v with the state (α', β') -/
def pM (l : Launch) (E : pE) (y : MethodName) (cc : ByteArray) (maxL : Nat) (ret : Option FieldType) (d : Nat) (av : List Value) (α β : pSt) (v : Option Value) (α' β' : pSt) : Prop :=
  ∀ sz : Nat, Met l y [.code y cc maxL ret] ({ frames := d, cells := 0, slots := 0, locals := 40 * d }) (va_Pc av (fun U => pTab U ∧ U.heap.size = sz ∧ va_P (pD E) vwCl (pw E α β) U.heap ∧ va_K (pD E) vwCl (pT E) U)) (fun _ st oc t => oc = .returned v ∧ va_P (pD E) vwCl (pw E α' β') t.heap ∧ va_F (pA E sz) st t) 0 0 (pA E sz)
/-- what holds all through a body -/
def pCx (p : Program) (s : State) (m : MethodId) (c : Code) (cc : ByteArray) (nL : Nat) (E : pE) (own : String) : Prop :=
  p.tables.exec = Jvm.exec ∧ c.code = cc ∧ c.maxLocals = nL ∧ s.vm.findClass own = some m.cls ∧ pTab s ∧ va_K (pD E) vwCl (pT E) s ∧ pInj E
theorem pM.ofW {l : Launch} {E : pE} {y : MethodName} {cc : ByteArray} {maxL : Nat} {ret : Option FieldType} {d : Nat} {av : List Value} {α β α' β' : pSt} {v : Option Value} (hE : pInj E) (hy : plainName y.cls = true)
    (body : ∀ (p : Program) (e : Env) (s : State) (m : MethodId) (below : List Frame) (meth : Method) (c : Code) (ls : Array Slot), pCx p s m c cc maxL E y.cls → meth.sig.returnType = ret → meth.locks = false → va_P (pD E) vwCl (pw E α β) s.heap → lv_has ls maxL (lv_args 0 av) →
      W p l e ({ frames := d, cells := 0, slots := 0, locals := 40 * d } : Room) s m av.toArray below meth c s.heap [] 0 0 (MQ below (fun _ st oc t => oc = .returned v ∧ va_P (pD E) vwCl (pw E α' β') t.heap ∧ va_F (pA E s.heap.size) st t) av.toArray s 0 0 (pA E s.heap.size)) (F0 m 0 ls []))
    (hlen : (lg_sl av).length ≤ maxL) : pM l E y cc maxL ret d av α β v α' β' := by
  intro sz
  refine Met.ofW (cc := cc) (maxL := maxL) (ret := ret) hy rfl ?_
  intro p e s m args below meth c s₁ B hml hv
  obtain ⟨rfl, hT, rfl, hP, hK⟩ := hv
  have hl := lv_entry av (n := maxL) hlen
  rw [lg_entry_eq]
  exact body p e s m below meth c _ ⟨B.exec, B.bytes, hml, findClass_of_methodNamed B.named, hT, hK, hE⟩ B.returns B.notSynchronized hP hl
end
section
/-! what each place of the world holds; a write; a row for each kind of access -/
def pin (i : Int32) (n : Nat) : Bool := decide (0 ≤ i) && decide (i.toNatClampNeg < n)
theorem pin_ok {i : Int32} {n : Nat} (h : pin i n = true) : vp_in i n := by
  simp only [pin, Bool.and_eq_true, decide_eq_true_eq] at h
  rintro (h1 | h1)
  · have h2 := h.1
    rw [Int32.le_iff_toInt_le] at h2
    rw [Int32.lt_iff_toInt_lt] at h1
    omega
  · omega
theorem pin_lt {i : Int32} {n : Nat} (h : pin i n = true) : i.toNatClampNeg < n := by
  simp only [pin, Bool.and_eq_true, decide_eq_true_eq] at h
  exact h.2
/-- a guard: what the machine would not do is none -/
def pg {τ : Type} (b : Bool) (x : Option τ) : Option τ := if b = true then x else none
theorem pg_ok {τ : Type} {b : Bool} {x : Option τ} {y : τ} (h : pg b x = some y) : b = true ∧ x = some y := by
  unfold pg at h
  by_cases hb : b = true
  · rw [if_pos hb] at h; exact ⟨hb, h⟩
  · rw [if_neg hb] at h; cases h
theorem pb_ok {σ τ : Type} {x : Option σ} {f : σ → Option τ} {y : τ} (h : x.bind f = some y) : ∃ z, x = some z ∧ f z = some y := by
  cases x with
  | none => cases h
  | some z => exact ⟨z, rfl, h⟩
theorem pif_t {τ : Type} {c : Prop} [Decidable c] {a b : Option τ} {y : τ} (h : (if c then a else b) = some y) (hc : c) : a = some y := by rw [if_pos hc] at h; exact h
theorem pif_f {τ : Type} {c : Prop} [Decidable c] {a b : Option τ} {y : τ} (h : (if c then a else b) = some y) (hc : ¬ c) : b = some y := by rw [if_neg hc] at h; exact h
def pO {τ : Type} (r : Option Nat) (a : τ) (b : Nat → τ) : τ := match r with
  | none => a
  | some i => b i
/-- 0 or 1 -/
def pbl (x : Int32) : Bool := decide (x = 0) || decide (x = 1)
theorem pbl_ok {x : Int32} (h : pbl x = true) : x = 0 ∨ x = 1 := by
  simp only [pbl, Bool.or_eq_true, decide_eq_true_eq] at h
  exact h
theorem pz_n {x : Int32} (h : x = 0 ∨ x = 1) : narrow .boolean (.int x) = .int x := by rcases h with rfl | rfl <;> decide
theorem pz_f {x : Int32} (h : x = 0 ∨ x = 1) : fits .boolean (.int x) = true := by rcases h with rfl | rfl <;> decide
theorem pz_v {x : Int32} (h : x = 0 ∨ x = 1) : vp_nar .boolean x = x := by rcases h with rfl | rfl <;> decide

theorem e_X9 {E : pE} {α β : pSt} : (pw E α β)[0]? = some (pL E 0, .inr (11, [.ref (pL E (22 + 0)), .ref (pL E 1), .ref (pL E 2), .ref (pL E 8), .ref (pL E 3), .ref (pL E 5), .ref (pL E 6), .ref (pL E 7), .int (α 22 0)])) := pw_is (by decide) rfl
theorem e_X7 {E : pE} {α β : pSt} : (pw E α β)[2]? = some (pL E 2, .inr (9, [.ref (pL E 3), .ref (pL E 5), .ref (pL E 6), .ref (pL E 7), .ref (pL E 8), .ref (pL E 9), .int (α 13 0), .int (α 14 0), .int (α 15 0), .int (α 16 0), .int (α 17 0), .int (α 18 0), .int (α 19 0), .int (α 20 0), .int (α 21 0)])) := pw_is (by decide) rfl
theorem e_X4 {E : pE} {α β : pSt} : (pw E α β)[3]? = some (pL E 3, .inr (6, [.ref (pL E 4), .int (α 10 0)])) := pw_is (by decide) rfl
theorem e_X8 {E : pE} {α β : pSt} : (pw E α β)[5]? = some (pL E 5, .inr (10, [.ref (pL E 50), .ref (pL E 51), .ref (pL E 52), .ref (pL E 53), .ref (pL E 54), .int (α 11 0)])) := pw_is (by decide) rfl
theorem e_X1 {E : pE} {α β : pSt} : (pw E α β)[6]? = some (pL E 6, .inr (3, [.ref (pL E 55), .int (α 12 0)])) := pw_is (by decide) rfl
theorem e_X5 {E : pE} {α β : pSt} : (pw E α β)[7]? = some (pL E 7, .inr (7, [.ref (pL E 56)])) := pw_is (by decide) rfl
theorem e_X2 {E : pE} {α β : pSt} {k : Nat} (hk : k < 6) : (pw E α β)[(10 + k)]? = some (pL E (10 + k), .inr (4, [.ref (pL E (22 + (1 + k))), .int (α 2 k), .int (α 3 k)])) := pw_is (by omega) (by simp (disch := omega) only [pe, pcl, pml, if_pos, if_neg, Nat.add_sub_cancel_left])
theorem e_X3 {E : pE} {α β : pSt} {k : Nat} (hk : k < 6) : (pw E α β)[(16 + k)]? = some (pL E (16 + k), .inr (5, [.ref (pL E (44 + k)), .int (α 4 k), .int (α 5 k), .int (α 6 k), .int (α 7 k), .int (α 8 k), .int (α 9 k)])) := pw_is (by omega) (by simp (disch := omega) only [pe, pcl, pml, if_pos, if_neg, Nat.add_sub_cancel_left])
theorem e_X6 {E : pE} {α β : pSt} {k : Nat} (hk : k < 11) : (pw E α β)[(22 + k)]? = some (pL E (22 + k), .inr (8, [.ref (pL E (33 + k)), .int (α 0 k), .int (α 1 k)])) := pw_is (by omega) (by simp (disch := omega) only [pe, pcl, pml, if_pos, if_neg, Nat.add_sub_cancel_left])
theorem e_X10 {E : pE} {α β : pSt} : (pw E α β)[57]? = some (pL E 57, .inr (12, [.int (β 0 0), .int (β 1 0), .ref (pL E 58), .ref (pL E 59), .ref (pL E 60), .ref (pL E 61), .ref (pL E 62), .int (β 7 0), .ref (pL E 63), .ref (pL E 64), .ref (pL E 65), .ref (pL E 66), .ref (pL E 67), .ref (pL E 68), .ref (pL E 69), .int (β 15 0), .ref (pL E 70), .ref (pL E 71), .ref (pL E 72), .ref (pL E 73), .ref (pL E 74), .ref (pL E 75), .int (β 22 0), .ref (pL E 76), .ref (pL E 77), .ref (pL E 78), .int (β 26 0), .ref (pL E 79), .int (β 28 0), .int (β 29 0), .int (β 30 0), .int (β 31 0), .int (β 32 0), .int (β 33 0), .int (β 34 0), .ref (pL E 80)])) := pw_is (by decide) rfl
theorem e_files {E : pE} {α β : pSt} : (pw E α β)[1]? = some (pL E 1, .inl (pC E 3, 6, .inr (.inr (.inr (.inr (fun i => some (pL E (10 + i)))))))) := pw_is (by decide) rfl
theorem e_all {E : pE} {α β : pSt} : (pw E α β)[4]? = some (pL E 4, .inl (pC E 4, 6, .inr (.inr (.inr (.inr (fun i => some (pL E (16 + i)))))))) := pw_is (by decide) rfl
theorem e_rows {E : pE} {α β : pSt} : (pw E α β)[56]? = some (pL E 56, .inl (pC E 5, 4, .inr (.inr (.inr (.inr (fun i => some (pL E (22 + (7 + i))))))))) := pw_is (by decide) rfl
theorem e_options {E : pE} {α β : pSt} : (pw E α β)[8]? = some (pL E 8, .inl (pC E 0, 4, .inl (α 23))) := pw_is (by decide) rfl
theorem e_claimants {E : pE} {α β : pSt} : (pw E α β)[9]? = some (pL E 9, .inl (pC E 0, 8, .inl (α 24))) := pw_is (by decide) rfl
theorem e_names {E : pE} {α β : pSt} : (pw E α β)[50]? = some (pL E 50, .inl (pC E 0, 40, .inl (α 25))) := pw_is (by decide) rfl
theorem e_markSets {E : pE} {α β : pSt} : (pw E α β)[51]? = some (pL E 51, .inl (pC E 0, 40, .inl (α 26))) := pw_is (by decide) rfl
theorem e_fresh {E : pE} {α β : pSt} : (pw E α β)[52]? = some (pL E 52, .inl (pC E 1, 40, .inl (α 27))) := pw_is (by decide) rfl
theorem e_makers {E : pE} {α β : pSt} : (pw E α β)[53]? = some (pL E 53, .inl (pC E 0, 40, .inl (α 28))) := pw_is (by decide) rfl
theorem e_madeIn {E : pE} {α β : pSt} : (pw E α β)[54]? = some (pL E 54, .inl (pC E 0, 40, .inl (α 29))) := pw_is (by decide) rfl
theorem e_mparts {E : pE} {α β : pSt} : (pw E α β)[55]? = some (pL E 55, .inl (pC E 0, 600, .inl (α 30))) := pw_is (by decide) rfl
theorem e_bytes {E : pE} {α β : pSt} {k : Nat} (hk : k < 11) : (pw E α β)[(33 + k)]? = some (pL E (33 + k), .inl (pC E 0, pcap k, .inl (α (40 + k)))) := pw_is (by omega) (by simp (disch := omega) only [pe, pcl, pml, if_pos, if_neg, Nat.add_sub_cancel_left])
theorem e_parts {E : pE} {α β : pSt} {k : Nat} (hk : k < 6) : (pw E α β)[(44 + k)]? = some (pL E (44 + k), .inl (pC E 0, 48, .inl (α (60 + k)))) := pw_is (by omega) (by simp (disch := omega) only [pe, pcl, pml, if_pos, if_neg, Nat.add_sub_cancel_left])
theorem e_m_tape {E : pE} {α β : pSt} : (pw E α β)[58]? = some (pL E 58, .inl (pC E 0, 64, .inl (β 2))) := pw_is (by decide) rfl
theorem e_m_size {E : pE} {α β : pSt} : (pw E α β)[59]? = some (pL E 59, .inl (pC E 0, 6, .inl (β 3))) := pw_is (by decide) rfl
theorem e_m_file {E : pE} {α β : pSt} : (pw E α β)[60]? = some (pL E 60, .inl (pC E 0, 384, .inl (β 4))) := pw_is (by decide) rfl
theorem e_m_fails {E : pE} {α β : pSt} : (pw E α β)[61]? = some (pL E 61, .inl (pC E 1, 6, .inl (β 5))) := pw_is (by decide) rfl
theorem e_m_failed {E : pE} {α β : pSt} : (pw E α β)[62]? = some (pL E 62, .inl (pC E 1, 6, .inl (β 6))) := pw_is (by decide) rfl
theorem e_m_fileOf {E : pE} {α β : pSt} : (pw E α β)[63]? = some (pL E 63, .inl (pC E 0, 6, .inl (β 8))) := pw_is (by decide) rfl
theorem e_m_rules {E : pE} {α β : pSt} : (pw E α β)[64]? = some (pL E 64, .inl (pC E 0, 6, .inl (β 9))) := pw_is (by decide) rfl
theorem e_m_rule {E : pE} {α β : pSt} : (pw E α β)[65]? = some (pL E 65, .inl (pC E 0, 288, .inl (β 10))) := pw_is (by decide) rfl
theorem e_m_cells {E : pE} {α β : pSt} : (pw E α β)[66]? = some (pL E 66, .inl (pC E 0, 6, .inl (β 11))) := pw_is (by decide) rfl
theorem e_m_cellWas {E : pE} {α β : pSt} : (pw E α β)[67]? = some (pL E 67, .inl (pC E 0, 6, .inl (β 12))) := pw_is (by decide) rfl
theorem e_m_stopped {E : pE} {α β : pSt} : (pw E α β)[68]? = some (pL E 68, .inl (pC E 1, 6, .inl (β 13))) := pw_is (by decide) rfl
theorem e_m_took {E : pE} {α β : pSt} : (pw E α β)[69]? = some (pL E 69, .inl (pC E 0, 6, .inl (β 14))) := pw_is (by decide) rfl
theorem e_m_name {E : pE} {α β : pSt} : (pw E α β)[70]? = some (pL E 70, .inl (pC E 0, 40, .inl (β 16))) := pw_is (by decide) rfl
theorem e_m_marks {E : pE} {α β : pSt} : (pw E α β)[71]? = some (pL E 71, .inl (pC E 0, 40, .inl (β 17))) := pw_is (by decide) rfl
theorem e_m_isNew {E : pE} {α β : pSt} : (pw E α β)[72]? = some (pL E 72, .inl (pC E 1, 40, .inl (β 18))) := pw_is (by decide) rfl
theorem e_m_maker {E : pE} {α β : pSt} : (pw E α β)[73]? = some (pL E 73, .inl (pC E 0, 40, .inl (β 19))) := pw_is (by decide) rfl
theorem e_m_madeIn {E : pE} {α β : pSt} : (pw E α β)[74]? = some (pL E 74, .inl (pC E 0, 40, .inl (β 20))) := pw_is (by decide) rfl
theorem e_m_options {E : pE} {α β : pSt} : (pw E α β)[75]? = some (pL E 75, .inl (pC E 0, 4, .inl (β 21))) := pw_is (by decide) rfl
theorem e_m_written {E : pE} {α β : pSt} : (pw E α β)[76]? = some (pL E 76, .inl (pC E 0, 4, .inl (β 23))) := pw_is (by decide) rfl
theorem e_m_writtenWas {E : pE} {α β : pSt} : (pw E α β)[77]? = some (pL E 77, .inl (pC E 0, 4, .inl (β 24))) := pw_is (by decide) rfl
theorem e_m_resource {E : pE} {α β : pSt} : (pw E α β)[78]? = some (pL E 78, .inl (pC E 0, 400, .inl (β 25))) := pw_is (by decide) rfl
theorem e_m_message {E : pE} {α β : pSt} : (pw E α β)[79]? = some (pL E 79, .inl (pC E 0, 600, .inl (β 27))) := pw_is (by decide) rfl
theorem e_m_claimer {E : pE} {α β : pSt} : (pw E α β)[80]? = some (pL E 80, .inl (pC E 0, 8, .inl (β 35))) := pw_is (by decide) rfl
theorem t_X9_passes {E : pE} {α β : pSt} (v : Int32) : (pw E α β).set 0 (pL E 0, .inr (11, [.ref (pL E (22 + 0)), .ref (pL E 1), .ref (pL E 2), .ref (pL E 8), .ref (pL E 3), .ref (pL E 5), .ref (pL E 6), .ref (pL E 7), .int v])) = pw E (up2 α 22 0 v) β := by
  refine pw_set ?_ (fun j hj hne => ?_)
  · first | rfl | (simp (disch := omega) only [pe, pcl, pml, if_pos, if_neg, Nat.add_sub_cancel_left, up2_vv, up2_v, up2_vn, up2_ne])
  · unfold pe; refine pif (fun h1 => ?_) (fun _ => rfl); unfold pcl; repeat' refine pif (fun _ => ?_) (fun _ => ?_)
    all_goals first | rfl | (exfalso; omega) | (simp (disch := omega) only [up2_ne, up2_vn])
theorem t_X7_passes {E : pE} {α β : pSt} (v : Int32) : (pw E α β).set 2 (pL E 2, .inr (9, [.ref (pL E 3), .ref (pL E 5), .ref (pL E 6), .ref (pL E 7), .ref (pL E 8), .ref (pL E 9), .int v, .int (α 14 0), .int (α 15 0), .int (α 16 0), .int (α 17 0), .int (α 18 0), .int (α 19 0), .int (α 20 0), .int (α 21 0)])) = pw E (up2 α 13 0 v) β := by
  refine pw_set ?_ (fun j hj hne => ?_)
  · first | rfl | (simp (disch := omega) only [pe, pcl, pml, if_pos, if_neg, Nat.add_sub_cancel_left, up2_vv, up2_v, up2_vn, up2_ne])
  · unfold pe; refine pif (fun h1 => ?_) (fun _ => rfl); unfold pcl; repeat' refine pif (fun _ => ?_) (fun _ => ?_)
    all_goals first | rfl | (exfalso; omega) | (simp (disch := omega) only [up2_ne, up2_vn])
theorem t_X7_limit {E : pE} {α β : pSt} (v : Int32) : (pw E α β).set 2 (pL E 2, .inr (9, [.ref (pL E 3), .ref (pL E 5), .ref (pL E 6), .ref (pL E 7), .ref (pL E 8), .ref (pL E 9), .int (α 13 0), .int v, .int (α 15 0), .int (α 16 0), .int (α 17 0), .int (α 18 0), .int (α 19 0), .int (α 20 0), .int (α 21 0)])) = pw E (up2 α 14 0 v) β := by
  refine pw_set ?_ (fun j hj hne => ?_)
  · first | rfl | (simp (disch := omega) only [pe, pcl, pml, if_pos, if_neg, Nat.add_sub_cancel_left, up2_vv, up2_v, up2_vn, up2_ne])
  · unfold pe; refine pif (fun h1 => ?_) (fun _ => rfl); unfold pcl; repeat' refine pif (fun _ => ?_) (fun _ => ?_)
    all_goals first | rfl | (exfalso; omega) | (simp (disch := omega) only [up2_ne, up2_vn])
theorem t_X7_state {E : pE} {α β : pSt} (v : Int32) : (pw E α β).set 2 (pL E 2, .inr (9, [.ref (pL E 3), .ref (pL E 5), .ref (pL E 6), .ref (pL E 7), .ref (pL E 8), .ref (pL E 9), .int (α 13 0), .int (α 14 0), .int v, .int (α 16 0), .int (α 17 0), .int (α 18 0), .int (α 19 0), .int (α 20 0), .int (α 21 0)])) = pw E (up2 α 15 0 v) β := by
  refine pw_set ?_ (fun j hj hne => ?_)
  · first | rfl | (simp (disch := omega) only [pe, pcl, pml, if_pos, if_neg, Nat.add_sub_cancel_left, up2_vv, up2_v, up2_vn, up2_ne])
  · unfold pe; refine pif (fun h1 => ?_) (fun _ => rfl); unfold pcl; repeat' refine pif (fun _ => ?_) (fun _ => ?_)
    all_goals first | rfl | (exfalso; omega) | (simp (disch := omega) only [up2_ne, up2_vn])
theorem t_X7_steps {E : pE} {α β : pSt} (v : Int32) : (pw E α β).set 2 (pL E 2, .inr (9, [.ref (pL E 3), .ref (pL E 5), .ref (pL E 6), .ref (pL E 7), .ref (pL E 8), .ref (pL E 9), .int (α 13 0), .int (α 14 0), .int (α 15 0), .int v, .int (α 17 0), .int (α 18 0), .int (α 19 0), .int (α 20 0), .int (α 21 0)])) = pw E (up2 α 16 0 v) β := by
  refine pw_set ?_ (fun j hj hne => ?_)
  · first | rfl | (simp (disch := omega) only [pe, pcl, pml, if_pos, if_neg, Nat.add_sub_cancel_left, up2_vv, up2_v, up2_vn, up2_ne])
  · unfold pe; refine pif (fun h1 => ?_) (fun _ => rfl); unfold pcl; repeat' refine pif (fun _ => ?_) (fun _ => ?_)
    all_goals first | rfl | (exfalso; omega) | (simp (disch := omega) only [up2_ne, up2_vn])
theorem t_X7_rounds {E : pE} {α β : pSt} (v : Int32) : (pw E α β).set 2 (pL E 2, .inr (9, [.ref (pL E 3), .ref (pL E 5), .ref (pL E 6), .ref (pL E 7), .ref (pL E 8), .ref (pL E 9), .int (α 13 0), .int (α 14 0), .int (α 15 0), .int (α 16 0), .int v, .int (α 18 0), .int (α 19 0), .int (α 20 0), .int (α 21 0)])) = pw E (up2 α 17 0 v) β := by
  refine pw_set ?_ (fun j hj hne => ?_)
  · first | rfl | (simp (disch := omega) only [pe, pcl, pml, if_pos, if_neg, Nat.add_sub_cancel_left, up2_vv, up2_v, up2_vn, up2_ne])
  · unfold pe; refine pif (fun h1 => ?_) (fun _ => rfl); unfold pcl; repeat' refine pif (fun _ => ?_) (fun _ => ?_)
    all_goals first | rfl | (exfalso; omega) | (simp (disch := omega) only [up2_ne, up2_vn])
theorem t_X7_made {E : pE} {α β : pSt} (v : Int32) : (pw E α β).set 2 (pL E 2, .inr (9, [.ref (pL E 3), .ref (pL E 5), .ref (pL E 6), .ref (pL E 7), .ref (pL E 8), .ref (pL E 9), .int (α 13 0), .int (α 14 0), .int (α 15 0), .int (α 16 0), .int (α 17 0), .int v, .int (α 19 0), .int (α 20 0), .int (α 21 0)])) = pw E (up2 α 18 0 v) β := by
  refine pw_set ?_ (fun j hj hne => ?_)
  · first | rfl | (simp (disch := omega) only [pe, pcl, pml, if_pos, if_neg, Nat.add_sub_cancel_left, up2_vv, up2_v, up2_vn, up2_ne])
  · unfold pe; refine pif (fun h1 => ?_) (fun _ => rfl); unfold pcl; repeat' refine pif (fun _ => ?_) (fun _ => ?_)
    all_goals first | rfl | (exfalso; omega) | (simp (disch := omega) only [up2_ne, up2_vn])
theorem t_X7_doer {E : pE} {α β : pSt} (v : Int32) : (pw E α β).set 2 (pL E 2, .inr (9, [.ref (pL E 3), .ref (pL E 5), .ref (pL E 6), .ref (pL E 7), .ref (pL E 8), .ref (pL E 9), .int (α 13 0), .int (α 14 0), .int (α 15 0), .int (α 16 0), .int (α 17 0), .int (α 18 0), .int v, .int (α 20 0), .int (α 21 0)])) = pw E (up2 α 19 0 v) β := by
  refine pw_set ?_ (fun j hj hne => ?_)
  · first | rfl | (simp (disch := omega) only [pe, pcl, pml, if_pos, if_neg, Nat.add_sub_cancel_left, up2_vv, up2_v, up2_vn, up2_ne])
  · unfold pe; refine pif (fun h1 => ?_) (fun _ => rfl); unfold pcl; repeat' refine pif (fun _ => ?_) (fun _ => ?_)
    all_goals first | rfl | (exfalso; omega) | (simp (disch := omega) only [up2_ne, up2_vn])
theorem t_X7_met {E : pE} {α β : pSt} (v : Int32) : (pw E α β).set 2 (pL E 2, .inr (9, [.ref (pL E 3), .ref (pL E 5), .ref (pL E 6), .ref (pL E 7), .ref (pL E 8), .ref (pL E 9), .int (α 13 0), .int (α 14 0), .int (α 15 0), .int (α 16 0), .int (α 17 0), .int (α 18 0), .int (α 19 0), .int v, .int (α 21 0)])) = pw E (up2 α 20 0 v) β := by
  refine pw_set ?_ (fun j hj hne => ?_)
  · first | rfl | (simp (disch := omega) only [pe, pcl, pml, if_pos, if_neg, Nat.add_sub_cancel_left, up2_vv, up2_v, up2_vn, up2_ne])
  · unfold pe; refine pif (fun h1 => ?_) (fun _ => rfl); unfold pcl; repeat' refine pif (fun _ => ?_) (fun _ => ?_)
    all_goals first | rfl | (exfalso; omega) | (simp (disch := omega) only [up2_ne, up2_vn])
theorem t_X7_round {E : pE} {α β : pSt} (v : Int32) : (pw E α β).set 2 (pL E 2, .inr (9, [.ref (pL E 3), .ref (pL E 5), .ref (pL E 6), .ref (pL E 7), .ref (pL E 8), .ref (pL E 9), .int (α 13 0), .int (α 14 0), .int (α 15 0), .int (α 16 0), .int (α 17 0), .int (α 18 0), .int (α 19 0), .int (α 20 0), .int v])) = pw E (up2 α 21 0 v) β := by
  refine pw_set ?_ (fun j hj hne => ?_)
  · first | rfl | (simp (disch := omega) only [pe, pcl, pml, if_pos, if_neg, Nat.add_sub_cancel_left, up2_vv, up2_v, up2_vn, up2_ne])
  · unfold pe; refine pif (fun h1 => ?_) (fun _ => rfl); unfold pcl; repeat' refine pif (fun _ => ?_) (fun _ => ?_)
    all_goals first | rfl | (exfalso; omega) | (simp (disch := omega) only [up2_ne, up2_vn])
theorem t_X4_count {E : pE} {α β : pSt} (v : Int32) : (pw E α β).set 3 (pL E 3, .inr (6, [.ref (pL E 4), .int v])) = pw E (up2 α 10 0 v) β := by
  refine pw_set ?_ (fun j hj hne => ?_)
  · first | rfl | (simp (disch := omega) only [pe, pcl, pml, if_pos, if_neg, Nat.add_sub_cancel_left, up2_vv, up2_v, up2_vn, up2_ne])
  · unfold pe; refine pif (fun h1 => ?_) (fun _ => rfl); unfold pcl; repeat' refine pif (fun _ => ?_) (fun _ => ?_)
    all_goals first | rfl | (exfalso; omega) | (simp (disch := omega) only [up2_ne, up2_vn])
theorem t_X8_count {E : pE} {α β : pSt} (v : Int32) : (pw E α β).set 5 (pL E 5, .inr (10, [.ref (pL E 50), .ref (pL E 51), .ref (pL E 52), .ref (pL E 53), .ref (pL E 54), .int v])) = pw E (up2 α 11 0 v) β := by
  refine pw_set ?_ (fun j hj hne => ?_)
  · first | rfl | (simp (disch := omega) only [pe, pcl, pml, if_pos, if_neg, Nat.add_sub_cancel_left, up2_vv, up2_v, up2_vn, up2_ne])
  · unfold pe; refine pif (fun h1 => ?_) (fun _ => rfl); unfold pcl; repeat' refine pif (fun _ => ?_) (fun _ => ?_)
    all_goals first | rfl | (exfalso; omega) | (simp (disch := omega) only [up2_ne, up2_vn])
theorem t_X1_count {E : pE} {α β : pSt} (v : Int32) : (pw E α β).set 6 (pL E 6, .inr (3, [.ref (pL E 55), .int v])) = pw E (up2 α 12 0 v) β := by
  refine pw_set ?_ (fun j hj hne => ?_)
  · first | rfl | (simp (disch := omega) only [pe, pcl, pml, if_pos, if_neg, Nat.add_sub_cancel_left, up2_vv, up2_v, up2_vn, up2_ne])
  · unfold pe; refine pif (fun h1 => ?_) (fun _ => rfl); unfold pcl; repeat' refine pif (fun _ => ?_) (fun _ => ?_)
    all_goals first | rfl | (exfalso; omega) | (simp (disch := omega) only [up2_ne, up2_vn])
theorem t_X2_startFails {E : pE} {α β : pSt} {k : Nat} (hk : k < 6) (v : Int32) : (pw E α β).set (10 + k) (pL E (10 + k), .inr (4, [.ref (pL E (22 + (1 + k))), .int v, .int (α 3 k)])) = pw E (up2 α 2 k v) β := by
  refine pw_set ?_ (fun j hj hne => ?_)
  · first | rfl | (simp (disch := omega) only [pe, pcl, pml, if_pos, if_neg, Nat.add_sub_cancel_left, up2_vv, up2_v, up2_vn, up2_ne])
  · unfold pe; refine pif (fun h1 => ?_) (fun _ => rfl); unfold pcl; repeat' refine pif (fun _ => ?_) (fun _ => ?_)
    all_goals first | rfl | (exfalso; omega) | (simp (disch := omega) only [up2_ne, up2_vn])
theorem t_X2_hasFailed {E : pE} {α β : pSt} {k : Nat} (hk : k < 6) (v : Int32) : (pw E α β).set (10 + k) (pL E (10 + k), .inr (4, [.ref (pL E (22 + (1 + k))), .int (α 2 k), .int v])) = pw E (up2 α 3 k v) β := by
  refine pw_set ?_ (fun j hj hne => ?_)
  · first | rfl | (simp (disch := omega) only [pe, pcl, pml, if_pos, if_neg, Nat.add_sub_cancel_left, up2_vv, up2_v, up2_vn, up2_ne])
  · unfold pe; refine pif (fun h1 => ?_) (fun _ => rfl); unfold pcl; repeat' refine pif (fun _ => ?_) (fun _ => ?_)
    all_goals first | rfl | (exfalso; omega) | (simp (disch := omega) only [up2_ne, up2_vn])
theorem t_X3_file {E : pE} {α β : pSt} {k : Nat} (hk : k < 6) (v : Int32) : (pw E α β).set (16 + k) (pL E (16 + k), .inr (5, [.ref (pL E (44 + k)), .int v, .int (α 5 k), .int (α 6 k), .int (α 7 k), .int (α 8 k), .int (α 9 k)])) = pw E (up2 α 4 k v) β := by
  refine pw_set ?_ (fun j hj hne => ?_)
  · first | rfl | (simp (disch := omega) only [pe, pcl, pml, if_pos, if_neg, Nat.add_sub_cancel_left, up2_vv, up2_v, up2_vn, up2_ne])
  · unfold pe; refine pif (fun h1 => ?_) (fun _ => rfl); unfold pcl; repeat' refine pif (fun _ => ?_) (fun _ => ?_)
    all_goals first | rfl | (exfalso; omega) | (simp (disch := omega) only [up2_ne, up2_vn])
theorem t_X3_rules {E : pE} {α β : pSt} {k : Nat} (hk : k < 6) (v : Int32) : (pw E α β).set (16 + k) (pL E (16 + k), .inr (5, [.ref (pL E (44 + k)), .int (α 4 k), .int v, .int (α 6 k), .int (α 7 k), .int (α 8 k), .int (α 9 k)])) = pw E (up2 α 5 k v) β := by
  refine pw_set ?_ (fun j hj hne => ?_)
  · first | rfl | (simp (disch := omega) only [pe, pcl, pml, if_pos, if_neg, Nat.add_sub_cancel_left, up2_vv, up2_v, up2_vn, up2_ne])
  · unfold pe; refine pif (fun h1 => ?_) (fun _ => rfl); unfold pcl; repeat' refine pif (fun _ => ?_) (fun _ => ?_)
    all_goals first | rfl | (exfalso; omega) | (simp (disch := omega) only [up2_ne, up2_vn])
theorem t_X3_value {E : pE} {α β : pSt} {k : Nat} (hk : k < 6) (v : Int32) : (pw E α β).set (16 + k) (pL E (16 + k), .inr (5, [.ref (pL E (44 + k)), .int (α 4 k), .int (α 5 k), .int v, .int (α 7 k), .int (α 8 k), .int (α 9 k)])) = pw E (up2 α 6 k v) β := by
  refine pw_set ?_ (fun j hj hne => ?_)
  · first | rfl | (simp (disch := omega) only [pe, pcl, pml, if_pos, if_neg, Nat.add_sub_cancel_left, up2_vv, up2_v, up2_vn, up2_ne])
  · unfold pe; refine pif (fun h1 => ?_) (fun _ => rfl); unfold pcl; repeat' refine pif (fun _ => ?_) (fun _ => ?_)
    all_goals first | rfl | (exfalso; omega) | (simp (disch := omega) only [up2_ne, up2_vn])
theorem t_X3_keptValue {E : pE} {α β : pSt} {k : Nat} (hk : k < 6) (v : Int32) : (pw E α β).set (16 + k) (pL E (16 + k), .inr (5, [.ref (pL E (44 + k)), .int (α 4 k), .int (α 5 k), .int (α 6 k), .int v, .int (α 8 k), .int (α 9 k)])) = pw E (up2 α 7 k v) β := by
  refine pw_set ?_ (fun j hj hne => ?_)
  · first | rfl | (simp (disch := omega) only [pe, pcl, pml, if_pos, if_neg, Nat.add_sub_cancel_left, up2_vv, up2_v, up2_vn, up2_ne])
  · unfold pe; refine pif (fun h1 => ?_) (fun _ => rfl); unfold pcl; repeat' refine pif (fun _ => ?_) (fun _ => ?_)
    all_goals first | rfl | (exfalso; omega) | (simp (disch := omega) only [up2_ne, up2_vn])
theorem t_X3_stopped {E : pE} {α β : pSt} {k : Nat} (hk : k < 6) (v : Int32) : (pw E α β).set (16 + k) (pL E (16 + k), .inr (5, [.ref (pL E (44 + k)), .int (α 4 k), .int (α 5 k), .int (α 6 k), .int (α 7 k), .int v, .int (α 9 k)])) = pw E (up2 α 8 k v) β := by
  refine pw_set ?_ (fun j hj hne => ?_)
  · first | rfl | (simp (disch := omega) only [pe, pcl, pml, if_pos, if_neg, Nat.add_sub_cancel_left, up2_vv, up2_v, up2_vn, up2_ne])
  · unfold pe; refine pif (fun h1 => ?_) (fun _ => rfl); unfold pcl; repeat' refine pif (fun _ => ?_) (fun _ => ?_)
    all_goals first | rfl | (exfalso; omega) | (simp (disch := omega) only [up2_ne, up2_vn])
theorem t_X3_steps {E : pE} {α β : pSt} {k : Nat} (hk : k < 6) (v : Int32) : (pw E α β).set (16 + k) (pL E (16 + k), .inr (5, [.ref (pL E (44 + k)), .int (α 4 k), .int (α 5 k), .int (α 6 k), .int (α 7 k), .int (α 8 k), .int v])) = pw E (up2 α 9 k v) β := by
  refine pw_set ?_ (fun j hj hne => ?_)
  · first | rfl | (simp (disch := omega) only [pe, pcl, pml, if_pos, if_neg, Nat.add_sub_cancel_left, up2_vv, up2_v, up2_vn, up2_ne])
  · unfold pe; refine pif (fun h1 => ?_) (fun _ => rfl); unfold pcl; repeat' refine pif (fun _ => ?_) (fun _ => ?_)
    all_goals first | rfl | (exfalso; omega) | (simp (disch := omega) only [up2_ne, up2_vn])
theorem t_X6_length {E : pE} {α β : pSt} {k : Nat} (hk : k < 11) (v : Int32) : (pw E α β).set (22 + k) (pL E (22 + k), .inr (8, [.ref (pL E (33 + k)), .int v, .int (α 1 k)])) = pw E (up2 α 0 k v) β := by
  refine pw_set ?_ (fun j hj hne => ?_)
  · first | rfl | (simp (disch := omega) only [pe, pcl, pml, if_pos, if_neg, Nat.add_sub_cancel_left, up2_vv, up2_v, up2_vn, up2_ne])
  · unfold pe; refine pif (fun h1 => ?_) (fun _ => rfl); unfold pcl; repeat' refine pif (fun _ => ?_) (fun _ => ?_)
    all_goals first | rfl | (exfalso; omega) | (simp (disch := omega) only [up2_ne, up2_vn])
theorem t_X6_kept {E : pE} {α β : pSt} {k : Nat} (hk : k < 11) (v : Int32) : (pw E α β).set (22 + k) (pL E (22 + k), .inr (8, [.ref (pL E (33 + k)), .int (α 0 k), .int v])) = pw E (up2 α 1 k v) β := by
  refine pw_set ?_ (fun j hj hne => ?_)
  · first | rfl | (simp (disch := omega) only [pe, pcl, pml, if_pos, if_neg, Nat.add_sub_cancel_left, up2_vv, up2_v, up2_vn, up2_ne])
  · unfold pe; refine pif (fun h1 => ?_) (fun _ => rfl); unfold pcl; repeat' refine pif (fun _ => ?_) (fun _ => ?_)
    all_goals first | rfl | (exfalso; omega) | (simp (disch := omega) only [up2_ne, up2_vn])
theorem t_X10_thrown {E : pE} {α β : pSt} (v : Int32) : (pw E α β).set 57 (pL E 57, .inr (12, [.int v, .int (β 1 0), .ref (pL E 58), .ref (pL E 59), .ref (pL E 60), .ref (pL E 61), .ref (pL E 62), .int (β 7 0), .ref (pL E 63), .ref (pL E 64), .ref (pL E 65), .ref (pL E 66), .ref (pL E 67), .ref (pL E 68), .ref (pL E 69), .int (β 15 0), .ref (pL E 70), .ref (pL E 71), .ref (pL E 72), .ref (pL E 73), .ref (pL E 74), .ref (pL E 75), .int (β 22 0), .ref (pL E 76), .ref (pL E 77), .ref (pL E 78), .int (β 26 0), .ref (pL E 79), .int (β 28 0), .int (β 29 0), .int (β 30 0), .int (β 31 0), .int (β 32 0), .int (β 33 0), .int (β 34 0), .ref (pL E 80)])) = pw E α (up2 β 0 0 v) := by
  refine pw_set ?_ (fun j hj hne => ?_)
  · first | rfl | (simp (disch := omega) only [pe, pcl, pml, if_pos, if_neg, Nat.add_sub_cancel_left, up2_vv, up2_v, up2_vn, up2_ne])
  · unfold pe; refine pif (fun _ => rfl) (fun h1 => ?_); unfold pml; repeat' refine pif (fun _ => ?_) (fun _ => ?_)
    all_goals first | rfl | (exfalso; omega) | (simp (disch := omega) only [up2_ne, up2_vn])
theorem t_X10_taped {E : pE} {α β : pSt} (v : Int32) : (pw E α β).set 57 (pL E 57, .inr (12, [.int (β 0 0), .int v, .ref (pL E 58), .ref (pL E 59), .ref (pL E 60), .ref (pL E 61), .ref (pL E 62), .int (β 7 0), .ref (pL E 63), .ref (pL E 64), .ref (pL E 65), .ref (pL E 66), .ref (pL E 67), .ref (pL E 68), .ref (pL E 69), .int (β 15 0), .ref (pL E 70), .ref (pL E 71), .ref (pL E 72), .ref (pL E 73), .ref (pL E 74), .ref (pL E 75), .int (β 22 0), .ref (pL E 76), .ref (pL E 77), .ref (pL E 78), .int (β 26 0), .ref (pL E 79), .int (β 28 0), .int (β 29 0), .int (β 30 0), .int (β 31 0), .int (β 32 0), .int (β 33 0), .int (β 34 0), .ref (pL E 80)])) = pw E α (up2 β 1 0 v) := by
  refine pw_set ?_ (fun j hj hne => ?_)
  · first | rfl | (simp (disch := omega) only [pe, pcl, pml, if_pos, if_neg, Nat.add_sub_cancel_left, up2_vv, up2_v, up2_vn, up2_ne])
  · unfold pe; refine pif (fun _ => rfl) (fun h1 => ?_); unfold pml; repeat' refine pif (fun _ => ?_) (fun _ => ?_)
    all_goals first | rfl | (exfalso; omega) | (simp (disch := omega) only [up2_ne, up2_vn])
theorem t_X10_processors {E : pE} {α β : pSt} (v : Int32) : (pw E α β).set 57 (pL E 57, .inr (12, [.int (β 0 0), .int (β 1 0), .ref (pL E 58), .ref (pL E 59), .ref (pL E 60), .ref (pL E 61), .ref (pL E 62), .int v, .ref (pL E 63), .ref (pL E 64), .ref (pL E 65), .ref (pL E 66), .ref (pL E 67), .ref (pL E 68), .ref (pL E 69), .int (β 15 0), .ref (pL E 70), .ref (pL E 71), .ref (pL E 72), .ref (pL E 73), .ref (pL E 74), .ref (pL E 75), .int (β 22 0), .ref (pL E 76), .ref (pL E 77), .ref (pL E 78), .int (β 26 0), .ref (pL E 79), .int (β 28 0), .int (β 29 0), .int (β 30 0), .int (β 31 0), .int (β 32 0), .int (β 33 0), .int (β 34 0), .ref (pL E 80)])) = pw E α (up2 β 7 0 v) := by
  refine pw_set ?_ (fun j hj hne => ?_)
  · first | rfl | (simp (disch := omega) only [pe, pcl, pml, if_pos, if_neg, Nat.add_sub_cancel_left, up2_vv, up2_v, up2_vn, up2_ne])
  · unfold pe; refine pif (fun _ => rfl) (fun h1 => ?_); unfold pml; repeat' refine pif (fun _ => ?_) (fun _ => ?_)
    all_goals first | rfl | (exfalso; omega) | (simp (disch := omega) only [up2_ne, up2_vn])
theorem t_X10_units {E : pE} {α β : pSt} (v : Int32) : (pw E α β).set 57 (pL E 57, .inr (12, [.int (β 0 0), .int (β 1 0), .ref (pL E 58), .ref (pL E 59), .ref (pL E 60), .ref (pL E 61), .ref (pL E 62), .int (β 7 0), .ref (pL E 63), .ref (pL E 64), .ref (pL E 65), .ref (pL E 66), .ref (pL E 67), .ref (pL E 68), .ref (pL E 69), .int v, .ref (pL E 70), .ref (pL E 71), .ref (pL E 72), .ref (pL E 73), .ref (pL E 74), .ref (pL E 75), .int (β 22 0), .ref (pL E 76), .ref (pL E 77), .ref (pL E 78), .int (β 26 0), .ref (pL E 79), .int (β 28 0), .int (β 29 0), .int (β 30 0), .int (β 31 0), .int (β 32 0), .int (β 33 0), .int (β 34 0), .ref (pL E 80)])) = pw E α (up2 β 15 0 v) := by
  refine pw_set ?_ (fun j hj hne => ?_)
  · first | rfl | (simp (disch := omega) only [pe, pcl, pml, if_pos, if_neg, Nat.add_sub_cancel_left, up2_vv, up2_v, up2_vn, up2_ne])
  · unfold pe; refine pif (fun _ => rfl) (fun h1 => ?_); unfold pml; repeat' refine pif (fun _ => ?_) (fun _ => ?_)
    all_goals first | rfl | (exfalso; omega) | (simp (disch := omega) only [up2_ne, up2_vn])
theorem t_X10_passes {E : pE} {α β : pSt} (v : Int32) : (pw E α β).set 57 (pL E 57, .inr (12, [.int (β 0 0), .int (β 1 0), .ref (pL E 58), .ref (pL E 59), .ref (pL E 60), .ref (pL E 61), .ref (pL E 62), .int (β 7 0), .ref (pL E 63), .ref (pL E 64), .ref (pL E 65), .ref (pL E 66), .ref (pL E 67), .ref (pL E 68), .ref (pL E 69), .int (β 15 0), .ref (pL E 70), .ref (pL E 71), .ref (pL E 72), .ref (pL E 73), .ref (pL E 74), .ref (pL E 75), .int v, .ref (pL E 76), .ref (pL E 77), .ref (pL E 78), .int (β 26 0), .ref (pL E 79), .int (β 28 0), .int (β 29 0), .int (β 30 0), .int (β 31 0), .int (β 32 0), .int (β 33 0), .int (β 34 0), .ref (pL E 80)])) = pw E α (up2 β 22 0 v) := by
  refine pw_set ?_ (fun j hj hne => ?_)
  · first | rfl | (simp (disch := omega) only [pe, pcl, pml, if_pos, if_neg, Nat.add_sub_cancel_left, up2_vv, up2_v, up2_vn, up2_ne])
  · unfold pe; refine pif (fun _ => rfl) (fun h1 => ?_); unfold pml; repeat' refine pif (fun _ => ?_) (fun _ => ?_)
    all_goals first | rfl | (exfalso; omega) | (simp (disch := omega) only [up2_ne, up2_vn])
theorem t_X10_messages {E : pE} {α β : pSt} (v : Int32) : (pw E α β).set 57 (pL E 57, .inr (12, [.int (β 0 0), .int (β 1 0), .ref (pL E 58), .ref (pL E 59), .ref (pL E 60), .ref (pL E 61), .ref (pL E 62), .int (β 7 0), .ref (pL E 63), .ref (pL E 64), .ref (pL E 65), .ref (pL E 66), .ref (pL E 67), .ref (pL E 68), .ref (pL E 69), .int (β 15 0), .ref (pL E 70), .ref (pL E 71), .ref (pL E 72), .ref (pL E 73), .ref (pL E 74), .ref (pL E 75), .int (β 22 0), .ref (pL E 76), .ref (pL E 77), .ref (pL E 78), .int v, .ref (pL E 79), .int (β 28 0), .int (β 29 0), .int (β 30 0), .int (β 31 0), .int (β 32 0), .int (β 33 0), .int (β 34 0), .ref (pL E 80)])) = pw E α (up2 β 26 0 v) := by
  refine pw_set ?_ (fun j hj hne => ?_)
  · first | rfl | (simp (disch := omega) only [pe, pcl, pml, if_pos, if_neg, Nat.add_sub_cancel_left, up2_vv, up2_v, up2_vn, up2_ne])
  · unfold pe; refine pif (fun _ => rfl) (fun h1 => ?_); unfold pml; repeat' refine pif (fun _ => ?_) (fun _ => ?_)
    all_goals first | rfl | (exfalso; omega) | (simp (disch := omega) only [up2_ne, up2_vn])
theorem t_X10_steps {E : pE} {α β : pSt} (v : Int32) : (pw E α β).set 57 (pL E 57, .inr (12, [.int (β 0 0), .int (β 1 0), .ref (pL E 58), .ref (pL E 59), .ref (pL E 60), .ref (pL E 61), .ref (pL E 62), .int (β 7 0), .ref (pL E 63), .ref (pL E 64), .ref (pL E 65), .ref (pL E 66), .ref (pL E 67), .ref (pL E 68), .ref (pL E 69), .int (β 15 0), .ref (pL E 70), .ref (pL E 71), .ref (pL E 72), .ref (pL E 73), .ref (pL E 74), .ref (pL E 75), .int (β 22 0), .ref (pL E 76), .ref (pL E 77), .ref (pL E 78), .int (β 26 0), .ref (pL E 79), .int v, .int (β 29 0), .int (β 30 0), .int (β 31 0), .int (β 32 0), .int (β 33 0), .int (β 34 0), .ref (pL E 80)])) = pw E α (up2 β 28 0 v) := by
  refine pw_set ?_ (fun j hj hne => ?_)
  · first | rfl | (simp (disch := omega) only [pe, pcl, pml, if_pos, if_neg, Nat.add_sub_cancel_left, up2_vv, up2_v, up2_vn, up2_ne])
  · unfold pe; refine pif (fun _ => rfl) (fun h1 => ?_); unfold pml; repeat' refine pif (fun _ => ?_) (fun _ => ?_)
    all_goals first | rfl | (exfalso; omega) | (simp (disch := omega) only [up2_ne, up2_vn])
theorem t_X10_left {E : pE} {α β : pSt} (v : Int32) : (pw E α β).set 57 (pL E 57, .inr (12, [.int (β 0 0), .int (β 1 0), .ref (pL E 58), .ref (pL E 59), .ref (pL E 60), .ref (pL E 61), .ref (pL E 62), .int (β 7 0), .ref (pL E 63), .ref (pL E 64), .ref (pL E 65), .ref (pL E 66), .ref (pL E 67), .ref (pL E 68), .ref (pL E 69), .int (β 15 0), .ref (pL E 70), .ref (pL E 71), .ref (pL E 72), .ref (pL E 73), .ref (pL E 74), .ref (pL E 75), .int (β 22 0), .ref (pL E 76), .ref (pL E 77), .ref (pL E 78), .int (β 26 0), .ref (pL E 79), .int (β 28 0), .int v, .int (β 30 0), .int (β 31 0), .int (β 32 0), .int (β 33 0), .int (β 34 0), .ref (pL E 80)])) = pw E α (up2 β 29 0 v) := by
  refine pw_set ?_ (fun j hj hne => ?_)
  · first | rfl | (simp (disch := omega) only [pe, pcl, pml, if_pos, if_neg, Nat.add_sub_cancel_left, up2_vv, up2_v, up2_vn, up2_ne])
  · unfold pe; refine pif (fun _ => rfl) (fun h1 => ?_); unfold pml; repeat' refine pif (fun _ => ?_) (fun _ => ?_)
    all_goals first | rfl | (exfalso; omega) | (simp (disch := omega) only [up2_ne, up2_vn])
theorem t_X10_rounds {E : pE} {α β : pSt} (v : Int32) : (pw E α β).set 57 (pL E 57, .inr (12, [.int (β 0 0), .int (β 1 0), .ref (pL E 58), .ref (pL E 59), .ref (pL E 60), .ref (pL E 61), .ref (pL E 62), .int (β 7 0), .ref (pL E 63), .ref (pL E 64), .ref (pL E 65), .ref (pL E 66), .ref (pL E 67), .ref (pL E 68), .ref (pL E 69), .int (β 15 0), .ref (pL E 70), .ref (pL E 71), .ref (pL E 72), .ref (pL E 73), .ref (pL E 74), .ref (pL E 75), .int (β 22 0), .ref (pL E 76), .ref (pL E 77), .ref (pL E 78), .int (β 26 0), .ref (pL E 79), .int (β 28 0), .int (β 29 0), .int v, .int (β 31 0), .int (β 32 0), .int (β 33 0), .int (β 34 0), .ref (pL E 80)])) = pw E α (up2 β 30 0 v) := by
  refine pw_set ?_ (fun j hj hne => ?_)
  · first | rfl | (simp (disch := omega) only [pe, pcl, pml, if_pos, if_neg, Nat.add_sub_cancel_left, up2_vv, up2_v, up2_vn, up2_ne])
  · unfold pe; refine pif (fun _ => rfl) (fun h1 => ?_); unfold pml; repeat' refine pif (fun _ => ?_) (fun _ => ?_)
    all_goals first | rfl | (exfalso; omega) | (simp (disch := omega) only [up2_ne, up2_vn])
theorem t_X10_made {E : pE} {α β : pSt} (v : Int32) : (pw E α β).set 57 (pL E 57, .inr (12, [.int (β 0 0), .int (β 1 0), .ref (pL E 58), .ref (pL E 59), .ref (pL E 60), .ref (pL E 61), .ref (pL E 62), .int (β 7 0), .ref (pL E 63), .ref (pL E 64), .ref (pL E 65), .ref (pL E 66), .ref (pL E 67), .ref (pL E 68), .ref (pL E 69), .int (β 15 0), .ref (pL E 70), .ref (pL E 71), .ref (pL E 72), .ref (pL E 73), .ref (pL E 74), .ref (pL E 75), .int (β 22 0), .ref (pL E 76), .ref (pL E 77), .ref (pL E 78), .int (β 26 0), .ref (pL E 79), .int (β 28 0), .int (β 29 0), .int (β 30 0), .int v, .int (β 32 0), .int (β 33 0), .int (β 34 0), .ref (pL E 80)])) = pw E α (up2 β 31 0 v) := by
  refine pw_set ?_ (fun j hj hne => ?_)
  · first | rfl | (simp (disch := omega) only [pe, pcl, pml, if_pos, if_neg, Nat.add_sub_cancel_left, up2_vv, up2_v, up2_vn, up2_ne])
  · unfold pe; refine pif (fun _ => rfl) (fun h1 => ?_); unfold pml; repeat' refine pif (fun _ => ?_) (fun _ => ?_)
    all_goals first | rfl | (exfalso; omega) | (simp (disch := omega) only [up2_ne, up2_vn])
theorem t_X10_way {E : pE} {α β : pSt} (v : Int32) : (pw E α β).set 57 (pL E 57, .inr (12, [.int (β 0 0), .int (β 1 0), .ref (pL E 58), .ref (pL E 59), .ref (pL E 60), .ref (pL E 61), .ref (pL E 62), .int (β 7 0), .ref (pL E 63), .ref (pL E 64), .ref (pL E 65), .ref (pL E 66), .ref (pL E 67), .ref (pL E 68), .ref (pL E 69), .int (β 15 0), .ref (pL E 70), .ref (pL E 71), .ref (pL E 72), .ref (pL E 73), .ref (pL E 74), .ref (pL E 75), .int (β 22 0), .ref (pL E 76), .ref (pL E 77), .ref (pL E 78), .int (β 26 0), .ref (pL E 79), .int (β 28 0), .int (β 29 0), .int (β 30 0), .int (β 31 0), .int v, .int (β 33 0), .int (β 34 0), .ref (pL E 80)])) = pw E α (up2 β 32 0 v) := by
  refine pw_set ?_ (fun j hj hne => ?_)
  · first | rfl | (simp (disch := omega) only [pe, pcl, pml, if_pos, if_neg, Nat.add_sub_cancel_left, up2_vv, up2_v, up2_vn, up2_ne])
  · unfold pe; refine pif (fun _ => rfl) (fun h1 => ?_); unfold pml; repeat' refine pif (fun _ => ?_) (fun _ => ?_)
    all_goals first | rfl | (exfalso; omega) | (simp (disch := omega) only [up2_ne, up2_vn])
theorem t_X10_round {E : pE} {α β : pSt} (v : Int32) : (pw E α β).set 57 (pL E 57, .inr (12, [.int (β 0 0), .int (β 1 0), .ref (pL E 58), .ref (pL E 59), .ref (pL E 60), .ref (pL E 61), .ref (pL E 62), .int (β 7 0), .ref (pL E 63), .ref (pL E 64), .ref (pL E 65), .ref (pL E 66), .ref (pL E 67), .ref (pL E 68), .ref (pL E 69), .int (β 15 0), .ref (pL E 70), .ref (pL E 71), .ref (pL E 72), .ref (pL E 73), .ref (pL E 74), .ref (pL E 75), .int (β 22 0), .ref (pL E 76), .ref (pL E 77), .ref (pL E 78), .int (β 26 0), .ref (pL E 79), .int (β 28 0), .int (β 29 0), .int (β 30 0), .int (β 31 0), .int (β 32 0), .int v, .int (β 34 0), .ref (pL E 80)])) = pw E α (up2 β 33 0 v) := by
  refine pw_set ?_ (fun j hj hne => ?_)
  · first | rfl | (simp (disch := omega) only [pe, pcl, pml, if_pos, if_neg, Nat.add_sub_cancel_left, up2_vv, up2_v, up2_vn, up2_ne])
  · unfold pe; refine pif (fun _ => rfl) (fun h1 => ?_); unfold pml; repeat' refine pif (fun _ => ?_) (fun _ => ?_)
    all_goals first | rfl | (exfalso; omega) | (simp (disch := omega) only [up2_ne, up2_vn])
theorem t_X10_ends {E : pE} {α β : pSt} (v : Int32) : (pw E α β).set 57 (pL E 57, .inr (12, [.int (β 0 0), .int (β 1 0), .ref (pL E 58), .ref (pL E 59), .ref (pL E 60), .ref (pL E 61), .ref (pL E 62), .int (β 7 0), .ref (pL E 63), .ref (pL E 64), .ref (pL E 65), .ref (pL E 66), .ref (pL E 67), .ref (pL E 68), .ref (pL E 69), .int (β 15 0), .ref (pL E 70), .ref (pL E 71), .ref (pL E 72), .ref (pL E 73), .ref (pL E 74), .ref (pL E 75), .int (β 22 0), .ref (pL E 76), .ref (pL E 77), .ref (pL E 78), .int (β 26 0), .ref (pL E 79), .int (β 28 0), .int (β 29 0), .int (β 30 0), .int (β 31 0), .int (β 32 0), .int (β 33 0), .int v, .ref (pL E 80)])) = pw E α (up2 β 34 0 v) := by
  refine pw_set ?_ (fun j hj hne => ?_)
  · first | rfl | (simp (disch := omega) only [pe, pcl, pml, if_pos, if_neg, Nat.add_sub_cancel_left, up2_vv, up2_v, up2_vn, up2_ne])
  · unfold pe; refine pif (fun _ => rfl) (fun h1 => ?_); unfold pml; repeat' refine pif (fun _ => ?_) (fun _ => ?_)
    all_goals first | rfl | (exfalso; omega) | (simp (disch := omega) only [up2_ne, up2_vn])
theorem t_options {E : pE} {α β : pSt} (i : Nat) (v : Int32) : (pw E α β).set 8 (pL E 8, .inl (pC E 0, 4, .inl (upd (α 23) i v))) = pw E (up2 α 23 i v) β := by
  refine pw_set ?_ (fun j hj hne => ?_)
  · first | rfl | (simp (disch := omega) only [pe, pcl, pml, if_pos, if_neg, Nat.add_sub_cancel_left, up2_vv, up2_v, up2_vn, up2_ne])
  · unfold pe; refine pif (fun h1 => ?_) (fun _ => rfl); unfold pcl; repeat' refine pif (fun _ => ?_) (fun _ => ?_)
    all_goals first | rfl | (exfalso; omega) | (simp (disch := omega) only [up2_ne, up2_vn])
theorem t_claimants {E : pE} {α β : pSt} (i : Nat) (v : Int32) : (pw E α β).set 9 (pL E 9, .inl (pC E 0, 8, .inl (upd (α 24) i v))) = pw E (up2 α 24 i v) β := by
  refine pw_set ?_ (fun j hj hne => ?_)
  · first | rfl | (simp (disch := omega) only [pe, pcl, pml, if_pos, if_neg, Nat.add_sub_cancel_left, up2_vv, up2_v, up2_vn, up2_ne])
  · unfold pe; refine pif (fun h1 => ?_) (fun _ => rfl); unfold pcl; repeat' refine pif (fun _ => ?_) (fun _ => ?_)
    all_goals first | rfl | (exfalso; omega) | (simp (disch := omega) only [up2_ne, up2_vn])
theorem t_names {E : pE} {α β : pSt} (i : Nat) (v : Int32) : (pw E α β).set 50 (pL E 50, .inl (pC E 0, 40, .inl (upd (α 25) i v))) = pw E (up2 α 25 i v) β := by
  refine pw_set ?_ (fun j hj hne => ?_)
  · first | rfl | (simp (disch := omega) only [pe, pcl, pml, if_pos, if_neg, Nat.add_sub_cancel_left, up2_vv, up2_v, up2_vn, up2_ne])
  · unfold pe; refine pif (fun h1 => ?_) (fun _ => rfl); unfold pcl; repeat' refine pif (fun _ => ?_) (fun _ => ?_)
    all_goals first | rfl | (exfalso; omega) | (simp (disch := omega) only [up2_ne, up2_vn])
theorem t_markSets {E : pE} {α β : pSt} (i : Nat) (v : Int32) : (pw E α β).set 51 (pL E 51, .inl (pC E 0, 40, .inl (upd (α 26) i v))) = pw E (up2 α 26 i v) β := by
  refine pw_set ?_ (fun j hj hne => ?_)
  · first | rfl | (simp (disch := omega) only [pe, pcl, pml, if_pos, if_neg, Nat.add_sub_cancel_left, up2_vv, up2_v, up2_vn, up2_ne])
  · unfold pe; refine pif (fun h1 => ?_) (fun _ => rfl); unfold pcl; repeat' refine pif (fun _ => ?_) (fun _ => ?_)
    all_goals first | rfl | (exfalso; omega) | (simp (disch := omega) only [up2_ne, up2_vn])
theorem t_fresh {E : pE} {α β : pSt} (i : Nat) (v : Int32) : (pw E α β).set 52 (pL E 52, .inl (pC E 1, 40, .inl (upd (α 27) i v))) = pw E (up2 α 27 i v) β := by
  refine pw_set ?_ (fun j hj hne => ?_)
  · first | rfl | (simp (disch := omega) only [pe, pcl, pml, if_pos, if_neg, Nat.add_sub_cancel_left, up2_vv, up2_v, up2_vn, up2_ne])
  · unfold pe; refine pif (fun h1 => ?_) (fun _ => rfl); unfold pcl; repeat' refine pif (fun _ => ?_) (fun _ => ?_)
    all_goals first | rfl | (exfalso; omega) | (simp (disch := omega) only [up2_ne, up2_vn])
theorem t_makers {E : pE} {α β : pSt} (i : Nat) (v : Int32) : (pw E α β).set 53 (pL E 53, .inl (pC E 0, 40, .inl (upd (α 28) i v))) = pw E (up2 α 28 i v) β := by
  refine pw_set ?_ (fun j hj hne => ?_)
  · first | rfl | (simp (disch := omega) only [pe, pcl, pml, if_pos, if_neg, Nat.add_sub_cancel_left, up2_vv, up2_v, up2_vn, up2_ne])
  · unfold pe; refine pif (fun h1 => ?_) (fun _ => rfl); unfold pcl; repeat' refine pif (fun _ => ?_) (fun _ => ?_)
    all_goals first | rfl | (exfalso; omega) | (simp (disch := omega) only [up2_ne, up2_vn])
theorem t_madeIn {E : pE} {α β : pSt} (i : Nat) (v : Int32) : (pw E α β).set 54 (pL E 54, .inl (pC E 0, 40, .inl (upd (α 29) i v))) = pw E (up2 α 29 i v) β := by
  refine pw_set ?_ (fun j hj hne => ?_)
  · first | rfl | (simp (disch := omega) only [pe, pcl, pml, if_pos, if_neg, Nat.add_sub_cancel_left, up2_vv, up2_v, up2_vn, up2_ne])
  · unfold pe; refine pif (fun h1 => ?_) (fun _ => rfl); unfold pcl; repeat' refine pif (fun _ => ?_) (fun _ => ?_)
    all_goals first | rfl | (exfalso; omega) | (simp (disch := omega) only [up2_ne, up2_vn])
theorem t_mparts {E : pE} {α β : pSt} (i : Nat) (v : Int32) : (pw E α β).set 55 (pL E 55, .inl (pC E 0, 600, .inl (upd (α 30) i v))) = pw E (up2 α 30 i v) β := by
  refine pw_set ?_ (fun j hj hne => ?_)
  · first | rfl | (simp (disch := omega) only [pe, pcl, pml, if_pos, if_neg, Nat.add_sub_cancel_left, up2_vv, up2_v, up2_vn, up2_ne])
  · unfold pe; refine pif (fun h1 => ?_) (fun _ => rfl); unfold pcl; repeat' refine pif (fun _ => ?_) (fun _ => ?_)
    all_goals first | rfl | (exfalso; omega) | (simp (disch := omega) only [up2_ne, up2_vn])
theorem t_bytes {E : pE} {α β : pSt} {k : Nat} (hk : k < 11) (i : Nat) (v : Int32) : (pw E α β).set (33 + k) (pL E (33 + k), .inl (pC E 0, pcap k, .inl (upd (α (40 + k)) i v))) = pw E (up2 α (40 + k) i v) β := by
  refine pw_set ?_ (fun j hj hne => ?_)
  · first | rfl | (simp (disch := omega) only [pe, pcl, pml, if_pos, if_neg, Nat.add_sub_cancel_left, up2_vv, up2_v, up2_vn, up2_ne])
  · unfold pe; refine pif (fun h1 => ?_) (fun _ => rfl); unfold pcl; repeat' refine pif (fun _ => ?_) (fun _ => ?_)
    all_goals first | rfl | (exfalso; omega) | (simp (disch := omega) only [up2_ne, up2_vn])
theorem t_parts {E : pE} {α β : pSt} {k : Nat} (hk : k < 6) (i : Nat) (v : Int32) : (pw E α β).set (44 + k) (pL E (44 + k), .inl (pC E 0, 48, .inl (upd (α (60 + k)) i v))) = pw E (up2 α (60 + k) i v) β := by
  refine pw_set ?_ (fun j hj hne => ?_)
  · first | rfl | (simp (disch := omega) only [pe, pcl, pml, if_pos, if_neg, Nat.add_sub_cancel_left, up2_vv, up2_v, up2_vn, up2_ne])
  · unfold pe; refine pif (fun h1 => ?_) (fun _ => rfl); unfold pcl; repeat' refine pif (fun _ => ?_) (fun _ => ?_)
    all_goals first | rfl | (exfalso; omega) | (simp (disch := omega) only [up2_ne, up2_vn])
theorem t_m_tape {E : pE} {α β : pSt} (i : Nat) (v : Int32) : (pw E α β).set 58 (pL E 58, .inl (pC E 0, 64, .inl (upd (β 2) i v))) = pw E α (up2 β 2 i v) := by
  refine pw_set ?_ (fun j hj hne => ?_)
  · first | rfl | (simp (disch := omega) only [pe, pcl, pml, if_pos, if_neg, Nat.add_sub_cancel_left, up2_vv, up2_v, up2_vn, up2_ne])
  · unfold pe; refine pif (fun _ => rfl) (fun h1 => ?_); unfold pml; repeat' refine pif (fun _ => ?_) (fun _ => ?_)
    all_goals first | rfl | (exfalso; omega) | (simp (disch := omega) only [up2_ne, up2_vn])
theorem t_m_size {E : pE} {α β : pSt} (i : Nat) (v : Int32) : (pw E α β).set 59 (pL E 59, .inl (pC E 0, 6, .inl (upd (β 3) i v))) = pw E α (up2 β 3 i v) := by
  refine pw_set ?_ (fun j hj hne => ?_)
  · first | rfl | (simp (disch := omega) only [pe, pcl, pml, if_pos, if_neg, Nat.add_sub_cancel_left, up2_vv, up2_v, up2_vn, up2_ne])
  · unfold pe; refine pif (fun _ => rfl) (fun h1 => ?_); unfold pml; repeat' refine pif (fun _ => ?_) (fun _ => ?_)
    all_goals first | rfl | (exfalso; omega) | (simp (disch := omega) only [up2_ne, up2_vn])
theorem t_m_file {E : pE} {α β : pSt} (i : Nat) (v : Int32) : (pw E α β).set 60 (pL E 60, .inl (pC E 0, 384, .inl (upd (β 4) i v))) = pw E α (up2 β 4 i v) := by
  refine pw_set ?_ (fun j hj hne => ?_)
  · first | rfl | (simp (disch := omega) only [pe, pcl, pml, if_pos, if_neg, Nat.add_sub_cancel_left, up2_vv, up2_v, up2_vn, up2_ne])
  · unfold pe; refine pif (fun _ => rfl) (fun h1 => ?_); unfold pml; repeat' refine pif (fun _ => ?_) (fun _ => ?_)
    all_goals first | rfl | (exfalso; omega) | (simp (disch := omega) only [up2_ne, up2_vn])
theorem t_m_fails {E : pE} {α β : pSt} (i : Nat) (v : Int32) : (pw E α β).set 61 (pL E 61, .inl (pC E 1, 6, .inl (upd (β 5) i v))) = pw E α (up2 β 5 i v) := by
  refine pw_set ?_ (fun j hj hne => ?_)
  · first | rfl | (simp (disch := omega) only [pe, pcl, pml, if_pos, if_neg, Nat.add_sub_cancel_left, up2_vv, up2_v, up2_vn, up2_ne])
  · unfold pe; refine pif (fun _ => rfl) (fun h1 => ?_); unfold pml; repeat' refine pif (fun _ => ?_) (fun _ => ?_)
    all_goals first | rfl | (exfalso; omega) | (simp (disch := omega) only [up2_ne, up2_vn])
theorem t_m_failed {E : pE} {α β : pSt} (i : Nat) (v : Int32) : (pw E α β).set 62 (pL E 62, .inl (pC E 1, 6, .inl (upd (β 6) i v))) = pw E α (up2 β 6 i v) := by
  refine pw_set ?_ (fun j hj hne => ?_)
  · first | rfl | (simp (disch := omega) only [pe, pcl, pml, if_pos, if_neg, Nat.add_sub_cancel_left, up2_vv, up2_v, up2_vn, up2_ne])
  · unfold pe; refine pif (fun _ => rfl) (fun h1 => ?_); unfold pml; repeat' refine pif (fun _ => ?_) (fun _ => ?_)
    all_goals first | rfl | (exfalso; omega) | (simp (disch := omega) only [up2_ne, up2_vn])
theorem t_m_fileOf {E : pE} {α β : pSt} (i : Nat) (v : Int32) : (pw E α β).set 63 (pL E 63, .inl (pC E 0, 6, .inl (upd (β 8) i v))) = pw E α (up2 β 8 i v) := by
  refine pw_set ?_ (fun j hj hne => ?_)
  · first | rfl | (simp (disch := omega) only [pe, pcl, pml, if_pos, if_neg, Nat.add_sub_cancel_left, up2_vv, up2_v, up2_vn, up2_ne])
  · unfold pe; refine pif (fun _ => rfl) (fun h1 => ?_); unfold pml; repeat' refine pif (fun _ => ?_) (fun _ => ?_)
    all_goals first | rfl | (exfalso; omega) | (simp (disch := omega) only [up2_ne, up2_vn])
theorem t_m_rules {E : pE} {α β : pSt} (i : Nat) (v : Int32) : (pw E α β).set 64 (pL E 64, .inl (pC E 0, 6, .inl (upd (β 9) i v))) = pw E α (up2 β 9 i v) := by
  refine pw_set ?_ (fun j hj hne => ?_)
  · first | rfl | (simp (disch := omega) only [pe, pcl, pml, if_pos, if_neg, Nat.add_sub_cancel_left, up2_vv, up2_v, up2_vn, up2_ne])
  · unfold pe; refine pif (fun _ => rfl) (fun h1 => ?_); unfold pml; repeat' refine pif (fun _ => ?_) (fun _ => ?_)
    all_goals first | rfl | (exfalso; omega) | (simp (disch := omega) only [up2_ne, up2_vn])
theorem t_m_rule {E : pE} {α β : pSt} (i : Nat) (v : Int32) : (pw E α β).set 65 (pL E 65, .inl (pC E 0, 288, .inl (upd (β 10) i v))) = pw E α (up2 β 10 i v) := by
  refine pw_set ?_ (fun j hj hne => ?_)
  · first | rfl | (simp (disch := omega) only [pe, pcl, pml, if_pos, if_neg, Nat.add_sub_cancel_left, up2_vv, up2_v, up2_vn, up2_ne])
  · unfold pe; refine pif (fun _ => rfl) (fun h1 => ?_); unfold pml; repeat' refine pif (fun _ => ?_) (fun _ => ?_)
    all_goals first | rfl | (exfalso; omega) | (simp (disch := omega) only [up2_ne, up2_vn])
theorem t_m_cells {E : pE} {α β : pSt} (i : Nat) (v : Int32) : (pw E α β).set 66 (pL E 66, .inl (pC E 0, 6, .inl (upd (β 11) i v))) = pw E α (up2 β 11 i v) := by
  refine pw_set ?_ (fun j hj hne => ?_)
  · first | rfl | (simp (disch := omega) only [pe, pcl, pml, if_pos, if_neg, Nat.add_sub_cancel_left, up2_vv, up2_v, up2_vn, up2_ne])
  · unfold pe; refine pif (fun _ => rfl) (fun h1 => ?_); unfold pml; repeat' refine pif (fun _ => ?_) (fun _ => ?_)
    all_goals first | rfl | (exfalso; omega) | (simp (disch := omega) only [up2_ne, up2_vn])
theorem t_m_cellWas {E : pE} {α β : pSt} (i : Nat) (v : Int32) : (pw E α β).set 67 (pL E 67, .inl (pC E 0, 6, .inl (upd (β 12) i v))) = pw E α (up2 β 12 i v) := by
  refine pw_set ?_ (fun j hj hne => ?_)
  · first | rfl | (simp (disch := omega) only [pe, pcl, pml, if_pos, if_neg, Nat.add_sub_cancel_left, up2_vv, up2_v, up2_vn, up2_ne])
  · unfold pe; refine pif (fun _ => rfl) (fun h1 => ?_); unfold pml; repeat' refine pif (fun _ => ?_) (fun _ => ?_)
    all_goals first | rfl | (exfalso; omega) | (simp (disch := omega) only [up2_ne, up2_vn])
theorem t_m_stopped {E : pE} {α β : pSt} (i : Nat) (v : Int32) : (pw E α β).set 68 (pL E 68, .inl (pC E 1, 6, .inl (upd (β 13) i v))) = pw E α (up2 β 13 i v) := by
  refine pw_set ?_ (fun j hj hne => ?_)
  · first | rfl | (simp (disch := omega) only [pe, pcl, pml, if_pos, if_neg, Nat.add_sub_cancel_left, up2_vv, up2_v, up2_vn, up2_ne])
  · unfold pe; refine pif (fun _ => rfl) (fun h1 => ?_); unfold pml; repeat' refine pif (fun _ => ?_) (fun _ => ?_)
    all_goals first | rfl | (exfalso; omega) | (simp (disch := omega) only [up2_ne, up2_vn])
theorem t_m_took {E : pE} {α β : pSt} (i : Nat) (v : Int32) : (pw E α β).set 69 (pL E 69, .inl (pC E 0, 6, .inl (upd (β 14) i v))) = pw E α (up2 β 14 i v) := by
  refine pw_set ?_ (fun j hj hne => ?_)
  · first | rfl | (simp (disch := omega) only [pe, pcl, pml, if_pos, if_neg, Nat.add_sub_cancel_left, up2_vv, up2_v, up2_vn, up2_ne])
  · unfold pe; refine pif (fun _ => rfl) (fun h1 => ?_); unfold pml; repeat' refine pif (fun _ => ?_) (fun _ => ?_)
    all_goals first | rfl | (exfalso; omega) | (simp (disch := omega) only [up2_ne, up2_vn])
theorem t_m_name {E : pE} {α β : pSt} (i : Nat) (v : Int32) : (pw E α β).set 70 (pL E 70, .inl (pC E 0, 40, .inl (upd (β 16) i v))) = pw E α (up2 β 16 i v) := by
  refine pw_set ?_ (fun j hj hne => ?_)
  · first | rfl | (simp (disch := omega) only [pe, pcl, pml, if_pos, if_neg, Nat.add_sub_cancel_left, up2_vv, up2_v, up2_vn, up2_ne])
  · unfold pe; refine pif (fun _ => rfl) (fun h1 => ?_); unfold pml; repeat' refine pif (fun _ => ?_) (fun _ => ?_)
    all_goals first | rfl | (exfalso; omega) | (simp (disch := omega) only [up2_ne, up2_vn])
theorem t_m_marks {E : pE} {α β : pSt} (i : Nat) (v : Int32) : (pw E α β).set 71 (pL E 71, .inl (pC E 0, 40, .inl (upd (β 17) i v))) = pw E α (up2 β 17 i v) := by
  refine pw_set ?_ (fun j hj hne => ?_)
  · first | rfl | (simp (disch := omega) only [pe, pcl, pml, if_pos, if_neg, Nat.add_sub_cancel_left, up2_vv, up2_v, up2_vn, up2_ne])
  · unfold pe; refine pif (fun _ => rfl) (fun h1 => ?_); unfold pml; repeat' refine pif (fun _ => ?_) (fun _ => ?_)
    all_goals first | rfl | (exfalso; omega) | (simp (disch := omega) only [up2_ne, up2_vn])
theorem t_m_isNew {E : pE} {α β : pSt} (i : Nat) (v : Int32) : (pw E α β).set 72 (pL E 72, .inl (pC E 1, 40, .inl (upd (β 18) i v))) = pw E α (up2 β 18 i v) := by
  refine pw_set ?_ (fun j hj hne => ?_)
  · first | rfl | (simp (disch := omega) only [pe, pcl, pml, if_pos, if_neg, Nat.add_sub_cancel_left, up2_vv, up2_v, up2_vn, up2_ne])
  · unfold pe; refine pif (fun _ => rfl) (fun h1 => ?_); unfold pml; repeat' refine pif (fun _ => ?_) (fun _ => ?_)
    all_goals first | rfl | (exfalso; omega) | (simp (disch := omega) only [up2_ne, up2_vn])
theorem t_m_maker {E : pE} {α β : pSt} (i : Nat) (v : Int32) : (pw E α β).set 73 (pL E 73, .inl (pC E 0, 40, .inl (upd (β 19) i v))) = pw E α (up2 β 19 i v) := by
  refine pw_set ?_ (fun j hj hne => ?_)
  · first | rfl | (simp (disch := omega) only [pe, pcl, pml, if_pos, if_neg, Nat.add_sub_cancel_left, up2_vv, up2_v, up2_vn, up2_ne])
  · unfold pe; refine pif (fun _ => rfl) (fun h1 => ?_); unfold pml; repeat' refine pif (fun _ => ?_) (fun _ => ?_)
    all_goals first | rfl | (exfalso; omega) | (simp (disch := omega) only [up2_ne, up2_vn])
theorem t_m_madeIn {E : pE} {α β : pSt} (i : Nat) (v : Int32) : (pw E α β).set 74 (pL E 74, .inl (pC E 0, 40, .inl (upd (β 20) i v))) = pw E α (up2 β 20 i v) := by
  refine pw_set ?_ (fun j hj hne => ?_)
  · first | rfl | (simp (disch := omega) only [pe, pcl, pml, if_pos, if_neg, Nat.add_sub_cancel_left, up2_vv, up2_v, up2_vn, up2_ne])
  · unfold pe; refine pif (fun _ => rfl) (fun h1 => ?_); unfold pml; repeat' refine pif (fun _ => ?_) (fun _ => ?_)
    all_goals first | rfl | (exfalso; omega) | (simp (disch := omega) only [up2_ne, up2_vn])
theorem t_m_options {E : pE} {α β : pSt} (i : Nat) (v : Int32) : (pw E α β).set 75 (pL E 75, .inl (pC E 0, 4, .inl (upd (β 21) i v))) = pw E α (up2 β 21 i v) := by
  refine pw_set ?_ (fun j hj hne => ?_)
  · first | rfl | (simp (disch := omega) only [pe, pcl, pml, if_pos, if_neg, Nat.add_sub_cancel_left, up2_vv, up2_v, up2_vn, up2_ne])
  · unfold pe; refine pif (fun _ => rfl) (fun h1 => ?_); unfold pml; repeat' refine pif (fun _ => ?_) (fun _ => ?_)
    all_goals first | rfl | (exfalso; omega) | (simp (disch := omega) only [up2_ne, up2_vn])
theorem t_m_written {E : pE} {α β : pSt} (i : Nat) (v : Int32) : (pw E α β).set 76 (pL E 76, .inl (pC E 0, 4, .inl (upd (β 23) i v))) = pw E α (up2 β 23 i v) := by
  refine pw_set ?_ (fun j hj hne => ?_)
  · first | rfl | (simp (disch := omega) only [pe, pcl, pml, if_pos, if_neg, Nat.add_sub_cancel_left, up2_vv, up2_v, up2_vn, up2_ne])
  · unfold pe; refine pif (fun _ => rfl) (fun h1 => ?_); unfold pml; repeat' refine pif (fun _ => ?_) (fun _ => ?_)
    all_goals first | rfl | (exfalso; omega) | (simp (disch := omega) only [up2_ne, up2_vn])
theorem t_m_writtenWas {E : pE} {α β : pSt} (i : Nat) (v : Int32) : (pw E α β).set 77 (pL E 77, .inl (pC E 0, 4, .inl (upd (β 24) i v))) = pw E α (up2 β 24 i v) := by
  refine pw_set ?_ (fun j hj hne => ?_)
  · first | rfl | (simp (disch := omega) only [pe, pcl, pml, if_pos, if_neg, Nat.add_sub_cancel_left, up2_vv, up2_v, up2_vn, up2_ne])
  · unfold pe; refine pif (fun _ => rfl) (fun h1 => ?_); unfold pml; repeat' refine pif (fun _ => ?_) (fun _ => ?_)
    all_goals first | rfl | (exfalso; omega) | (simp (disch := omega) only [up2_ne, up2_vn])
theorem t_m_resource {E : pE} {α β : pSt} (i : Nat) (v : Int32) : (pw E α β).set 78 (pL E 78, .inl (pC E 0, 400, .inl (upd (β 25) i v))) = pw E α (up2 β 25 i v) := by
  refine pw_set ?_ (fun j hj hne => ?_)
  · first | rfl | (simp (disch := omega) only [pe, pcl, pml, if_pos, if_neg, Nat.add_sub_cancel_left, up2_vv, up2_v, up2_vn, up2_ne])
  · unfold pe; refine pif (fun _ => rfl) (fun h1 => ?_); unfold pml; repeat' refine pif (fun _ => ?_) (fun _ => ?_)
    all_goals first | rfl | (exfalso; omega) | (simp (disch := omega) only [up2_ne, up2_vn])
theorem t_m_message {E : pE} {α β : pSt} (i : Nat) (v : Int32) : (pw E α β).set 79 (pL E 79, .inl (pC E 0, 600, .inl (upd (β 27) i v))) = pw E α (up2 β 27 i v) := by
  refine pw_set ?_ (fun j hj hne => ?_)
  · first | rfl | (simp (disch := omega) only [pe, pcl, pml, if_pos, if_neg, Nat.add_sub_cancel_left, up2_vv, up2_v, up2_vn, up2_ne])
  · unfold pe; refine pif (fun _ => rfl) (fun h1 => ?_); unfold pml; repeat' refine pif (fun _ => ?_) (fun _ => ?_)
    all_goals first | rfl | (exfalso; omega) | (simp (disch := omega) only [up2_ne, up2_vn])
theorem t_m_claimer {E : pE} {α β : pSt} (i : Nat) (v : Int32) : (pw E α β).set 80 (pL E 80, .inl (pC E 0, 8, .inl (upd (β 35) i v))) = pw E α (up2 β 35 i v) := by
  refine pw_set ?_ (fun j hj hne => ?_)
  · first | rfl | (simp (disch := omega) only [pe, pcl, pml, if_pos, if_neg, Nat.add_sub_cancel_left, up2_vv, up2_v, up2_vn, up2_ne])
  · unfold pe; refine pif (fun _ => rfl) (fun h1 => ?_); unfold pml; repeat' refine pif (fun _ => ?_) (fun _ => ?_)
    all_goals first | rfl | (exfalso; omega) | (simp (disch := omega) only [up2_ne, up2_vn])
end
section
/-! the words that instructions ask for, each by its place in the tables; a row for each field access, array access -/
theorem u_X1 {U : State} (h : pTab U) (a : Array Value) : ∀ w ∈ u_ws RX1 TX1 2, w.before a U = true := fun w hw => h.1 w ((by decide +kernel : ∀ w ∈ u_ws RX1 TX1 2, w ∈ lw_tbl) w hw) ((by decide +kernel : ∀ w ∈ u_ws RX1 TX1 2, goodWord w = true) w hw) a
theorem u_X2 {U : State} (h : pTab U) (a : Array Value) : ∀ w ∈ u_ws RX2 TX2 3, w.before a U = true := fun w hw => h.1 w ((by decide +kernel : ∀ w ∈ u_ws RX2 TX2 3, w ∈ lw_tbl) w hw) ((by decide +kernel : ∀ w ∈ u_ws RX2 TX2 3, goodWord w = true) w hw) a
theorem u_X3 {U : State} (h : pTab U) (a : Array Value) : ∀ w ∈ u_ws RX3 TX3 7, w.before a U = true := fun w hw => h.1 w ((by decide +kernel : ∀ w ∈ u_ws RX3 TX3 7, w ∈ lw_tbl) w hw) ((by decide +kernel : ∀ w ∈ u_ws RX3 TX3 7, goodWord w = true) w hw) a
theorem u_X4 {U : State} (h : pTab U) (a : Array Value) : ∀ w ∈ u_ws RX4 TX4 2, w.before a U = true := fun w hw => h.1 w ((by decide +kernel : ∀ w ∈ u_ws RX4 TX4 2, w ∈ lw_tbl) w hw) ((by decide +kernel : ∀ w ∈ u_ws RX4 TX4 2, goodWord w = true) w hw) a
theorem u_X5 {U : State} (h : pTab U) (a : Array Value) : ∀ w ∈ u_ws RX5 TX5 1, w.before a U = true := fun w hw => h.1 w ((by decide +kernel : ∀ w ∈ u_ws RX5 TX5 1, w ∈ lw_tbl) w hw) ((by decide +kernel : ∀ w ∈ u_ws RX5 TX5 1, goodWord w = true) w hw) a
theorem u_X6 {U : State} (h : pTab U) (a : Array Value) : ∀ w ∈ u_ws RX6 TX6 3, w.before a U = true := fun w hw => h.1 w ((by decide +kernel : ∀ w ∈ u_ws RX6 TX6 3, w ∈ lw_tbl) w hw) ((by decide +kernel : ∀ w ∈ u_ws RX6 TX6 3, goodWord w = true) w hw) a
theorem u_X7 {U : State} (h : pTab U) (a : Array Value) : ∀ w ∈ u_ws RX7 TX7 15, w.before a U = true := fun w hw => h.1 w ((by decide +kernel : ∀ w ∈ u_ws RX7 TX7 15, w ∈ lw_tbl) w hw) ((by decide +kernel : ∀ w ∈ u_ws RX7 TX7 15, goodWord w = true) w hw) a
theorem u_X8 {U : State} (h : pTab U) (a : Array Value) : ∀ w ∈ u_ws RX8 TX8 6, w.before a U = true := fun w hw => h.1 w ((by decide +kernel : ∀ w ∈ u_ws RX8 TX8 6, w ∈ lw_tbl) w hw) ((by decide +kernel : ∀ w ∈ u_ws RX8 TX8 6, goodWord w = true) w hw) a
theorem u_X9 {U : State} (h : pTab U) (a : Array Value) : ∀ w ∈ u_ws RX9 TX9 9, w.before a U = true := fun w hw => h.1 w ((by decide +kernel : ∀ w ∈ u_ws RX9 TX9 9, w ∈ lw_tbl) w hw) ((by decide +kernel : ∀ w ∈ u_ws RX9 TX9 9, goodWord w = true) w hw) a
theorem u_X10 {U : State} (h : pTab U) (a : Array Value) : ∀ w ∈ u_ws RX10 TX10 36, w.before a U = true := fun w hw => h.1 w ((by decide +kernel : ∀ w ∈ u_ws RX10 TX10 36, w ∈ lw_tbl) w hw) ((by decide +kernel : ∀ w ∈ u_ws RX10 TX10 36, goodWord w = true) w hw) a
section PRW
variable {p : Program} {l : Launch} {e : Env} {R : Room} {s : State} {m : MethodId} {args : Array Value} {below : List Frame} {meth : Method} {c : Code} {H : Heap} {locs : List Loc} {cells slots : Nat} {Q : State → Prop} {cc : ByteArray} {pc nL : Nat} {ls : Array Slot} {rest : List Value} {E : pE} {α β : pSt} {own : String} {H0 : Heap} {sz : Nat}
set_option maxRecDepth 20000 in
theorem g_9_14 (C : pCx p s m c cc nL E RX9) (hP : va_P (pD E) vwCl (pw E α β) H) (hdg : decode cc pc = .ok (.getfield 14, 3)) (kk : W p l e R s m args below meth c H locs cells slots Q (F0 m (pc + 3) ls (.ref (pL E (22 + 0)) :: rest))) : W p l e R s m args below meth c H locs cells slots Q (F0 m pc ls (.ref (pL E 0) :: rest)) :=
  va_get (C := RX9) (T := TX9) (N := 9) (ci := 11) (own := RX9) (ref := RX9) (Ts := u_ws RX9 TX9 9) C.1 C.2.1 (u_X9 C.2.2.2.2.1 args) (fun _ h => h) C.2.2.2.1 C.2.2.2.2.2.1 hP 0 (e_X9) rfl 0 (by decide) (C.2.2.2.2.1.1 _ (List.mem_of_getElem? (i := 256) rfl) rfl args) (fun _ h => h) rfl hdg kk
set_option maxRecDepth 20000 in
theorem g_9_20 (C : pCx p s m c cc nL E RX9) (hP : va_P (pD E) vwCl (pw E α β) H) (hdg : decode cc pc = .ok (.getfield 20, 3)) (kk : W p l e R s m args below meth c H locs cells slots Q (F0 m (pc + 3) ls (.ref (pL E 1) :: rest))) : W p l e R s m args below meth c H locs cells slots Q (F0 m pc ls (.ref (pL E 0) :: rest)) :=
  va_get (C := RX9) (T := TX9) (N := 9) (ci := 11) (own := RX9) (ref := RX9) (Ts := u_ws RX9 TX9 9) C.1 C.2.1 (u_X9 C.2.2.2.2.1 args) (fun _ h => h) C.2.2.2.1 C.2.2.2.2.2.1 hP 0 (e_X9) rfl 1 (by decide) (C.2.2.2.2.1.1 _ (List.mem_of_getElem? (i := 257) rfl) rfl args) (fun _ h => h) rfl hdg kk
set_option maxRecDepth 20000 in
theorem g_9_28 (C : pCx p s m c cc nL E RX9) (hP : va_P (pD E) vwCl (pw E α β) H) (hdg : decode cc pc = .ok (.getfield 28, 3)) (kk : W p l e R s m args below meth c H locs cells slots Q (F0 m (pc + 3) ls (.ref (pL E 2) :: rest))) : W p l e R s m args below meth c H locs cells slots Q (F0 m pc ls (.ref (pL E 0) :: rest)) :=
  va_get (C := RX9) (T := TX9) (N := 9) (ci := 11) (own := RX9) (ref := RX9) (Ts := u_ws RX9 TX9 9) C.1 C.2.1 (u_X9 C.2.2.2.2.1 args) (fun _ h => h) C.2.2.2.1 C.2.2.2.2.2.1 hP 0 (e_X9) rfl 2 (by decide) (C.2.2.2.2.1.1 _ (List.mem_of_getElem? (i := 258) rfl) rfl args) (fun _ h => h) rfl hdg kk
set_option maxRecDepth 20000 in
theorem g_9_36 (C : pCx p s m c cc nL E RX9) (hP : va_P (pD E) vwCl (pw E α β) H) (hdg : decode cc pc = .ok (.getfield 36, 3)) (kk : W p l e R s m args below meth c H locs cells slots Q (F0 m (pc + 3) ls (.ref (pL E 8) :: rest))) : W p l e R s m args below meth c H locs cells slots Q (F0 m pc ls (.ref (pL E 0) :: rest)) :=
  va_get (C := RX9) (T := TX9) (N := 9) (ci := 11) (own := RX9) (ref := RX9) (Ts := u_ws RX9 TX9 9) C.1 C.2.1 (u_X9 C.2.2.2.2.1 args) (fun _ h => h) C.2.2.2.1 C.2.2.2.2.2.1 hP 0 (e_X9) rfl 3 (by decide) (C.2.2.2.2.1.1 _ (List.mem_of_getElem? (i := 259) rfl) rfl args) (fun _ h => h) rfl hdg kk
set_option maxRecDepth 20000 in
theorem g_9_41 (C : pCx p s m c cc nL E RX9) (hP : va_P (pD E) vwCl (pw E α β) H) (hdg : decode cc pc = .ok (.getfield 41, 3)) (kk : W p l e R s m args below meth c H locs cells slots Q (F0 m (pc + 3) ls (.ref (pL E 3) :: rest))) : W p l e R s m args below meth c H locs cells slots Q (F0 m pc ls (.ref (pL E 0) :: rest)) :=
  va_get (C := RX9) (T := TX9) (N := 9) (ci := 11) (own := RX9) (ref := RX9) (Ts := u_ws RX9 TX9 9) C.1 C.2.1 (u_X9 C.2.2.2.2.1 args) (fun _ h => h) C.2.2.2.1 C.2.2.2.2.2.1 hP 0 (e_X9) rfl 4 (by decide) (C.2.2.2.2.1.1 _ (List.mem_of_getElem? (i := 260) rfl) rfl args) (fun _ h => h) rfl hdg kk
set_option maxRecDepth 20000 in
theorem g_9_46 (C : pCx p s m c cc nL E RX9) (hP : va_P (pD E) vwCl (pw E α β) H) (hdg : decode cc pc = .ok (.getfield 46, 3)) (kk : W p l e R s m args below meth c H locs cells slots Q (F0 m (pc + 3) ls (.ref (pL E 5) :: rest))) : W p l e R s m args below meth c H locs cells slots Q (F0 m pc ls (.ref (pL E 0) :: rest)) :=
  va_get (C := RX9) (T := TX9) (N := 9) (ci := 11) (own := RX9) (ref := RX9) (Ts := u_ws RX9 TX9 9) C.1 C.2.1 (u_X9 C.2.2.2.2.1 args) (fun _ h => h) C.2.2.2.1 C.2.2.2.2.2.1 hP 0 (e_X9) rfl 5 (by decide) (C.2.2.2.2.1.1 _ (List.mem_of_getElem? (i := 261) rfl) rfl args) (fun _ h => h) rfl hdg kk
set_option maxRecDepth 20000 in
theorem g_9_51 (C : pCx p s m c cc nL E RX9) (hP : va_P (pD E) vwCl (pw E α β) H) (hdg : decode cc pc = .ok (.getfield 51, 3)) (kk : W p l e R s m args below meth c H locs cells slots Q (F0 m (pc + 3) ls (.ref (pL E 6) :: rest))) : W p l e R s m args below meth c H locs cells slots Q (F0 m pc ls (.ref (pL E 0) :: rest)) :=
  va_get (C := RX9) (T := TX9) (N := 9) (ci := 11) (own := RX9) (ref := RX9) (Ts := u_ws RX9 TX9 9) C.1 C.2.1 (u_X9 C.2.2.2.2.1 args) (fun _ h => h) C.2.2.2.1 C.2.2.2.2.2.1 hP 0 (e_X9) rfl 6 (by decide) (C.2.2.2.2.1.1 _ (List.mem_of_getElem? (i := 262) rfl) rfl args) (fun _ h => h) rfl hdg kk
set_option maxRecDepth 20000 in
theorem g_9_56 (C : pCx p s m c cc nL E RX9) (hP : va_P (pD E) vwCl (pw E α β) H) (hdg : decode cc pc = .ok (.getfield 56, 3)) (kk : W p l e R s m args below meth c H locs cells slots Q (F0 m (pc + 3) ls (.ref (pL E 7) :: rest))) : W p l e R s m args below meth c H locs cells slots Q (F0 m pc ls (.ref (pL E 0) :: rest)) :=
  va_get (C := RX9) (T := TX9) (N := 9) (ci := 11) (own := RX9) (ref := RX9) (Ts := u_ws RX9 TX9 9) C.1 C.2.1 (u_X9 C.2.2.2.2.1 args) (fun _ h => h) C.2.2.2.1 C.2.2.2.2.2.1 hP 0 (e_X9) rfl 7 (by decide) (C.2.2.2.2.1.1 _ (List.mem_of_getElem? (i := 263) rfl) rfl args) (fun _ h => h) rfl hdg kk
set_option maxRecDepth 20000 in
theorem g_9_160 (C : pCx p s m c cc nL E RX9) (hP : va_P (pD E) vwCl (pw E α β) H) (hdg : decode cc pc = .ok (.getfield 160, 3)) (kk : W p l e R s m args below meth c H locs cells slots Q (F0 m (pc + 3) ls (.int (α 22 0) :: rest))) : W p l e R s m args below meth c H locs cells slots Q (F0 m pc ls (.ref (pL E 0) :: rest)) :=
  va_get (C := RX9) (T := TX9) (N := 9) (ci := 11) (own := RX9) (ref := RX9) (Ts := u_ws RX9 TX9 9) C.1 C.2.1 (u_X9 C.2.2.2.2.1 args) (fun _ h => h) C.2.2.2.1 C.2.2.2.2.2.1 hP 0 (e_X9) rfl 8 (by decide) (C.2.2.2.2.1.1 _ (List.mem_of_getElem? (i := 264) rfl) rfl args) (fun _ h => h) rfl hdg kk
set_option maxRecDepth 20000 in
theorem s_9_160 (C : pCx p s m c cc nL E RX9) (hP : va_P (pD E) vwCl (pw E α β) H) (hS : va_S (pA E sz) H0 H locs) {v : Int32} (hz : v = 0 ∨ v = 1) (hdg : decode cc pc = .ok (.putfield 160, 3)) (kk : ∀ (H1 : Heap) (locs1 : List Loc), va_P (pD E) vwCl (pw E (up2 α 22 0 v) β) H1 → va_S (pA E sz) H0 H1 locs1 → W p l e R s m args below meth c H1 locs1 cells slots Q (F0 m (pc + 3) ls rest)) : W p l e R s m args below meth c H locs cells slots Q (F0 m pc ls (.int v :: .ref (pL E 0) :: rest)) :=
  va_put (C := RX9) (T := TX9) (N := 9) (ci := 11) (own := RX9) (ref := RX9) (Ts := u_ws RX9 TX9 9) (A := pA E sz) C.1 C.2.1 (u_X9 C.2.2.2.2.1 args) (fun _ h => h) tyX9 tyX9_ok nmX9 C.2.2.2.1 C.2.2.2.2.2.1 hP (pw_D C.2.2.2.2.2.2) hS 0 (e_X9) rfl 8 (by decide) (C.2.2.2.2.1.1 _ (List.mem_of_getElem? (i := 264) rfl) rfl args) (fun _ h => h) rfl (ty := .boolean) (by decide +kernel) (pz_n hz) (pz_f hz) (Nat.le_of_ble_eq_true rfl) hdg (fun H1 locs1 hP1 _ hS1 => kk H1 locs1 ((t_X9_passes v) ▸ hP1) hS1)
set_option maxRecDepth 20000 in
theorem g_1_9 (C : pCx p s m c cc nL E RX1) (hP : va_P (pD E) vwCl (pw E α β) H) (hdg : decode cc pc = .ok (.getfield 9, 3)) (kk : W p l e R s m args below meth c H locs cells slots Q (F0 m (pc + 3) ls (.ref (pL E 55) :: rest))) : W p l e R s m args below meth c H locs cells slots Q (F0 m pc ls (.ref (pL E 6) :: rest)) :=
  va_get (C := RX1) (T := TX1) (N := 2) (ci := 3) (own := RX1) (ref := RX1) (Ts := u_ws RX1 TX1 2) C.1 C.2.1 (u_X1 C.2.2.2.2.1 args) (fun _ h => h) C.2.2.2.1 C.2.2.2.2.2.1 hP 6 (e_X1) rfl 0 (by decide) (C.2.2.2.2.1.1 _ (List.mem_of_getElem? (i := 182) rfl) rfl args) (fun _ h => h) rfl hdg kk
set_option maxRecDepth 20000 in
theorem g_1_15 (C : pCx p s m c cc nL E RX1) (hP : va_P (pD E) vwCl (pw E α β) H) (hdg : decode cc pc = .ok (.getfield 15, 3)) (kk : W p l e R s m args below meth c H locs cells slots Q (F0 m (pc + 3) ls (.int (α 12 0) :: rest))) : W p l e R s m args below meth c H locs cells slots Q (F0 m pc ls (.ref (pL E 6) :: rest)) :=
  va_get (C := RX1) (T := TX1) (N := 2) (ci := 3) (own := RX1) (ref := RX1) (Ts := u_ws RX1 TX1 2) C.1 C.2.1 (u_X1 C.2.2.2.2.1 args) (fun _ h => h) C.2.2.2.1 C.2.2.2.2.2.1 hP 6 (e_X1) rfl 1 (by decide) (C.2.2.2.2.1.1 _ (List.mem_of_getElem? (i := 183) rfl) rfl args) (fun _ h => h) rfl hdg kk
set_option maxRecDepth 20000 in
theorem s_1_15 (C : pCx p s m c cc nL E RX1) (hP : va_P (pD E) vwCl (pw E α β) H) (hS : va_S (pA E sz) H0 H locs) {v : Int32} (hdg : decode cc pc = .ok (.putfield 15, 3)) (kk : ∀ (H1 : Heap) (locs1 : List Loc), va_P (pD E) vwCl (pw E (up2 α 12 0 v) β) H1 → va_S (pA E sz) H0 H1 locs1 → W p l e R s m args below meth c H1 locs1 cells slots Q (F0 m (pc + 3) ls rest)) : W p l e R s m args below meth c H locs cells slots Q (F0 m pc ls (.int v :: .ref (pL E 6) :: rest)) :=
  va_put (C := RX1) (T := TX1) (N := 2) (ci := 3) (own := RX1) (ref := RX1) (Ts := u_ws RX1 TX1 2) (A := pA E sz) C.1 C.2.1 (u_X1 C.2.2.2.2.1 args) (fun _ h => h) tyX1 tyX1_ok nmX1 C.2.2.2.1 C.2.2.2.2.2.1 hP (pw_D C.2.2.2.2.2.2) hS 6 (e_X1) rfl 1 (by decide) (C.2.2.2.2.1.1 _ (List.mem_of_getElem? (i := 183) rfl) rfl args) (fun _ h => h) rfl (ty := .int) (by decide +kernel) rfl rfl (Nat.le_of_ble_eq_true rfl) hdg (fun H1 locs1 hP1 _ hS1 => kk H1 locs1 ((t_X1_count v) ▸ hP1) hS1)
set_option maxRecDepth 20000 in
theorem g_2_14 (C : pCx p s m c cc nL E RX2) (hP : va_P (pD E) vwCl (pw E α β) H) {k : Nat} (hk : k < 6) (hdg : decode cc pc = .ok (.getfield 14, 3)) (kk : W p l e R s m args below meth c H locs cells slots Q (F0 m (pc + 3) ls (.ref (pL E (22 + (1 + k))) :: rest))) : W p l e R s m args below meth c H locs cells slots Q (F0 m pc ls (.ref (pL E (10 + k)) :: rest)) :=
  va_get (C := RX2) (T := TX2) (N := 3) (ci := 4) (own := RX2) (ref := RX2) (Ts := u_ws RX2 TX2 3) C.1 C.2.1 (u_X2 C.2.2.2.2.1 args) (fun _ h => h) C.2.2.2.1 C.2.2.2.2.2.1 hP (10 + k) (e_X2 hk) rfl 0 (by decide) (C.2.2.2.2.1.1 _ (List.mem_of_getElem? (i := 85) rfl) rfl args) (fun _ h => h) rfl hdg kk
set_option maxRecDepth 20000 in
theorem g_2_20 (C : pCx p s m c cc nL E RX2) (hP : va_P (pD E) vwCl (pw E α β) H) {k : Nat} (hk : k < 6) (hdg : decode cc pc = .ok (.getfield 20, 3)) (kk : W p l e R s m args below meth c H locs cells slots Q (F0 m (pc + 3) ls (.int (α 2 k) :: rest))) : W p l e R s m args below meth c H locs cells slots Q (F0 m pc ls (.ref (pL E (10 + k)) :: rest)) :=
  va_get (C := RX2) (T := TX2) (N := 3) (ci := 4) (own := RX2) (ref := RX2) (Ts := u_ws RX2 TX2 3) C.1 C.2.1 (u_X2 C.2.2.2.2.1 args) (fun _ h => h) C.2.2.2.1 C.2.2.2.2.2.1 hP (10 + k) (e_X2 hk) rfl 1 (by decide) (C.2.2.2.2.1.1 _ (List.mem_of_getElem? (i := 87) rfl) rfl args) (fun _ h => h) rfl hdg kk
set_option maxRecDepth 20000 in
theorem s_2_20 (C : pCx p s m c cc nL E RX2) (hP : va_P (pD E) vwCl (pw E α β) H) (hS : va_S (pA E sz) H0 H locs) {k : Nat} (hk : k < 6) {v : Int32} (hz : v = 0 ∨ v = 1) (hdg : decode cc pc = .ok (.putfield 20, 3)) (kk : ∀ (H1 : Heap) (locs1 : List Loc), va_P (pD E) vwCl (pw E (up2 α 2 k v) β) H1 → va_S (pA E sz) H0 H1 locs1 → W p l e R s m args below meth c H1 locs1 cells slots Q (F0 m (pc + 3) ls rest)) : W p l e R s m args below meth c H locs cells slots Q (F0 m pc ls (.int v :: .ref (pL E (10 + k)) :: rest)) :=
  va_put (C := RX2) (T := TX2) (N := 3) (ci := 4) (own := RX2) (ref := RX2) (Ts := u_ws RX2 TX2 3) (A := pA E sz) C.1 C.2.1 (u_X2 C.2.2.2.2.1 args) (fun _ h => h) tyX2 tyX2_ok nmX2 C.2.2.2.1 C.2.2.2.2.2.1 hP (pw_D C.2.2.2.2.2.2) hS (10 + k) (e_X2 hk) rfl 1 (by decide) (C.2.2.2.2.1.1 _ (List.mem_of_getElem? (i := 87) rfl) rfl args) (fun _ h => h) rfl (ty := .boolean) (by decide +kernel) (pz_n hz) (pz_f hz) (Nat.le_of_ble_eq_true rfl) hdg (fun H1 locs1 hP1 _ hS1 => kk H1 locs1 ((t_X2_startFails hk v) ▸ hP1) hS1)
set_option maxRecDepth 20000 in
theorem g_2_24 (C : pCx p s m c cc nL E RX2) (hP : va_P (pD E) vwCl (pw E α β) H) {k : Nat} (hk : k < 6) (hdg : decode cc pc = .ok (.getfield 24, 3)) (kk : W p l e R s m args below meth c H locs cells slots Q (F0 m (pc + 3) ls (.int (α 3 k) :: rest))) : W p l e R s m args below meth c H locs cells slots Q (F0 m pc ls (.ref (pL E (10 + k)) :: rest)) :=
  va_get (C := RX2) (T := TX2) (N := 3) (ci := 4) (own := RX2) (ref := RX2) (Ts := u_ws RX2 TX2 3) C.1 C.2.1 (u_X2 C.2.2.2.2.1 args) (fun _ h => h) C.2.2.2.1 C.2.2.2.2.2.1 hP (10 + k) (e_X2 hk) rfl 2 (by decide) (C.2.2.2.2.1.1 _ (List.mem_of_getElem? (i := 89) rfl) rfl args) (fun _ h => h) rfl hdg kk
set_option maxRecDepth 20000 in
theorem s_2_24 (C : pCx p s m c cc nL E RX2) (hP : va_P (pD E) vwCl (pw E α β) H) (hS : va_S (pA E sz) H0 H locs) {k : Nat} (hk : k < 6) {v : Int32} (hz : v = 0 ∨ v = 1) (hdg : decode cc pc = .ok (.putfield 24, 3)) (kk : ∀ (H1 : Heap) (locs1 : List Loc), va_P (pD E) vwCl (pw E (up2 α 3 k v) β) H1 → va_S (pA E sz) H0 H1 locs1 → W p l e R s m args below meth c H1 locs1 cells slots Q (F0 m (pc + 3) ls rest)) : W p l e R s m args below meth c H locs cells slots Q (F0 m pc ls (.int v :: .ref (pL E (10 + k)) :: rest)) :=
  va_put (C := RX2) (T := TX2) (N := 3) (ci := 4) (own := RX2) (ref := RX2) (Ts := u_ws RX2 TX2 3) (A := pA E sz) C.1 C.2.1 (u_X2 C.2.2.2.2.1 args) (fun _ h => h) tyX2 tyX2_ok nmX2 C.2.2.2.1 C.2.2.2.2.2.1 hP (pw_D C.2.2.2.2.2.2) hS (10 + k) (e_X2 hk) rfl 2 (by decide) (C.2.2.2.2.1.1 _ (List.mem_of_getElem? (i := 89) rfl) rfl args) (fun _ h => h) rfl (ty := .boolean) (by decide +kernel) (pz_n hz) (pz_f hz) (Nat.le_of_ble_eq_true rfl) hdg (fun H1 locs1 hP1 _ hS1 => kk H1 locs1 ((t_X2_hasFailed hk v) ▸ hP1) hS1)
set_option maxRecDepth 20000 in
theorem g_3_9 (C : pCx p s m c cc nL E RX3) (hP : va_P (pD E) vwCl (pw E α β) H) {k : Nat} (hk : k < 6) (hdg : decode cc pc = .ok (.getfield 9, 3)) (kk : W p l e R s m args below meth c H locs cells slots Q (F0 m (pc + 3) ls (.ref (pL E (44 + k)) :: rest))) : W p l e R s m args below meth c H locs cells slots Q (F0 m pc ls (.ref (pL E (16 + k)) :: rest)) :=
  va_get (C := RX3) (T := TX3) (N := 7) (ci := 5) (own := RX3) (ref := RX3) (Ts := u_ws RX3 TX3 7) C.1 C.2.1 (u_X3 C.2.2.2.2.1 args) (fun _ h => h) C.2.2.2.1 C.2.2.2.2.2.1 hP (16 + k) (e_X3 hk) rfl 0 (by decide) (C.2.2.2.2.1.1 _ (List.mem_of_getElem? (i := 116) rfl) rfl args) (fun _ h => h) rfl hdg kk
set_option maxRecDepth 20000 in
theorem g_3_15 (C : pCx p s m c cc nL E RX3) (hP : va_P (pD E) vwCl (pw E α β) H) {k : Nat} (hk : k < 6) (hdg : decode cc pc = .ok (.getfield 15, 3)) (kk : W p l e R s m args below meth c H locs cells slots Q (F0 m (pc + 3) ls (.int (α 4 k) :: rest))) : W p l e R s m args below meth c H locs cells slots Q (F0 m pc ls (.ref (pL E (16 + k)) :: rest)) :=
  va_get (C := RX3) (T := TX3) (N := 7) (ci := 5) (own := RX3) (ref := RX3) (Ts := u_ws RX3 TX3 7) C.1 C.2.1 (u_X3 C.2.2.2.2.1 args) (fun _ h => h) C.2.2.2.1 C.2.2.2.2.2.1 hP (16 + k) (e_X3 hk) rfl 1 (by decide) (C.2.2.2.2.1.1 _ (List.mem_of_getElem? (i := 117) rfl) rfl args) (fun _ h => h) rfl hdg kk
set_option maxRecDepth 20000 in
theorem s_3_15 (C : pCx p s m c cc nL E RX3) (hP : va_P (pD E) vwCl (pw E α β) H) (hS : va_S (pA E sz) H0 H locs) {k : Nat} (hk : k < 6) {v : Int32} (hdg : decode cc pc = .ok (.putfield 15, 3)) (kk : ∀ (H1 : Heap) (locs1 : List Loc), va_P (pD E) vwCl (pw E (up2 α 4 k v) β) H1 → va_S (pA E sz) H0 H1 locs1 → W p l e R s m args below meth c H1 locs1 cells slots Q (F0 m (pc + 3) ls rest)) : W p l e R s m args below meth c H locs cells slots Q (F0 m pc ls (.int v :: .ref (pL E (16 + k)) :: rest)) :=
  va_put (C := RX3) (T := TX3) (N := 7) (ci := 5) (own := RX3) (ref := RX3) (Ts := u_ws RX3 TX3 7) (A := pA E sz) C.1 C.2.1 (u_X3 C.2.2.2.2.1 args) (fun _ h => h) tyX3 tyX3_ok nmX3 C.2.2.2.1 C.2.2.2.2.2.1 hP (pw_D C.2.2.2.2.2.2) hS (16 + k) (e_X3 hk) rfl 1 (by decide) (C.2.2.2.2.1.1 _ (List.mem_of_getElem? (i := 117) rfl) rfl args) (fun _ h => h) rfl (ty := .int) (by decide +kernel) rfl rfl (Nat.le_of_ble_eq_true rfl) hdg (fun H1 locs1 hP1 _ hS1 => kk H1 locs1 ((t_X3_file hk v) ▸ hP1) hS1)
set_option maxRecDepth 20000 in
theorem g_3_31 (C : pCx p s m c cc nL E RX3) (hP : va_P (pD E) vwCl (pw E α β) H) {k : Nat} (hk : k < 6) (hdg : decode cc pc = .ok (.getfield 31, 3)) (kk : W p l e R s m args below meth c H locs cells slots Q (F0 m (pc + 3) ls (.int (α 5 k) :: rest))) : W p l e R s m args below meth c H locs cells slots Q (F0 m pc ls (.ref (pL E (16 + k)) :: rest)) :=
  va_get (C := RX3) (T := TX3) (N := 7) (ci := 5) (own := RX3) (ref := RX3) (Ts := u_ws RX3 TX3 7) C.1 C.2.1 (u_X3 C.2.2.2.2.1 args) (fun _ h => h) C.2.2.2.1 C.2.2.2.2.2.1 hP (16 + k) (e_X3 hk) rfl 2 (by decide) (C.2.2.2.2.1.1 _ (List.mem_of_getElem? (i := 118) rfl) rfl args) (fun _ h => h) rfl hdg kk
set_option maxRecDepth 20000 in
theorem s_3_31 (C : pCx p s m c cc nL E RX3) (hP : va_P (pD E) vwCl (pw E α β) H) (hS : va_S (pA E sz) H0 H locs) {k : Nat} (hk : k < 6) {v : Int32} (hdg : decode cc pc = .ok (.putfield 31, 3)) (kk : ∀ (H1 : Heap) (locs1 : List Loc), va_P (pD E) vwCl (pw E (up2 α 5 k v) β) H1 → va_S (pA E sz) H0 H1 locs1 → W p l e R s m args below meth c H1 locs1 cells slots Q (F0 m (pc + 3) ls rest)) : W p l e R s m args below meth c H locs cells slots Q (F0 m pc ls (.int v :: .ref (pL E (16 + k)) :: rest)) :=
  va_put (C := RX3) (T := TX3) (N := 7) (ci := 5) (own := RX3) (ref := RX3) (Ts := u_ws RX3 TX3 7) (A := pA E sz) C.1 C.2.1 (u_X3 C.2.2.2.2.1 args) (fun _ h => h) tyX3 tyX3_ok nmX3 C.2.2.2.1 C.2.2.2.2.2.1 hP (pw_D C.2.2.2.2.2.2) hS (16 + k) (e_X3 hk) rfl 2 (by decide) (C.2.2.2.2.1.1 _ (List.mem_of_getElem? (i := 118) rfl) rfl args) (fun _ h => h) rfl (ty := .int) (by decide +kernel) rfl rfl (Nat.le_of_ble_eq_true rfl) hdg (fun H1 locs1 hP1 _ hS1 => kk H1 locs1 ((t_X3_rules hk v) ▸ hP1) hS1)
set_option maxRecDepth 20000 in
theorem g_3_34 (C : pCx p s m c cc nL E RX3) (hP : va_P (pD E) vwCl (pw E α β) H) {k : Nat} (hk : k < 6) (hdg : decode cc pc = .ok (.getfield 34, 3)) (kk : W p l e R s m args below meth c H locs cells slots Q (F0 m (pc + 3) ls (.int (α 6 k) :: rest))) : W p l e R s m args below meth c H locs cells slots Q (F0 m pc ls (.ref (pL E (16 + k)) :: rest)) :=
  va_get (C := RX3) (T := TX3) (N := 7) (ci := 5) (own := RX3) (ref := RX3) (Ts := u_ws RX3 TX3 7) C.1 C.2.1 (u_X3 C.2.2.2.2.1 args) (fun _ h => h) C.2.2.2.1 C.2.2.2.2.2.1 hP (16 + k) (e_X3 hk) rfl 3 (by decide) (C.2.2.2.2.1.1 _ (List.mem_of_getElem? (i := 120) rfl) rfl args) (fun _ h => h) rfl hdg kk
set_option maxRecDepth 20000 in
theorem s_3_34 (C : pCx p s m c cc nL E RX3) (hP : va_P (pD E) vwCl (pw E α β) H) (hS : va_S (pA E sz) H0 H locs) {k : Nat} (hk : k < 6) {v : Int32} (hdg : decode cc pc = .ok (.putfield 34, 3)) (kk : ∀ (H1 : Heap) (locs1 : List Loc), va_P (pD E) vwCl (pw E (up2 α 6 k v) β) H1 → va_S (pA E sz) H0 H1 locs1 → W p l e R s m args below meth c H1 locs1 cells slots Q (F0 m (pc + 3) ls rest)) : W p l e R s m args below meth c H locs cells slots Q (F0 m pc ls (.int v :: .ref (pL E (16 + k)) :: rest)) :=
  va_put (C := RX3) (T := TX3) (N := 7) (ci := 5) (own := RX3) (ref := RX3) (Ts := u_ws RX3 TX3 7) (A := pA E sz) C.1 C.2.1 (u_X3 C.2.2.2.2.1 args) (fun _ h => h) tyX3 tyX3_ok nmX3 C.2.2.2.1 C.2.2.2.2.2.1 hP (pw_D C.2.2.2.2.2.2) hS (16 + k) (e_X3 hk) rfl 3 (by decide) (C.2.2.2.2.1.1 _ (List.mem_of_getElem? (i := 120) rfl) rfl args) (fun _ h => h) rfl (ty := .int) (by decide +kernel) rfl rfl (Nat.le_of_ble_eq_true rfl) hdg (fun H1 locs1 hP1 _ hS1 => kk H1 locs1 ((t_X3_value hk v) ▸ hP1) hS1)
set_option maxRecDepth 20000 in
theorem g_3_37 (C : pCx p s m c cc nL E RX3) (hP : va_P (pD E) vwCl (pw E α β) H) {k : Nat} (hk : k < 6) (hdg : decode cc pc = .ok (.getfield 37, 3)) (kk : W p l e R s m args below meth c H locs cells slots Q (F0 m (pc + 3) ls (.int (α 8 k) :: rest))) : W p l e R s m args below meth c H locs cells slots Q (F0 m pc ls (.ref (pL E (16 + k)) :: rest)) :=
  va_get (C := RX3) (T := TX3) (N := 7) (ci := 5) (own := RX3) (ref := RX3) (Ts := u_ws RX3 TX3 7) C.1 C.2.1 (u_X3 C.2.2.2.2.1 args) (fun _ h => h) C.2.2.2.1 C.2.2.2.2.2.1 hP (16 + k) (e_X3 hk) rfl 5 (by decide) (C.2.2.2.2.1.1 _ (List.mem_of_getElem? (i := 124) rfl) rfl args) (fun _ h => h) rfl hdg kk
set_option maxRecDepth 20000 in
theorem s_3_37 (C : pCx p s m c cc nL E RX3) (hP : va_P (pD E) vwCl (pw E α β) H) (hS : va_S (pA E sz) H0 H locs) {k : Nat} (hk : k < 6) {v : Int32} (hz : v = 0 ∨ v = 1) (hdg : decode cc pc = .ok (.putfield 37, 3)) (kk : ∀ (H1 : Heap) (locs1 : List Loc), va_P (pD E) vwCl (pw E (up2 α 8 k v) β) H1 → va_S (pA E sz) H0 H1 locs1 → W p l e R s m args below meth c H1 locs1 cells slots Q (F0 m (pc + 3) ls rest)) : W p l e R s m args below meth c H locs cells slots Q (F0 m pc ls (.int v :: .ref (pL E (16 + k)) :: rest)) :=
  va_put (C := RX3) (T := TX3) (N := 7) (ci := 5) (own := RX3) (ref := RX3) (Ts := u_ws RX3 TX3 7) (A := pA E sz) C.1 C.2.1 (u_X3 C.2.2.2.2.1 args) (fun _ h => h) tyX3 tyX3_ok nmX3 C.2.2.2.1 C.2.2.2.2.2.1 hP (pw_D C.2.2.2.2.2.2) hS (16 + k) (e_X3 hk) rfl 5 (by decide) (C.2.2.2.2.1.1 _ (List.mem_of_getElem? (i := 124) rfl) rfl args) (fun _ h => h) rfl (ty := .boolean) (by decide +kernel) (pz_n hz) (pz_f hz) (Nat.le_of_ble_eq_true rfl) hdg (fun H1 locs1 hP1 _ hS1 => kk H1 locs1 ((t_X3_stopped hk v) ▸ hP1) hS1)
set_option maxRecDepth 20000 in
theorem g_3_41 (C : pCx p s m c cc nL E RX3) (hP : va_P (pD E) vwCl (pw E α β) H) {k : Nat} (hk : k < 6) (hdg : decode cc pc = .ok (.getfield 41, 3)) (kk : W p l e R s m args below meth c H locs cells slots Q (F0 m (pc + 3) ls (.int (α 9 k) :: rest))) : W p l e R s m args below meth c H locs cells slots Q (F0 m pc ls (.ref (pL E (16 + k)) :: rest)) :=
  va_get (C := RX3) (T := TX3) (N := 7) (ci := 5) (own := RX3) (ref := RX3) (Ts := u_ws RX3 TX3 7) C.1 C.2.1 (u_X3 C.2.2.2.2.1 args) (fun _ h => h) C.2.2.2.1 C.2.2.2.2.2.1 hP (16 + k) (e_X3 hk) rfl 6 (by decide) (C.2.2.2.2.1.1 _ (List.mem_of_getElem? (i := 126) rfl) rfl args) (fun _ h => h) rfl hdg kk
set_option maxRecDepth 20000 in
theorem s_3_41 (C : pCx p s m c cc nL E RX3) (hP : va_P (pD E) vwCl (pw E α β) H) (hS : va_S (pA E sz) H0 H locs) {k : Nat} (hk : k < 6) {v : Int32} (hdg : decode cc pc = .ok (.putfield 41, 3)) (kk : ∀ (H1 : Heap) (locs1 : List Loc), va_P (pD E) vwCl (pw E (up2 α 9 k v) β) H1 → va_S (pA E sz) H0 H1 locs1 → W p l e R s m args below meth c H1 locs1 cells slots Q (F0 m (pc + 3) ls rest)) : W p l e R s m args below meth c H locs cells slots Q (F0 m pc ls (.int v :: .ref (pL E (16 + k)) :: rest)) :=
  va_put (C := RX3) (T := TX3) (N := 7) (ci := 5) (own := RX3) (ref := RX3) (Ts := u_ws RX3 TX3 7) (A := pA E sz) C.1 C.2.1 (u_X3 C.2.2.2.2.1 args) (fun _ h => h) tyX3 tyX3_ok nmX3 C.2.2.2.1 C.2.2.2.2.2.1 hP (pw_D C.2.2.2.2.2.2) hS (16 + k) (e_X3 hk) rfl 6 (by decide) (C.2.2.2.2.1.1 _ (List.mem_of_getElem? (i := 126) rfl) rfl args) (fun _ h => h) rfl (ty := .int) (by decide +kernel) rfl rfl (Nat.le_of_ble_eq_true rfl) hdg (fun H1 locs1 hP1 _ hS1 => kk H1 locs1 ((t_X3_steps hk v) ▸ hP1) hS1)
set_option maxRecDepth 20000 in
theorem g_3_47 (C : pCx p s m c cc nL E RX3) (hP : va_P (pD E) vwCl (pw E α β) H) {k : Nat} (hk : k < 6) (hdg : decode cc pc = .ok (.getfield 47, 3)) (kk : W p l e R s m args below meth c H locs cells slots Q (F0 m (pc + 3) ls (.int (α 7 k) :: rest))) : W p l e R s m args below meth c H locs cells slots Q (F0 m pc ls (.ref (pL E (16 + k)) :: rest)) :=
  va_get (C := RX3) (T := TX3) (N := 7) (ci := 5) (own := RX3) (ref := RX3) (Ts := u_ws RX3 TX3 7) C.1 C.2.1 (u_X3 C.2.2.2.2.1 args) (fun _ h => h) C.2.2.2.1 C.2.2.2.2.2.1 hP (16 + k) (e_X3 hk) rfl 4 (by decide) (C.2.2.2.2.1.1 _ (List.mem_of_getElem? (i := 123) rfl) rfl args) (fun _ h => h) rfl hdg kk
set_option maxRecDepth 20000 in
theorem s_3_47 (C : pCx p s m c cc nL E RX3) (hP : va_P (pD E) vwCl (pw E α β) H) (hS : va_S (pA E sz) H0 H locs) {k : Nat} (hk : k < 6) {v : Int32} (hdg : decode cc pc = .ok (.putfield 47, 3)) (kk : ∀ (H1 : Heap) (locs1 : List Loc), va_P (pD E) vwCl (pw E (up2 α 7 k v) β) H1 → va_S (pA E sz) H0 H1 locs1 → W p l e R s m args below meth c H1 locs1 cells slots Q (F0 m (pc + 3) ls rest)) : W p l e R s m args below meth c H locs cells slots Q (F0 m pc ls (.int v :: .ref (pL E (16 + k)) :: rest)) :=
  va_put (C := RX3) (T := TX3) (N := 7) (ci := 5) (own := RX3) (ref := RX3) (Ts := u_ws RX3 TX3 7) (A := pA E sz) C.1 C.2.1 (u_X3 C.2.2.2.2.1 args) (fun _ h => h) tyX3 tyX3_ok nmX3 C.2.2.2.1 C.2.2.2.2.2.1 hP (pw_D C.2.2.2.2.2.2) hS (16 + k) (e_X3 hk) rfl 4 (by decide) (C.2.2.2.2.1.1 _ (List.mem_of_getElem? (i := 123) rfl) rfl args) (fun _ h => h) rfl (ty := .int) (by decide +kernel) rfl rfl (Nat.le_of_ble_eq_true rfl) hdg (fun H1 locs1 hP1 _ hS1 => kk H1 locs1 ((t_X3_keptValue hk v) ▸ hP1) hS1)
set_option maxRecDepth 20000 in
theorem g_4_11 (C : pCx p s m c cc nL E RX4) (hP : va_P (pD E) vwCl (pw E α β) H) (hdg : decode cc pc = .ok (.getfield 11, 3)) (kk : W p l e R s m args below meth c H locs cells slots Q (F0 m (pc + 3) ls (.ref (pL E 4) :: rest))) : W p l e R s m args below meth c H locs cells slots Q (F0 m pc ls (.ref (pL E 3) :: rest)) :=
  va_get (C := RX4) (T := TX4) (N := 2) (ci := 6) (own := RX4) (ref := RX4) (Ts := u_ws RX4 TX4 2) C.1 C.2.1 (u_X4 C.2.2.2.2.1 args) (fun _ h => h) C.2.2.2.1 C.2.2.2.2.2.1 hP 3 (e_X4) rfl 0 (by decide) (C.2.2.2.2.1.1 _ (List.mem_of_getElem? (i := 143) rfl) rfl args) (fun _ h => h) rfl hdg kk
set_option maxRecDepth 20000 in
theorem g_4_18 (C : pCx p s m c cc nL E RX4) (hP : va_P (pD E) vwCl (pw E α β) H) (hdg : decode cc pc = .ok (.getfield 18, 3)) (kk : W p l e R s m args below meth c H locs cells slots Q (F0 m (pc + 3) ls (.int (α 10 0) :: rest))) : W p l e R s m args below meth c H locs cells slots Q (F0 m pc ls (.ref (pL E 3) :: rest)) :=
  va_get (C := RX4) (T := TX4) (N := 2) (ci := 6) (own := RX4) (ref := RX4) (Ts := u_ws RX4 TX4 2) C.1 C.2.1 (u_X4 C.2.2.2.2.1 args) (fun _ h => h) C.2.2.2.1 C.2.2.2.2.2.1 hP 3 (e_X4) rfl 1 (by decide) (C.2.2.2.2.1.1 _ (List.mem_of_getElem? (i := 144) rfl) rfl args) (fun _ h => h) rfl hdg kk
set_option maxRecDepth 20000 in
theorem s_4_18 (C : pCx p s m c cc nL E RX4) (hP : va_P (pD E) vwCl (pw E α β) H) (hS : va_S (pA E sz) H0 H locs) {v : Int32} (hdg : decode cc pc = .ok (.putfield 18, 3)) (kk : ∀ (H1 : Heap) (locs1 : List Loc), va_P (pD E) vwCl (pw E (up2 α 10 0 v) β) H1 → va_S (pA E sz) H0 H1 locs1 → W p l e R s m args below meth c H1 locs1 cells slots Q (F0 m (pc + 3) ls rest)) : W p l e R s m args below meth c H locs cells slots Q (F0 m pc ls (.int v :: .ref (pL E 3) :: rest)) :=
  va_put (C := RX4) (T := TX4) (N := 2) (ci := 6) (own := RX4) (ref := RX4) (Ts := u_ws RX4 TX4 2) (A := pA E sz) C.1 C.2.1 (u_X4 C.2.2.2.2.1 args) (fun _ h => h) tyX4 tyX4_ok nmX4 C.2.2.2.1 C.2.2.2.2.2.1 hP (pw_D C.2.2.2.2.2.2) hS 3 (e_X4) rfl 1 (by decide) (C.2.2.2.2.1.1 _ (List.mem_of_getElem? (i := 144) rfl) rfl args) (fun _ h => h) rfl (ty := .int) (by decide +kernel) rfl rfl (Nat.le_of_ble_eq_true rfl) hdg (fun H1 locs1 hP1 _ hS1 => kk H1 locs1 ((t_X4_count v) ▸ hP1) hS1)
set_option maxRecDepth 20000 in
theorem g_5_11 (C : pCx p s m c cc nL E RX5) (hP : va_P (pD E) vwCl (pw E α β) H) (hdg : decode cc pc = .ok (.getfield 11, 3)) (kk : W p l e R s m args below meth c H locs cells slots Q (F0 m (pc + 3) ls (.ref (pL E 56) :: rest))) : W p l e R s m args below meth c H locs cells slots Q (F0 m pc ls (.ref (pL E 7) :: rest)) :=
  va_get (C := RX5) (T := TX5) (N := 1) (ci := 7) (own := RX5) (ref := RX5) (Ts := u_ws RX5 TX5 1) C.1 C.2.1 (u_X5 C.2.2.2.2.1 args) (fun _ h => h) C.2.2.2.1 C.2.2.2.2.2.1 hP 7 (e_X5) rfl 0 (by decide) (C.2.2.2.2.1.1 _ (List.mem_of_getElem? (i := 198) rfl) rfl args) (fun _ h => h) rfl hdg kk
set_option maxRecDepth 20000 in
theorem g_6_15 (C : pCx p s m c cc nL E RX6) (hP : va_P (pD E) vwCl (pw E α β) H) {k : Nat} (hk : k < 11) (hdg : decode cc pc = .ok (.getfield 15, 3)) (kk : W p l e R s m args below meth c H locs cells slots Q (F0 m (pc + 3) ls (.ref (pL E (33 + k)) :: rest))) : W p l e R s m args below meth c H locs cells slots Q (F0 m pc ls (.ref (pL E (22 + k)) :: rest)) :=
  va_get (C := RX6) (T := TX6) (N := 3) (ci := 8) (own := RX6) (ref := RX6) (Ts := u_ws RX6 TX6 3) C.1 C.2.1 (u_X6 C.2.2.2.2.1 args) (fun _ h => h) C.2.2.2.1 C.2.2.2.2.2.1 hP (22 + k) (e_X6 hk) rfl 0 (by decide) (C.2.2.2.2.1.1 _ (List.mem_of_getElem? (i := 65) rfl) rfl args) (fun _ h => h) rfl hdg kk
set_option maxRecDepth 20000 in
theorem g_6_21 (C : pCx p s m c cc nL E RX6) (hP : va_P (pD E) vwCl (pw E α β) H) {k : Nat} (hk : k < 11) (hdg : decode cc pc = .ok (.getfield 21, 3)) (kk : W p l e R s m args below meth c H locs cells slots Q (F0 m (pc + 3) ls (.int (α 0 k) :: rest))) : W p l e R s m args below meth c H locs cells slots Q (F0 m pc ls (.ref (pL E (22 + k)) :: rest)) :=
  va_get (C := RX6) (T := TX6) (N := 3) (ci := 8) (own := RX6) (ref := RX6) (Ts := u_ws RX6 TX6 3) C.1 C.2.1 (u_X6 C.2.2.2.2.1 args) (fun _ h => h) C.2.2.2.1 C.2.2.2.2.2.1 hP (22 + k) (e_X6 hk) rfl 1 (by decide) (C.2.2.2.2.1.1 _ (List.mem_of_getElem? (i := 66) rfl) rfl args) (fun _ h => h) rfl hdg kk
set_option maxRecDepth 20000 in
theorem s_6_21 (C : pCx p s m c cc nL E RX6) (hP : va_P (pD E) vwCl (pw E α β) H) (hS : va_S (pA E sz) H0 H locs) {k : Nat} (hk : k < 11) {v : Int32} (hdg : decode cc pc = .ok (.putfield 21, 3)) (kk : ∀ (H1 : Heap) (locs1 : List Loc), va_P (pD E) vwCl (pw E (up2 α 0 k v) β) H1 → va_S (pA E sz) H0 H1 locs1 → W p l e R s m args below meth c H1 locs1 cells slots Q (F0 m (pc + 3) ls rest)) : W p l e R s m args below meth c H locs cells slots Q (F0 m pc ls (.int v :: .ref (pL E (22 + k)) :: rest)) :=
  va_put (C := RX6) (T := TX6) (N := 3) (ci := 8) (own := RX6) (ref := RX6) (Ts := u_ws RX6 TX6 3) (A := pA E sz) C.1 C.2.1 (u_X6 C.2.2.2.2.1 args) (fun _ h => h) tyX6 tyX6_ok nmX6 C.2.2.2.1 C.2.2.2.2.2.1 hP (pw_D C.2.2.2.2.2.2) hS (22 + k) (e_X6 hk) rfl 1 (by decide) (C.2.2.2.2.1.1 _ (List.mem_of_getElem? (i := 66) rfl) rfl args) (fun _ h => h) rfl (ty := .int) (by decide +kernel) rfl rfl (Nat.le_of_ble_eq_true rfl) hdg (fun H1 locs1 hP1 _ hS1 => kk H1 locs1 ((t_X6_length hk v) ▸ hP1) hS1)
set_option maxRecDepth 20000 in
theorem g_6_40 (C : pCx p s m c cc nL E RX6) (hP : va_P (pD E) vwCl (pw E α β) H) {k : Nat} (hk : k < 11) (hdg : decode cc pc = .ok (.getfield 40, 3)) (kk : W p l e R s m args below meth c H locs cells slots Q (F0 m (pc + 3) ls (.int (α 1 k) :: rest))) : W p l e R s m args below meth c H locs cells slots Q (F0 m pc ls (.ref (pL E (22 + k)) :: rest)) :=
  va_get (C := RX6) (T := TX6) (N := 3) (ci := 8) (own := RX6) (ref := RX6) (Ts := u_ws RX6 TX6 3) C.1 C.2.1 (u_X6 C.2.2.2.2.1 args) (fun _ h => h) C.2.2.2.1 C.2.2.2.2.2.1 hP (22 + k) (e_X6 hk) rfl 2 (by decide) (C.2.2.2.2.1.1 _ (List.mem_of_getElem? (i := 67) rfl) rfl args) (fun _ h => h) rfl hdg kk
set_option maxRecDepth 20000 in
theorem s_6_40 (C : pCx p s m c cc nL E RX6) (hP : va_P (pD E) vwCl (pw E α β) H) (hS : va_S (pA E sz) H0 H locs) {k : Nat} (hk : k < 11) {v : Int32} (hdg : decode cc pc = .ok (.putfield 40, 3)) (kk : ∀ (H1 : Heap) (locs1 : List Loc), va_P (pD E) vwCl (pw E (up2 α 1 k v) β) H1 → va_S (pA E sz) H0 H1 locs1 → W p l e R s m args below meth c H1 locs1 cells slots Q (F0 m (pc + 3) ls rest)) : W p l e R s m args below meth c H locs cells slots Q (F0 m pc ls (.int v :: .ref (pL E (22 + k)) :: rest)) :=
  va_put (C := RX6) (T := TX6) (N := 3) (ci := 8) (own := RX6) (ref := RX6) (Ts := u_ws RX6 TX6 3) (A := pA E sz) C.1 C.2.1 (u_X6 C.2.2.2.2.1 args) (fun _ h => h) tyX6 tyX6_ok nmX6 C.2.2.2.1 C.2.2.2.2.2.1 hP (pw_D C.2.2.2.2.2.2) hS (22 + k) (e_X6 hk) rfl 2 (by decide) (C.2.2.2.2.1.1 _ (List.mem_of_getElem? (i := 67) rfl) rfl args) (fun _ h => h) rfl (ty := .int) (by decide +kernel) rfl rfl (Nat.le_of_ble_eq_true rfl) hdg (fun H1 locs1 hP1 _ hS1 => kk H1 locs1 ((t_X6_kept hk v) ▸ hP1) hS1)
set_option maxRecDepth 20000 in
theorem g_7_12 (C : pCx p s m c cc nL E RX7) (hP : va_P (pD E) vwCl (pw E α β) H) (hdg : decode cc pc = .ok (.getfield 12, 3)) (kk : W p l e R s m args below meth c H locs cells slots Q (F0 m (pc + 3) ls (.ref (pL E 3) :: rest))) : W p l e R s m args below meth c H locs cells slots Q (F0 m pc ls (.ref (pL E 2) :: rest)) :=
  va_get (C := RX7) (T := TX7) (N := 15) (ci := 9) (own := RX7) (ref := RX7) (Ts := u_ws RX7 TX7 15) C.1 C.2.1 (u_X7 C.2.2.2.2.1 args) (fun _ h => h) C.2.2.2.1 C.2.2.2.2.2.1 hP 2 (e_X7) rfl 0 (by decide) (C.2.2.2.2.1.1 _ (List.mem_of_getElem? (i := 202) rfl) rfl args) (fun _ h => h) rfl hdg kk
set_option maxRecDepth 20000 in
theorem g_7_21 (C : pCx p s m c cc nL E RX7) (hP : va_P (pD E) vwCl (pw E α β) H) (hdg : decode cc pc = .ok (.getfield 21, 3)) (kk : W p l e R s m args below meth c H locs cells slots Q (F0 m (pc + 3) ls (.ref (pL E 5) :: rest))) : W p l e R s m args below meth c H locs cells slots Q (F0 m pc ls (.ref (pL E 2) :: rest)) :=
  va_get (C := RX7) (T := TX7) (N := 15) (ci := 9) (own := RX7) (ref := RX7) (Ts := u_ws RX7 TX7 15) C.1 C.2.1 (u_X7 C.2.2.2.2.1 args) (fun _ h => h) C.2.2.2.1 C.2.2.2.2.2.1 hP 2 (e_X7) rfl 1 (by decide) (C.2.2.2.2.1.1 _ (List.mem_of_getElem? (i := 204) rfl) rfl args) (fun _ h => h) rfl hdg kk
set_option maxRecDepth 20000 in
theorem g_7_28 (C : pCx p s m c cc nL E RX7) (hP : va_P (pD E) vwCl (pw E α β) H) (hdg : decode cc pc = .ok (.getfield 28, 3)) (kk : W p l e R s m args below meth c H locs cells slots Q (F0 m (pc + 3) ls (.ref (pL E 6) :: rest))) : W p l e R s m args below meth c H locs cells slots Q (F0 m pc ls (.ref (pL E 2) :: rest)) :=
  va_get (C := RX7) (T := TX7) (N := 15) (ci := 9) (own := RX7) (ref := RX7) (Ts := u_ws RX7 TX7 15) C.1 C.2.1 (u_X7 C.2.2.2.2.1 args) (fun _ h => h) C.2.2.2.1 C.2.2.2.2.2.1 hP 2 (e_X7) rfl 2 (by decide) (C.2.2.2.2.1.1 _ (List.mem_of_getElem? (i := 206) rfl) rfl args) (fun _ h => h) rfl hdg kk
set_option maxRecDepth 20000 in
theorem g_7_35 (C : pCx p s m c cc nL E RX7) (hP : va_P (pD E) vwCl (pw E α β) H) (hdg : decode cc pc = .ok (.getfield 35, 3)) (kk : W p l e R s m args below meth c H locs cells slots Q (F0 m (pc + 3) ls (.ref (pL E 7) :: rest))) : W p l e R s m args below meth c H locs cells slots Q (F0 m pc ls (.ref (pL E 2) :: rest)) :=
  va_get (C := RX7) (T := TX7) (N := 15) (ci := 9) (own := RX7) (ref := RX7) (Ts := u_ws RX7 TX7 15) C.1 C.2.1 (u_X7 C.2.2.2.2.1 args) (fun _ h => h) C.2.2.2.1 C.2.2.2.2.2.1 hP 2 (e_X7) rfl 3 (by decide) (C.2.2.2.2.1.1 _ (List.mem_of_getElem? (i := 208) rfl) rfl args) (fun _ h => h) rfl hdg kk
set_option maxRecDepth 20000 in
theorem g_7_39 (C : pCx p s m c cc nL E RX7) (hP : va_P (pD E) vwCl (pw E α β) H) (hdg : decode cc pc = .ok (.getfield 39, 3)) (kk : W p l e R s m args below meth c H locs cells slots Q (F0 m (pc + 3) ls (.ref (pL E 8) :: rest))) : W p l e R s m args below meth c H locs cells slots Q (F0 m pc ls (.ref (pL E 2) :: rest)) :=
  va_get (C := RX7) (T := TX7) (N := 15) (ci := 9) (own := RX7) (ref := RX7) (Ts := u_ws RX7 TX7 15) C.1 C.2.1 (u_X7 C.2.2.2.2.1 args) (fun _ h => h) C.2.2.2.1 C.2.2.2.2.2.1 hP 2 (e_X7) rfl 4 (by decide) (C.2.2.2.2.1.1 _ (List.mem_of_getElem? (i := 210) rfl) rfl args) (fun _ h => h) rfl hdg kk
set_option maxRecDepth 20000 in
theorem g_7_43 (C : pCx p s m c cc nL E RX7) (hP : va_P (pD E) vwCl (pw E α β) H) (hdg : decode cc pc = .ok (.getfield 43, 3)) (kk : W p l e R s m args below meth c H locs cells slots Q (F0 m (pc + 3) ls (.ref (pL E 9) :: rest))) : W p l e R s m args below meth c H locs cells slots Q (F0 m pc ls (.ref (pL E 2) :: rest)) :=
  va_get (C := RX7) (T := TX7) (N := 15) (ci := 9) (own := RX7) (ref := RX7) (Ts := u_ws RX7 TX7 15) C.1 C.2.1 (u_X7 C.2.2.2.2.1 args) (fun _ h => h) C.2.2.2.1 C.2.2.2.2.2.1 hP 2 (e_X7) rfl 5 (by decide) (C.2.2.2.2.1.1 _ (List.mem_of_getElem? (i := 212) rfl) rfl args) (fun _ h => h) rfl hdg kk
set_option maxRecDepth 20000 in
theorem g_7_57 (C : pCx p s m c cc nL E RX7) (hP : va_P (pD E) vwCl (pw E α β) H) (hdg : decode cc pc = .ok (.getfield 57, 3)) (kk : W p l e R s m args below meth c H locs cells slots Q (F0 m (pc + 3) ls (.int (α 15 0) :: rest))) : W p l e R s m args below meth c H locs cells slots Q (F0 m pc ls (.ref (pL E 2) :: rest)) :=
  va_get (C := RX7) (T := TX7) (N := 15) (ci := 9) (own := RX7) (ref := RX7) (Ts := u_ws RX7 TX7 15) C.1 C.2.1 (u_X7 C.2.2.2.2.1 args) (fun _ h => h) C.2.2.2.1 C.2.2.2.2.2.1 hP 2 (e_X7) rfl 8 (by decide) (C.2.2.2.2.1.1 _ (List.mem_of_getElem? (i := 215) rfl) rfl args) (fun _ h => h) rfl hdg kk
set_option maxRecDepth 20000 in
theorem s_7_57 (C : pCx p s m c cc nL E RX7) (hP : va_P (pD E) vwCl (pw E α β) H) (hS : va_S (pA E sz) H0 H locs) {v : Int32} (hdg : decode cc pc = .ok (.putfield 57, 3)) (kk : ∀ (H1 : Heap) (locs1 : List Loc), va_P (pD E) vwCl (pw E (up2 α 15 0 v) β) H1 → va_S (pA E sz) H0 H1 locs1 → W p l e R s m args below meth c H1 locs1 cells slots Q (F0 m (pc + 3) ls rest)) : W p l e R s m args below meth c H locs cells slots Q (F0 m pc ls (.int v :: .ref (pL E 2) :: rest)) :=
  va_put (C := RX7) (T := TX7) (N := 15) (ci := 9) (own := RX7) (ref := RX7) (Ts := u_ws RX7 TX7 15) (A := pA E sz) C.1 C.2.1 (u_X7 C.2.2.2.2.1 args) (fun _ h => h) tyX7 tyX7_ok nmX7 C.2.2.2.1 C.2.2.2.2.2.1 hP (pw_D C.2.2.2.2.2.2) hS 2 (e_X7) rfl 8 (by decide) (C.2.2.2.2.1.1 _ (List.mem_of_getElem? (i := 215) rfl) rfl args) (fun _ h => h) rfl (ty := .int) (by decide +kernel) rfl rfl (Nat.le_of_ble_eq_true rfl) hdg (fun H1 locs1 hP1 _ hS1 => kk H1 locs1 ((t_X7_state v) ▸ hP1) hS1)
set_option maxRecDepth 20000 in
theorem g_7_65 (C : pCx p s m c cc nL E RX7) (hP : va_P (pD E) vwCl (pw E α β) H) (hdg : decode cc pc = .ok (.getfield 65, 3)) (kk : W p l e R s m args below meth c H locs cells slots Q (F0 m (pc + 3) ls (.int (α 17 0) :: rest))) : W p l e R s m args below meth c H locs cells slots Q (F0 m pc ls (.ref (pL E 2) :: rest)) :=
  va_get (C := RX7) (T := TX7) (N := 15) (ci := 9) (own := RX7) (ref := RX7) (Ts := u_ws RX7 TX7 15) C.1 C.2.1 (u_X7 C.2.2.2.2.1 args) (fun _ h => h) C.2.2.2.1 C.2.2.2.2.2.1 hP 2 (e_X7) rfl 10 (by decide) (C.2.2.2.2.1.1 _ (List.mem_of_getElem? (i := 218) rfl) rfl args) (fun _ h => h) rfl hdg kk
set_option maxRecDepth 20000 in
theorem s_7_65 (C : pCx p s m c cc nL E RX7) (hP : va_P (pD E) vwCl (pw E α β) H) (hS : va_S (pA E sz) H0 H locs) {v : Int32} (hdg : decode cc pc = .ok (.putfield 65, 3)) (kk : ∀ (H1 : Heap) (locs1 : List Loc), va_P (pD E) vwCl (pw E (up2 α 17 0 v) β) H1 → va_S (pA E sz) H0 H1 locs1 → W p l e R s m args below meth c H1 locs1 cells slots Q (F0 m (pc + 3) ls rest)) : W p l e R s m args below meth c H locs cells slots Q (F0 m pc ls (.int v :: .ref (pL E 2) :: rest)) :=
  va_put (C := RX7) (T := TX7) (N := 15) (ci := 9) (own := RX7) (ref := RX7) (Ts := u_ws RX7 TX7 15) (A := pA E sz) C.1 C.2.1 (u_X7 C.2.2.2.2.1 args) (fun _ h => h) tyX7 tyX7_ok nmX7 C.2.2.2.1 C.2.2.2.2.2.1 hP (pw_D C.2.2.2.2.2.2) hS 2 (e_X7) rfl 10 (by decide) (C.2.2.2.2.1.1 _ (List.mem_of_getElem? (i := 218) rfl) rfl args) (fun _ h => h) rfl (ty := .int) (by decide +kernel) rfl rfl (Nat.le_of_ble_eq_true rfl) hdg (fun H1 locs1 hP1 _ hS1 => kk H1 locs1 ((t_X7_rounds v) ▸ hP1) hS1)
set_option maxRecDepth 20000 in
theorem g_7_78 (C : pCx p s m c cc nL E RX7) (hP : va_P (pD E) vwCl (pw E α β) H) (hdg : decode cc pc = .ok (.getfield 78, 3)) (kk : W p l e R s m args below meth c H locs cells slots Q (F0 m (pc + 3) ls (.int (α 18 0) :: rest))) : W p l e R s m args below meth c H locs cells slots Q (F0 m pc ls (.ref (pL E 2) :: rest)) :=
  va_get (C := RX7) (T := TX7) (N := 15) (ci := 9) (own := RX7) (ref := RX7) (Ts := u_ws RX7 TX7 15) C.1 C.2.1 (u_X7 C.2.2.2.2.1 args) (fun _ h => h) C.2.2.2.1 C.2.2.2.2.2.1 hP 2 (e_X7) rfl 11 (by decide) (C.2.2.2.2.1.1 _ (List.mem_of_getElem? (i := 220) rfl) rfl args) (fun _ h => h) rfl hdg kk
set_option maxRecDepth 20000 in
theorem s_7_78 (C : pCx p s m c cc nL E RX7) (hP : va_P (pD E) vwCl (pw E α β) H) (hS : va_S (pA E sz) H0 H locs) {v : Int32} (hdg : decode cc pc = .ok (.putfield 78, 3)) (kk : ∀ (H1 : Heap) (locs1 : List Loc), va_P (pD E) vwCl (pw E (up2 α 18 0 v) β) H1 → va_S (pA E sz) H0 H1 locs1 → W p l e R s m args below meth c H1 locs1 cells slots Q (F0 m (pc + 3) ls rest)) : W p l e R s m args below meth c H locs cells slots Q (F0 m pc ls (.int v :: .ref (pL E 2) :: rest)) :=
  va_put (C := RX7) (T := TX7) (N := 15) (ci := 9) (own := RX7) (ref := RX7) (Ts := u_ws RX7 TX7 15) (A := pA E sz) C.1 C.2.1 (u_X7 C.2.2.2.2.1 args) (fun _ h => h) tyX7 tyX7_ok nmX7 C.2.2.2.1 C.2.2.2.2.2.1 hP (pw_D C.2.2.2.2.2.2) hS 2 (e_X7) rfl 11 (by decide) (C.2.2.2.2.1.1 _ (List.mem_of_getElem? (i := 220) rfl) rfl args) (fun _ h => h) rfl (ty := .int) (by decide +kernel) rfl rfl (Nat.le_of_ble_eq_true rfl) hdg (fun H1 locs1 hP1 _ hS1 => kk H1 locs1 ((t_X7_made v) ▸ hP1) hS1)
set_option maxRecDepth 20000 in
theorem g_7_81 (C : pCx p s m c cc nL E RX7) (hP : va_P (pD E) vwCl (pw E α β) H) (hdg : decode cc pc = .ok (.getfield 81, 3)) (kk : W p l e R s m args below meth c H locs cells slots Q (F0 m (pc + 3) ls (.int (α 14 0) :: rest))) : W p l e R s m args below meth c H locs cells slots Q (F0 m pc ls (.ref (pL E 2) :: rest)) :=
  va_get (C := RX7) (T := TX7) (N := 15) (ci := 9) (own := RX7) (ref := RX7) (Ts := u_ws RX7 TX7 15) C.1 C.2.1 (u_X7 C.2.2.2.2.1 args) (fun _ h => h) C.2.2.2.1 C.2.2.2.2.2.1 hP 2 (e_X7) rfl 7 (by decide) (C.2.2.2.2.1.1 _ (List.mem_of_getElem? (i := 214) rfl) rfl args) (fun _ h => h) rfl hdg kk
set_option maxRecDepth 20000 in
theorem s_7_81 (C : pCx p s m c cc nL E RX7) (hP : va_P (pD E) vwCl (pw E α β) H) (hS : va_S (pA E sz) H0 H locs) {v : Int32} (hdg : decode cc pc = .ok (.putfield 81, 3)) (kk : ∀ (H1 : Heap) (locs1 : List Loc), va_P (pD E) vwCl (pw E (up2 α 14 0 v) β) H1 → va_S (pA E sz) H0 H1 locs1 → W p l e R s m args below meth c H1 locs1 cells slots Q (F0 m (pc + 3) ls rest)) : W p l e R s m args below meth c H locs cells slots Q (F0 m pc ls (.int v :: .ref (pL E 2) :: rest)) :=
  va_put (C := RX7) (T := TX7) (N := 15) (ci := 9) (own := RX7) (ref := RX7) (Ts := u_ws RX7 TX7 15) (A := pA E sz) C.1 C.2.1 (u_X7 C.2.2.2.2.1 args) (fun _ h => h) tyX7 tyX7_ok nmX7 C.2.2.2.1 C.2.2.2.2.2.1 hP (pw_D C.2.2.2.2.2.2) hS 2 (e_X7) rfl 7 (by decide) (C.2.2.2.2.1.1 _ (List.mem_of_getElem? (i := 214) rfl) rfl args) (fun _ h => h) rfl (ty := .int) (by decide +kernel) rfl rfl (Nat.le_of_ble_eq_true rfl) hdg (fun H1 locs1 hP1 _ hS1 => kk H1 locs1 ((t_X7_limit v) ▸ hP1) hS1)
set_option maxRecDepth 20000 in
theorem g_7_84 (C : pCx p s m c cc nL E RX7) (hP : va_P (pD E) vwCl (pw E α β) H) (hdg : decode cc pc = .ok (.getfield 84, 3)) (kk : W p l e R s m args below meth c H locs cells slots Q (F0 m (pc + 3) ls (.int (α 13 0) :: rest))) : W p l e R s m args below meth c H locs cells slots Q (F0 m pc ls (.ref (pL E 2) :: rest)) :=
  va_get (C := RX7) (T := TX7) (N := 15) (ci := 9) (own := RX7) (ref := RX7) (Ts := u_ws RX7 TX7 15) C.1 C.2.1 (u_X7 C.2.2.2.2.1 args) (fun _ h => h) C.2.2.2.1 C.2.2.2.2.2.1 hP 2 (e_X7) rfl 6 (by decide) (C.2.2.2.2.1.1 _ (List.mem_of_getElem? (i := 213) rfl) rfl args) (fun _ h => h) rfl hdg kk
set_option maxRecDepth 20000 in
theorem s_7_84 (C : pCx p s m c cc nL E RX7) (hP : va_P (pD E) vwCl (pw E α β) H) (hS : va_S (pA E sz) H0 H locs) {v : Int32} (hz : v = 0 ∨ v = 1) (hdg : decode cc pc = .ok (.putfield 84, 3)) (kk : ∀ (H1 : Heap) (locs1 : List Loc), va_P (pD E) vwCl (pw E (up2 α 13 0 v) β) H1 → va_S (pA E sz) H0 H1 locs1 → W p l e R s m args below meth c H1 locs1 cells slots Q (F0 m (pc + 3) ls rest)) : W p l e R s m args below meth c H locs cells slots Q (F0 m pc ls (.int v :: .ref (pL E 2) :: rest)) :=
  va_put (C := RX7) (T := TX7) (N := 15) (ci := 9) (own := RX7) (ref := RX7) (Ts := u_ws RX7 TX7 15) (A := pA E sz) C.1 C.2.1 (u_X7 C.2.2.2.2.1 args) (fun _ h => h) tyX7 tyX7_ok nmX7 C.2.2.2.1 C.2.2.2.2.2.1 hP (pw_D C.2.2.2.2.2.2) hS 2 (e_X7) rfl 6 (by decide) (C.2.2.2.2.1.1 _ (List.mem_of_getElem? (i := 213) rfl) rfl args) (fun _ h => h) rfl (ty := .boolean) (by decide +kernel) (pz_n hz) (pz_f hz) (Nat.le_of_ble_eq_true rfl) hdg (fun H1 locs1 hP1 _ hS1 => kk H1 locs1 ((t_X7_passes v) ▸ hP1) hS1)
set_option maxRecDepth 20000 in
theorem g_7_88 (C : pCx p s m c cc nL E RX7) (hP : va_P (pD E) vwCl (pw E α β) H) (hdg : decode cc pc = .ok (.getfield 88, 3)) (kk : W p l e R s m args below meth c H locs cells slots Q (F0 m (pc + 3) ls (.int (α 16 0) :: rest))) : W p l e R s m args below meth c H locs cells slots Q (F0 m pc ls (.ref (pL E 2) :: rest)) :=
  va_get (C := RX7) (T := TX7) (N := 15) (ci := 9) (own := RX7) (ref := RX7) (Ts := u_ws RX7 TX7 15) C.1 C.2.1 (u_X7 C.2.2.2.2.1 args) (fun _ h => h) C.2.2.2.1 C.2.2.2.2.2.1 hP 2 (e_X7) rfl 9 (by decide) (C.2.2.2.2.1.1 _ (List.mem_of_getElem? (i := 216) rfl) rfl args) (fun _ h => h) rfl hdg kk
set_option maxRecDepth 20000 in
theorem s_7_88 (C : pCx p s m c cc nL E RX7) (hP : va_P (pD E) vwCl (pw E α β) H) (hS : va_S (pA E sz) H0 H locs) {v : Int32} (hdg : decode cc pc = .ok (.putfield 88, 3)) (kk : ∀ (H1 : Heap) (locs1 : List Loc), va_P (pD E) vwCl (pw E (up2 α 16 0 v) β) H1 → va_S (pA E sz) H0 H1 locs1 → W p l e R s m args below meth c H1 locs1 cells slots Q (F0 m (pc + 3) ls rest)) : W p l e R s m args below meth c H locs cells slots Q (F0 m pc ls (.int v :: .ref (pL E 2) :: rest)) :=
  va_put (C := RX7) (T := TX7) (N := 15) (ci := 9) (own := RX7) (ref := RX7) (Ts := u_ws RX7 TX7 15) (A := pA E sz) C.1 C.2.1 (u_X7 C.2.2.2.2.1 args) (fun _ h => h) tyX7 tyX7_ok nmX7 C.2.2.2.1 C.2.2.2.2.2.1 hP (pw_D C.2.2.2.2.2.2) hS 2 (e_X7) rfl 9 (by decide) (C.2.2.2.2.1.1 _ (List.mem_of_getElem? (i := 216) rfl) rfl args) (fun _ h => h) rfl (ty := .int) (by decide +kernel) rfl rfl (Nat.le_of_ble_eq_true rfl) hdg (fun H1 locs1 hP1 _ hS1 => kk H1 locs1 ((t_X7_steps v) ▸ hP1) hS1)
set_option maxRecDepth 20000 in
theorem g_7_103 (C : pCx p s m c cc nL E RX7) (hP : va_P (pD E) vwCl (pw E α β) H) (hdg : decode cc pc = .ok (.getfield 103, 3)) (kk : W p l e R s m args below meth c H locs cells slots Q (F0 m (pc + 3) ls (.int (α 21 0) :: rest))) : W p l e R s m args below meth c H locs cells slots Q (F0 m pc ls (.ref (pL E 2) :: rest)) :=
  va_get (C := RX7) (T := TX7) (N := 15) (ci := 9) (own := RX7) (ref := RX7) (Ts := u_ws RX7 TX7 15) C.1 C.2.1 (u_X7 C.2.2.2.2.1 args) (fun _ h => h) C.2.2.2.1 C.2.2.2.2.2.1 hP 2 (e_X7) rfl 14 (by decide) (C.2.2.2.2.1.1 _ (List.mem_of_getElem? (i := 224) rfl) rfl args) (fun _ h => h) rfl hdg kk
set_option maxRecDepth 20000 in
theorem s_7_103 (C : pCx p s m c cc nL E RX7) (hP : va_P (pD E) vwCl (pw E α β) H) (hS : va_S (pA E sz) H0 H locs) {v : Int32} (hdg : decode cc pc = .ok (.putfield 103, 3)) (kk : ∀ (H1 : Heap) (locs1 : List Loc), va_P (pD E) vwCl (pw E (up2 α 21 0 v) β) H1 → va_S (pA E sz) H0 H1 locs1 → W p l e R s m args below meth c H1 locs1 cells slots Q (F0 m (pc + 3) ls rest)) : W p l e R s m args below meth c H locs cells slots Q (F0 m pc ls (.int v :: .ref (pL E 2) :: rest)) :=
  va_put (C := RX7) (T := TX7) (N := 15) (ci := 9) (own := RX7) (ref := RX7) (Ts := u_ws RX7 TX7 15) (A := pA E sz) C.1 C.2.1 (u_X7 C.2.2.2.2.1 args) (fun _ h => h) tyX7 tyX7_ok nmX7 C.2.2.2.1 C.2.2.2.2.2.1 hP (pw_D C.2.2.2.2.2.2) hS 2 (e_X7) rfl 14 (by decide) (C.2.2.2.2.1.1 _ (List.mem_of_getElem? (i := 224) rfl) rfl args) (fun _ h => h) rfl (ty := .int) (by decide +kernel) rfl rfl (Nat.le_of_ble_eq_true rfl) hdg (fun H1 locs1 hP1 _ hS1 => kk H1 locs1 ((t_X7_round v) ▸ hP1) hS1)
set_option maxRecDepth 20000 in
theorem g_7_118 (C : pCx p s m c cc nL E RX7) (hP : va_P (pD E) vwCl (pw E α β) H) (hdg : decode cc pc = .ok (.getfield 118, 3)) (kk : W p l e R s m args below meth c H locs cells slots Q (F0 m (pc + 3) ls (.int (α 19 0) :: rest))) : W p l e R s m args below meth c H locs cells slots Q (F0 m pc ls (.ref (pL E 2) :: rest)) :=
  va_get (C := RX7) (T := TX7) (N := 15) (ci := 9) (own := RX7) (ref := RX7) (Ts := u_ws RX7 TX7 15) C.1 C.2.1 (u_X7 C.2.2.2.2.1 args) (fun _ h => h) C.2.2.2.1 C.2.2.2.2.2.1 hP 2 (e_X7) rfl 12 (by decide) (C.2.2.2.2.1.1 _ (List.mem_of_getElem? (i := 222) rfl) rfl args) (fun _ h => h) rfl hdg kk
set_option maxRecDepth 20000 in
theorem s_7_118 (C : pCx p s m c cc nL E RX7) (hP : va_P (pD E) vwCl (pw E α β) H) (hS : va_S (pA E sz) H0 H locs) {v : Int32} (hdg : decode cc pc = .ok (.putfield 118, 3)) (kk : ∀ (H1 : Heap) (locs1 : List Loc), va_P (pD E) vwCl (pw E (up2 α 19 0 v) β) H1 → va_S (pA E sz) H0 H1 locs1 → W p l e R s m args below meth c H1 locs1 cells slots Q (F0 m (pc + 3) ls rest)) : W p l e R s m args below meth c H locs cells slots Q (F0 m pc ls (.int v :: .ref (pL E 2) :: rest)) :=
  va_put (C := RX7) (T := TX7) (N := 15) (ci := 9) (own := RX7) (ref := RX7) (Ts := u_ws RX7 TX7 15) (A := pA E sz) C.1 C.2.1 (u_X7 C.2.2.2.2.1 args) (fun _ h => h) tyX7 tyX7_ok nmX7 C.2.2.2.1 C.2.2.2.2.2.1 hP (pw_D C.2.2.2.2.2.2) hS 2 (e_X7) rfl 12 (by decide) (C.2.2.2.2.1.1 _ (List.mem_of_getElem? (i := 222) rfl) rfl args) (fun _ h => h) rfl (ty := .int) (by decide +kernel) rfl rfl (Nat.le_of_ble_eq_true rfl) hdg (fun H1 locs1 hP1 _ hS1 => kk H1 locs1 ((t_X7_doer v) ▸ hP1) hS1)
set_option maxRecDepth 20000 in
theorem g_7_121 (C : pCx p s m c cc nL E RX7) (hP : va_P (pD E) vwCl (pw E α β) H) (hdg : decode cc pc = .ok (.getfield 121, 3)) (kk : W p l e R s m args below meth c H locs cells slots Q (F0 m (pc + 3) ls (.int (α 20 0) :: rest))) : W p l e R s m args below meth c H locs cells slots Q (F0 m pc ls (.ref (pL E 2) :: rest)) :=
  va_get (C := RX7) (T := TX7) (N := 15) (ci := 9) (own := RX7) (ref := RX7) (Ts := u_ws RX7 TX7 15) C.1 C.2.1 (u_X7 C.2.2.2.2.1 args) (fun _ h => h) C.2.2.2.1 C.2.2.2.2.2.1 hP 2 (e_X7) rfl 13 (by decide) (C.2.2.2.2.1.1 _ (List.mem_of_getElem? (i := 223) rfl) rfl args) (fun _ h => h) rfl hdg kk
set_option maxRecDepth 20000 in
theorem s_7_121 (C : pCx p s m c cc nL E RX7) (hP : va_P (pD E) vwCl (pw E α β) H) (hS : va_S (pA E sz) H0 H locs) {v : Int32} (hdg : decode cc pc = .ok (.putfield 121, 3)) (kk : ∀ (H1 : Heap) (locs1 : List Loc), va_P (pD E) vwCl (pw E (up2 α 20 0 v) β) H1 → va_S (pA E sz) H0 H1 locs1 → W p l e R s m args below meth c H1 locs1 cells slots Q (F0 m (pc + 3) ls rest)) : W p l e R s m args below meth c H locs cells slots Q (F0 m pc ls (.int v :: .ref (pL E 2) :: rest)) :=
  va_put (C := RX7) (T := TX7) (N := 15) (ci := 9) (own := RX7) (ref := RX7) (Ts := u_ws RX7 TX7 15) (A := pA E sz) C.1 C.2.1 (u_X7 C.2.2.2.2.1 args) (fun _ h => h) tyX7 tyX7_ok nmX7 C.2.2.2.1 C.2.2.2.2.2.1 hP (pw_D C.2.2.2.2.2.2) hS 2 (e_X7) rfl 13 (by decide) (C.2.2.2.2.1.1 _ (List.mem_of_getElem? (i := 223) rfl) rfl args) (fun _ h => h) rfl (ty := .int) (by decide +kernel) rfl rfl (Nat.le_of_ble_eq_true rfl) hdg (fun H1 locs1 hP1 _ hS1 => kk H1 locs1 ((t_X7_met v) ▸ hP1) hS1)
set_option maxRecDepth 20000 in
theorem g_8_9 (C : pCx p s m c cc nL E RX8) (hP : va_P (pD E) vwCl (pw E α β) H) (hdg : decode cc pc = .ok (.getfield 9, 3)) (kk : W p l e R s m args below meth c H locs cells slots Q (F0 m (pc + 3) ls (.ref (pL E 50) :: rest))) : W p l e R s m args below meth c H locs cells slots Q (F0 m pc ls (.ref (pL E 5) :: rest)) :=
  va_get (C := RX8) (T := TX8) (N := 6) (ci := 10) (own := RX8) (ref := RX8) (Ts := u_ws RX8 TX8 6) C.1 C.2.1 (u_X8 C.2.2.2.2.1 args) (fun _ h => h) C.2.2.2.1 C.2.2.2.2.2.1 hP 5 (e_X8) rfl 0 (by decide) (C.2.2.2.2.1.1 _ (List.mem_of_getElem? (i := 156) rfl) rfl args) (fun _ h => h) rfl hdg kk
set_option maxRecDepth 20000 in
theorem g_8_15 (C : pCx p s m c cc nL E RX8) (hP : va_P (pD E) vwCl (pw E α β) H) (hdg : decode cc pc = .ok (.getfield 15, 3)) (kk : W p l e R s m args below meth c H locs cells slots Q (F0 m (pc + 3) ls (.ref (pL E 51) :: rest))) : W p l e R s m args below meth c H locs cells slots Q (F0 m pc ls (.ref (pL E 5) :: rest)) :=
  va_get (C := RX8) (T := TX8) (N := 6) (ci := 10) (own := RX8) (ref := RX8) (Ts := u_ws RX8 TX8 6) C.1 C.2.1 (u_X8 C.2.2.2.2.1 args) (fun _ h => h) C.2.2.2.1 C.2.2.2.2.2.1 hP 5 (e_X8) rfl 1 (by decide) (C.2.2.2.2.1.1 _ (List.mem_of_getElem? (i := 157) rfl) rfl args) (fun _ h => h) rfl hdg kk
set_option maxRecDepth 20000 in
theorem g_8_18 (C : pCx p s m c cc nL E RX8) (hP : va_P (pD E) vwCl (pw E α β) H) (hdg : decode cc pc = .ok (.getfield 18, 3)) (kk : W p l e R s m args below meth c H locs cells slots Q (F0 m (pc + 3) ls (.ref (pL E 52) :: rest))) : W p l e R s m args below meth c H locs cells slots Q (F0 m pc ls (.ref (pL E 5) :: rest)) :=
  va_get (C := RX8) (T := TX8) (N := 6) (ci := 10) (own := RX8) (ref := RX8) (Ts := u_ws RX8 TX8 6) C.1 C.2.1 (u_X8 C.2.2.2.2.1 args) (fun _ h => h) C.2.2.2.1 C.2.2.2.2.2.1 hP 5 (e_X8) rfl 2 (by decide) (C.2.2.2.2.1.1 _ (List.mem_of_getElem? (i := 158) rfl) rfl args) (fun _ h => h) rfl hdg kk
set_option maxRecDepth 20000 in
theorem g_8_22 (C : pCx p s m c cc nL E RX8) (hP : va_P (pD E) vwCl (pw E α β) H) (hdg : decode cc pc = .ok (.getfield 22, 3)) (kk : W p l e R s m args below meth c H locs cells slots Q (F0 m (pc + 3) ls (.ref (pL E 53) :: rest))) : W p l e R s m args below meth c H locs cells slots Q (F0 m pc ls (.ref (pL E 5) :: rest)) :=
  va_get (C := RX8) (T := TX8) (N := 6) (ci := 10) (own := RX8) (ref := RX8) (Ts := u_ws RX8 TX8 6) C.1 C.2.1 (u_X8 C.2.2.2.2.1 args) (fun _ h => h) C.2.2.2.1 C.2.2.2.2.2.1 hP 5 (e_X8) rfl 3 (by decide) (C.2.2.2.2.1.1 _ (List.mem_of_getElem? (i := 159) rfl) rfl args) (fun _ h => h) rfl hdg kk
set_option maxRecDepth 20000 in
theorem g_8_25 (C : pCx p s m c cc nL E RX8) (hP : va_P (pD E) vwCl (pw E α β) H) (hdg : decode cc pc = .ok (.getfield 25, 3)) (kk : W p l e R s m args below meth c H locs cells slots Q (F0 m (pc + 3) ls (.ref (pL E 54) :: rest))) : W p l e R s m args below meth c H locs cells slots Q (F0 m pc ls (.ref (pL E 5) :: rest)) :=
  va_get (C := RX8) (T := TX8) (N := 6) (ci := 10) (own := RX8) (ref := RX8) (Ts := u_ws RX8 TX8 6) C.1 C.2.1 (u_X8 C.2.2.2.2.1 args) (fun _ h => h) C.2.2.2.1 C.2.2.2.2.2.1 hP 5 (e_X8) rfl 4 (by decide) (C.2.2.2.2.1.1 _ (List.mem_of_getElem? (i := 160) rfl) rfl args) (fun _ h => h) rfl hdg kk
set_option maxRecDepth 20000 in
theorem g_8_28 (C : pCx p s m c cc nL E RX8) (hP : va_P (pD E) vwCl (pw E α β) H) (hdg : decode cc pc = .ok (.getfield 28, 3)) (kk : W p l e R s m args below meth c H locs cells slots Q (F0 m (pc + 3) ls (.int (α 11 0) :: rest))) : W p l e R s m args below meth c H locs cells slots Q (F0 m pc ls (.ref (pL E 5) :: rest)) :=
  va_get (C := RX8) (T := TX8) (N := 6) (ci := 10) (own := RX8) (ref := RX8) (Ts := u_ws RX8 TX8 6) C.1 C.2.1 (u_X8 C.2.2.2.2.1 args) (fun _ h => h) C.2.2.2.1 C.2.2.2.2.2.1 hP 5 (e_X8) rfl 5 (by decide) (C.2.2.2.2.1.1 _ (List.mem_of_getElem? (i := 161) rfl) rfl args) (fun _ h => h) rfl hdg kk
set_option maxRecDepth 20000 in
theorem s_8_28 (C : pCx p s m c cc nL E RX8) (hP : va_P (pD E) vwCl (pw E α β) H) (hS : va_S (pA E sz) H0 H locs) {v : Int32} (hdg : decode cc pc = .ok (.putfield 28, 3)) (kk : ∀ (H1 : Heap) (locs1 : List Loc), va_P (pD E) vwCl (pw E (up2 α 11 0 v) β) H1 → va_S (pA E sz) H0 H1 locs1 → W p l e R s m args below meth c H1 locs1 cells slots Q (F0 m (pc + 3) ls rest)) : W p l e R s m args below meth c H locs cells slots Q (F0 m pc ls (.int v :: .ref (pL E 5) :: rest)) :=
  va_put (C := RX8) (T := TX8) (N := 6) (ci := 10) (own := RX8) (ref := RX8) (Ts := u_ws RX8 TX8 6) (A := pA E sz) C.1 C.2.1 (u_X8 C.2.2.2.2.1 args) (fun _ h => h) tyX8 tyX8_ok nmX8 C.2.2.2.1 C.2.2.2.2.2.1 hP (pw_D C.2.2.2.2.2.2) hS 5 (e_X8) rfl 5 (by decide) (C.2.2.2.2.1.1 _ (List.mem_of_getElem? (i := 161) rfl) rfl args) (fun _ h => h) rfl (ty := .int) (by decide +kernel) rfl rfl (Nat.le_of_ble_eq_true rfl) hdg (fun H1 locs1 hP1 _ hS1 => kk H1 locs1 ((t_X8_count v) ▸ hP1) hS1)
set_option maxRecDepth 20000 in
theorem g_10_7 (C : pCx p s m c cc nL E RX10) (hP : va_P (pD E) vwCl (pw E α β) H) (hdg : decode cc pc = .ok (.getfield 7, 3)) (kk : W p l e R s m args below meth c H locs cells slots Q (F0 m (pc + 3) ls (.ref (pL E 58) :: rest))) : W p l e R s m args below meth c H locs cells slots Q (F0 m pc ls (.ref (pL E 57) :: rest)) :=
  va_get (C := RX10) (T := TX10) (N := 36) (ci := 12) (own := RX10) (ref := RX10) (Ts := u_ws RX10 TX10 36) C.1 C.2.1 (u_X10 C.2.2.2.2.1 args) (fun _ h => h) C.2.2.2.1 C.2.2.2.2.2.1 hP 57 (e_X10) rfl 2 (by decide) (C.2.2.2.2.1.1 _ (List.mem_of_getElem? (i := 819) rfl) rfl args) (fun _ h => h) rfl hdg kk
set_option maxRecDepth 20000 in
theorem g_10_13 (C : pCx p s m c cc nL E RX10) (hP : va_P (pD E) vwCl (pw E α β) H) (hdg : decode cc pc = .ok (.getfield 13, 3)) (kk : W p l e R s m args below meth c H locs cells slots Q (F0 m (pc + 3) ls (.ref (pL E 59) :: rest))) : W p l e R s m args below meth c H locs cells slots Q (F0 m pc ls (.ref (pL E 57) :: rest)) :=
  va_get (C := RX10) (T := TX10) (N := 36) (ci := 12) (own := RX10) (ref := RX10) (Ts := u_ws RX10 TX10 36) C.1 C.2.1 (u_X10 C.2.2.2.2.1 args) (fun _ h => h) C.2.2.2.1 C.2.2.2.2.2.1 hP 57 (e_X10) rfl 3 (by decide) (C.2.2.2.2.1.1 _ (List.mem_of_getElem? (i := 820) rfl) rfl args) (fun _ h => h) rfl hdg kk
set_option maxRecDepth 20000 in
theorem g_10_16 (C : pCx p s m c cc nL E RX10) (hP : va_P (pD E) vwCl (pw E α β) H) (hdg : decode cc pc = .ok (.getfield 16, 3)) (kk : W p l e R s m args below meth c H locs cells slots Q (F0 m (pc + 3) ls (.ref (pL E 60) :: rest))) : W p l e R s m args below meth c H locs cells slots Q (F0 m pc ls (.ref (pL E 57) :: rest)) :=
  va_get (C := RX10) (T := TX10) (N := 36) (ci := 12) (own := RX10) (ref := RX10) (Ts := u_ws RX10 TX10 36) C.1 C.2.1 (u_X10 C.2.2.2.2.1 args) (fun _ h => h) C.2.2.2.1 C.2.2.2.2.2.1 hP 57 (e_X10) rfl 4 (by decide) (C.2.2.2.2.1.1 _ (List.mem_of_getElem? (i := 821) rfl) rfl args) (fun _ h => h) rfl hdg kk
set_option maxRecDepth 20000 in
theorem g_10_19 (C : pCx p s m c cc nL E RX10) (hP : va_P (pD E) vwCl (pw E α β) H) (hdg : decode cc pc = .ok (.getfield 19, 3)) (kk : W p l e R s m args below meth c H locs cells slots Q (F0 m (pc + 3) ls (.ref (pL E 61) :: rest))) : W p l e R s m args below meth c H locs cells slots Q (F0 m pc ls (.ref (pL E 57) :: rest)) :=
  va_get (C := RX10) (T := TX10) (N := 36) (ci := 12) (own := RX10) (ref := RX10) (Ts := u_ws RX10 TX10 36) C.1 C.2.1 (u_X10 C.2.2.2.2.1 args) (fun _ h => h) C.2.2.2.1 C.2.2.2.2.2.1 hP 57 (e_X10) rfl 5 (by decide) (C.2.2.2.2.1.1 _ (List.mem_of_getElem? (i := 822) rfl) rfl args) (fun _ h => h) rfl hdg kk
set_option maxRecDepth 20000 in
theorem g_10_23 (C : pCx p s m c cc nL E RX10) (hP : va_P (pD E) vwCl (pw E α β) H) (hdg : decode cc pc = .ok (.getfield 23, 3)) (kk : W p l e R s m args below meth c H locs cells slots Q (F0 m (pc + 3) ls (.ref (pL E 62) :: rest))) : W p l e R s m args below meth c H locs cells slots Q (F0 m pc ls (.ref (pL E 57) :: rest)) :=
  va_get (C := RX10) (T := TX10) (N := 36) (ci := 12) (own := RX10) (ref := RX10) (Ts := u_ws RX10 TX10 36) C.1 C.2.1 (u_X10 C.2.2.2.2.1 args) (fun _ h => h) C.2.2.2.1 C.2.2.2.2.2.1 hP 57 (e_X10) rfl 6 (by decide) (C.2.2.2.2.1.1 _ (List.mem_of_getElem? (i := 823) rfl) rfl args) (fun _ h => h) rfl hdg kk
set_option maxRecDepth 20000 in
theorem g_10_26 (C : pCx p s m c cc nL E RX10) (hP : va_P (pD E) vwCl (pw E α β) H) (hdg : decode cc pc = .ok (.getfield 26, 3)) (kk : W p l e R s m args below meth c H locs cells slots Q (F0 m (pc + 3) ls (.ref (pL E 63) :: rest))) : W p l e R s m args below meth c H locs cells slots Q (F0 m pc ls (.ref (pL E 57) :: rest)) :=
  va_get (C := RX10) (T := TX10) (N := 36) (ci := 12) (own := RX10) (ref := RX10) (Ts := u_ws RX10 TX10 36) C.1 C.2.1 (u_X10 C.2.2.2.2.1 args) (fun _ h => h) C.2.2.2.1 C.2.2.2.2.2.1 hP 57 (e_X10) rfl 8 (by decide) (C.2.2.2.2.1.1 _ (List.mem_of_getElem? (i := 825) rfl) rfl args) (fun _ h => h) rfl hdg kk
set_option maxRecDepth 20000 in
theorem g_10_29 (C : pCx p s m c cc nL E RX10) (hP : va_P (pD E) vwCl (pw E α β) H) (hdg : decode cc pc = .ok (.getfield 29, 3)) (kk : W p l e R s m args below meth c H locs cells slots Q (F0 m (pc + 3) ls (.ref (pL E 64) :: rest))) : W p l e R s m args below meth c H locs cells slots Q (F0 m pc ls (.ref (pL E 57) :: rest)) :=
  va_get (C := RX10) (T := TX10) (N := 36) (ci := 12) (own := RX10) (ref := RX10) (Ts := u_ws RX10 TX10 36) C.1 C.2.1 (u_X10 C.2.2.2.2.1 args) (fun _ h => h) C.2.2.2.1 C.2.2.2.2.2.1 hP 57 (e_X10) rfl 9 (by decide) (C.2.2.2.2.1.1 _ (List.mem_of_getElem? (i := 826) rfl) rfl args) (fun _ h => h) rfl hdg kk
set_option maxRecDepth 20000 in
theorem g_10_32 (C : pCx p s m c cc nL E RX10) (hP : va_P (pD E) vwCl (pw E α β) H) (hdg : decode cc pc = .ok (.getfield 32, 3)) (kk : W p l e R s m args below meth c H locs cells slots Q (F0 m (pc + 3) ls (.ref (pL E 65) :: rest))) : W p l e R s m args below meth c H locs cells slots Q (F0 m pc ls (.ref (pL E 57) :: rest)) :=
  va_get (C := RX10) (T := TX10) (N := 36) (ci := 12) (own := RX10) (ref := RX10) (Ts := u_ws RX10 TX10 36) C.1 C.2.1 (u_X10 C.2.2.2.2.1 args) (fun _ h => h) C.2.2.2.1 C.2.2.2.2.2.1 hP 57 (e_X10) rfl 10 (by decide) (C.2.2.2.2.1.1 _ (List.mem_of_getElem? (i := 827) rfl) rfl args) (fun _ h => h) rfl hdg kk
set_option maxRecDepth 20000 in
theorem g_10_35 (C : pCx p s m c cc nL E RX10) (hP : va_P (pD E) vwCl (pw E α β) H) (hdg : decode cc pc = .ok (.getfield 35, 3)) (kk : W p l e R s m args below meth c H locs cells slots Q (F0 m (pc + 3) ls (.ref (pL E 66) :: rest))) : W p l e R s m args below meth c H locs cells slots Q (F0 m pc ls (.ref (pL E 57) :: rest)) :=
  va_get (C := RX10) (T := TX10) (N := 36) (ci := 12) (own := RX10) (ref := RX10) (Ts := u_ws RX10 TX10 36) C.1 C.2.1 (u_X10 C.2.2.2.2.1 args) (fun _ h => h) C.2.2.2.1 C.2.2.2.2.2.1 hP 57 (e_X10) rfl 11 (by decide) (C.2.2.2.2.1.1 _ (List.mem_of_getElem? (i := 828) rfl) rfl args) (fun _ h => h) rfl hdg kk
set_option maxRecDepth 20000 in
theorem g_10_38 (C : pCx p s m c cc nL E RX10) (hP : va_P (pD E) vwCl (pw E α β) H) (hdg : decode cc pc = .ok (.getfield 38, 3)) (kk : W p l e R s m args below meth c H locs cells slots Q (F0 m (pc + 3) ls (.ref (pL E 67) :: rest))) : W p l e R s m args below meth c H locs cells slots Q (F0 m pc ls (.ref (pL E 57) :: rest)) :=
  va_get (C := RX10) (T := TX10) (N := 36) (ci := 12) (own := RX10) (ref := RX10) (Ts := u_ws RX10 TX10 36) C.1 C.2.1 (u_X10 C.2.2.2.2.1 args) (fun _ h => h) C.2.2.2.1 C.2.2.2.2.2.1 hP 57 (e_X10) rfl 12 (by decide) (C.2.2.2.2.1.1 _ (List.mem_of_getElem? (i := 829) rfl) rfl args) (fun _ h => h) rfl hdg kk
set_option maxRecDepth 20000 in
theorem g_10_41 (C : pCx p s m c cc nL E RX10) (hP : va_P (pD E) vwCl (pw E α β) H) (hdg : decode cc pc = .ok (.getfield 41, 3)) (kk : W p l e R s m args below meth c H locs cells slots Q (F0 m (pc + 3) ls (.ref (pL E 68) :: rest))) : W p l e R s m args below meth c H locs cells slots Q (F0 m pc ls (.ref (pL E 57) :: rest)) :=
  va_get (C := RX10) (T := TX10) (N := 36) (ci := 12) (own := RX10) (ref := RX10) (Ts := u_ws RX10 TX10 36) C.1 C.2.1 (u_X10 C.2.2.2.2.1 args) (fun _ h => h) C.2.2.2.1 C.2.2.2.2.2.1 hP 57 (e_X10) rfl 13 (by decide) (C.2.2.2.2.1.1 _ (List.mem_of_getElem? (i := 830) rfl) rfl args) (fun _ h => h) rfl hdg kk
set_option maxRecDepth 20000 in
theorem g_10_44 (C : pCx p s m c cc nL E RX10) (hP : va_P (pD E) vwCl (pw E α β) H) (hdg : decode cc pc = .ok (.getfield 44, 3)) (kk : W p l e R s m args below meth c H locs cells slots Q (F0 m (pc + 3) ls (.ref (pL E 69) :: rest))) : W p l e R s m args below meth c H locs cells slots Q (F0 m pc ls (.ref (pL E 57) :: rest)) :=
  va_get (C := RX10) (T := TX10) (N := 36) (ci := 12) (own := RX10) (ref := RX10) (Ts := u_ws RX10 TX10 36) C.1 C.2.1 (u_X10 C.2.2.2.2.1 args) (fun _ h => h) C.2.2.2.1 C.2.2.2.2.2.1 hP 57 (e_X10) rfl 14 (by decide) (C.2.2.2.2.1.1 _ (List.mem_of_getElem? (i := 831) rfl) rfl args) (fun _ h => h) rfl hdg kk
set_option maxRecDepth 20000 in
theorem g_10_47 (C : pCx p s m c cc nL E RX10) (hP : va_P (pD E) vwCl (pw E α β) H) (hdg : decode cc pc = .ok (.getfield 47, 3)) (kk : W p l e R s m args below meth c H locs cells slots Q (F0 m (pc + 3) ls (.ref (pL E 70) :: rest))) : W p l e R s m args below meth c H locs cells slots Q (F0 m pc ls (.ref (pL E 57) :: rest)) :=
  va_get (C := RX10) (T := TX10) (N := 36) (ci := 12) (own := RX10) (ref := RX10) (Ts := u_ws RX10 TX10 36) C.1 C.2.1 (u_X10 C.2.2.2.2.1 args) (fun _ h => h) C.2.2.2.1 C.2.2.2.2.2.1 hP 57 (e_X10) rfl 16 (by decide) (C.2.2.2.2.1.1 _ (List.mem_of_getElem? (i := 833) rfl) rfl args) (fun _ h => h) rfl hdg kk
set_option maxRecDepth 20000 in
theorem g_10_50 (C : pCx p s m c cc nL E RX10) (hP : va_P (pD E) vwCl (pw E α β) H) (hdg : decode cc pc = .ok (.getfield 50, 3)) (kk : W p l e R s m args below meth c H locs cells slots Q (F0 m (pc + 3) ls (.ref (pL E 71) :: rest))) : W p l e R s m args below meth c H locs cells slots Q (F0 m pc ls (.ref (pL E 57) :: rest)) :=
  va_get (C := RX10) (T := TX10) (N := 36) (ci := 12) (own := RX10) (ref := RX10) (Ts := u_ws RX10 TX10 36) C.1 C.2.1 (u_X10 C.2.2.2.2.1 args) (fun _ h => h) C.2.2.2.1 C.2.2.2.2.2.1 hP 57 (e_X10) rfl 17 (by decide) (C.2.2.2.2.1.1 _ (List.mem_of_getElem? (i := 834) rfl) rfl args) (fun _ h => h) rfl hdg kk
set_option maxRecDepth 20000 in
theorem g_10_53 (C : pCx p s m c cc nL E RX10) (hP : va_P (pD E) vwCl (pw E α β) H) (hdg : decode cc pc = .ok (.getfield 53, 3)) (kk : W p l e R s m args below meth c H locs cells slots Q (F0 m (pc + 3) ls (.ref (pL E 72) :: rest))) : W p l e R s m args below meth c H locs cells slots Q (F0 m pc ls (.ref (pL E 57) :: rest)) :=
  va_get (C := RX10) (T := TX10) (N := 36) (ci := 12) (own := RX10) (ref := RX10) (Ts := u_ws RX10 TX10 36) C.1 C.2.1 (u_X10 C.2.2.2.2.1 args) (fun _ h => h) C.2.2.2.1 C.2.2.2.2.2.1 hP 57 (e_X10) rfl 18 (by decide) (C.2.2.2.2.1.1 _ (List.mem_of_getElem? (i := 835) rfl) rfl args) (fun _ h => h) rfl hdg kk
set_option maxRecDepth 20000 in
theorem g_10_56 (C : pCx p s m c cc nL E RX10) (hP : va_P (pD E) vwCl (pw E α β) H) (hdg : decode cc pc = .ok (.getfield 56, 3)) (kk : W p l e R s m args below meth c H locs cells slots Q (F0 m (pc + 3) ls (.ref (pL E 73) :: rest))) : W p l e R s m args below meth c H locs cells slots Q (F0 m pc ls (.ref (pL E 57) :: rest)) :=
  va_get (C := RX10) (T := TX10) (N := 36) (ci := 12) (own := RX10) (ref := RX10) (Ts := u_ws RX10 TX10 36) C.1 C.2.1 (u_X10 C.2.2.2.2.1 args) (fun _ h => h) C.2.2.2.1 C.2.2.2.2.2.1 hP 57 (e_X10) rfl 19 (by decide) (C.2.2.2.2.1.1 _ (List.mem_of_getElem? (i := 836) rfl) rfl args) (fun _ h => h) rfl hdg kk
set_option maxRecDepth 20000 in
theorem g_10_59 (C : pCx p s m c cc nL E RX10) (hP : va_P (pD E) vwCl (pw E α β) H) (hdg : decode cc pc = .ok (.getfield 59, 3)) (kk : W p l e R s m args below meth c H locs cells slots Q (F0 m (pc + 3) ls (.ref (pL E 74) :: rest))) : W p l e R s m args below meth c H locs cells slots Q (F0 m pc ls (.ref (pL E 57) :: rest)) :=
  va_get (C := RX10) (T := TX10) (N := 36) (ci := 12) (own := RX10) (ref := RX10) (Ts := u_ws RX10 TX10 36) C.1 C.2.1 (u_X10 C.2.2.2.2.1 args) (fun _ h => h) C.2.2.2.1 C.2.2.2.2.2.1 hP 57 (e_X10) rfl 20 (by decide) (C.2.2.2.2.1.1 _ (List.mem_of_getElem? (i := 837) rfl) rfl args) (fun _ h => h) rfl hdg kk
set_option maxRecDepth 20000 in
theorem g_10_62 (C : pCx p s m c cc nL E RX10) (hP : va_P (pD E) vwCl (pw E α β) H) (hdg : decode cc pc = .ok (.getfield 62, 3)) (kk : W p l e R s m args below meth c H locs cells slots Q (F0 m (pc + 3) ls (.ref (pL E 75) :: rest))) : W p l e R s m args below meth c H locs cells slots Q (F0 m pc ls (.ref (pL E 57) :: rest)) :=
  va_get (C := RX10) (T := TX10) (N := 36) (ci := 12) (own := RX10) (ref := RX10) (Ts := u_ws RX10 TX10 36) C.1 C.2.1 (u_X10 C.2.2.2.2.1 args) (fun _ h => h) C.2.2.2.1 C.2.2.2.2.2.1 hP 57 (e_X10) rfl 21 (by decide) (C.2.2.2.2.1.1 _ (List.mem_of_getElem? (i := 838) rfl) rfl args) (fun _ h => h) rfl hdg kk
set_option maxRecDepth 20000 in
theorem g_10_65 (C : pCx p s m c cc nL E RX10) (hP : va_P (pD E) vwCl (pw E α β) H) (hdg : decode cc pc = .ok (.getfield 65, 3)) (kk : W p l e R s m args below meth c H locs cells slots Q (F0 m (pc + 3) ls (.ref (pL E 76) :: rest))) : W p l e R s m args below meth c H locs cells slots Q (F0 m pc ls (.ref (pL E 57) :: rest)) :=
  va_get (C := RX10) (T := TX10) (N := 36) (ci := 12) (own := RX10) (ref := RX10) (Ts := u_ws RX10 TX10 36) C.1 C.2.1 (u_X10 C.2.2.2.2.1 args) (fun _ h => h) C.2.2.2.1 C.2.2.2.2.2.1 hP 57 (e_X10) rfl 23 (by decide) (C.2.2.2.2.1.1 _ (List.mem_of_getElem? (i := 840) rfl) rfl args) (fun _ h => h) rfl hdg kk
set_option maxRecDepth 20000 in
theorem g_10_68 (C : pCx p s m c cc nL E RX10) (hP : va_P (pD E) vwCl (pw E α β) H) (hdg : decode cc pc = .ok (.getfield 68, 3)) (kk : W p l e R s m args below meth c H locs cells slots Q (F0 m (pc + 3) ls (.ref (pL E 77) :: rest))) : W p l e R s m args below meth c H locs cells slots Q (F0 m pc ls (.ref (pL E 57) :: rest)) :=
  va_get (C := RX10) (T := TX10) (N := 36) (ci := 12) (own := RX10) (ref := RX10) (Ts := u_ws RX10 TX10 36) C.1 C.2.1 (u_X10 C.2.2.2.2.1 args) (fun _ h => h) C.2.2.2.1 C.2.2.2.2.2.1 hP 57 (e_X10) rfl 24 (by decide) (C.2.2.2.2.1.1 _ (List.mem_of_getElem? (i := 841) rfl) rfl args) (fun _ h => h) rfl hdg kk
set_option maxRecDepth 20000 in
theorem g_10_71 (C : pCx p s m c cc nL E RX10) (hP : va_P (pD E) vwCl (pw E α β) H) (hdg : decode cc pc = .ok (.getfield 71, 3)) (kk : W p l e R s m args below meth c H locs cells slots Q (F0 m (pc + 3) ls (.ref (pL E 78) :: rest))) : W p l e R s m args below meth c H locs cells slots Q (F0 m pc ls (.ref (pL E 57) :: rest)) :=
  va_get (C := RX10) (T := TX10) (N := 36) (ci := 12) (own := RX10) (ref := RX10) (Ts := u_ws RX10 TX10 36) C.1 C.2.1 (u_X10 C.2.2.2.2.1 args) (fun _ h => h) C.2.2.2.1 C.2.2.2.2.2.1 hP 57 (e_X10) rfl 25 (by decide) (C.2.2.2.2.1.1 _ (List.mem_of_getElem? (i := 842) rfl) rfl args) (fun _ h => h) rfl hdg kk
set_option maxRecDepth 20000 in
theorem g_10_74 (C : pCx p s m c cc nL E RX10) (hP : va_P (pD E) vwCl (pw E α β) H) (hdg : decode cc pc = .ok (.getfield 74, 3)) (kk : W p l e R s m args below meth c H locs cells slots Q (F0 m (pc + 3) ls (.ref (pL E 79) :: rest))) : W p l e R s m args below meth c H locs cells slots Q (F0 m pc ls (.ref (pL E 57) :: rest)) :=
  va_get (C := RX10) (T := TX10) (N := 36) (ci := 12) (own := RX10) (ref := RX10) (Ts := u_ws RX10 TX10 36) C.1 C.2.1 (u_X10 C.2.2.2.2.1 args) (fun _ h => h) C.2.2.2.1 C.2.2.2.2.2.1 hP 57 (e_X10) rfl 27 (by decide) (C.2.2.2.2.1.1 _ (List.mem_of_getElem? (i := 844) rfl) rfl args) (fun _ h => h) rfl hdg kk
set_option maxRecDepth 20000 in
theorem g_10_77 (C : pCx p s m c cc nL E RX10) (hP : va_P (pD E) vwCl (pw E α β) H) (hdg : decode cc pc = .ok (.getfield 77, 3)) (kk : W p l e R s m args below meth c H locs cells slots Q (F0 m (pc + 3) ls (.ref (pL E 80) :: rest))) : W p l e R s m args below meth c H locs cells slots Q (F0 m pc ls (.ref (pL E 57) :: rest)) :=
  va_get (C := RX10) (T := TX10) (N := 36) (ci := 12) (own := RX10) (ref := RX10) (Ts := u_ws RX10 TX10 36) C.1 C.2.1 (u_X10 C.2.2.2.2.1 args) (fun _ h => h) C.2.2.2.1 C.2.2.2.2.2.1 hP 57 (e_X10) rfl 35 (by decide) (C.2.2.2.2.1.1 _ (List.mem_of_getElem? (i := 852) rfl) rfl args) (fun _ h => h) rfl hdg kk
set_option maxRecDepth 20000 in
theorem g_10_80 (C : pCx p s m c cc nL E RX10) (hP : va_P (pD E) vwCl (pw E α β) H) (hdg : decode cc pc = .ok (.getfield 80, 3)) (kk : W p l e R s m args below meth c H locs cells slots Q (F0 m (pc + 3) ls (.int (β 15 0) :: rest))) : W p l e R s m args below meth c H locs cells slots Q (F0 m pc ls (.ref (pL E 57) :: rest)) :=
  va_get (C := RX10) (T := TX10) (N := 36) (ci := 12) (own := RX10) (ref := RX10) (Ts := u_ws RX10 TX10 36) C.1 C.2.1 (u_X10 C.2.2.2.2.1 args) (fun _ h => h) C.2.2.2.1 C.2.2.2.2.2.1 hP 57 (e_X10) rfl 15 (by decide) (C.2.2.2.2.1.1 _ (List.mem_of_getElem? (i := 832) rfl) rfl args) (fun _ h => h) rfl hdg kk
set_option maxRecDepth 20000 in
theorem s_10_80 (C : pCx p s m c cc nL E RX10) (hP : va_P (pD E) vwCl (pw E α β) H) (hS : va_S (pA E sz) H0 H locs) {v : Int32} (hdg : decode cc pc = .ok (.putfield 80, 3)) (kk : ∀ (H1 : Heap) (locs1 : List Loc), va_P (pD E) vwCl (pw E α (up2 β 15 0 v)) H1 → va_S (pA E sz) H0 H1 locs1 → W p l e R s m args below meth c H1 locs1 cells slots Q (F0 m (pc + 3) ls rest)) : W p l e R s m args below meth c H locs cells slots Q (F0 m pc ls (.int v :: .ref (pL E 57) :: rest)) :=
  va_put (C := RX10) (T := TX10) (N := 36) (ci := 12) (own := RX10) (ref := RX10) (Ts := u_ws RX10 TX10 36) (A := pA E sz) C.1 C.2.1 (u_X10 C.2.2.2.2.1 args) (fun _ h => h) tyX10 tyX10_ok nmX10 C.2.2.2.1 C.2.2.2.2.2.1 hP (pw_D C.2.2.2.2.2.2) hS 57 (e_X10) rfl 15 (by decide) (C.2.2.2.2.1.1 _ (List.mem_of_getElem? (i := 832) rfl) rfl args) (fun _ h => h) rfl (ty := .int) (by decide +kernel) rfl rfl (Nat.le_of_ble_eq_true rfl) hdg (fun H1 locs1 hP1 _ hS1 => kk H1 locs1 ((t_X10_units v) ▸ hP1) hS1)
set_option maxRecDepth 20000 in
theorem g_10_84 (C : pCx p s m c cc nL E RX10) (hP : va_P (pD E) vwCl (pw E α β) H) (hdg : decode cc pc = .ok (.getfield 84, 3)) (kk : W p l e R s m args below meth c H locs cells slots Q (F0 m (pc + 3) ls (.int (β 0 0) :: rest))) : W p l e R s m args below meth c H locs cells slots Q (F0 m pc ls (.ref (pL E 57) :: rest)) :=
  va_get (C := RX10) (T := TX10) (N := 36) (ci := 12) (own := RX10) (ref := RX10) (Ts := u_ws RX10 TX10 36) C.1 C.2.1 (u_X10 C.2.2.2.2.1 args) (fun _ h => h) C.2.2.2.1 C.2.2.2.2.2.1 hP 57 (e_X10) rfl 0 (by decide) (C.2.2.2.2.1.1 _ (List.mem_of_getElem? (i := 817) rfl) rfl args) (fun _ h => h) rfl hdg kk
set_option maxRecDepth 20000 in
theorem s_10_84 (C : pCx p s m c cc nL E RX10) (hP : va_P (pD E) vwCl (pw E α β) H) (hS : va_S (pA E sz) H0 H locs) {v : Int32} (hdg : decode cc pc = .ok (.putfield 84, 3)) (kk : ∀ (H1 : Heap) (locs1 : List Loc), va_P (pD E) vwCl (pw E α (up2 β 0 0 v)) H1 → va_S (pA E sz) H0 H1 locs1 → W p l e R s m args below meth c H1 locs1 cells slots Q (F0 m (pc + 3) ls rest)) : W p l e R s m args below meth c H locs cells slots Q (F0 m pc ls (.int v :: .ref (pL E 57) :: rest)) :=
  va_put (C := RX10) (T := TX10) (N := 36) (ci := 12) (own := RX10) (ref := RX10) (Ts := u_ws RX10 TX10 36) (A := pA E sz) C.1 C.2.1 (u_X10 C.2.2.2.2.1 args) (fun _ h => h) tyX10 tyX10_ok nmX10 C.2.2.2.1 C.2.2.2.2.2.1 hP (pw_D C.2.2.2.2.2.2) hS 57 (e_X10) rfl 0 (by decide) (C.2.2.2.2.1.1 _ (List.mem_of_getElem? (i := 817) rfl) rfl args) (fun _ h => h) rfl (ty := .int) (by decide +kernel) rfl rfl (Nat.le_of_ble_eq_true rfl) hdg (fun H1 locs1 hP1 _ hS1 => kk H1 locs1 ((t_X10_thrown v) ▸ hP1) hS1)
set_option maxRecDepth 20000 in
theorem g_10_93 (C : pCx p s m c cc nL E RX10) (hP : va_P (pD E) vwCl (pw E α β) H) (hdg : decode cc pc = .ok (.getfield 93, 3)) (kk : W p l e R s m args below meth c H locs cells slots Q (F0 m (pc + 3) ls (.int (β 1 0) :: rest))) : W p l e R s m args below meth c H locs cells slots Q (F0 m pc ls (.ref (pL E 57) :: rest)) :=
  va_get (C := RX10) (T := TX10) (N := 36) (ci := 12) (own := RX10) (ref := RX10) (Ts := u_ws RX10 TX10 36) C.1 C.2.1 (u_X10 C.2.2.2.2.1 args) (fun _ h => h) C.2.2.2.1 C.2.2.2.2.2.1 hP 57 (e_X10) rfl 1 (by decide) (C.2.2.2.2.1.1 _ (List.mem_of_getElem? (i := 818) rfl) rfl args) (fun _ h => h) rfl hdg kk
set_option maxRecDepth 20000 in
theorem s_10_93 (C : pCx p s m c cc nL E RX10) (hP : va_P (pD E) vwCl (pw E α β) H) (hS : va_S (pA E sz) H0 H locs) {v : Int32} (hdg : decode cc pc = .ok (.putfield 93, 3)) (kk : ∀ (H1 : Heap) (locs1 : List Loc), va_P (pD E) vwCl (pw E α (up2 β 1 0 v)) H1 → va_S (pA E sz) H0 H1 locs1 → W p l e R s m args below meth c H1 locs1 cells slots Q (F0 m (pc + 3) ls rest)) : W p l e R s m args below meth c H locs cells slots Q (F0 m pc ls (.int v :: .ref (pL E 57) :: rest)) :=
  va_put (C := RX10) (T := TX10) (N := 36) (ci := 12) (own := RX10) (ref := RX10) (Ts := u_ws RX10 TX10 36) (A := pA E sz) C.1 C.2.1 (u_X10 C.2.2.2.2.1 args) (fun _ h => h) tyX10 tyX10_ok nmX10 C.2.2.2.1 C.2.2.2.2.2.1 hP (pw_D C.2.2.2.2.2.2) hS 57 (e_X10) rfl 1 (by decide) (C.2.2.2.2.1.1 _ (List.mem_of_getElem? (i := 818) rfl) rfl args) (fun _ h => h) rfl (ty := .int) (by decide +kernel) rfl rfl (Nat.le_of_ble_eq_true rfl) hdg (fun H1 locs1 hP1 _ hS1 => kk H1 locs1 ((t_X10_taped v) ▸ hP1) hS1)
set_option maxRecDepth 20000 in
theorem g_10_113 (C : pCx p s m c cc nL E RX10) (hP : va_P (pD E) vwCl (pw E α β) H) (hdg : decode cc pc = .ok (.getfield 113, 3)) (kk : W p l e R s m args below meth c H locs cells slots Q (F0 m (pc + 3) ls (.int (β 7 0) :: rest))) : W p l e R s m args below meth c H locs cells slots Q (F0 m pc ls (.ref (pL E 57) :: rest)) :=
  va_get (C := RX10) (T := TX10) (N := 36) (ci := 12) (own := RX10) (ref := RX10) (Ts := u_ws RX10 TX10 36) C.1 C.2.1 (u_X10 C.2.2.2.2.1 args) (fun _ h => h) C.2.2.2.1 C.2.2.2.2.2.1 hP 57 (e_X10) rfl 7 (by decide) (C.2.2.2.2.1.1 _ (List.mem_of_getElem? (i := 824) rfl) rfl args) (fun _ h => h) rfl hdg kk
set_option maxRecDepth 20000 in
theorem s_10_113 (C : pCx p s m c cc nL E RX10) (hP : va_P (pD E) vwCl (pw E α β) H) (hS : va_S (pA E sz) H0 H locs) {v : Int32} (hdg : decode cc pc = .ok (.putfield 113, 3)) (kk : ∀ (H1 : Heap) (locs1 : List Loc), va_P (pD E) vwCl (pw E α (up2 β 7 0 v)) H1 → va_S (pA E sz) H0 H1 locs1 → W p l e R s m args below meth c H1 locs1 cells slots Q (F0 m (pc + 3) ls rest)) : W p l e R s m args below meth c H locs cells slots Q (F0 m pc ls (.int v :: .ref (pL E 57) :: rest)) :=
  va_put (C := RX10) (T := TX10) (N := 36) (ci := 12) (own := RX10) (ref := RX10) (Ts := u_ws RX10 TX10 36) (A := pA E sz) C.1 C.2.1 (u_X10 C.2.2.2.2.1 args) (fun _ h => h) tyX10 tyX10_ok nmX10 C.2.2.2.1 C.2.2.2.2.2.1 hP (pw_D C.2.2.2.2.2.2) hS 57 (e_X10) rfl 7 (by decide) (C.2.2.2.2.1.1 _ (List.mem_of_getElem? (i := 824) rfl) rfl args) (fun _ h => h) rfl (ty := .int) (by decide +kernel) rfl rfl (Nat.le_of_ble_eq_true rfl) hdg (fun H1 locs1 hP1 _ hS1 => kk H1 locs1 ((t_X10_processors v) ▸ hP1) hS1)
set_option maxRecDepth 20000 in
theorem g_10_130 (C : pCx p s m c cc nL E RX10) (hP : va_P (pD E) vwCl (pw E α β) H) (hdg : decode cc pc = .ok (.getfield 130, 3)) (kk : W p l e R s m args below meth c H locs cells slots Q (F0 m (pc + 3) ls (.int (β 22 0) :: rest))) : W p l e R s m args below meth c H locs cells slots Q (F0 m pc ls (.ref (pL E 57) :: rest)) :=
  va_get (C := RX10) (T := TX10) (N := 36) (ci := 12) (own := RX10) (ref := RX10) (Ts := u_ws RX10 TX10 36) C.1 C.2.1 (u_X10 C.2.2.2.2.1 args) (fun _ h => h) C.2.2.2.1 C.2.2.2.2.2.1 hP 57 (e_X10) rfl 22 (by decide) (C.2.2.2.2.1.1 _ (List.mem_of_getElem? (i := 839) rfl) rfl args) (fun _ h => h) rfl hdg kk
set_option maxRecDepth 20000 in
theorem s_10_130 (C : pCx p s m c cc nL E RX10) (hP : va_P (pD E) vwCl (pw E α β) H) (hS : va_S (pA E sz) H0 H locs) {v : Int32} (hz : v = 0 ∨ v = 1) (hdg : decode cc pc = .ok (.putfield 130, 3)) (kk : ∀ (H1 : Heap) (locs1 : List Loc), va_P (pD E) vwCl (pw E α (up2 β 22 0 v)) H1 → va_S (pA E sz) H0 H1 locs1 → W p l e R s m args below meth c H1 locs1 cells slots Q (F0 m (pc + 3) ls rest)) : W p l e R s m args below meth c H locs cells slots Q (F0 m pc ls (.int v :: .ref (pL E 57) :: rest)) :=
  va_put (C := RX10) (T := TX10) (N := 36) (ci := 12) (own := RX10) (ref := RX10) (Ts := u_ws RX10 TX10 36) (A := pA E sz) C.1 C.2.1 (u_X10 C.2.2.2.2.1 args) (fun _ h => h) tyX10 tyX10_ok nmX10 C.2.2.2.1 C.2.2.2.2.2.1 hP (pw_D C.2.2.2.2.2.2) hS 57 (e_X10) rfl 22 (by decide) (C.2.2.2.2.1.1 _ (List.mem_of_getElem? (i := 839) rfl) rfl args) (fun _ h => h) rfl (ty := .boolean) (by decide +kernel) (pz_n hz) (pz_f hz) (Nat.le_of_ble_eq_true rfl) hdg (fun H1 locs1 hP1 _ hS1 => kk H1 locs1 ((t_X10_passes v) ▸ hP1) hS1)
set_option maxRecDepth 20000 in
theorem g_10_134 (C : pCx p s m c cc nL E RX10) (hP : va_P (pD E) vwCl (pw E α β) H) (hdg : decode cc pc = .ok (.getfield 134, 3)) (kk : W p l e R s m args below meth c H locs cells slots Q (F0 m (pc + 3) ls (.int (β 26 0) :: rest))) : W p l e R s m args below meth c H locs cells slots Q (F0 m pc ls (.ref (pL E 57) :: rest)) :=
  va_get (C := RX10) (T := TX10) (N := 36) (ci := 12) (own := RX10) (ref := RX10) (Ts := u_ws RX10 TX10 36) C.1 C.2.1 (u_X10 C.2.2.2.2.1 args) (fun _ h => h) C.2.2.2.1 C.2.2.2.2.2.1 hP 57 (e_X10) rfl 26 (by decide) (C.2.2.2.2.1.1 _ (List.mem_of_getElem? (i := 843) rfl) rfl args) (fun _ h => h) rfl hdg kk
set_option maxRecDepth 20000 in
theorem s_10_134 (C : pCx p s m c cc nL E RX10) (hP : va_P (pD E) vwCl (pw E α β) H) (hS : va_S (pA E sz) H0 H locs) {v : Int32} (hdg : decode cc pc = .ok (.putfield 134, 3)) (kk : ∀ (H1 : Heap) (locs1 : List Loc), va_P (pD E) vwCl (pw E α (up2 β 26 0 v)) H1 → va_S (pA E sz) H0 H1 locs1 → W p l e R s m args below meth c H1 locs1 cells slots Q (F0 m (pc + 3) ls rest)) : W p l e R s m args below meth c H locs cells slots Q (F0 m pc ls (.int v :: .ref (pL E 57) :: rest)) :=
  va_put (C := RX10) (T := TX10) (N := 36) (ci := 12) (own := RX10) (ref := RX10) (Ts := u_ws RX10 TX10 36) (A := pA E sz) C.1 C.2.1 (u_X10 C.2.2.2.2.1 args) (fun _ h => h) tyX10 tyX10_ok nmX10 C.2.2.2.1 C.2.2.2.2.2.1 hP (pw_D C.2.2.2.2.2.2) hS 57 (e_X10) rfl 26 (by decide) (C.2.2.2.2.1.1 _ (List.mem_of_getElem? (i := 843) rfl) rfl args) (fun _ h => h) rfl (ty := .int) (by decide +kernel) rfl rfl (Nat.le_of_ble_eq_true rfl) hdg (fun H1 locs1 hP1 _ hS1 => kk H1 locs1 ((t_X10_messages v) ▸ hP1) hS1)
set_option maxRecDepth 20000 in
theorem g_10_137 (C : pCx p s m c cc nL E RX10) (hP : va_P (pD E) vwCl (pw E α β) H) (hdg : decode cc pc = .ok (.getfield 137, 3)) (kk : W p l e R s m args below meth c H locs cells slots Q (F0 m (pc + 3) ls (.int (β 33 0) :: rest))) : W p l e R s m args below meth c H locs cells slots Q (F0 m pc ls (.ref (pL E 57) :: rest)) :=
  va_get (C := RX10) (T := TX10) (N := 36) (ci := 12) (own := RX10) (ref := RX10) (Ts := u_ws RX10 TX10 36) C.1 C.2.1 (u_X10 C.2.2.2.2.1 args) (fun _ h => h) C.2.2.2.1 C.2.2.2.2.2.1 hP 57 (e_X10) rfl 33 (by decide) (C.2.2.2.2.1.1 _ (List.mem_of_getElem? (i := 850) rfl) rfl args) (fun _ h => h) rfl hdg kk
set_option maxRecDepth 20000 in
theorem s_10_137 (C : pCx p s m c cc nL E RX10) (hP : va_P (pD E) vwCl (pw E α β) H) (hS : va_S (pA E sz) H0 H locs) {v : Int32} (hdg : decode cc pc = .ok (.putfield 137, 3)) (kk : ∀ (H1 : Heap) (locs1 : List Loc), va_P (pD E) vwCl (pw E α (up2 β 33 0 v)) H1 → va_S (pA E sz) H0 H1 locs1 → W p l e R s m args below meth c H1 locs1 cells slots Q (F0 m (pc + 3) ls rest)) : W p l e R s m args below meth c H locs cells slots Q (F0 m pc ls (.int v :: .ref (pL E 57) :: rest)) :=
  va_put (C := RX10) (T := TX10) (N := 36) (ci := 12) (own := RX10) (ref := RX10) (Ts := u_ws RX10 TX10 36) (A := pA E sz) C.1 C.2.1 (u_X10 C.2.2.2.2.1 args) (fun _ h => h) tyX10 tyX10_ok nmX10 C.2.2.2.1 C.2.2.2.2.2.1 hP (pw_D C.2.2.2.2.2.2) hS 57 (e_X10) rfl 33 (by decide) (C.2.2.2.2.1.1 _ (List.mem_of_getElem? (i := 850) rfl) rfl args) (fun _ h => h) rfl (ty := .int) (by decide +kernel) rfl rfl (Nat.le_of_ble_eq_true rfl) hdg (fun H1 locs1 hP1 _ hS1 => kk H1 locs1 ((t_X10_round v) ▸ hP1) hS1)
set_option maxRecDepth 20000 in
theorem g_10_140 (C : pCx p s m c cc nL E RX10) (hP : va_P (pD E) vwCl (pw E α β) H) (hdg : decode cc pc = .ok (.getfield 140, 3)) (kk : W p l e R s m args below meth c H locs cells slots Q (F0 m (pc + 3) ls (.int (β 29 0) :: rest))) : W p l e R s m args below meth c H locs cells slots Q (F0 m pc ls (.ref (pL E 57) :: rest)) :=
  va_get (C := RX10) (T := TX10) (N := 36) (ci := 12) (own := RX10) (ref := RX10) (Ts := u_ws RX10 TX10 36) C.1 C.2.1 (u_X10 C.2.2.2.2.1 args) (fun _ h => h) C.2.2.2.1 C.2.2.2.2.2.1 hP 57 (e_X10) rfl 29 (by decide) (C.2.2.2.2.1.1 _ (List.mem_of_getElem? (i := 846) rfl) rfl args) (fun _ h => h) rfl hdg kk
set_option maxRecDepth 20000 in
theorem s_10_140 (C : pCx p s m c cc nL E RX10) (hP : va_P (pD E) vwCl (pw E α β) H) (hS : va_S (pA E sz) H0 H locs) {v : Int32} (hdg : decode cc pc = .ok (.putfield 140, 3)) (kk : ∀ (H1 : Heap) (locs1 : List Loc), va_P (pD E) vwCl (pw E α (up2 β 29 0 v)) H1 → va_S (pA E sz) H0 H1 locs1 → W p l e R s m args below meth c H1 locs1 cells slots Q (F0 m (pc + 3) ls rest)) : W p l e R s m args below meth c H locs cells slots Q (F0 m pc ls (.int v :: .ref (pL E 57) :: rest)) :=
  va_put (C := RX10) (T := TX10) (N := 36) (ci := 12) (own := RX10) (ref := RX10) (Ts := u_ws RX10 TX10 36) (A := pA E sz) C.1 C.2.1 (u_X10 C.2.2.2.2.1 args) (fun _ h => h) tyX10 tyX10_ok nmX10 C.2.2.2.1 C.2.2.2.2.2.1 hP (pw_D C.2.2.2.2.2.2) hS 57 (e_X10) rfl 29 (by decide) (C.2.2.2.2.1.1 _ (List.mem_of_getElem? (i := 846) rfl) rfl args) (fun _ h => h) rfl (ty := .int) (by decide +kernel) rfl rfl (Nat.le_of_ble_eq_true rfl) hdg (fun H1 locs1 hP1 _ hS1 => kk H1 locs1 ((t_X10_left v) ▸ hP1) hS1)
set_option maxRecDepth 20000 in
theorem g_10_143 (C : pCx p s m c cc nL E RX10) (hP : va_P (pD E) vwCl (pw E α β) H) (hdg : decode cc pc = .ok (.getfield 143, 3)) (kk : W p l e R s m args below meth c H locs cells slots Q (F0 m (pc + 3) ls (.int (β 32 0) :: rest))) : W p l e R s m args below meth c H locs cells slots Q (F0 m pc ls (.ref (pL E 57) :: rest)) :=
  va_get (C := RX10) (T := TX10) (N := 36) (ci := 12) (own := RX10) (ref := RX10) (Ts := u_ws RX10 TX10 36) C.1 C.2.1 (u_X10 C.2.2.2.2.1 args) (fun _ h => h) C.2.2.2.1 C.2.2.2.2.2.1 hP 57 (e_X10) rfl 32 (by decide) (C.2.2.2.2.1.1 _ (List.mem_of_getElem? (i := 849) rfl) rfl args) (fun _ h => h) rfl hdg kk
set_option maxRecDepth 20000 in
theorem s_10_143 (C : pCx p s m c cc nL E RX10) (hP : va_P (pD E) vwCl (pw E α β) H) (hS : va_S (pA E sz) H0 H locs) {v : Int32} (hdg : decode cc pc = .ok (.putfield 143, 3)) (kk : ∀ (H1 : Heap) (locs1 : List Loc), va_P (pD E) vwCl (pw E α (up2 β 32 0 v)) H1 → va_S (pA E sz) H0 H1 locs1 → W p l e R s m args below meth c H1 locs1 cells slots Q (F0 m (pc + 3) ls rest)) : W p l e R s m args below meth c H locs cells slots Q (F0 m pc ls (.int v :: .ref (pL E 57) :: rest)) :=
  va_put (C := RX10) (T := TX10) (N := 36) (ci := 12) (own := RX10) (ref := RX10) (Ts := u_ws RX10 TX10 36) (A := pA E sz) C.1 C.2.1 (u_X10 C.2.2.2.2.1 args) (fun _ h => h) tyX10 tyX10_ok nmX10 C.2.2.2.1 C.2.2.2.2.2.1 hP (pw_D C.2.2.2.2.2.2) hS 57 (e_X10) rfl 32 (by decide) (C.2.2.2.2.1.1 _ (List.mem_of_getElem? (i := 849) rfl) rfl args) (fun _ h => h) rfl (ty := .int) (by decide +kernel) rfl rfl (Nat.le_of_ble_eq_true rfl) hdg (fun H1 locs1 hP1 _ hS1 => kk H1 locs1 ((t_X10_way v) ▸ hP1) hS1)
set_option maxRecDepth 20000 in
theorem g_10_146 (C : pCx p s m c cc nL E RX10) (hP : va_P (pD E) vwCl (pw E α β) H) (hdg : decode cc pc = .ok (.getfield 146, 3)) (kk : W p l e R s m args below meth c H locs cells slots Q (F0 m (pc + 3) ls (.int (β 28 0) :: rest))) : W p l e R s m args below meth c H locs cells slots Q (F0 m pc ls (.ref (pL E 57) :: rest)) :=
  va_get (C := RX10) (T := TX10) (N := 36) (ci := 12) (own := RX10) (ref := RX10) (Ts := u_ws RX10 TX10 36) C.1 C.2.1 (u_X10 C.2.2.2.2.1 args) (fun _ h => h) C.2.2.2.1 C.2.2.2.2.2.1 hP 57 (e_X10) rfl 28 (by decide) (C.2.2.2.2.1.1 _ (List.mem_of_getElem? (i := 845) rfl) rfl args) (fun _ h => h) rfl hdg kk
set_option maxRecDepth 20000 in
theorem s_10_146 (C : pCx p s m c cc nL E RX10) (hP : va_P (pD E) vwCl (pw E α β) H) (hS : va_S (pA E sz) H0 H locs) {v : Int32} (hdg : decode cc pc = .ok (.putfield 146, 3)) (kk : ∀ (H1 : Heap) (locs1 : List Loc), va_P (pD E) vwCl (pw E α (up2 β 28 0 v)) H1 → va_S (pA E sz) H0 H1 locs1 → W p l e R s m args below meth c H1 locs1 cells slots Q (F0 m (pc + 3) ls rest)) : W p l e R s m args below meth c H locs cells slots Q (F0 m pc ls (.int v :: .ref (pL E 57) :: rest)) :=
  va_put (C := RX10) (T := TX10) (N := 36) (ci := 12) (own := RX10) (ref := RX10) (Ts := u_ws RX10 TX10 36) (A := pA E sz) C.1 C.2.1 (u_X10 C.2.2.2.2.1 args) (fun _ h => h) tyX10 tyX10_ok nmX10 C.2.2.2.1 C.2.2.2.2.2.1 hP (pw_D C.2.2.2.2.2.2) hS 57 (e_X10) rfl 28 (by decide) (C.2.2.2.2.1.1 _ (List.mem_of_getElem? (i := 845) rfl) rfl args) (fun _ h => h) rfl (ty := .int) (by decide +kernel) rfl rfl (Nat.le_of_ble_eq_true rfl) hdg (fun H1 locs1 hP1 _ hS1 => kk H1 locs1 ((t_X10_steps v) ▸ hP1) hS1)
set_option maxRecDepth 20000 in
theorem g_10_149 (C : pCx p s m c cc nL E RX10) (hP : va_P (pD E) vwCl (pw E α β) H) (hdg : decode cc pc = .ok (.getfield 149, 3)) (kk : W p l e R s m args below meth c H locs cells slots Q (F0 m (pc + 3) ls (.int (β 34 0) :: rest))) : W p l e R s m args below meth c H locs cells slots Q (F0 m pc ls (.ref (pL E 57) :: rest)) :=
  va_get (C := RX10) (T := TX10) (N := 36) (ci := 12) (own := RX10) (ref := RX10) (Ts := u_ws RX10 TX10 36) C.1 C.2.1 (u_X10 C.2.2.2.2.1 args) (fun _ h => h) C.2.2.2.1 C.2.2.2.2.2.1 hP 57 (e_X10) rfl 34 (by decide) (C.2.2.2.2.1.1 _ (List.mem_of_getElem? (i := 851) rfl) rfl args) (fun _ h => h) rfl hdg kk
set_option maxRecDepth 20000 in
theorem s_10_149 (C : pCx p s m c cc nL E RX10) (hP : va_P (pD E) vwCl (pw E α β) H) (hS : va_S (pA E sz) H0 H locs) {v : Int32} (hz : v = 0 ∨ v = 1) (hdg : decode cc pc = .ok (.putfield 149, 3)) (kk : ∀ (H1 : Heap) (locs1 : List Loc), va_P (pD E) vwCl (pw E α (up2 β 34 0 v)) H1 → va_S (pA E sz) H0 H1 locs1 → W p l e R s m args below meth c H1 locs1 cells slots Q (F0 m (pc + 3) ls rest)) : W p l e R s m args below meth c H locs cells slots Q (F0 m pc ls (.int v :: .ref (pL E 57) :: rest)) :=
  va_put (C := RX10) (T := TX10) (N := 36) (ci := 12) (own := RX10) (ref := RX10) (Ts := u_ws RX10 TX10 36) (A := pA E sz) C.1 C.2.1 (u_X10 C.2.2.2.2.1 args) (fun _ h => h) tyX10 tyX10_ok nmX10 C.2.2.2.1 C.2.2.2.2.2.1 hP (pw_D C.2.2.2.2.2.2) hS 57 (e_X10) rfl 34 (by decide) (C.2.2.2.2.1.1 _ (List.mem_of_getElem? (i := 851) rfl) rfl args) (fun _ h => h) rfl (ty := .boolean) (by decide +kernel) (pz_n hz) (pz_f hz) (Nat.le_of_ble_eq_true rfl) hdg (fun H1 locs1 hP1 _ hS1 => kk H1 locs1 ((t_X10_ends v) ▸ hP1) hS1)
set_option maxRecDepth 20000 in
theorem g_10_168 (C : pCx p s m c cc nL E RX10) (hP : va_P (pD E) vwCl (pw E α β) H) (hdg : decode cc pc = .ok (.getfield 168, 3)) (kk : W p l e R s m args below meth c H locs cells slots Q (F0 m (pc + 3) ls (.int (β 30 0) :: rest))) : W p l e R s m args below meth c H locs cells slots Q (F0 m pc ls (.ref (pL E 57) :: rest)) :=
  va_get (C := RX10) (T := TX10) (N := 36) (ci := 12) (own := RX10) (ref := RX10) (Ts := u_ws RX10 TX10 36) C.1 C.2.1 (u_X10 C.2.2.2.2.1 args) (fun _ h => h) C.2.2.2.1 C.2.2.2.2.2.1 hP 57 (e_X10) rfl 30 (by decide) (C.2.2.2.2.1.1 _ (List.mem_of_getElem? (i := 847) rfl) rfl args) (fun _ h => h) rfl hdg kk
set_option maxRecDepth 20000 in
theorem s_10_168 (C : pCx p s m c cc nL E RX10) (hP : va_P (pD E) vwCl (pw E α β) H) (hS : va_S (pA E sz) H0 H locs) {v : Int32} (hdg : decode cc pc = .ok (.putfield 168, 3)) (kk : ∀ (H1 : Heap) (locs1 : List Loc), va_P (pD E) vwCl (pw E α (up2 β 30 0 v)) H1 → va_S (pA E sz) H0 H1 locs1 → W p l e R s m args below meth c H1 locs1 cells slots Q (F0 m (pc + 3) ls rest)) : W p l e R s m args below meth c H locs cells slots Q (F0 m pc ls (.int v :: .ref (pL E 57) :: rest)) :=
  va_put (C := RX10) (T := TX10) (N := 36) (ci := 12) (own := RX10) (ref := RX10) (Ts := u_ws RX10 TX10 36) (A := pA E sz) C.1 C.2.1 (u_X10 C.2.2.2.2.1 args) (fun _ h => h) tyX10 tyX10_ok nmX10 C.2.2.2.1 C.2.2.2.2.2.1 hP (pw_D C.2.2.2.2.2.2) hS 57 (e_X10) rfl 30 (by decide) (C.2.2.2.2.1.1 _ (List.mem_of_getElem? (i := 847) rfl) rfl args) (fun _ h => h) rfl (ty := .int) (by decide +kernel) rfl rfl (Nat.le_of_ble_eq_true rfl) hdg (fun H1 locs1 hP1 _ hS1 => kk H1 locs1 ((t_X10_rounds v) ▸ hP1) hS1)
set_option maxRecDepth 20000 in
theorem g_10_171 (C : pCx p s m c cc nL E RX10) (hP : va_P (pD E) vwCl (pw E α β) H) (hdg : decode cc pc = .ok (.getfield 171, 3)) (kk : W p l e R s m args below meth c H locs cells slots Q (F0 m (pc + 3) ls (.int (β 31 0) :: rest))) : W p l e R s m args below meth c H locs cells slots Q (F0 m pc ls (.ref (pL E 57) :: rest)) :=
  va_get (C := RX10) (T := TX10) (N := 36) (ci := 12) (own := RX10) (ref := RX10) (Ts := u_ws RX10 TX10 36) C.1 C.2.1 (u_X10 C.2.2.2.2.1 args) (fun _ h => h) C.2.2.2.1 C.2.2.2.2.2.1 hP 57 (e_X10) rfl 31 (by decide) (C.2.2.2.2.1.1 _ (List.mem_of_getElem? (i := 848) rfl) rfl args) (fun _ h => h) rfl hdg kk
set_option maxRecDepth 20000 in
theorem s_10_171 (C : pCx p s m c cc nL E RX10) (hP : va_P (pD E) vwCl (pw E α β) H) (hS : va_S (pA E sz) H0 H locs) {v : Int32} (hdg : decode cc pc = .ok (.putfield 171, 3)) (kk : ∀ (H1 : Heap) (locs1 : List Loc), va_P (pD E) vwCl (pw E α (up2 β 31 0 v)) H1 → va_S (pA E sz) H0 H1 locs1 → W p l e R s m args below meth c H1 locs1 cells slots Q (F0 m (pc + 3) ls rest)) : W p l e R s m args below meth c H locs cells slots Q (F0 m pc ls (.int v :: .ref (pL E 57) :: rest)) :=
  va_put (C := RX10) (T := TX10) (N := 36) (ci := 12) (own := RX10) (ref := RX10) (Ts := u_ws RX10 TX10 36) (A := pA E sz) C.1 C.2.1 (u_X10 C.2.2.2.2.1 args) (fun _ h => h) tyX10 tyX10_ok nmX10 C.2.2.2.1 C.2.2.2.2.2.1 hP (pw_D C.2.2.2.2.2.2) hS 57 (e_X10) rfl 31 (by decide) (C.2.2.2.2.1.1 _ (List.mem_of_getElem? (i := 848) rfl) rfl args) (fun _ h => h) rfl (ty := .int) (by decide +kernel) rfl rfl (Nat.le_of_ble_eq_true rfl) hdg (fun H1 locs1 hP1 _ hS1 => kk H1 locs1 ((t_X10_made v) ▸ hP1) hS1)
set_option maxRecDepth 20000 in
theorem g_9_32 (C : pCx p s m c cc nL E RX9) (hP : va_P (pD E) vwCl (pw E α β) H) (hdg : decode cc pc = .ok (.getfield 32, 3)) (kk : W p l e R s m args below meth c H locs cells slots Q (F0 m (pc + 3) ls (.ref (pL E 8) :: rest))) : W p l e R s m args below meth c H locs cells slots Q (F0 m pc ls (.ref (pL E 2) :: rest)) :=
  va_getN (C := RX7) (T := TX7) (N := 15) (ci := 9) (own := RX9) (ref := RX7) (host := "PlugRounds") (Ts := u_ws RX7 TX7 15) C.1 C.2.1 (u_X7 C.2.2.2.2.1 args) (fun _ h => h) C.2.2.2.1 C.2.2.2.2.2.1 hP 2 (e_X7) rfl 4 (by decide) (va_Nw.use rfl (C.2.2.2.2.1.2.1 _ _ _ _ _ _ (List.mem_of_getElem? (i := 211) rfl))) (fun _ h => h) rfl hdg kk
set_option maxRecDepth 20000 in
theorem g_9_37 (C : pCx p s m c cc nL E RX9) (hP : va_P (pD E) vwCl (pw E α β) H) (hdg : decode cc pc = .ok (.getfield 37, 3)) (kk : W p l e R s m args below meth c H locs cells slots Q (F0 m (pc + 3) ls (.ref (pL E 3) :: rest))) : W p l e R s m args below meth c H locs cells slots Q (F0 m pc ls (.ref (pL E 2) :: rest)) :=
  va_getN (C := RX7) (T := TX7) (N := 15) (ci := 9) (own := RX9) (ref := RX7) (host := "PlugRounds") (Ts := u_ws RX7 TX7 15) C.1 C.2.1 (u_X7 C.2.2.2.2.1 args) (fun _ h => h) C.2.2.2.1 C.2.2.2.2.2.1 hP 2 (e_X7) rfl 0 (by decide) (va_Nw.use rfl (C.2.2.2.2.1.2.1 _ _ _ _ _ _ (List.mem_of_getElem? (i := 203) rfl))) (fun _ h => h) rfl hdg kk
set_option maxRecDepth 20000 in
theorem g_9_42 (C : pCx p s m c cc nL E RX9) (hP : va_P (pD E) vwCl (pw E α β) H) (hdg : decode cc pc = .ok (.getfield 42, 3)) (kk : W p l e R s m args below meth c H locs cells slots Q (F0 m (pc + 3) ls (.ref (pL E 5) :: rest))) : W p l e R s m args below meth c H locs cells slots Q (F0 m pc ls (.ref (pL E 2) :: rest)) :=
  va_getN (C := RX7) (T := TX7) (N := 15) (ci := 9) (own := RX9) (ref := RX7) (host := "PlugRounds") (Ts := u_ws RX7 TX7 15) C.1 C.2.1 (u_X7 C.2.2.2.2.1 args) (fun _ h => h) C.2.2.2.1 C.2.2.2.2.2.1 hP 2 (e_X7) rfl 1 (by decide) (va_Nw.use rfl (C.2.2.2.2.1.2.1 _ _ _ _ _ _ (List.mem_of_getElem? (i := 205) rfl))) (fun _ h => h) rfl hdg kk
set_option maxRecDepth 20000 in
theorem g_9_47 (C : pCx p s m c cc nL E RX9) (hP : va_P (pD E) vwCl (pw E α β) H) (hdg : decode cc pc = .ok (.getfield 47, 3)) (kk : W p l e R s m args below meth c H locs cells slots Q (F0 m (pc + 3) ls (.ref (pL E 6) :: rest))) : W p l e R s m args below meth c H locs cells slots Q (F0 m pc ls (.ref (pL E 2) :: rest)) :=
  va_getN (C := RX7) (T := TX7) (N := 15) (ci := 9) (own := RX9) (ref := RX7) (host := "PlugRounds") (Ts := u_ws RX7 TX7 15) C.1 C.2.1 (u_X7 C.2.2.2.2.1 args) (fun _ h => h) C.2.2.2.1 C.2.2.2.2.2.1 hP 2 (e_X7) rfl 2 (by decide) (va_Nw.use rfl (C.2.2.2.2.1.2.1 _ _ _ _ _ _ (List.mem_of_getElem? (i := 207) rfl))) (fun _ h => h) rfl hdg kk
set_option maxRecDepth 20000 in
theorem g_9_52 (C : pCx p s m c cc nL E RX9) (hP : va_P (pD E) vwCl (pw E α β) H) (hdg : decode cc pc = .ok (.getfield 52, 3)) (kk : W p l e R s m args below meth c H locs cells slots Q (F0 m (pc + 3) ls (.ref (pL E 7) :: rest))) : W p l e R s m args below meth c H locs cells slots Q (F0 m pc ls (.ref (pL E 2) :: rest)) :=
  va_getN (C := RX7) (T := TX7) (N := 15) (ci := 9) (own := RX9) (ref := RX7) (host := "PlugRounds") (Ts := u_ws RX7 TX7 15) C.1 C.2.1 (u_X7 C.2.2.2.2.1 args) (fun _ h => h) C.2.2.2.1 C.2.2.2.2.2.1 hP 2 (e_X7) rfl 3 (by decide) (va_Nw.use rfl (C.2.2.2.2.1.2.1 _ _ _ _ _ _ (List.mem_of_getElem? (i := 209) rfl))) (fun _ h => h) rfl hdg kk
set_option maxRecDepth 20000 in
theorem g_9_72 (C : pCx p s m c cc nL E RX9) (hP : va_P (pD E) vwCl (pw E α β) H) {k : Nat} (hk : k < 6) (hdg : decode cc pc = .ok (.getfield 72, 3)) (kk : W p l e R s m args below meth c H locs cells slots Q (F0 m (pc + 3) ls (.ref (pL E (22 + (1 + k))) :: rest))) : W p l e R s m args below meth c H locs cells slots Q (F0 m pc ls (.ref (pL E (10 + k)) :: rest)) :=
  va_getN (C := RX2) (T := TX2) (N := 3) (ci := 4) (own := RX9) (ref := RX2) (host := "PlugRounds") (Ts := u_ws RX2 TX2 3) C.1 C.2.1 (u_X2 C.2.2.2.2.1 args) (fun _ h => h) C.2.2.2.1 C.2.2.2.2.2.1 hP (10 + k) (e_X2 hk) rfl 0 (by decide) (va_Nw.use rfl (C.2.2.2.2.1.2.1 _ _ _ _ _ _ (List.mem_of_getElem? (i := 86) rfl))) (fun _ h => h) rfl hdg kk
set_option maxRecDepth 20000 in
theorem g_9_106 (C : pCx p s m c cc nL E RX9) (hP : va_P (pD E) vwCl (pw E α β) H) {k : Nat} (hk : k < 6) (hdg : decode cc pc = .ok (.getfield 106, 3)) (kk : W p l e R s m args below meth c H locs cells slots Q (F0 m (pc + 3) ls (.int (α 2 k) :: rest))) : W p l e R s m args below meth c H locs cells slots Q (F0 m pc ls (.ref (pL E (10 + k)) :: rest)) :=
  va_getN (C := RX2) (T := TX2) (N := 3) (ci := 4) (own := RX9) (ref := RX2) (host := "PlugRounds") (Ts := u_ws RX2 TX2 3) C.1 C.2.1 (u_X2 C.2.2.2.2.1 args) (fun _ h => h) C.2.2.2.1 C.2.2.2.2.2.1 hP (10 + k) (e_X2 hk) rfl 1 (by decide) (va_Nw.use rfl (C.2.2.2.2.1.2.1 _ _ _ _ _ _ (List.mem_of_getElem? (i := 88) rfl))) (fun _ h => h) rfl hdg kk
set_option maxRecDepth 20000 in
theorem s_9_106 (C : pCx p s m c cc nL E RX9) (hP : va_P (pD E) vwCl (pw E α β) H) (hS : va_S (pA E sz) H0 H locs) {k : Nat} (hk : k < 6) {v : Int32} (hz : v = 0 ∨ v = 1) (hdg : decode cc pc = .ok (.putfield 106, 3)) (kk : ∀ (H1 : Heap) (locs1 : List Loc), va_P (pD E) vwCl (pw E (up2 α 2 k v) β) H1 → va_S (pA E sz) H0 H1 locs1 → W p l e R s m args below meth c H1 locs1 cells slots Q (F0 m (pc + 3) ls rest)) : W p l e R s m args below meth c H locs cells slots Q (F0 m pc ls (.int v :: .ref (pL E (10 + k)) :: rest)) :=
  va_putN (C := RX2) (T := TX2) (N := 3) (ci := 4) (own := RX9) (ref := RX2) (host := "PlugRounds") (Ts := u_ws RX2 TX2 3) (A := pA E sz) C.1 C.2.1 (u_X2 C.2.2.2.2.1 args) (fun _ h => h) tyX2 tyX2_ok nmX2 C.2.2.2.1 C.2.2.2.2.2.1 hP (pw_D C.2.2.2.2.2.2) hS (10 + k) (e_X2 hk) rfl 1 (by decide) (va_Nw.use rfl (C.2.2.2.2.1.2.1 _ _ _ _ _ _ (List.mem_of_getElem? (i := 88) rfl))) (fun _ h => h) rfl (ty := .boolean) (by decide +kernel) (pz_n hz) (pz_f hz) (Nat.le_of_ble_eq_true rfl) hdg (fun H1 locs1 hP1 _ hS1 => kk H1 locs1 ((t_X2_startFails hk v) ▸ hP1) hS1)
set_option maxRecDepth 20000 in
theorem g_9_190 (C : pCx p s m c cc nL E RX9) (hP : va_P (pD E) vwCl (pw E α β) H) {k : Nat} (hk : k < 6) (hdg : decode cc pc = .ok (.getfield 190, 3)) (kk : W p l e R s m args below meth c H locs cells slots Q (F0 m (pc + 3) ls (.int (α 6 k) :: rest))) : W p l e R s m args below meth c H locs cells slots Q (F0 m pc ls (.ref (pL E (16 + k)) :: rest)) :=
  va_getN (C := RX3) (T := TX3) (N := 7) (ci := 5) (own := RX9) (ref := RX3) (host := "PlugRounds") (Ts := u_ws RX3 TX3 7) C.1 C.2.1 (u_X3 C.2.2.2.2.1 args) (fun _ h => h) C.2.2.2.1 C.2.2.2.2.2.1 hP (16 + k) (e_X3 hk) rfl 3 (by decide) (va_Nw.use rfl (C.2.2.2.2.1.2.1 _ _ _ _ _ _ (List.mem_of_getElem? (i := 122) rfl))) (fun _ h => h) rfl hdg kk
set_option maxRecDepth 20000 in
theorem s_9_190 (C : pCx p s m c cc nL E RX9) (hP : va_P (pD E) vwCl (pw E α β) H) (hS : va_S (pA E sz) H0 H locs) {k : Nat} (hk : k < 6) {v : Int32} (hdg : decode cc pc = .ok (.putfield 190, 3)) (kk : ∀ (H1 : Heap) (locs1 : List Loc), va_P (pD E) vwCl (pw E (up2 α 6 k v) β) H1 → va_S (pA E sz) H0 H1 locs1 → W p l e R s m args below meth c H1 locs1 cells slots Q (F0 m (pc + 3) ls rest)) : W p l e R s m args below meth c H locs cells slots Q (F0 m pc ls (.int v :: .ref (pL E (16 + k)) :: rest)) :=
  va_putN (C := RX3) (T := TX3) (N := 7) (ci := 5) (own := RX9) (ref := RX3) (host := "PlugRounds") (Ts := u_ws RX3 TX3 7) (A := pA E sz) C.1 C.2.1 (u_X3 C.2.2.2.2.1 args) (fun _ h => h) tyX3 tyX3_ok nmX3 C.2.2.2.1 C.2.2.2.2.2.1 hP (pw_D C.2.2.2.2.2.2) hS (16 + k) (e_X3 hk) rfl 3 (by decide) (va_Nw.use rfl (C.2.2.2.2.1.2.1 _ _ _ _ _ _ (List.mem_of_getElem? (i := 122) rfl))) (fun _ h => h) rfl (ty := .int) (by decide +kernel) rfl rfl (Nat.le_of_ble_eq_true rfl) hdg (fun H1 locs1 hP1 _ hS1 => kk H1 locs1 ((t_X3_value hk v) ▸ hP1) hS1)
set_option maxRecDepth 20000 in
theorem g_9_203 (C : pCx p s m c cc nL E RX9) (hP : va_P (pD E) vwCl (pw E α β) H) (hdg : decode cc pc = .ok (.getfield 203, 3)) (kk : W p l e R s m args below meth c H locs cells slots Q (F0 m (pc + 3) ls (.int (α 16 0) :: rest))) : W p l e R s m args below meth c H locs cells slots Q (F0 m pc ls (.ref (pL E 2) :: rest)) :=
  va_getN (C := RX7) (T := TX7) (N := 15) (ci := 9) (own := RX9) (ref := RX7) (host := "PlugRounds") (Ts := u_ws RX7 TX7 15) C.1 C.2.1 (u_X7 C.2.2.2.2.1 args) (fun _ h => h) C.2.2.2.1 C.2.2.2.2.2.1 hP 2 (e_X7) rfl 9 (by decide) (va_Nw.use rfl (C.2.2.2.2.1.2.1 _ _ _ _ _ _ (List.mem_of_getElem? (i := 217) rfl))) (fun _ h => h) rfl hdg kk
set_option maxRecDepth 20000 in
theorem s_9_203 (C : pCx p s m c cc nL E RX9) (hP : va_P (pD E) vwCl (pw E α β) H) (hS : va_S (pA E sz) H0 H locs) {v : Int32} (hdg : decode cc pc = .ok (.putfield 203, 3)) (kk : ∀ (H1 : Heap) (locs1 : List Loc), va_P (pD E) vwCl (pw E (up2 α 16 0 v) β) H1 → va_S (pA E sz) H0 H1 locs1 → W p l e R s m args below meth c H1 locs1 cells slots Q (F0 m (pc + 3) ls rest)) : W p l e R s m args below meth c H locs cells slots Q (F0 m pc ls (.int v :: .ref (pL E 2) :: rest)) :=
  va_putN (C := RX7) (T := TX7) (N := 15) (ci := 9) (own := RX9) (ref := RX7) (host := "PlugRounds") (Ts := u_ws RX7 TX7 15) (A := pA E sz) C.1 C.2.1 (u_X7 C.2.2.2.2.1 args) (fun _ h => h) tyX7 tyX7_ok nmX7 C.2.2.2.1 C.2.2.2.2.2.1 hP (pw_D C.2.2.2.2.2.2) hS 2 (e_X7) rfl 9 (by decide) (va_Nw.use rfl (C.2.2.2.2.1.2.1 _ _ _ _ _ _ (List.mem_of_getElem? (i := 217) rfl))) (fun _ h => h) rfl (ty := .int) (by decide +kernel) rfl rfl (Nat.le_of_ble_eq_true rfl) hdg (fun H1 locs1 hP1 _ hS1 => kk H1 locs1 ((t_X7_steps v) ▸ hP1) hS1)
set_option maxRecDepth 20000 in
theorem g_9_206 (C : pCx p s m c cc nL E RX9) (hP : va_P (pD E) vwCl (pw E α β) H) (hdg : decode cc pc = .ok (.getfield 206, 3)) (kk : W p l e R s m args below meth c H locs cells slots Q (F0 m (pc + 3) ls (.int (α 17 0) :: rest))) : W p l e R s m args below meth c H locs cells slots Q (F0 m pc ls (.ref (pL E 2) :: rest)) :=
  va_getN (C := RX7) (T := TX7) (N := 15) (ci := 9) (own := RX9) (ref := RX7) (host := "PlugRounds") (Ts := u_ws RX7 TX7 15) C.1 C.2.1 (u_X7 C.2.2.2.2.1 args) (fun _ h => h) C.2.2.2.1 C.2.2.2.2.2.1 hP 2 (e_X7) rfl 10 (by decide) (va_Nw.use rfl (C.2.2.2.2.1.2.1 _ _ _ _ _ _ (List.mem_of_getElem? (i := 219) rfl))) (fun _ h => h) rfl hdg kk
set_option maxRecDepth 20000 in
theorem s_9_206 (C : pCx p s m c cc nL E RX9) (hP : va_P (pD E) vwCl (pw E α β) H) (hS : va_S (pA E sz) H0 H locs) {v : Int32} (hdg : decode cc pc = .ok (.putfield 206, 3)) (kk : ∀ (H1 : Heap) (locs1 : List Loc), va_P (pD E) vwCl (pw E (up2 α 17 0 v) β) H1 → va_S (pA E sz) H0 H1 locs1 → W p l e R s m args below meth c H1 locs1 cells slots Q (F0 m (pc + 3) ls rest)) : W p l e R s m args below meth c H locs cells slots Q (F0 m pc ls (.int v :: .ref (pL E 2) :: rest)) :=
  va_putN (C := RX7) (T := TX7) (N := 15) (ci := 9) (own := RX9) (ref := RX7) (host := "PlugRounds") (Ts := u_ws RX7 TX7 15) (A := pA E sz) C.1 C.2.1 (u_X7 C.2.2.2.2.1 args) (fun _ h => h) tyX7 tyX7_ok nmX7 C.2.2.2.1 C.2.2.2.2.2.1 hP (pw_D C.2.2.2.2.2.2) hS 2 (e_X7) rfl 10 (by decide) (va_Nw.use rfl (C.2.2.2.2.1.2.1 _ _ _ _ _ _ (List.mem_of_getElem? (i := 219) rfl))) (fun _ h => h) rfl (ty := .int) (by decide +kernel) rfl rfl (Nat.le_of_ble_eq_true rfl) hdg (fun H1 locs1 hP1 _ hS1 => kk H1 locs1 ((t_X7_rounds v) ▸ hP1) hS1)
set_option maxRecDepth 20000 in
theorem g_9_209 (C : pCx p s m c cc nL E RX9) (hP : va_P (pD E) vwCl (pw E α β) H) (hdg : decode cc pc = .ok (.getfield 209, 3)) (kk : W p l e R s m args below meth c H locs cells slots Q (F0 m (pc + 3) ls (.int (α 18 0) :: rest))) : W p l e R s m args below meth c H locs cells slots Q (F0 m pc ls (.ref (pL E 2) :: rest)) :=
  va_getN (C := RX7) (T := TX7) (N := 15) (ci := 9) (own := RX9) (ref := RX7) (host := "PlugRounds") (Ts := u_ws RX7 TX7 15) C.1 C.2.1 (u_X7 C.2.2.2.2.1 args) (fun _ h => h) C.2.2.2.1 C.2.2.2.2.2.1 hP 2 (e_X7) rfl 11 (by decide) (va_Nw.use rfl (C.2.2.2.2.1.2.1 _ _ _ _ _ _ (List.mem_of_getElem? (i := 221) rfl))) (fun _ h => h) rfl hdg kk
set_option maxRecDepth 20000 in
theorem s_9_209 (C : pCx p s m c cc nL E RX9) (hP : va_P (pD E) vwCl (pw E α β) H) (hS : va_S (pA E sz) H0 H locs) {v : Int32} (hdg : decode cc pc = .ok (.putfield 209, 3)) (kk : ∀ (H1 : Heap) (locs1 : List Loc), va_P (pD E) vwCl (pw E (up2 α 18 0 v) β) H1 → va_S (pA E sz) H0 H1 locs1 → W p l e R s m args below meth c H1 locs1 cells slots Q (F0 m (pc + 3) ls rest)) : W p l e R s m args below meth c H locs cells slots Q (F0 m pc ls (.int v :: .ref (pL E 2) :: rest)) :=
  va_putN (C := RX7) (T := TX7) (N := 15) (ci := 9) (own := RX9) (ref := RX7) (host := "PlugRounds") (Ts := u_ws RX7 TX7 15) (A := pA E sz) C.1 C.2.1 (u_X7 C.2.2.2.2.1 args) (fun _ h => h) tyX7 tyX7_ok nmX7 C.2.2.2.1 C.2.2.2.2.2.1 hP (pw_D C.2.2.2.2.2.2) hS 2 (e_X7) rfl 11 (by decide) (va_Nw.use rfl (C.2.2.2.2.1.2.1 _ _ _ _ _ _ (List.mem_of_getElem? (i := 221) rfl))) (fun _ h => h) rfl (ty := .int) (by decide +kernel) rfl rfl (Nat.le_of_ble_eq_true rfl) hdg (fun H1 locs1 hP1 _ hS1 => kk H1 locs1 ((t_X7_made v) ▸ hP1) hS1)
set_option maxRecDepth 20000 in
theorem g_7_124 (C : pCx p s m c cc nL E RX7) (hP : va_P (pD E) vwCl (pw E α β) H) {k : Nat} (hk : k < 6) (hdg : decode cc pc = .ok (.getfield 124, 3)) (kk : W p l e R s m args below meth c H locs cells slots Q (F0 m (pc + 3) ls (.int (α 5 k) :: rest))) : W p l e R s m args below meth c H locs cells slots Q (F0 m pc ls (.ref (pL E (16 + k)) :: rest)) :=
  va_getN (C := RX3) (T := TX3) (N := 7) (ci := 5) (own := RX7) (ref := RX3) (host := "PlugRounds") (Ts := u_ws RX3 TX3 7) C.1 C.2.1 (u_X3 C.2.2.2.2.1 args) (fun _ h => h) C.2.2.2.1 C.2.2.2.2.2.1 hP (16 + k) (e_X3 hk) rfl 2 (by decide) (va_Nw.use rfl (C.2.2.2.2.1.2.1 _ _ _ _ _ _ (List.mem_of_getElem? (i := 119) rfl))) (fun _ h => h) rfl hdg kk
set_option maxRecDepth 20000 in
theorem s_7_124 (C : pCx p s m c cc nL E RX7) (hP : va_P (pD E) vwCl (pw E α β) H) (hS : va_S (pA E sz) H0 H locs) {k : Nat} (hk : k < 6) {v : Int32} (hdg : decode cc pc = .ok (.putfield 124, 3)) (kk : ∀ (H1 : Heap) (locs1 : List Loc), va_P (pD E) vwCl (pw E (up2 α 5 k v) β) H1 → va_S (pA E sz) H0 H1 locs1 → W p l e R s m args below meth c H1 locs1 cells slots Q (F0 m (pc + 3) ls rest)) : W p l e R s m args below meth c H locs cells slots Q (F0 m pc ls (.int v :: .ref (pL E (16 + k)) :: rest)) :=
  va_putN (C := RX3) (T := TX3) (N := 7) (ci := 5) (own := RX7) (ref := RX3) (host := "PlugRounds") (Ts := u_ws RX3 TX3 7) (A := pA E sz) C.1 C.2.1 (u_X3 C.2.2.2.2.1 args) (fun _ h => h) tyX3 tyX3_ok nmX3 C.2.2.2.1 C.2.2.2.2.2.1 hP (pw_D C.2.2.2.2.2.2) hS (16 + k) (e_X3 hk) rfl 2 (by decide) (va_Nw.use rfl (C.2.2.2.2.1.2.1 _ _ _ _ _ _ (List.mem_of_getElem? (i := 119) rfl))) (fun _ h => h) rfl (ty := .int) (by decide +kernel) rfl rfl (Nat.le_of_ble_eq_true rfl) hdg (fun H1 locs1 hP1 _ hS1 => kk H1 locs1 ((t_X3_rules hk v) ▸ hP1) hS1)
set_option maxRecDepth 20000 in
theorem g_7_129 (C : pCx p s m c cc nL E RX7) (hP : va_P (pD E) vwCl (pw E α β) H) {k : Nat} (hk : k < 6) (hdg : decode cc pc = .ok (.getfield 129, 3)) (kk : W p l e R s m args below meth c H locs cells slots Q (F0 m (pc + 3) ls (.int (α 8 k) :: rest))) : W p l e R s m args below meth c H locs cells slots Q (F0 m pc ls (.ref (pL E (16 + k)) :: rest)) :=
  va_getN (C := RX3) (T := TX3) (N := 7) (ci := 5) (own := RX7) (ref := RX3) (host := "PlugRounds") (Ts := u_ws RX3 TX3 7) C.1 C.2.1 (u_X3 C.2.2.2.2.1 args) (fun _ h => h) C.2.2.2.1 C.2.2.2.2.2.1 hP (16 + k) (e_X3 hk) rfl 5 (by decide) (va_Nw.use rfl (C.2.2.2.2.1.2.1 _ _ _ _ _ _ (List.mem_of_getElem? (i := 125) rfl))) (fun _ h => h) rfl hdg kk
set_option maxRecDepth 20000 in
theorem s_7_129 (C : pCx p s m c cc nL E RX7) (hP : va_P (pD E) vwCl (pw E α β) H) (hS : va_S (pA E sz) H0 H locs) {k : Nat} (hk : k < 6) {v : Int32} (hz : v = 0 ∨ v = 1) (hdg : decode cc pc = .ok (.putfield 129, 3)) (kk : ∀ (H1 : Heap) (locs1 : List Loc), va_P (pD E) vwCl (pw E (up2 α 8 k v) β) H1 → va_S (pA E sz) H0 H1 locs1 → W p l e R s m args below meth c H1 locs1 cells slots Q (F0 m (pc + 3) ls rest)) : W p l e R s m args below meth c H locs cells slots Q (F0 m pc ls (.int v :: .ref (pL E (16 + k)) :: rest)) :=
  va_putN (C := RX3) (T := TX3) (N := 7) (ci := 5) (own := RX7) (ref := RX3) (host := "PlugRounds") (Ts := u_ws RX3 TX3 7) (A := pA E sz) C.1 C.2.1 (u_X3 C.2.2.2.2.1 args) (fun _ h => h) tyX3 tyX3_ok nmX3 C.2.2.2.1 C.2.2.2.2.2.1 hP (pw_D C.2.2.2.2.2.2) hS (16 + k) (e_X3 hk) rfl 5 (by decide) (va_Nw.use rfl (C.2.2.2.2.1.2.1 _ _ _ _ _ _ (List.mem_of_getElem? (i := 125) rfl))) (fun _ h => h) rfl (ty := .boolean) (by decide +kernel) (pz_n hz) (pz_f hz) (Nat.le_of_ble_eq_true rfl) hdg (fun H1 locs1 hP1 _ hS1 => kk H1 locs1 ((t_X3_stopped hk v) ▸ hP1) hS1)
set_option maxRecDepth 20000 in
theorem g_7_166 (C : pCx p s m c cc nL E RX7) (hP : va_P (pD E) vwCl (pw E α β) H) {k : Nat} (hk : k < 6) (hdg : decode cc pc = .ok (.getfield 166, 3)) (kk : W p l e R s m args below meth c H locs cells slots Q (F0 m (pc + 3) ls (.int (α 6 k) :: rest))) : W p l e R s m args below meth c H locs cells slots Q (F0 m pc ls (.ref (pL E (16 + k)) :: rest)) :=
  va_getN (C := RX3) (T := TX3) (N := 7) (ci := 5) (own := RX7) (ref := RX3) (host := "PlugRounds") (Ts := u_ws RX3 TX3 7) C.1 C.2.1 (u_X3 C.2.2.2.2.1 args) (fun _ h => h) C.2.2.2.1 C.2.2.2.2.2.1 hP (16 + k) (e_X3 hk) rfl 3 (by decide) (va_Nw.use rfl (C.2.2.2.2.1.2.1 _ _ _ _ _ _ (List.mem_of_getElem? (i := 121) rfl))) (fun _ h => h) rfl hdg kk
set_option maxRecDepth 20000 in
theorem s_7_166 (C : pCx p s m c cc nL E RX7) (hP : va_P (pD E) vwCl (pw E α β) H) (hS : va_S (pA E sz) H0 H locs) {k : Nat} (hk : k < 6) {v : Int32} (hdg : decode cc pc = .ok (.putfield 166, 3)) (kk : ∀ (H1 : Heap) (locs1 : List Loc), va_P (pD E) vwCl (pw E (up2 α 6 k v) β) H1 → va_S (pA E sz) H0 H1 locs1 → W p l e R s m args below meth c H1 locs1 cells slots Q (F0 m (pc + 3) ls rest)) : W p l e R s m args below meth c H locs cells slots Q (F0 m pc ls (.int v :: .ref (pL E (16 + k)) :: rest)) :=
  va_putN (C := RX3) (T := TX3) (N := 7) (ci := 5) (own := RX7) (ref := RX3) (host := "PlugRounds") (Ts := u_ws RX3 TX3 7) (A := pA E sz) C.1 C.2.1 (u_X3 C.2.2.2.2.1 args) (fun _ h => h) tyX3 tyX3_ok nmX3 C.2.2.2.1 C.2.2.2.2.2.1 hP (pw_D C.2.2.2.2.2.2) hS (16 + k) (e_X3 hk) rfl 3 (by decide) (va_Nw.use rfl (C.2.2.2.2.1.2.1 _ _ _ _ _ _ (List.mem_of_getElem? (i := 121) rfl))) (fun _ h => h) rfl (ty := .int) (by decide +kernel) rfl rfl (Nat.le_of_ble_eq_true rfl) hdg (fun H1 locs1 hP1 _ hS1 => kk H1 locs1 ((t_X3_value hk v) ▸ hP1) hS1)
set_option maxRecDepth 20000 in
theorem g_7_186 (C : pCx p s m c cc nL E RX7) (hP : va_P (pD E) vwCl (pw E α β) H) {k : Nat} (hk : k < 6) (hdg : decode cc pc = .ok (.getfield 186, 3)) (kk : W p l e R s m args below meth c H locs cells slots Q (F0 m (pc + 3) ls (.int (α 9 k) :: rest))) : W p l e R s m args below meth c H locs cells slots Q (F0 m pc ls (.ref (pL E (16 + k)) :: rest)) :=
  va_getN (C := RX3) (T := TX3) (N := 7) (ci := 5) (own := RX7) (ref := RX3) (host := "PlugRounds") (Ts := u_ws RX3 TX3 7) C.1 C.2.1 (u_X3 C.2.2.2.2.1 args) (fun _ h => h) C.2.2.2.1 C.2.2.2.2.2.1 hP (16 + k) (e_X3 hk) rfl 6 (by decide) (va_Nw.use rfl (C.2.2.2.2.1.2.1 _ _ _ _ _ _ (List.mem_of_getElem? (i := 127) rfl))) (fun _ h => h) rfl hdg kk
set_option maxRecDepth 20000 in
theorem s_7_186 (C : pCx p s m c cc nL E RX7) (hP : va_P (pD E) vwCl (pw E α β) H) (hS : va_S (pA E sz) H0 H locs) {k : Nat} (hk : k < 6) {v : Int32} (hdg : decode cc pc = .ok (.putfield 186, 3)) (kk : ∀ (H1 : Heap) (locs1 : List Loc), va_P (pD E) vwCl (pw E (up2 α 9 k v) β) H1 → va_S (pA E sz) H0 H1 locs1 → W p l e R s m args below meth c H1 locs1 cells slots Q (F0 m (pc + 3) ls rest)) : W p l e R s m args below meth c H locs cells slots Q (F0 m pc ls (.int v :: .ref (pL E (16 + k)) :: rest)) :=
  va_putN (C := RX3) (T := TX3) (N := 7) (ci := 5) (own := RX7) (ref := RX3) (host := "PlugRounds") (Ts := u_ws RX3 TX3 7) (A := pA E sz) C.1 C.2.1 (u_X3 C.2.2.2.2.1 args) (fun _ h => h) tyX3 tyX3_ok nmX3 C.2.2.2.1 C.2.2.2.2.2.1 hP (pw_D C.2.2.2.2.2.2) hS (16 + k) (e_X3 hk) rfl 6 (by decide) (va_Nw.use rfl (C.2.2.2.2.1.2.1 _ _ _ _ _ _ (List.mem_of_getElem? (i := 127) rfl))) (fun _ h => h) rfl (ty := .int) (by decide +kernel) rfl rfl (Nat.le_of_ble_eq_true rfl) hdg (fun H1 locs1 hP1 _ hS1 => kk H1 locs1 ((t_X3_steps hk v) ▸ hP1) hS1)
theorem la_files {own : String} (C : pCx p s m c cc nL E own) (hP : va_P (pD E) vwCl (pw E α β) H) {i : Int32} (hin : pin i 6 = true) (hdg : decode cc pc = .ok (.aaload, 1)) (kk : W p l e R s m args below meth c H locs cells slots Q (F0 m (pc + 1) ls (.ref (pL E (10 + i.toNatClampNeg)) :: rest))) : W p l e R s m args below meth c H locs cells slots Q (F0 m pc ls (.int i :: .ref (pL E 1) :: rest)) := va_aldq C.1 C.2.1 C.2.2.2.2.2.1 hP 1 3 (e_files) rfl (pin_ok hin) hdg kk
theorem ln_files {own : String} (C : pCx p s m c cc nL E own) (hP : va_P (pD E) vwCl (pw E α β) H) (hdg : decode cc pc = .ok (.arraylength, 1)) (kk : W p l e R s m args below meth c H locs cells slots Q (F0 m (pc + 1) ls (.int 6 :: rest))) : W p l e R s m args below meth c H locs cells slots Q (F0 m pc ls (.ref (pL E 1) :: rest)) := va_alen C.1 C.2.1 C.2.2.2.2.2.1 hP 1 3 (e_files) (ty := _) rfl rfl hdg kk
theorem la_all {own : String} (C : pCx p s m c cc nL E own) (hP : va_P (pD E) vwCl (pw E α β) H) {i : Int32} (hin : pin i 6 = true) (hdg : decode cc pc = .ok (.aaload, 1)) (kk : W p l e R s m args below meth c H locs cells slots Q (F0 m (pc + 1) ls (.ref (pL E (16 + i.toNatClampNeg)) :: rest))) : W p l e R s m args below meth c H locs cells slots Q (F0 m pc ls (.int i :: .ref (pL E 4) :: rest)) := va_aldq C.1 C.2.1 C.2.2.2.2.2.1 hP 4 4 (e_all) rfl (pin_ok hin) hdg kk
theorem ln_all {own : String} (C : pCx p s m c cc nL E own) (hP : va_P (pD E) vwCl (pw E α β) H) (hdg : decode cc pc = .ok (.arraylength, 1)) (kk : W p l e R s m args below meth c H locs cells slots Q (F0 m (pc + 1) ls (.int 6 :: rest))) : W p l e R s m args below meth c H locs cells slots Q (F0 m pc ls (.ref (pL E 4) :: rest)) := va_alen C.1 C.2.1 C.2.2.2.2.2.1 hP 4 4 (e_all) (ty := _) rfl rfl hdg kk
theorem la_rows {own : String} (C : pCx p s m c cc nL E own) (hP : va_P (pD E) vwCl (pw E α β) H) {i : Int32} (hin : pin i 4 = true) (hdg : decode cc pc = .ok (.aaload, 1)) (kk : W p l e R s m args below meth c H locs cells slots Q (F0 m (pc + 1) ls (.ref (pL E (22 + (7 + i.toNatClampNeg))) :: rest))) : W p l e R s m args below meth c H locs cells slots Q (F0 m pc ls (.int i :: .ref (pL E 56) :: rest)) := va_aldq C.1 C.2.1 C.2.2.2.2.2.1 hP 56 5 (e_rows) rfl (pin_ok hin) hdg kk
theorem ln_rows {own : String} (C : pCx p s m c cc nL E own) (hP : va_P (pD E) vwCl (pw E α β) H) (hdg : decode cc pc = .ok (.arraylength, 1)) (kk : W p l e R s m args below meth c H locs cells slots Q (F0 m (pc + 1) ls (.int 4 :: rest))) : W p l e R s m args below meth c H locs cells slots Q (F0 m pc ls (.ref (pL E 56) :: rest)) := va_alen C.1 C.2.1 C.2.2.2.2.2.1 hP 56 5 (e_rows) (ty := _) rfl rfl hdg kk
theorem la_options {own : String} (C : pCx p s m c cc nL E own) (hP : va_P (pD E) vwCl (pw E α β) H) {i : Int32} (hin : pin i (4) = true) (hdg : decode cc pc = .ok (.iaload, 1)) (kk : W p l e R s m args below meth c H locs cells slots Q (F0 m (pc + 1) ls (.int (α 23 i.toNatClampNeg) :: rest))) : W p l e R s m args below meth c H locs cells slots Q (F0 m pc ls (.int i :: .ref (pL E 8) :: rest)) := va_iald C.1 C.2.1 C.2.2.2.2.2.1 hP 8 0 (e_options) rfl (pin_ok hin) hdg kk
theorem sa_options {own : String} (C : pCx p s m c cc nL E own) (hP : va_P (pD E) vwCl (pw E α β) H) (hS : va_S (pA E sz) H0 H locs) {i v : Int32} (hin : pin i (4) = true) (hdg : decode cc pc = .ok (.iastore, 1)) (kk : ∀ (H1 : Heap) (locs1 : List Loc), va_P (pD E) vwCl (pw E (up2 α 23 i.toNatClampNeg v) β) H1 → va_S (pA E sz) H0 H1 locs1 → W p l e R s m args below meth c H1 locs1 cells slots Q (F0 m (pc + 1) ls rest)) : W p l e R s m args below meth c H locs cells slots Q (F0 m pc ls (.int v :: .int i :: .ref (pL E 8) :: rest)) := va_iast C.1 C.2.1 C.2.2.2.2.2.1 hP (pw_D C.2.2.2.2.2.2) hS 8 0 (e_options) rfl (pin_ok hin) hdg (fun H1 locs1 hP1 _ hS1 => kk H1 locs1 (by have h := t_options (E := E) (α := α) (β := β) i.toNatClampNeg v; rw [h] at hP1; exact hP1) hS1)
theorem ln_options {own : String} (C : pCx p s m c cc nL E own) (hP : va_P (pD E) vwCl (pw E α β) H) (hdg : decode cc pc = .ok (.arraylength, 1)) (kk : W p l e R s m args below meth c H locs cells slots Q (F0 m (pc + 1) ls (.int 4 :: rest))) : W p l e R s m args below meth c H locs cells slots Q (F0 m pc ls (.ref (pL E 8) :: rest)) := va_alen C.1 C.2.1 C.2.2.2.2.2.1 hP 8 0 (e_options) (ty := _) rfl rfl hdg kk
theorem la_claimants {own : String} (C : pCx p s m c cc nL E own) (hP : va_P (pD E) vwCl (pw E α β) H) {i : Int32} (hin : pin i (8) = true) (hdg : decode cc pc = .ok (.iaload, 1)) (kk : W p l e R s m args below meth c H locs cells slots Q (F0 m (pc + 1) ls (.int (α 24 i.toNatClampNeg) :: rest))) : W p l e R s m args below meth c H locs cells slots Q (F0 m pc ls (.int i :: .ref (pL E 9) :: rest)) := va_iald C.1 C.2.1 C.2.2.2.2.2.1 hP 9 0 (e_claimants) rfl (pin_ok hin) hdg kk
theorem sa_claimants {own : String} (C : pCx p s m c cc nL E own) (hP : va_P (pD E) vwCl (pw E α β) H) (hS : va_S (pA E sz) H0 H locs) {i v : Int32} (hin : pin i (8) = true) (hdg : decode cc pc = .ok (.iastore, 1)) (kk : ∀ (H1 : Heap) (locs1 : List Loc), va_P (pD E) vwCl (pw E (up2 α 24 i.toNatClampNeg v) β) H1 → va_S (pA E sz) H0 H1 locs1 → W p l e R s m args below meth c H1 locs1 cells slots Q (F0 m (pc + 1) ls rest)) : W p l e R s m args below meth c H locs cells slots Q (F0 m pc ls (.int v :: .int i :: .ref (pL E 9) :: rest)) := va_iast C.1 C.2.1 C.2.2.2.2.2.1 hP (pw_D C.2.2.2.2.2.2) hS 9 0 (e_claimants) rfl (pin_ok hin) hdg (fun H1 locs1 hP1 _ hS1 => kk H1 locs1 (by have h := t_claimants (E := E) (α := α) (β := β) i.toNatClampNeg v; rw [h] at hP1; exact hP1) hS1)
theorem ln_claimants {own : String} (C : pCx p s m c cc nL E own) (hP : va_P (pD E) vwCl (pw E α β) H) (hdg : decode cc pc = .ok (.arraylength, 1)) (kk : W p l e R s m args below meth c H locs cells slots Q (F0 m (pc + 1) ls (.int 8 :: rest))) : W p l e R s m args below meth c H locs cells slots Q (F0 m pc ls (.ref (pL E 9) :: rest)) := va_alen C.1 C.2.1 C.2.2.2.2.2.1 hP 9 0 (e_claimants) (ty := _) rfl rfl hdg kk
theorem la_names {own : String} (C : pCx p s m c cc nL E own) (hP : va_P (pD E) vwCl (pw E α β) H) {i : Int32} (hin : pin i (40) = true) (hdg : decode cc pc = .ok (.iaload, 1)) (kk : W p l e R s m args below meth c H locs cells slots Q (F0 m (pc + 1) ls (.int (α 25 i.toNatClampNeg) :: rest))) : W p l e R s m args below meth c H locs cells slots Q (F0 m pc ls (.int i :: .ref (pL E 50) :: rest)) := va_iald C.1 C.2.1 C.2.2.2.2.2.1 hP 50 0 (e_names) rfl (pin_ok hin) hdg kk
theorem sa_names {own : String} (C : pCx p s m c cc nL E own) (hP : va_P (pD E) vwCl (pw E α β) H) (hS : va_S (pA E sz) H0 H locs) {i v : Int32} (hin : pin i (40) = true) (hdg : decode cc pc = .ok (.iastore, 1)) (kk : ∀ (H1 : Heap) (locs1 : List Loc), va_P (pD E) vwCl (pw E (up2 α 25 i.toNatClampNeg v) β) H1 → va_S (pA E sz) H0 H1 locs1 → W p l e R s m args below meth c H1 locs1 cells slots Q (F0 m (pc + 1) ls rest)) : W p l e R s m args below meth c H locs cells slots Q (F0 m pc ls (.int v :: .int i :: .ref (pL E 50) :: rest)) := va_iast C.1 C.2.1 C.2.2.2.2.2.1 hP (pw_D C.2.2.2.2.2.2) hS 50 0 (e_names) rfl (pin_ok hin) hdg (fun H1 locs1 hP1 _ hS1 => kk H1 locs1 (by have h := t_names (E := E) (α := α) (β := β) i.toNatClampNeg v; rw [h] at hP1; exact hP1) hS1)
theorem ln_names {own : String} (C : pCx p s m c cc nL E own) (hP : va_P (pD E) vwCl (pw E α β) H) (hdg : decode cc pc = .ok (.arraylength, 1)) (kk : W p l e R s m args below meth c H locs cells slots Q (F0 m (pc + 1) ls (.int 40 :: rest))) : W p l e R s m args below meth c H locs cells slots Q (F0 m pc ls (.ref (pL E 50) :: rest)) := va_alen C.1 C.2.1 C.2.2.2.2.2.1 hP 50 0 (e_names) (ty := _) rfl rfl hdg kk
theorem la_markSets {own : String} (C : pCx p s m c cc nL E own) (hP : va_P (pD E) vwCl (pw E α β) H) {i : Int32} (hin : pin i (40) = true) (hdg : decode cc pc = .ok (.iaload, 1)) (kk : W p l e R s m args below meth c H locs cells slots Q (F0 m (pc + 1) ls (.int (α 26 i.toNatClampNeg) :: rest))) : W p l e R s m args below meth c H locs cells slots Q (F0 m pc ls (.int i :: .ref (pL E 51) :: rest)) := va_iald C.1 C.2.1 C.2.2.2.2.2.1 hP 51 0 (e_markSets) rfl (pin_ok hin) hdg kk
theorem sa_markSets {own : String} (C : pCx p s m c cc nL E own) (hP : va_P (pD E) vwCl (pw E α β) H) (hS : va_S (pA E sz) H0 H locs) {i v : Int32} (hin : pin i (40) = true) (hdg : decode cc pc = .ok (.iastore, 1)) (kk : ∀ (H1 : Heap) (locs1 : List Loc), va_P (pD E) vwCl (pw E (up2 α 26 i.toNatClampNeg v) β) H1 → va_S (pA E sz) H0 H1 locs1 → W p l e R s m args below meth c H1 locs1 cells slots Q (F0 m (pc + 1) ls rest)) : W p l e R s m args below meth c H locs cells slots Q (F0 m pc ls (.int v :: .int i :: .ref (pL E 51) :: rest)) := va_iast C.1 C.2.1 C.2.2.2.2.2.1 hP (pw_D C.2.2.2.2.2.2) hS 51 0 (e_markSets) rfl (pin_ok hin) hdg (fun H1 locs1 hP1 _ hS1 => kk H1 locs1 (by have h := t_markSets (E := E) (α := α) (β := β) i.toNatClampNeg v; rw [h] at hP1; exact hP1) hS1)
theorem ln_markSets {own : String} (C : pCx p s m c cc nL E own) (hP : va_P (pD E) vwCl (pw E α β) H) (hdg : decode cc pc = .ok (.arraylength, 1)) (kk : W p l e R s m args below meth c H locs cells slots Q (F0 m (pc + 1) ls (.int 40 :: rest))) : W p l e R s m args below meth c H locs cells slots Q (F0 m pc ls (.ref (pL E 51) :: rest)) := va_alen C.1 C.2.1 C.2.2.2.2.2.1 hP 51 0 (e_markSets) (ty := _) rfl rfl hdg kk
theorem la_fresh {own : String} (C : pCx p s m c cc nL E own) (hP : va_P (pD E) vwCl (pw E α β) H) {i : Int32} (hin : pin i (40) = true) (hdg : decode cc pc = .ok (.baload, 1)) (kk : W p l e R s m args below meth c H locs cells slots Q (F0 m (pc + 1) ls (.int (α 27 i.toNatClampNeg) :: rest))) : W p l e R s m args below meth c H locs cells slots Q (F0 m pc ls (.int i :: .ref (pL E 52) :: rest)) := va_zald C.1 C.2.1 C.2.2.2.2.2.1 hP 52 1 (e_fresh) rfl (pin_ok hin) hdg kk
theorem sa_fresh {own : String} (C : pCx p s m c cc nL E own) (hP : va_P (pD E) vwCl (pw E α β) H) (hS : va_S (pA E sz) H0 H locs) {i v : Int32} (hz : v = 0 ∨ v = 1) (hin : pin i (40) = true) (hdg : decode cc pc = .ok (.bastore, 1)) (kk : ∀ (H1 : Heap) (locs1 : List Loc), va_P (pD E) vwCl (pw E (up2 α 27 i.toNatClampNeg v) β) H1 → va_S (pA E sz) H0 H1 locs1 → W p l e R s m args below meth c H1 locs1 cells slots Q (F0 m (pc + 1) ls rest)) : W p l e R s m args below meth c H locs cells slots Q (F0 m pc ls (.int v :: .int i :: .ref (pL E 52) :: rest)) := va_zast C.1 C.2.1 C.2.2.2.2.2.1 hP (pw_D C.2.2.2.2.2.2) hS 52 1 (e_fresh) rfl (pin_ok hin) hdg (fun H1 locs1 hP1 _ hS1 => kk H1 locs1 (by rw [pz_v hz] at hP1; have h := t_fresh (E := E) (α := α) (β := β) i.toNatClampNeg v; rw [h] at hP1; exact hP1) hS1)
theorem ln_fresh {own : String} (C : pCx p s m c cc nL E own) (hP : va_P (pD E) vwCl (pw E α β) H) (hdg : decode cc pc = .ok (.arraylength, 1)) (kk : W p l e R s m args below meth c H locs cells slots Q (F0 m (pc + 1) ls (.int 40 :: rest))) : W p l e R s m args below meth c H locs cells slots Q (F0 m pc ls (.ref (pL E 52) :: rest)) := va_alen C.1 C.2.1 C.2.2.2.2.2.1 hP 52 1 (e_fresh) (ty := _) rfl rfl hdg kk
theorem la_makers {own : String} (C : pCx p s m c cc nL E own) (hP : va_P (pD E) vwCl (pw E α β) H) {i : Int32} (hin : pin i (40) = true) (hdg : decode cc pc = .ok (.iaload, 1)) (kk : W p l e R s m args below meth c H locs cells slots Q (F0 m (pc + 1) ls (.int (α 28 i.toNatClampNeg) :: rest))) : W p l e R s m args below meth c H locs cells slots Q (F0 m pc ls (.int i :: .ref (pL E 53) :: rest)) := va_iald C.1 C.2.1 C.2.2.2.2.2.1 hP 53 0 (e_makers) rfl (pin_ok hin) hdg kk
theorem sa_makers {own : String} (C : pCx p s m c cc nL E own) (hP : va_P (pD E) vwCl (pw E α β) H) (hS : va_S (pA E sz) H0 H locs) {i v : Int32} (hin : pin i (40) = true) (hdg : decode cc pc = .ok (.iastore, 1)) (kk : ∀ (H1 : Heap) (locs1 : List Loc), va_P (pD E) vwCl (pw E (up2 α 28 i.toNatClampNeg v) β) H1 → va_S (pA E sz) H0 H1 locs1 → W p l e R s m args below meth c H1 locs1 cells slots Q (F0 m (pc + 1) ls rest)) : W p l e R s m args below meth c H locs cells slots Q (F0 m pc ls (.int v :: .int i :: .ref (pL E 53) :: rest)) := va_iast C.1 C.2.1 C.2.2.2.2.2.1 hP (pw_D C.2.2.2.2.2.2) hS 53 0 (e_makers) rfl (pin_ok hin) hdg (fun H1 locs1 hP1 _ hS1 => kk H1 locs1 (by have h := t_makers (E := E) (α := α) (β := β) i.toNatClampNeg v; rw [h] at hP1; exact hP1) hS1)
theorem ln_makers {own : String} (C : pCx p s m c cc nL E own) (hP : va_P (pD E) vwCl (pw E α β) H) (hdg : decode cc pc = .ok (.arraylength, 1)) (kk : W p l e R s m args below meth c H locs cells slots Q (F0 m (pc + 1) ls (.int 40 :: rest))) : W p l e R s m args below meth c H locs cells slots Q (F0 m pc ls (.ref (pL E 53) :: rest)) := va_alen C.1 C.2.1 C.2.2.2.2.2.1 hP 53 0 (e_makers) (ty := _) rfl rfl hdg kk
theorem la_madeIn {own : String} (C : pCx p s m c cc nL E own) (hP : va_P (pD E) vwCl (pw E α β) H) {i : Int32} (hin : pin i (40) = true) (hdg : decode cc pc = .ok (.iaload, 1)) (kk : W p l e R s m args below meth c H locs cells slots Q (F0 m (pc + 1) ls (.int (α 29 i.toNatClampNeg) :: rest))) : W p l e R s m args below meth c H locs cells slots Q (F0 m pc ls (.int i :: .ref (pL E 54) :: rest)) := va_iald C.1 C.2.1 C.2.2.2.2.2.1 hP 54 0 (e_madeIn) rfl (pin_ok hin) hdg kk
theorem sa_madeIn {own : String} (C : pCx p s m c cc nL E own) (hP : va_P (pD E) vwCl (pw E α β) H) (hS : va_S (pA E sz) H0 H locs) {i v : Int32} (hin : pin i (40) = true) (hdg : decode cc pc = .ok (.iastore, 1)) (kk : ∀ (H1 : Heap) (locs1 : List Loc), va_P (pD E) vwCl (pw E (up2 α 29 i.toNatClampNeg v) β) H1 → va_S (pA E sz) H0 H1 locs1 → W p l e R s m args below meth c H1 locs1 cells slots Q (F0 m (pc + 1) ls rest)) : W p l e R s m args below meth c H locs cells slots Q (F0 m pc ls (.int v :: .int i :: .ref (pL E 54) :: rest)) := va_iast C.1 C.2.1 C.2.2.2.2.2.1 hP (pw_D C.2.2.2.2.2.2) hS 54 0 (e_madeIn) rfl (pin_ok hin) hdg (fun H1 locs1 hP1 _ hS1 => kk H1 locs1 (by have h := t_madeIn (E := E) (α := α) (β := β) i.toNatClampNeg v; rw [h] at hP1; exact hP1) hS1)
theorem ln_madeIn {own : String} (C : pCx p s m c cc nL E own) (hP : va_P (pD E) vwCl (pw E α β) H) (hdg : decode cc pc = .ok (.arraylength, 1)) (kk : W p l e R s m args below meth c H locs cells slots Q (F0 m (pc + 1) ls (.int 40 :: rest))) : W p l e R s m args below meth c H locs cells slots Q (F0 m pc ls (.ref (pL E 54) :: rest)) := va_alen C.1 C.2.1 C.2.2.2.2.2.1 hP 54 0 (e_madeIn) (ty := _) rfl rfl hdg kk
theorem la_mparts {own : String} (C : pCx p s m c cc nL E own) (hP : va_P (pD E) vwCl (pw E α β) H) {i : Int32} (hin : pin i (600) = true) (hdg : decode cc pc = .ok (.iaload, 1)) (kk : W p l e R s m args below meth c H locs cells slots Q (F0 m (pc + 1) ls (.int (α 30 i.toNatClampNeg) :: rest))) : W p l e R s m args below meth c H locs cells slots Q (F0 m pc ls (.int i :: .ref (pL E 55) :: rest)) := va_iald C.1 C.2.1 C.2.2.2.2.2.1 hP 55 0 (e_mparts) rfl (pin_ok hin) hdg kk
theorem sa_mparts {own : String} (C : pCx p s m c cc nL E own) (hP : va_P (pD E) vwCl (pw E α β) H) (hS : va_S (pA E sz) H0 H locs) {i v : Int32} (hin : pin i (600) = true) (hdg : decode cc pc = .ok (.iastore, 1)) (kk : ∀ (H1 : Heap) (locs1 : List Loc), va_P (pD E) vwCl (pw E (up2 α 30 i.toNatClampNeg v) β) H1 → va_S (pA E sz) H0 H1 locs1 → W p l e R s m args below meth c H1 locs1 cells slots Q (F0 m (pc + 1) ls rest)) : W p l e R s m args below meth c H locs cells slots Q (F0 m pc ls (.int v :: .int i :: .ref (pL E 55) :: rest)) := va_iast C.1 C.2.1 C.2.2.2.2.2.1 hP (pw_D C.2.2.2.2.2.2) hS 55 0 (e_mparts) rfl (pin_ok hin) hdg (fun H1 locs1 hP1 _ hS1 => kk H1 locs1 (by have h := t_mparts (E := E) (α := α) (β := β) i.toNatClampNeg v; rw [h] at hP1; exact hP1) hS1)
theorem ln_mparts {own : String} (C : pCx p s m c cc nL E own) (hP : va_P (pD E) vwCl (pw E α β) H) (hdg : decode cc pc = .ok (.arraylength, 1)) (kk : W p l e R s m args below meth c H locs cells slots Q (F0 m (pc + 1) ls (.int 600 :: rest))) : W p l e R s m args below meth c H locs cells slots Q (F0 m pc ls (.ref (pL E 55) :: rest)) := va_alen C.1 C.2.1 C.2.2.2.2.2.1 hP 55 0 (e_mparts) (ty := _) rfl rfl hdg kk
theorem la_bytes {own : String} (C : pCx p s m c cc nL E own) (hP : va_P (pD E) vwCl (pw E α β) H) {k : Nat} (hk : k < 11) {i : Int32} (hin : pin i (pcap k) = true) (hdg : decode cc pc = .ok (.iaload, 1)) (kk : W p l e R s m args below meth c H locs cells slots Q (F0 m (pc + 1) ls (.int (α (40 + k) i.toNatClampNeg) :: rest))) : W p l e R s m args below meth c H locs cells slots Q (F0 m pc ls (.int i :: .ref (pL E (33 + k)) :: rest)) := va_iald C.1 C.2.1 C.2.2.2.2.2.1 hP (33 + k) 0 (e_bytes hk) rfl (pin_ok hin) hdg kk
theorem sa_bytes {own : String} (C : pCx p s m c cc nL E own) (hP : va_P (pD E) vwCl (pw E α β) H) (hS : va_S (pA E sz) H0 H locs) {k : Nat} (hk : k < 11) {i v : Int32} (hin : pin i (pcap k) = true) (hdg : decode cc pc = .ok (.iastore, 1)) (kk : ∀ (H1 : Heap) (locs1 : List Loc), va_P (pD E) vwCl (pw E (up2 α (40 + k) i.toNatClampNeg v) β) H1 → va_S (pA E sz) H0 H1 locs1 → W p l e R s m args below meth c H1 locs1 cells slots Q (F0 m (pc + 1) ls rest)) : W p l e R s m args below meth c H locs cells slots Q (F0 m pc ls (.int v :: .int i :: .ref (pL E (33 + k)) :: rest)) := va_iast C.1 C.2.1 C.2.2.2.2.2.1 hP (pw_D C.2.2.2.2.2.2) hS (33 + k) 0 (e_bytes hk) rfl (pin_ok hin) hdg (fun H1 locs1 hP1 _ hS1 => kk H1 locs1 (by have h := t_bytes (E := E) (α := α) (β := β) hk i.toNatClampNeg v; rw [h] at hP1; exact hP1) hS1)
theorem ln_bytes {own : String} (C : pCx p s m c cc nL E own) (hP : va_P (pD E) vwCl (pw E α β) H) {k : Nat} (hk : k < 11) (hdg : decode cc pc = .ok (.arraylength, 1)) (kk : W p l e R s m args below meth c H locs cells slots Q (F0 m (pc + 1) ls (.int (nI (pcap k)) :: rest))) : W p l e R s m args below meth c H locs cells slots Q (F0 m pc ls (.ref (pL E (33 + k)) :: rest)) := va_alen C.1 C.2.1 C.2.2.2.2.2.1 hP (33 + k) 0 (e_bytes hk) (ty := _) rfl rfl hdg kk
theorem la_parts {own : String} (C : pCx p s m c cc nL E own) (hP : va_P (pD E) vwCl (pw E α β) H) {k : Nat} (hk : k < 6) {i : Int32} (hin : pin i (48) = true) (hdg : decode cc pc = .ok (.iaload, 1)) (kk : W p l e R s m args below meth c H locs cells slots Q (F0 m (pc + 1) ls (.int (α (60 + k) i.toNatClampNeg) :: rest))) : W p l e R s m args below meth c H locs cells slots Q (F0 m pc ls (.int i :: .ref (pL E (44 + k)) :: rest)) := va_iald C.1 C.2.1 C.2.2.2.2.2.1 hP (44 + k) 0 (e_parts hk) rfl (pin_ok hin) hdg kk
theorem sa_parts {own : String} (C : pCx p s m c cc nL E own) (hP : va_P (pD E) vwCl (pw E α β) H) (hS : va_S (pA E sz) H0 H locs) {k : Nat} (hk : k < 6) {i v : Int32} (hin : pin i (48) = true) (hdg : decode cc pc = .ok (.iastore, 1)) (kk : ∀ (H1 : Heap) (locs1 : List Loc), va_P (pD E) vwCl (pw E (up2 α (60 + k) i.toNatClampNeg v) β) H1 → va_S (pA E sz) H0 H1 locs1 → W p l e R s m args below meth c H1 locs1 cells slots Q (F0 m (pc + 1) ls rest)) : W p l e R s m args below meth c H locs cells slots Q (F0 m pc ls (.int v :: .int i :: .ref (pL E (44 + k)) :: rest)) := va_iast C.1 C.2.1 C.2.2.2.2.2.1 hP (pw_D C.2.2.2.2.2.2) hS (44 + k) 0 (e_parts hk) rfl (pin_ok hin) hdg (fun H1 locs1 hP1 _ hS1 => kk H1 locs1 (by have h := t_parts (E := E) (α := α) (β := β) hk i.toNatClampNeg v; rw [h] at hP1; exact hP1) hS1)
theorem ln_parts {own : String} (C : pCx p s m c cc nL E own) (hP : va_P (pD E) vwCl (pw E α β) H) {k : Nat} (hk : k < 6) (hdg : decode cc pc = .ok (.arraylength, 1)) (kk : W p l e R s m args below meth c H locs cells slots Q (F0 m (pc + 1) ls (.int 48 :: rest))) : W p l e R s m args below meth c H locs cells slots Q (F0 m pc ls (.ref (pL E (44 + k)) :: rest)) := va_alen C.1 C.2.1 C.2.2.2.2.2.1 hP (44 + k) 0 (e_parts hk) (ty := _) rfl rfl hdg kk
theorem la_m_tape {own : String} (C : pCx p s m c cc nL E own) (hP : va_P (pD E) vwCl (pw E α β) H) {i : Int32} (hin : pin i (64) = true) (hdg : decode cc pc = .ok (.iaload, 1)) (kk : W p l e R s m args below meth c H locs cells slots Q (F0 m (pc + 1) ls (.int (β 2 i.toNatClampNeg) :: rest))) : W p l e R s m args below meth c H locs cells slots Q (F0 m pc ls (.int i :: .ref (pL E 58) :: rest)) := va_iald C.1 C.2.1 C.2.2.2.2.2.1 hP 58 0 (e_m_tape) rfl (pin_ok hin) hdg kk
theorem sa_m_tape {own : String} (C : pCx p s m c cc nL E own) (hP : va_P (pD E) vwCl (pw E α β) H) (hS : va_S (pA E sz) H0 H locs) {i v : Int32} (hin : pin i (64) = true) (hdg : decode cc pc = .ok (.iastore, 1)) (kk : ∀ (H1 : Heap) (locs1 : List Loc), va_P (pD E) vwCl (pw E α (up2 β 2 i.toNatClampNeg v)) H1 → va_S (pA E sz) H0 H1 locs1 → W p l e R s m args below meth c H1 locs1 cells slots Q (F0 m (pc + 1) ls rest)) : W p l e R s m args below meth c H locs cells slots Q (F0 m pc ls (.int v :: .int i :: .ref (pL E 58) :: rest)) := va_iast C.1 C.2.1 C.2.2.2.2.2.1 hP (pw_D C.2.2.2.2.2.2) hS 58 0 (e_m_tape) rfl (pin_ok hin) hdg (fun H1 locs1 hP1 _ hS1 => kk H1 locs1 (by have h := t_m_tape (E := E) (α := α) (β := β) i.toNatClampNeg v; rw [h] at hP1; exact hP1) hS1)
theorem ln_m_tape {own : String} (C : pCx p s m c cc nL E own) (hP : va_P (pD E) vwCl (pw E α β) H) (hdg : decode cc pc = .ok (.arraylength, 1)) (kk : W p l e R s m args below meth c H locs cells slots Q (F0 m (pc + 1) ls (.int 64 :: rest))) : W p l e R s m args below meth c H locs cells slots Q (F0 m pc ls (.ref (pL E 58) :: rest)) := va_alen C.1 C.2.1 C.2.2.2.2.2.1 hP 58 0 (e_m_tape) (ty := _) rfl rfl hdg kk
theorem la_m_size {own : String} (C : pCx p s m c cc nL E own) (hP : va_P (pD E) vwCl (pw E α β) H) {i : Int32} (hin : pin i (6) = true) (hdg : decode cc pc = .ok (.iaload, 1)) (kk : W p l e R s m args below meth c H locs cells slots Q (F0 m (pc + 1) ls (.int (β 3 i.toNatClampNeg) :: rest))) : W p l e R s m args below meth c H locs cells slots Q (F0 m pc ls (.int i :: .ref (pL E 59) :: rest)) := va_iald C.1 C.2.1 C.2.2.2.2.2.1 hP 59 0 (e_m_size) rfl (pin_ok hin) hdg kk
theorem sa_m_size {own : String} (C : pCx p s m c cc nL E own) (hP : va_P (pD E) vwCl (pw E α β) H) (hS : va_S (pA E sz) H0 H locs) {i v : Int32} (hin : pin i (6) = true) (hdg : decode cc pc = .ok (.iastore, 1)) (kk : ∀ (H1 : Heap) (locs1 : List Loc), va_P (pD E) vwCl (pw E α (up2 β 3 i.toNatClampNeg v)) H1 → va_S (pA E sz) H0 H1 locs1 → W p l e R s m args below meth c H1 locs1 cells slots Q (F0 m (pc + 1) ls rest)) : W p l e R s m args below meth c H locs cells slots Q (F0 m pc ls (.int v :: .int i :: .ref (pL E 59) :: rest)) := va_iast C.1 C.2.1 C.2.2.2.2.2.1 hP (pw_D C.2.2.2.2.2.2) hS 59 0 (e_m_size) rfl (pin_ok hin) hdg (fun H1 locs1 hP1 _ hS1 => kk H1 locs1 (by have h := t_m_size (E := E) (α := α) (β := β) i.toNatClampNeg v; rw [h] at hP1; exact hP1) hS1)
theorem ln_m_size {own : String} (C : pCx p s m c cc nL E own) (hP : va_P (pD E) vwCl (pw E α β) H) (hdg : decode cc pc = .ok (.arraylength, 1)) (kk : W p l e R s m args below meth c H locs cells slots Q (F0 m (pc + 1) ls (.int 6 :: rest))) : W p l e R s m args below meth c H locs cells slots Q (F0 m pc ls (.ref (pL E 59) :: rest)) := va_alen C.1 C.2.1 C.2.2.2.2.2.1 hP 59 0 (e_m_size) (ty := _) rfl rfl hdg kk
theorem la_m_file {own : String} (C : pCx p s m c cc nL E own) (hP : va_P (pD E) vwCl (pw E α β) H) {i : Int32} (hin : pin i (384) = true) (hdg : decode cc pc = .ok (.iaload, 1)) (kk : W p l e R s m args below meth c H locs cells slots Q (F0 m (pc + 1) ls (.int (β 4 i.toNatClampNeg) :: rest))) : W p l e R s m args below meth c H locs cells slots Q (F0 m pc ls (.int i :: .ref (pL E 60) :: rest)) := va_iald C.1 C.2.1 C.2.2.2.2.2.1 hP 60 0 (e_m_file) rfl (pin_ok hin) hdg kk
theorem sa_m_file {own : String} (C : pCx p s m c cc nL E own) (hP : va_P (pD E) vwCl (pw E α β) H) (hS : va_S (pA E sz) H0 H locs) {i v : Int32} (hin : pin i (384) = true) (hdg : decode cc pc = .ok (.iastore, 1)) (kk : ∀ (H1 : Heap) (locs1 : List Loc), va_P (pD E) vwCl (pw E α (up2 β 4 i.toNatClampNeg v)) H1 → va_S (pA E sz) H0 H1 locs1 → W p l e R s m args below meth c H1 locs1 cells slots Q (F0 m (pc + 1) ls rest)) : W p l e R s m args below meth c H locs cells slots Q (F0 m pc ls (.int v :: .int i :: .ref (pL E 60) :: rest)) := va_iast C.1 C.2.1 C.2.2.2.2.2.1 hP (pw_D C.2.2.2.2.2.2) hS 60 0 (e_m_file) rfl (pin_ok hin) hdg (fun H1 locs1 hP1 _ hS1 => kk H1 locs1 (by have h := t_m_file (E := E) (α := α) (β := β) i.toNatClampNeg v; rw [h] at hP1; exact hP1) hS1)
theorem ln_m_file {own : String} (C : pCx p s m c cc nL E own) (hP : va_P (pD E) vwCl (pw E α β) H) (hdg : decode cc pc = .ok (.arraylength, 1)) (kk : W p l e R s m args below meth c H locs cells slots Q (F0 m (pc + 1) ls (.int 384 :: rest))) : W p l e R s m args below meth c H locs cells slots Q (F0 m pc ls (.ref (pL E 60) :: rest)) := va_alen C.1 C.2.1 C.2.2.2.2.2.1 hP 60 0 (e_m_file) (ty := _) rfl rfl hdg kk
theorem la_m_fails {own : String} (C : pCx p s m c cc nL E own) (hP : va_P (pD E) vwCl (pw E α β) H) {i : Int32} (hin : pin i (6) = true) (hdg : decode cc pc = .ok (.baload, 1)) (kk : W p l e R s m args below meth c H locs cells slots Q (F0 m (pc + 1) ls (.int (β 5 i.toNatClampNeg) :: rest))) : W p l e R s m args below meth c H locs cells slots Q (F0 m pc ls (.int i :: .ref (pL E 61) :: rest)) := va_zald C.1 C.2.1 C.2.2.2.2.2.1 hP 61 1 (e_m_fails) rfl (pin_ok hin) hdg kk
theorem sa_m_fails {own : String} (C : pCx p s m c cc nL E own) (hP : va_P (pD E) vwCl (pw E α β) H) (hS : va_S (pA E sz) H0 H locs) {i v : Int32} (hz : v = 0 ∨ v = 1) (hin : pin i (6) = true) (hdg : decode cc pc = .ok (.bastore, 1)) (kk : ∀ (H1 : Heap) (locs1 : List Loc), va_P (pD E) vwCl (pw E α (up2 β 5 i.toNatClampNeg v)) H1 → va_S (pA E sz) H0 H1 locs1 → W p l e R s m args below meth c H1 locs1 cells slots Q (F0 m (pc + 1) ls rest)) : W p l e R s m args below meth c H locs cells slots Q (F0 m pc ls (.int v :: .int i :: .ref (pL E 61) :: rest)) := va_zast C.1 C.2.1 C.2.2.2.2.2.1 hP (pw_D C.2.2.2.2.2.2) hS 61 1 (e_m_fails) rfl (pin_ok hin) hdg (fun H1 locs1 hP1 _ hS1 => kk H1 locs1 (by rw [pz_v hz] at hP1; have h := t_m_fails (E := E) (α := α) (β := β) i.toNatClampNeg v; rw [h] at hP1; exact hP1) hS1)
theorem ln_m_fails {own : String} (C : pCx p s m c cc nL E own) (hP : va_P (pD E) vwCl (pw E α β) H) (hdg : decode cc pc = .ok (.arraylength, 1)) (kk : W p l e R s m args below meth c H locs cells slots Q (F0 m (pc + 1) ls (.int 6 :: rest))) : W p l e R s m args below meth c H locs cells slots Q (F0 m pc ls (.ref (pL E 61) :: rest)) := va_alen C.1 C.2.1 C.2.2.2.2.2.1 hP 61 1 (e_m_fails) (ty := _) rfl rfl hdg kk
theorem la_m_failed {own : String} (C : pCx p s m c cc nL E own) (hP : va_P (pD E) vwCl (pw E α β) H) {i : Int32} (hin : pin i (6) = true) (hdg : decode cc pc = .ok (.baload, 1)) (kk : W p l e R s m args below meth c H locs cells slots Q (F0 m (pc + 1) ls (.int (β 6 i.toNatClampNeg) :: rest))) : W p l e R s m args below meth c H locs cells slots Q (F0 m pc ls (.int i :: .ref (pL E 62) :: rest)) := va_zald C.1 C.2.1 C.2.2.2.2.2.1 hP 62 1 (e_m_failed) rfl (pin_ok hin) hdg kk
theorem sa_m_failed {own : String} (C : pCx p s m c cc nL E own) (hP : va_P (pD E) vwCl (pw E α β) H) (hS : va_S (pA E sz) H0 H locs) {i v : Int32} (hz : v = 0 ∨ v = 1) (hin : pin i (6) = true) (hdg : decode cc pc = .ok (.bastore, 1)) (kk : ∀ (H1 : Heap) (locs1 : List Loc), va_P (pD E) vwCl (pw E α (up2 β 6 i.toNatClampNeg v)) H1 → va_S (pA E sz) H0 H1 locs1 → W p l e R s m args below meth c H1 locs1 cells slots Q (F0 m (pc + 1) ls rest)) : W p l e R s m args below meth c H locs cells slots Q (F0 m pc ls (.int v :: .int i :: .ref (pL E 62) :: rest)) := va_zast C.1 C.2.1 C.2.2.2.2.2.1 hP (pw_D C.2.2.2.2.2.2) hS 62 1 (e_m_failed) rfl (pin_ok hin) hdg (fun H1 locs1 hP1 _ hS1 => kk H1 locs1 (by rw [pz_v hz] at hP1; have h := t_m_failed (E := E) (α := α) (β := β) i.toNatClampNeg v; rw [h] at hP1; exact hP1) hS1)
theorem ln_m_failed {own : String} (C : pCx p s m c cc nL E own) (hP : va_P (pD E) vwCl (pw E α β) H) (hdg : decode cc pc = .ok (.arraylength, 1)) (kk : W p l e R s m args below meth c H locs cells slots Q (F0 m (pc + 1) ls (.int 6 :: rest))) : W p l e R s m args below meth c H locs cells slots Q (F0 m pc ls (.ref (pL E 62) :: rest)) := va_alen C.1 C.2.1 C.2.2.2.2.2.1 hP 62 1 (e_m_failed) (ty := _) rfl rfl hdg kk
theorem la_m_fileOf {own : String} (C : pCx p s m c cc nL E own) (hP : va_P (pD E) vwCl (pw E α β) H) {i : Int32} (hin : pin i (6) = true) (hdg : decode cc pc = .ok (.iaload, 1)) (kk : W p l e R s m args below meth c H locs cells slots Q (F0 m (pc + 1) ls (.int (β 8 i.toNatClampNeg) :: rest))) : W p l e R s m args below meth c H locs cells slots Q (F0 m pc ls (.int i :: .ref (pL E 63) :: rest)) := va_iald C.1 C.2.1 C.2.2.2.2.2.1 hP 63 0 (e_m_fileOf) rfl (pin_ok hin) hdg kk
theorem sa_m_fileOf {own : String} (C : pCx p s m c cc nL E own) (hP : va_P (pD E) vwCl (pw E α β) H) (hS : va_S (pA E sz) H0 H locs) {i v : Int32} (hin : pin i (6) = true) (hdg : decode cc pc = .ok (.iastore, 1)) (kk : ∀ (H1 : Heap) (locs1 : List Loc), va_P (pD E) vwCl (pw E α (up2 β 8 i.toNatClampNeg v)) H1 → va_S (pA E sz) H0 H1 locs1 → W p l e R s m args below meth c H1 locs1 cells slots Q (F0 m (pc + 1) ls rest)) : W p l e R s m args below meth c H locs cells slots Q (F0 m pc ls (.int v :: .int i :: .ref (pL E 63) :: rest)) := va_iast C.1 C.2.1 C.2.2.2.2.2.1 hP (pw_D C.2.2.2.2.2.2) hS 63 0 (e_m_fileOf) rfl (pin_ok hin) hdg (fun H1 locs1 hP1 _ hS1 => kk H1 locs1 (by have h := t_m_fileOf (E := E) (α := α) (β := β) i.toNatClampNeg v; rw [h] at hP1; exact hP1) hS1)
theorem ln_m_fileOf {own : String} (C : pCx p s m c cc nL E own) (hP : va_P (pD E) vwCl (pw E α β) H) (hdg : decode cc pc = .ok (.arraylength, 1)) (kk : W p l e R s m args below meth c H locs cells slots Q (F0 m (pc + 1) ls (.int 6 :: rest))) : W p l e R s m args below meth c H locs cells slots Q (F0 m pc ls (.ref (pL E 63) :: rest)) := va_alen C.1 C.2.1 C.2.2.2.2.2.1 hP 63 0 (e_m_fileOf) (ty := _) rfl rfl hdg kk
theorem la_m_rules {own : String} (C : pCx p s m c cc nL E own) (hP : va_P (pD E) vwCl (pw E α β) H) {i : Int32} (hin : pin i (6) = true) (hdg : decode cc pc = .ok (.iaload, 1)) (kk : W p l e R s m args below meth c H locs cells slots Q (F0 m (pc + 1) ls (.int (β 9 i.toNatClampNeg) :: rest))) : W p l e R s m args below meth c H locs cells slots Q (F0 m pc ls (.int i :: .ref (pL E 64) :: rest)) := va_iald C.1 C.2.1 C.2.2.2.2.2.1 hP 64 0 (e_m_rules) rfl (pin_ok hin) hdg kk
theorem sa_m_rules {own : String} (C : pCx p s m c cc nL E own) (hP : va_P (pD E) vwCl (pw E α β) H) (hS : va_S (pA E sz) H0 H locs) {i v : Int32} (hin : pin i (6) = true) (hdg : decode cc pc = .ok (.iastore, 1)) (kk : ∀ (H1 : Heap) (locs1 : List Loc), va_P (pD E) vwCl (pw E α (up2 β 9 i.toNatClampNeg v)) H1 → va_S (pA E sz) H0 H1 locs1 → W p l e R s m args below meth c H1 locs1 cells slots Q (F0 m (pc + 1) ls rest)) : W p l e R s m args below meth c H locs cells slots Q (F0 m pc ls (.int v :: .int i :: .ref (pL E 64) :: rest)) := va_iast C.1 C.2.1 C.2.2.2.2.2.1 hP (pw_D C.2.2.2.2.2.2) hS 64 0 (e_m_rules) rfl (pin_ok hin) hdg (fun H1 locs1 hP1 _ hS1 => kk H1 locs1 (by have h := t_m_rules (E := E) (α := α) (β := β) i.toNatClampNeg v; rw [h] at hP1; exact hP1) hS1)
theorem ln_m_rules {own : String} (C : pCx p s m c cc nL E own) (hP : va_P (pD E) vwCl (pw E α β) H) (hdg : decode cc pc = .ok (.arraylength, 1)) (kk : W p l e R s m args below meth c H locs cells slots Q (F0 m (pc + 1) ls (.int 6 :: rest))) : W p l e R s m args below meth c H locs cells slots Q (F0 m pc ls (.ref (pL E 64) :: rest)) := va_alen C.1 C.2.1 C.2.2.2.2.2.1 hP 64 0 (e_m_rules) (ty := _) rfl rfl hdg kk
theorem la_m_rule {own : String} (C : pCx p s m c cc nL E own) (hP : va_P (pD E) vwCl (pw E α β) H) {i : Int32} (hin : pin i (288) = true) (hdg : decode cc pc = .ok (.iaload, 1)) (kk : W p l e R s m args below meth c H locs cells slots Q (F0 m (pc + 1) ls (.int (β 10 i.toNatClampNeg) :: rest))) : W p l e R s m args below meth c H locs cells slots Q (F0 m pc ls (.int i :: .ref (pL E 65) :: rest)) := va_iald C.1 C.2.1 C.2.2.2.2.2.1 hP 65 0 (e_m_rule) rfl (pin_ok hin) hdg kk
theorem sa_m_rule {own : String} (C : pCx p s m c cc nL E own) (hP : va_P (pD E) vwCl (pw E α β) H) (hS : va_S (pA E sz) H0 H locs) {i v : Int32} (hin : pin i (288) = true) (hdg : decode cc pc = .ok (.iastore, 1)) (kk : ∀ (H1 : Heap) (locs1 : List Loc), va_P (pD E) vwCl (pw E α (up2 β 10 i.toNatClampNeg v)) H1 → va_S (pA E sz) H0 H1 locs1 → W p l e R s m args below meth c H1 locs1 cells slots Q (F0 m (pc + 1) ls rest)) : W p l e R s m args below meth c H locs cells slots Q (F0 m pc ls (.int v :: .int i :: .ref (pL E 65) :: rest)) := va_iast C.1 C.2.1 C.2.2.2.2.2.1 hP (pw_D C.2.2.2.2.2.2) hS 65 0 (e_m_rule) rfl (pin_ok hin) hdg (fun H1 locs1 hP1 _ hS1 => kk H1 locs1 (by have h := t_m_rule (E := E) (α := α) (β := β) i.toNatClampNeg v; rw [h] at hP1; exact hP1) hS1)
theorem ln_m_rule {own : String} (C : pCx p s m c cc nL E own) (hP : va_P (pD E) vwCl (pw E α β) H) (hdg : decode cc pc = .ok (.arraylength, 1)) (kk : W p l e R s m args below meth c H locs cells slots Q (F0 m (pc + 1) ls (.int 288 :: rest))) : W p l e R s m args below meth c H locs cells slots Q (F0 m pc ls (.ref (pL E 65) :: rest)) := va_alen C.1 C.2.1 C.2.2.2.2.2.1 hP 65 0 (e_m_rule) (ty := _) rfl rfl hdg kk
theorem la_m_cells {own : String} (C : pCx p s m c cc nL E own) (hP : va_P (pD E) vwCl (pw E α β) H) {i : Int32} (hin : pin i (6) = true) (hdg : decode cc pc = .ok (.iaload, 1)) (kk : W p l e R s m args below meth c H locs cells slots Q (F0 m (pc + 1) ls (.int (β 11 i.toNatClampNeg) :: rest))) : W p l e R s m args below meth c H locs cells slots Q (F0 m pc ls (.int i :: .ref (pL E 66) :: rest)) := va_iald C.1 C.2.1 C.2.2.2.2.2.1 hP 66 0 (e_m_cells) rfl (pin_ok hin) hdg kk
theorem sa_m_cells {own : String} (C : pCx p s m c cc nL E own) (hP : va_P (pD E) vwCl (pw E α β) H) (hS : va_S (pA E sz) H0 H locs) {i v : Int32} (hin : pin i (6) = true) (hdg : decode cc pc = .ok (.iastore, 1)) (kk : ∀ (H1 : Heap) (locs1 : List Loc), va_P (pD E) vwCl (pw E α (up2 β 11 i.toNatClampNeg v)) H1 → va_S (pA E sz) H0 H1 locs1 → W p l e R s m args below meth c H1 locs1 cells slots Q (F0 m (pc + 1) ls rest)) : W p l e R s m args below meth c H locs cells slots Q (F0 m pc ls (.int v :: .int i :: .ref (pL E 66) :: rest)) := va_iast C.1 C.2.1 C.2.2.2.2.2.1 hP (pw_D C.2.2.2.2.2.2) hS 66 0 (e_m_cells) rfl (pin_ok hin) hdg (fun H1 locs1 hP1 _ hS1 => kk H1 locs1 (by have h := t_m_cells (E := E) (α := α) (β := β) i.toNatClampNeg v; rw [h] at hP1; exact hP1) hS1)
theorem ln_m_cells {own : String} (C : pCx p s m c cc nL E own) (hP : va_P (pD E) vwCl (pw E α β) H) (hdg : decode cc pc = .ok (.arraylength, 1)) (kk : W p l e R s m args below meth c H locs cells slots Q (F0 m (pc + 1) ls (.int 6 :: rest))) : W p l e R s m args below meth c H locs cells slots Q (F0 m pc ls (.ref (pL E 66) :: rest)) := va_alen C.1 C.2.1 C.2.2.2.2.2.1 hP 66 0 (e_m_cells) (ty := _) rfl rfl hdg kk
theorem la_m_cellWas {own : String} (C : pCx p s m c cc nL E own) (hP : va_P (pD E) vwCl (pw E α β) H) {i : Int32} (hin : pin i (6) = true) (hdg : decode cc pc = .ok (.iaload, 1)) (kk : W p l e R s m args below meth c H locs cells slots Q (F0 m (pc + 1) ls (.int (β 12 i.toNatClampNeg) :: rest))) : W p l e R s m args below meth c H locs cells slots Q (F0 m pc ls (.int i :: .ref (pL E 67) :: rest)) := va_iald C.1 C.2.1 C.2.2.2.2.2.1 hP 67 0 (e_m_cellWas) rfl (pin_ok hin) hdg kk
theorem sa_m_cellWas {own : String} (C : pCx p s m c cc nL E own) (hP : va_P (pD E) vwCl (pw E α β) H) (hS : va_S (pA E sz) H0 H locs) {i v : Int32} (hin : pin i (6) = true) (hdg : decode cc pc = .ok (.iastore, 1)) (kk : ∀ (H1 : Heap) (locs1 : List Loc), va_P (pD E) vwCl (pw E α (up2 β 12 i.toNatClampNeg v)) H1 → va_S (pA E sz) H0 H1 locs1 → W p l e R s m args below meth c H1 locs1 cells slots Q (F0 m (pc + 1) ls rest)) : W p l e R s m args below meth c H locs cells slots Q (F0 m pc ls (.int v :: .int i :: .ref (pL E 67) :: rest)) := va_iast C.1 C.2.1 C.2.2.2.2.2.1 hP (pw_D C.2.2.2.2.2.2) hS 67 0 (e_m_cellWas) rfl (pin_ok hin) hdg (fun H1 locs1 hP1 _ hS1 => kk H1 locs1 (by have h := t_m_cellWas (E := E) (α := α) (β := β) i.toNatClampNeg v; rw [h] at hP1; exact hP1) hS1)
theorem ln_m_cellWas {own : String} (C : pCx p s m c cc nL E own) (hP : va_P (pD E) vwCl (pw E α β) H) (hdg : decode cc pc = .ok (.arraylength, 1)) (kk : W p l e R s m args below meth c H locs cells slots Q (F0 m (pc + 1) ls (.int 6 :: rest))) : W p l e R s m args below meth c H locs cells slots Q (F0 m pc ls (.ref (pL E 67) :: rest)) := va_alen C.1 C.2.1 C.2.2.2.2.2.1 hP 67 0 (e_m_cellWas) (ty := _) rfl rfl hdg kk
theorem la_m_stopped {own : String} (C : pCx p s m c cc nL E own) (hP : va_P (pD E) vwCl (pw E α β) H) {i : Int32} (hin : pin i (6) = true) (hdg : decode cc pc = .ok (.baload, 1)) (kk : W p l e R s m args below meth c H locs cells slots Q (F0 m (pc + 1) ls (.int (β 13 i.toNatClampNeg) :: rest))) : W p l e R s m args below meth c H locs cells slots Q (F0 m pc ls (.int i :: .ref (pL E 68) :: rest)) := va_zald C.1 C.2.1 C.2.2.2.2.2.1 hP 68 1 (e_m_stopped) rfl (pin_ok hin) hdg kk
theorem sa_m_stopped {own : String} (C : pCx p s m c cc nL E own) (hP : va_P (pD E) vwCl (pw E α β) H) (hS : va_S (pA E sz) H0 H locs) {i v : Int32} (hz : v = 0 ∨ v = 1) (hin : pin i (6) = true) (hdg : decode cc pc = .ok (.bastore, 1)) (kk : ∀ (H1 : Heap) (locs1 : List Loc), va_P (pD E) vwCl (pw E α (up2 β 13 i.toNatClampNeg v)) H1 → va_S (pA E sz) H0 H1 locs1 → W p l e R s m args below meth c H1 locs1 cells slots Q (F0 m (pc + 1) ls rest)) : W p l e R s m args below meth c H locs cells slots Q (F0 m pc ls (.int v :: .int i :: .ref (pL E 68) :: rest)) := va_zast C.1 C.2.1 C.2.2.2.2.2.1 hP (pw_D C.2.2.2.2.2.2) hS 68 1 (e_m_stopped) rfl (pin_ok hin) hdg (fun H1 locs1 hP1 _ hS1 => kk H1 locs1 (by rw [pz_v hz] at hP1; have h := t_m_stopped (E := E) (α := α) (β := β) i.toNatClampNeg v; rw [h] at hP1; exact hP1) hS1)
theorem ln_m_stopped {own : String} (C : pCx p s m c cc nL E own) (hP : va_P (pD E) vwCl (pw E α β) H) (hdg : decode cc pc = .ok (.arraylength, 1)) (kk : W p l e R s m args below meth c H locs cells slots Q (F0 m (pc + 1) ls (.int 6 :: rest))) : W p l e R s m args below meth c H locs cells slots Q (F0 m pc ls (.ref (pL E 68) :: rest)) := va_alen C.1 C.2.1 C.2.2.2.2.2.1 hP 68 1 (e_m_stopped) (ty := _) rfl rfl hdg kk
theorem la_m_took {own : String} (C : pCx p s m c cc nL E own) (hP : va_P (pD E) vwCl (pw E α β) H) {i : Int32} (hin : pin i (6) = true) (hdg : decode cc pc = .ok (.iaload, 1)) (kk : W p l e R s m args below meth c H locs cells slots Q (F0 m (pc + 1) ls (.int (β 14 i.toNatClampNeg) :: rest))) : W p l e R s m args below meth c H locs cells slots Q (F0 m pc ls (.int i :: .ref (pL E 69) :: rest)) := va_iald C.1 C.2.1 C.2.2.2.2.2.1 hP 69 0 (e_m_took) rfl (pin_ok hin) hdg kk
theorem sa_m_took {own : String} (C : pCx p s m c cc nL E own) (hP : va_P (pD E) vwCl (pw E α β) H) (hS : va_S (pA E sz) H0 H locs) {i v : Int32} (hin : pin i (6) = true) (hdg : decode cc pc = .ok (.iastore, 1)) (kk : ∀ (H1 : Heap) (locs1 : List Loc), va_P (pD E) vwCl (pw E α (up2 β 14 i.toNatClampNeg v)) H1 → va_S (pA E sz) H0 H1 locs1 → W p l e R s m args below meth c H1 locs1 cells slots Q (F0 m (pc + 1) ls rest)) : W p l e R s m args below meth c H locs cells slots Q (F0 m pc ls (.int v :: .int i :: .ref (pL E 69) :: rest)) := va_iast C.1 C.2.1 C.2.2.2.2.2.1 hP (pw_D C.2.2.2.2.2.2) hS 69 0 (e_m_took) rfl (pin_ok hin) hdg (fun H1 locs1 hP1 _ hS1 => kk H1 locs1 (by have h := t_m_took (E := E) (α := α) (β := β) i.toNatClampNeg v; rw [h] at hP1; exact hP1) hS1)
theorem ln_m_took {own : String} (C : pCx p s m c cc nL E own) (hP : va_P (pD E) vwCl (pw E α β) H) (hdg : decode cc pc = .ok (.arraylength, 1)) (kk : W p l e R s m args below meth c H locs cells slots Q (F0 m (pc + 1) ls (.int 6 :: rest))) : W p l e R s m args below meth c H locs cells slots Q (F0 m pc ls (.ref (pL E 69) :: rest)) := va_alen C.1 C.2.1 C.2.2.2.2.2.1 hP 69 0 (e_m_took) (ty := _) rfl rfl hdg kk
theorem la_m_name {own : String} (C : pCx p s m c cc nL E own) (hP : va_P (pD E) vwCl (pw E α β) H) {i : Int32} (hin : pin i (40) = true) (hdg : decode cc pc = .ok (.iaload, 1)) (kk : W p l e R s m args below meth c H locs cells slots Q (F0 m (pc + 1) ls (.int (β 16 i.toNatClampNeg) :: rest))) : W p l e R s m args below meth c H locs cells slots Q (F0 m pc ls (.int i :: .ref (pL E 70) :: rest)) := va_iald C.1 C.2.1 C.2.2.2.2.2.1 hP 70 0 (e_m_name) rfl (pin_ok hin) hdg kk
theorem sa_m_name {own : String} (C : pCx p s m c cc nL E own) (hP : va_P (pD E) vwCl (pw E α β) H) (hS : va_S (pA E sz) H0 H locs) {i v : Int32} (hin : pin i (40) = true) (hdg : decode cc pc = .ok (.iastore, 1)) (kk : ∀ (H1 : Heap) (locs1 : List Loc), va_P (pD E) vwCl (pw E α (up2 β 16 i.toNatClampNeg v)) H1 → va_S (pA E sz) H0 H1 locs1 → W p l e R s m args below meth c H1 locs1 cells slots Q (F0 m (pc + 1) ls rest)) : W p l e R s m args below meth c H locs cells slots Q (F0 m pc ls (.int v :: .int i :: .ref (pL E 70) :: rest)) := va_iast C.1 C.2.1 C.2.2.2.2.2.1 hP (pw_D C.2.2.2.2.2.2) hS 70 0 (e_m_name) rfl (pin_ok hin) hdg (fun H1 locs1 hP1 _ hS1 => kk H1 locs1 (by have h := t_m_name (E := E) (α := α) (β := β) i.toNatClampNeg v; rw [h] at hP1; exact hP1) hS1)
theorem ln_m_name {own : String} (C : pCx p s m c cc nL E own) (hP : va_P (pD E) vwCl (pw E α β) H) (hdg : decode cc pc = .ok (.arraylength, 1)) (kk : W p l e R s m args below meth c H locs cells slots Q (F0 m (pc + 1) ls (.int 40 :: rest))) : W p l e R s m args below meth c H locs cells slots Q (F0 m pc ls (.ref (pL E 70) :: rest)) := va_alen C.1 C.2.1 C.2.2.2.2.2.1 hP 70 0 (e_m_name) (ty := _) rfl rfl hdg kk
theorem la_m_marks {own : String} (C : pCx p s m c cc nL E own) (hP : va_P (pD E) vwCl (pw E α β) H) {i : Int32} (hin : pin i (40) = true) (hdg : decode cc pc = .ok (.iaload, 1)) (kk : W p l e R s m args below meth c H locs cells slots Q (F0 m (pc + 1) ls (.int (β 17 i.toNatClampNeg) :: rest))) : W p l e R s m args below meth c H locs cells slots Q (F0 m pc ls (.int i :: .ref (pL E 71) :: rest)) := va_iald C.1 C.2.1 C.2.2.2.2.2.1 hP 71 0 (e_m_marks) rfl (pin_ok hin) hdg kk
theorem sa_m_marks {own : String} (C : pCx p s m c cc nL E own) (hP : va_P (pD E) vwCl (pw E α β) H) (hS : va_S (pA E sz) H0 H locs) {i v : Int32} (hin : pin i (40) = true) (hdg : decode cc pc = .ok (.iastore, 1)) (kk : ∀ (H1 : Heap) (locs1 : List Loc), va_P (pD E) vwCl (pw E α (up2 β 17 i.toNatClampNeg v)) H1 → va_S (pA E sz) H0 H1 locs1 → W p l e R s m args below meth c H1 locs1 cells slots Q (F0 m (pc + 1) ls rest)) : W p l e R s m args below meth c H locs cells slots Q (F0 m pc ls (.int v :: .int i :: .ref (pL E 71) :: rest)) := va_iast C.1 C.2.1 C.2.2.2.2.2.1 hP (pw_D C.2.2.2.2.2.2) hS 71 0 (e_m_marks) rfl (pin_ok hin) hdg (fun H1 locs1 hP1 _ hS1 => kk H1 locs1 (by have h := t_m_marks (E := E) (α := α) (β := β) i.toNatClampNeg v; rw [h] at hP1; exact hP1) hS1)
theorem ln_m_marks {own : String} (C : pCx p s m c cc nL E own) (hP : va_P (pD E) vwCl (pw E α β) H) (hdg : decode cc pc = .ok (.arraylength, 1)) (kk : W p l e R s m args below meth c H locs cells slots Q (F0 m (pc + 1) ls (.int 40 :: rest))) : W p l e R s m args below meth c H locs cells slots Q (F0 m pc ls (.ref (pL E 71) :: rest)) := va_alen C.1 C.2.1 C.2.2.2.2.2.1 hP 71 0 (e_m_marks) (ty := _) rfl rfl hdg kk
theorem la_m_isNew {own : String} (C : pCx p s m c cc nL E own) (hP : va_P (pD E) vwCl (pw E α β) H) {i : Int32} (hin : pin i (40) = true) (hdg : decode cc pc = .ok (.baload, 1)) (kk : W p l e R s m args below meth c H locs cells slots Q (F0 m (pc + 1) ls (.int (β 18 i.toNatClampNeg) :: rest))) : W p l e R s m args below meth c H locs cells slots Q (F0 m pc ls (.int i :: .ref (pL E 72) :: rest)) := va_zald C.1 C.2.1 C.2.2.2.2.2.1 hP 72 1 (e_m_isNew) rfl (pin_ok hin) hdg kk
theorem sa_m_isNew {own : String} (C : pCx p s m c cc nL E own) (hP : va_P (pD E) vwCl (pw E α β) H) (hS : va_S (pA E sz) H0 H locs) {i v : Int32} (hz : v = 0 ∨ v = 1) (hin : pin i (40) = true) (hdg : decode cc pc = .ok (.bastore, 1)) (kk : ∀ (H1 : Heap) (locs1 : List Loc), va_P (pD E) vwCl (pw E α (up2 β 18 i.toNatClampNeg v)) H1 → va_S (pA E sz) H0 H1 locs1 → W p l e R s m args below meth c H1 locs1 cells slots Q (F0 m (pc + 1) ls rest)) : W p l e R s m args below meth c H locs cells slots Q (F0 m pc ls (.int v :: .int i :: .ref (pL E 72) :: rest)) := va_zast C.1 C.2.1 C.2.2.2.2.2.1 hP (pw_D C.2.2.2.2.2.2) hS 72 1 (e_m_isNew) rfl (pin_ok hin) hdg (fun H1 locs1 hP1 _ hS1 => kk H1 locs1 (by rw [pz_v hz] at hP1; have h := t_m_isNew (E := E) (α := α) (β := β) i.toNatClampNeg v; rw [h] at hP1; exact hP1) hS1)
theorem ln_m_isNew {own : String} (C : pCx p s m c cc nL E own) (hP : va_P (pD E) vwCl (pw E α β) H) (hdg : decode cc pc = .ok (.arraylength, 1)) (kk : W p l e R s m args below meth c H locs cells slots Q (F0 m (pc + 1) ls (.int 40 :: rest))) : W p l e R s m args below meth c H locs cells slots Q (F0 m pc ls (.ref (pL E 72) :: rest)) := va_alen C.1 C.2.1 C.2.2.2.2.2.1 hP 72 1 (e_m_isNew) (ty := _) rfl rfl hdg kk
theorem la_m_maker {own : String} (C : pCx p s m c cc nL E own) (hP : va_P (pD E) vwCl (pw E α β) H) {i : Int32} (hin : pin i (40) = true) (hdg : decode cc pc = .ok (.iaload, 1)) (kk : W p l e R s m args below meth c H locs cells slots Q (F0 m (pc + 1) ls (.int (β 19 i.toNatClampNeg) :: rest))) : W p l e R s m args below meth c H locs cells slots Q (F0 m pc ls (.int i :: .ref (pL E 73) :: rest)) := va_iald C.1 C.2.1 C.2.2.2.2.2.1 hP 73 0 (e_m_maker) rfl (pin_ok hin) hdg kk
theorem sa_m_maker {own : String} (C : pCx p s m c cc nL E own) (hP : va_P (pD E) vwCl (pw E α β) H) (hS : va_S (pA E sz) H0 H locs) {i v : Int32} (hin : pin i (40) = true) (hdg : decode cc pc = .ok (.iastore, 1)) (kk : ∀ (H1 : Heap) (locs1 : List Loc), va_P (pD E) vwCl (pw E α (up2 β 19 i.toNatClampNeg v)) H1 → va_S (pA E sz) H0 H1 locs1 → W p l e R s m args below meth c H1 locs1 cells slots Q (F0 m (pc + 1) ls rest)) : W p l e R s m args below meth c H locs cells slots Q (F0 m pc ls (.int v :: .int i :: .ref (pL E 73) :: rest)) := va_iast C.1 C.2.1 C.2.2.2.2.2.1 hP (pw_D C.2.2.2.2.2.2) hS 73 0 (e_m_maker) rfl (pin_ok hin) hdg (fun H1 locs1 hP1 _ hS1 => kk H1 locs1 (by have h := t_m_maker (E := E) (α := α) (β := β) i.toNatClampNeg v; rw [h] at hP1; exact hP1) hS1)
theorem ln_m_maker {own : String} (C : pCx p s m c cc nL E own) (hP : va_P (pD E) vwCl (pw E α β) H) (hdg : decode cc pc = .ok (.arraylength, 1)) (kk : W p l e R s m args below meth c H locs cells slots Q (F0 m (pc + 1) ls (.int 40 :: rest))) : W p l e R s m args below meth c H locs cells slots Q (F0 m pc ls (.ref (pL E 73) :: rest)) := va_alen C.1 C.2.1 C.2.2.2.2.2.1 hP 73 0 (e_m_maker) (ty := _) rfl rfl hdg kk
theorem la_m_madeIn {own : String} (C : pCx p s m c cc nL E own) (hP : va_P (pD E) vwCl (pw E α β) H) {i : Int32} (hin : pin i (40) = true) (hdg : decode cc pc = .ok (.iaload, 1)) (kk : W p l e R s m args below meth c H locs cells slots Q (F0 m (pc + 1) ls (.int (β 20 i.toNatClampNeg) :: rest))) : W p l e R s m args below meth c H locs cells slots Q (F0 m pc ls (.int i :: .ref (pL E 74) :: rest)) := va_iald C.1 C.2.1 C.2.2.2.2.2.1 hP 74 0 (e_m_madeIn) rfl (pin_ok hin) hdg kk
theorem sa_m_madeIn {own : String} (C : pCx p s m c cc nL E own) (hP : va_P (pD E) vwCl (pw E α β) H) (hS : va_S (pA E sz) H0 H locs) {i v : Int32} (hin : pin i (40) = true) (hdg : decode cc pc = .ok (.iastore, 1)) (kk : ∀ (H1 : Heap) (locs1 : List Loc), va_P (pD E) vwCl (pw E α (up2 β 20 i.toNatClampNeg v)) H1 → va_S (pA E sz) H0 H1 locs1 → W p l e R s m args below meth c H1 locs1 cells slots Q (F0 m (pc + 1) ls rest)) : W p l e R s m args below meth c H locs cells slots Q (F0 m pc ls (.int v :: .int i :: .ref (pL E 74) :: rest)) := va_iast C.1 C.2.1 C.2.2.2.2.2.1 hP (pw_D C.2.2.2.2.2.2) hS 74 0 (e_m_madeIn) rfl (pin_ok hin) hdg (fun H1 locs1 hP1 _ hS1 => kk H1 locs1 (by have h := t_m_madeIn (E := E) (α := α) (β := β) i.toNatClampNeg v; rw [h] at hP1; exact hP1) hS1)
theorem ln_m_madeIn {own : String} (C : pCx p s m c cc nL E own) (hP : va_P (pD E) vwCl (pw E α β) H) (hdg : decode cc pc = .ok (.arraylength, 1)) (kk : W p l e R s m args below meth c H locs cells slots Q (F0 m (pc + 1) ls (.int 40 :: rest))) : W p l e R s m args below meth c H locs cells slots Q (F0 m pc ls (.ref (pL E 74) :: rest)) := va_alen C.1 C.2.1 C.2.2.2.2.2.1 hP 74 0 (e_m_madeIn) (ty := _) rfl rfl hdg kk
theorem la_m_options {own : String} (C : pCx p s m c cc nL E own) (hP : va_P (pD E) vwCl (pw E α β) H) {i : Int32} (hin : pin i (4) = true) (hdg : decode cc pc = .ok (.iaload, 1)) (kk : W p l e R s m args below meth c H locs cells slots Q (F0 m (pc + 1) ls (.int (β 21 i.toNatClampNeg) :: rest))) : W p l e R s m args below meth c H locs cells slots Q (F0 m pc ls (.int i :: .ref (pL E 75) :: rest)) := va_iald C.1 C.2.1 C.2.2.2.2.2.1 hP 75 0 (e_m_options) rfl (pin_ok hin) hdg kk
theorem sa_m_options {own : String} (C : pCx p s m c cc nL E own) (hP : va_P (pD E) vwCl (pw E α β) H) (hS : va_S (pA E sz) H0 H locs) {i v : Int32} (hin : pin i (4) = true) (hdg : decode cc pc = .ok (.iastore, 1)) (kk : ∀ (H1 : Heap) (locs1 : List Loc), va_P (pD E) vwCl (pw E α (up2 β 21 i.toNatClampNeg v)) H1 → va_S (pA E sz) H0 H1 locs1 → W p l e R s m args below meth c H1 locs1 cells slots Q (F0 m (pc + 1) ls rest)) : W p l e R s m args below meth c H locs cells slots Q (F0 m pc ls (.int v :: .int i :: .ref (pL E 75) :: rest)) := va_iast C.1 C.2.1 C.2.2.2.2.2.1 hP (pw_D C.2.2.2.2.2.2) hS 75 0 (e_m_options) rfl (pin_ok hin) hdg (fun H1 locs1 hP1 _ hS1 => kk H1 locs1 (by have h := t_m_options (E := E) (α := α) (β := β) i.toNatClampNeg v; rw [h] at hP1; exact hP1) hS1)
theorem ln_m_options {own : String} (C : pCx p s m c cc nL E own) (hP : va_P (pD E) vwCl (pw E α β) H) (hdg : decode cc pc = .ok (.arraylength, 1)) (kk : W p l e R s m args below meth c H locs cells slots Q (F0 m (pc + 1) ls (.int 4 :: rest))) : W p l e R s m args below meth c H locs cells slots Q (F0 m pc ls (.ref (pL E 75) :: rest)) := va_alen C.1 C.2.1 C.2.2.2.2.2.1 hP 75 0 (e_m_options) (ty := _) rfl rfl hdg kk
theorem la_m_written {own : String} (C : pCx p s m c cc nL E own) (hP : va_P (pD E) vwCl (pw E α β) H) {i : Int32} (hin : pin i (4) = true) (hdg : decode cc pc = .ok (.iaload, 1)) (kk : W p l e R s m args below meth c H locs cells slots Q (F0 m (pc + 1) ls (.int (β 23 i.toNatClampNeg) :: rest))) : W p l e R s m args below meth c H locs cells slots Q (F0 m pc ls (.int i :: .ref (pL E 76) :: rest)) := va_iald C.1 C.2.1 C.2.2.2.2.2.1 hP 76 0 (e_m_written) rfl (pin_ok hin) hdg kk
theorem sa_m_written {own : String} (C : pCx p s m c cc nL E own) (hP : va_P (pD E) vwCl (pw E α β) H) (hS : va_S (pA E sz) H0 H locs) {i v : Int32} (hin : pin i (4) = true) (hdg : decode cc pc = .ok (.iastore, 1)) (kk : ∀ (H1 : Heap) (locs1 : List Loc), va_P (pD E) vwCl (pw E α (up2 β 23 i.toNatClampNeg v)) H1 → va_S (pA E sz) H0 H1 locs1 → W p l e R s m args below meth c H1 locs1 cells slots Q (F0 m (pc + 1) ls rest)) : W p l e R s m args below meth c H locs cells slots Q (F0 m pc ls (.int v :: .int i :: .ref (pL E 76) :: rest)) := va_iast C.1 C.2.1 C.2.2.2.2.2.1 hP (pw_D C.2.2.2.2.2.2) hS 76 0 (e_m_written) rfl (pin_ok hin) hdg (fun H1 locs1 hP1 _ hS1 => kk H1 locs1 (by have h := t_m_written (E := E) (α := α) (β := β) i.toNatClampNeg v; rw [h] at hP1; exact hP1) hS1)
theorem ln_m_written {own : String} (C : pCx p s m c cc nL E own) (hP : va_P (pD E) vwCl (pw E α β) H) (hdg : decode cc pc = .ok (.arraylength, 1)) (kk : W p l e R s m args below meth c H locs cells slots Q (F0 m (pc + 1) ls (.int 4 :: rest))) : W p l e R s m args below meth c H locs cells slots Q (F0 m pc ls (.ref (pL E 76) :: rest)) := va_alen C.1 C.2.1 C.2.2.2.2.2.1 hP 76 0 (e_m_written) (ty := _) rfl rfl hdg kk
theorem la_m_writtenWas {own : String} (C : pCx p s m c cc nL E own) (hP : va_P (pD E) vwCl (pw E α β) H) {i : Int32} (hin : pin i (4) = true) (hdg : decode cc pc = .ok (.iaload, 1)) (kk : W p l e R s m args below meth c H locs cells slots Q (F0 m (pc + 1) ls (.int (β 24 i.toNatClampNeg) :: rest))) : W p l e R s m args below meth c H locs cells slots Q (F0 m pc ls (.int i :: .ref (pL E 77) :: rest)) := va_iald C.1 C.2.1 C.2.2.2.2.2.1 hP 77 0 (e_m_writtenWas) rfl (pin_ok hin) hdg kk
theorem sa_m_writtenWas {own : String} (C : pCx p s m c cc nL E own) (hP : va_P (pD E) vwCl (pw E α β) H) (hS : va_S (pA E sz) H0 H locs) {i v : Int32} (hin : pin i (4) = true) (hdg : decode cc pc = .ok (.iastore, 1)) (kk : ∀ (H1 : Heap) (locs1 : List Loc), va_P (pD E) vwCl (pw E α (up2 β 24 i.toNatClampNeg v)) H1 → va_S (pA E sz) H0 H1 locs1 → W p l e R s m args below meth c H1 locs1 cells slots Q (F0 m (pc + 1) ls rest)) : W p l e R s m args below meth c H locs cells slots Q (F0 m pc ls (.int v :: .int i :: .ref (pL E 77) :: rest)) := va_iast C.1 C.2.1 C.2.2.2.2.2.1 hP (pw_D C.2.2.2.2.2.2) hS 77 0 (e_m_writtenWas) rfl (pin_ok hin) hdg (fun H1 locs1 hP1 _ hS1 => kk H1 locs1 (by have h := t_m_writtenWas (E := E) (α := α) (β := β) i.toNatClampNeg v; rw [h] at hP1; exact hP1) hS1)
theorem ln_m_writtenWas {own : String} (C : pCx p s m c cc nL E own) (hP : va_P (pD E) vwCl (pw E α β) H) (hdg : decode cc pc = .ok (.arraylength, 1)) (kk : W p l e R s m args below meth c H locs cells slots Q (F0 m (pc + 1) ls (.int 4 :: rest))) : W p l e R s m args below meth c H locs cells slots Q (F0 m pc ls (.ref (pL E 77) :: rest)) := va_alen C.1 C.2.1 C.2.2.2.2.2.1 hP 77 0 (e_m_writtenWas) (ty := _) rfl rfl hdg kk
theorem la_m_resource {own : String} (C : pCx p s m c cc nL E own) (hP : va_P (pD E) vwCl (pw E α β) H) {i : Int32} (hin : pin i (400) = true) (hdg : decode cc pc = .ok (.iaload, 1)) (kk : W p l e R s m args below meth c H locs cells slots Q (F0 m (pc + 1) ls (.int (β 25 i.toNatClampNeg) :: rest))) : W p l e R s m args below meth c H locs cells slots Q (F0 m pc ls (.int i :: .ref (pL E 78) :: rest)) := va_iald C.1 C.2.1 C.2.2.2.2.2.1 hP 78 0 (e_m_resource) rfl (pin_ok hin) hdg kk
theorem sa_m_resource {own : String} (C : pCx p s m c cc nL E own) (hP : va_P (pD E) vwCl (pw E α β) H) (hS : va_S (pA E sz) H0 H locs) {i v : Int32} (hin : pin i (400) = true) (hdg : decode cc pc = .ok (.iastore, 1)) (kk : ∀ (H1 : Heap) (locs1 : List Loc), va_P (pD E) vwCl (pw E α (up2 β 25 i.toNatClampNeg v)) H1 → va_S (pA E sz) H0 H1 locs1 → W p l e R s m args below meth c H1 locs1 cells slots Q (F0 m (pc + 1) ls rest)) : W p l e R s m args below meth c H locs cells slots Q (F0 m pc ls (.int v :: .int i :: .ref (pL E 78) :: rest)) := va_iast C.1 C.2.1 C.2.2.2.2.2.1 hP (pw_D C.2.2.2.2.2.2) hS 78 0 (e_m_resource) rfl (pin_ok hin) hdg (fun H1 locs1 hP1 _ hS1 => kk H1 locs1 (by have h := t_m_resource (E := E) (α := α) (β := β) i.toNatClampNeg v; rw [h] at hP1; exact hP1) hS1)
theorem ln_m_resource {own : String} (C : pCx p s m c cc nL E own) (hP : va_P (pD E) vwCl (pw E α β) H) (hdg : decode cc pc = .ok (.arraylength, 1)) (kk : W p l e R s m args below meth c H locs cells slots Q (F0 m (pc + 1) ls (.int 400 :: rest))) : W p l e R s m args below meth c H locs cells slots Q (F0 m pc ls (.ref (pL E 78) :: rest)) := va_alen C.1 C.2.1 C.2.2.2.2.2.1 hP 78 0 (e_m_resource) (ty := _) rfl rfl hdg kk
theorem la_m_message {own : String} (C : pCx p s m c cc nL E own) (hP : va_P (pD E) vwCl (pw E α β) H) {i : Int32} (hin : pin i (600) = true) (hdg : decode cc pc = .ok (.iaload, 1)) (kk : W p l e R s m args below meth c H locs cells slots Q (F0 m (pc + 1) ls (.int (β 27 i.toNatClampNeg) :: rest))) : W p l e R s m args below meth c H locs cells slots Q (F0 m pc ls (.int i :: .ref (pL E 79) :: rest)) := va_iald C.1 C.2.1 C.2.2.2.2.2.1 hP 79 0 (e_m_message) rfl (pin_ok hin) hdg kk
theorem sa_m_message {own : String} (C : pCx p s m c cc nL E own) (hP : va_P (pD E) vwCl (pw E α β) H) (hS : va_S (pA E sz) H0 H locs) {i v : Int32} (hin : pin i (600) = true) (hdg : decode cc pc = .ok (.iastore, 1)) (kk : ∀ (H1 : Heap) (locs1 : List Loc), va_P (pD E) vwCl (pw E α (up2 β 27 i.toNatClampNeg v)) H1 → va_S (pA E sz) H0 H1 locs1 → W p l e R s m args below meth c H1 locs1 cells slots Q (F0 m (pc + 1) ls rest)) : W p l e R s m args below meth c H locs cells slots Q (F0 m pc ls (.int v :: .int i :: .ref (pL E 79) :: rest)) := va_iast C.1 C.2.1 C.2.2.2.2.2.1 hP (pw_D C.2.2.2.2.2.2) hS 79 0 (e_m_message) rfl (pin_ok hin) hdg (fun H1 locs1 hP1 _ hS1 => kk H1 locs1 (by have h := t_m_message (E := E) (α := α) (β := β) i.toNatClampNeg v; rw [h] at hP1; exact hP1) hS1)
theorem ln_m_message {own : String} (C : pCx p s m c cc nL E own) (hP : va_P (pD E) vwCl (pw E α β) H) (hdg : decode cc pc = .ok (.arraylength, 1)) (kk : W p l e R s m args below meth c H locs cells slots Q (F0 m (pc + 1) ls (.int 600 :: rest))) : W p l e R s m args below meth c H locs cells slots Q (F0 m pc ls (.ref (pL E 79) :: rest)) := va_alen C.1 C.2.1 C.2.2.2.2.2.1 hP 79 0 (e_m_message) (ty := _) rfl rfl hdg kk
theorem la_m_claimer {own : String} (C : pCx p s m c cc nL E own) (hP : va_P (pD E) vwCl (pw E α β) H) {i : Int32} (hin : pin i (8) = true) (hdg : decode cc pc = .ok (.iaload, 1)) (kk : W p l e R s m args below meth c H locs cells slots Q (F0 m (pc + 1) ls (.int (β 35 i.toNatClampNeg) :: rest))) : W p l e R s m args below meth c H locs cells slots Q (F0 m pc ls (.int i :: .ref (pL E 80) :: rest)) := va_iald C.1 C.2.1 C.2.2.2.2.2.1 hP 80 0 (e_m_claimer) rfl (pin_ok hin) hdg kk
theorem sa_m_claimer {own : String} (C : pCx p s m c cc nL E own) (hP : va_P (pD E) vwCl (pw E α β) H) (hS : va_S (pA E sz) H0 H locs) {i v : Int32} (hin : pin i (8) = true) (hdg : decode cc pc = .ok (.iastore, 1)) (kk : ∀ (H1 : Heap) (locs1 : List Loc), va_P (pD E) vwCl (pw E α (up2 β 35 i.toNatClampNeg v)) H1 → va_S (pA E sz) H0 H1 locs1 → W p l e R s m args below meth c H1 locs1 cells slots Q (F0 m (pc + 1) ls rest)) : W p l e R s m args below meth c H locs cells slots Q (F0 m pc ls (.int v :: .int i :: .ref (pL E 80) :: rest)) := va_iast C.1 C.2.1 C.2.2.2.2.2.1 hP (pw_D C.2.2.2.2.2.2) hS 80 0 (e_m_claimer) rfl (pin_ok hin) hdg (fun H1 locs1 hP1 _ hS1 => kk H1 locs1 (by have h := t_m_claimer (E := E) (α := α) (β := β) i.toNatClampNeg v; rw [h] at hP1; exact hP1) hS1)
theorem ln_m_claimer {own : String} (C : pCx p s m c cc nL E own) (hP : va_P (pD E) vwCl (pw E α β) H) (hdg : decode cc pc = .ok (.arraylength, 1)) (kk : W p l e R s m args below meth c H locs cells slots Q (F0 m (pc + 1) ls (.int 8 :: rest))) : W p l e R s m args below meth c H locs cells slots Q (F0 m pc ls (.ref (pL E 80) :: rest)) := va_alen C.1 C.2.1 C.2.2.2.2.2.1 hP 80 0 (e_m_claimer) (ty := _) rfl rfl hdg kk
end PRW
end
section
/-! rooms, ends, calls -/
abbrev pR (d : Nat) : Room := { frames := d, cells := 0, slots := 0, locals := 40 * d }
abbrev pQ (below : List Frame) (E : pE) (s : State) (args : Array Value) (v : Option Value) (α' β' : pSt) : State → Prop :=
  MQ below (fun _ st oc t => oc = .returned v ∧ va_P (pD E) vwCl (pw E α' β') t.heap ∧ va_F (pA E s.heap.size) st t) args s 0 0 (pA E s.heap.size)
/-- a state gets a name -/
def pl {τ : Type} (x : pSt) (f : pSt → τ) : τ := f x
theorem pl_ok {τ : Type} {x : pSt} {f : pSt → Option τ} {y : τ} (h : pl x f = some y) : ∃ z, z = x ∧ f z = some y := ⟨x, rfl, h⟩
/-- a call's answer and state -/
def pb {ρ τ : Type} (x : Option (ρ × pSt)) (f : ρ → pSt → Option τ) : Option τ := match x with
  | none => none
  | some z => f z.1 z.2
theorem pb2_ok {ρ τ : Type} {x : Option (ρ × pSt)} {f : ρ → pSt → Option τ} {y : τ} (h : pb x f = some y) : ∃ r α, x = some (r, α) ∧ f r α = some y := by
  cases x with
  | none => cases h
  | some z => exact ⟨z.1, z.2, rfl, h⟩
theorem pO_n {τ : Type} {a : Option τ} {b : Nat → Option τ} {y : τ} (h : pO none a b = some y) : a = some y := h
theorem pO_s {τ : Type} {a : Option τ} {b : Nat → Option τ} {y : τ} {i : Nat} (h : pO (some i) a b = some y) : b i = some y := h
theorem pr1 {k : Nat} (h : k < 6) : 1 + k < 11 := by omega
theorem pr7 {k : Nat} (h : k < 4) : 7 + k < 11 := by omega
def pF : Nat := 128
section PCL
variable {p : Program} {l : Launch} {e : Env} {R : Room} {s : State} {m : MethodId} {args : Array Value} {below : List Frame} {meth : Method} {c : Code} {H : Heap} {locs : List Loc} {cells slots : Nat} {Q : State → Prop} {cc : ByteArray} {pc nL : Nat} {ls : Array Slot} {rest : List Value} {E : pE} {α β α' β' : pSt} {own : String}
theorem p_iret {x r : Int32} (C : pCx p s m c cc nL E own) (hr : meth.sig.returnType = some .int) (hlk : meth.locks = false) (h1 : x = r) (h2 : pw E α β = pw E α' β') (hP : va_P (pD E) vwCl (pw E α β) H) (hS : va_S (pA E s.heap.size) s.heap H locs) (hdg : decode cc pc = .ok (.ireturn, 1)) : W p l e R s m args below meth c H locs 0 0 (pQ below E s args (some (.int r)) α' β') (F0 m pc ls [.int x]) := by
  subst h1
  rw [h2] at hP
  exact W.iret C.1 C.2.1 hr (fun t ht _ => ⟨rfl, by rw [ht]; exact hP, hS.F ht⟩) hS.2.2 hdg hlk
theorem p_zret {x r : Int32} (C : pCx p s m c cc nL E own) (hr : meth.sig.returnType = some .boolean) (hlk : meth.locks = false) (hz : x = 0 ∨ x = 1) (h1 : x = r) (h2 : pw E α β = pw E α' β') (hP : va_P (pD E) vwCl (pw E α β) H) (hS : va_S (pA E s.heap.size) s.heap H locs) (hdg : decode cc pc = .ok (.ireturn, 1)) : W p l e R s m args below meth c H locs 0 0 (pQ below E s args (some (.int r)) α' β') (F0 m pc ls [.int x]) := by
  subst h1
  rw [h2] at hP
  exact W.zret C.1 C.2.1 hr (pz_n hz) (fun t ht _ => ⟨rfl, by rw [ht]; exact hP, hS.F ht⟩) hS.2.2 hdg hlk
theorem p_bret {x r : Int32} (C : pCx p s m c cc nL E own) (hr : meth.sig.returnType = some .byte) (hlk : meth.locks = false) (hz : narrow .byte (.int x) = .int x) (h1 : x = r) (h2 : pw E α β = pw E α' β') (hP : va_P (pD E) vwCl (pw E α β) H) (hS : va_S (pA E s.heap.size) s.heap H locs) (hdg : decode cc pc = .ok (.ireturn, 1)) : W p l e R s m args below meth c H locs 0 0 (pQ below E s args (some (.int r)) α' β') (F0 m pc ls [.int x]) := by
  subst h1
  rw [h2] at hP
  exact W.zret C.1 C.2.1 hr hz (fun t ht _ => ⟨rfl, by rw [ht]; exact hP, hS.F ht⟩) hS.2.2 hdg hlk
theorem p_vret (C : pCx p s m c cc nL E own) (hr : meth.sig.returnType = none) (hlk : meth.locks = false) (h2 : pw E α β = pw E α' β') (hP : va_P (pD E) vwCl (pw E α β) H) (hS : va_S (pA E s.heap.size) s.heap H locs) (hdg : decode cc pc = .ok (.return_, 1)) : W p l e R s m args below meth c H locs 0 0 (pQ below E s args none α' β') (F0 m pc ls []) := by
  rw [h2] at hP
  exact W.vret C.1 C.2.1 hr (fun t ht _ => ⟨rfl, by rw [ht]; exact hP, hS.F ht⟩) hS.2.2 hdg hlk
theorem p_aret {x : Value} {r : Option Nat} {f : Nat → Nat} {rt : String} (C : pCx p s m c cc nL E own) (hr : meth.sig.returnType = some (.object rt)) (hlk : meth.locks = false) (h1 : x = va_rf (r.map f)) (h2 : pw E α β = pw E α' β') (hP : va_P (pD E) vwCl (pw E α β) H) (hS : va_S (pA E s.heap.size) s.heap H locs) (hdg : decode cc pc = .ok (.areturn, 1)) : W p l e R s m args below meth c H locs 0 0 (pQ below E s args (some (va_rf (r.map f))) α' β') (F0 m pc ls [x]) := by
  subst h1
  rw [h2] at hP
  exact W.aret C.1 C.2.1 hr (Or.inl ⟨_, rfl⟩) (va_rf_or _) (fun t ht _ => ⟨rfl, by rw [ht]; exact hP, hS.F ht⟩) hS.2.2 hdg hlk
/-- the words of a call -/
def pWV (own : String) (index : Nat) (y : MethodName) (bytes : ByteArray) (maxL : Nat) (ret : Option FieldType) (s : State) (args : Array Value) : Prop :=
  (Cond.methodLink own index y).before args s = true ∧ (Cond.instanceMethod y).before args s = true ∧ (Cond.selects y.cls y y).before args s = true ∧ (Cond.initialized y.cls).before args s = true ∧ (Cond.code y bytes maxL ret).before args s = true
def pWS (own : String) (index : Nat) (y : MethodName) (bytes : ByteArray) (maxL : Nat) (ret : Option FieldType) (s : State) (args : Array Value) : Prop :=
  (Cond.methodLink own index y).before args s = true ∧ (Cond.static y).before args s = true ∧ (Cond.initialized y.cls).before args s = true ∧ (Cond.code y bytes maxL ret).before args s = true
def pWN (own : String) (index : Nat) (y : MethodName) (host : String) (bytes : ByteArray) (maxL : Nat) (ret : Option FieldType) (s : State) (args : Array Value) : Prop :=
  (Cond.methodLinkNest own index y host).before args s = true ∧ (Cond.static y).before args s = true ∧ (Cond.initialized y.cls).before args s = true ∧ (Cond.code y bytes maxL ret).before args s = true
variable {y : MethodName} {bytes : ByteArray} {maxL d n index : Nat} {ret : Option FieldType} {b : Nat} {As st : List Value} {v : Option Value} {host : String}
theorem p_code_warm (h : (Cond.code y bytes maxL ret).before args s = true) : ∀ w ∈ [Cond.code y bytes maxL ret], ∀ (a' : Array Value) (U : State), s.WarmedH U.vm → w.before a' U = true := by
  intro w hw a' U hW
  rw [List.mem_singleton.mp hw]
  exact word_at hW (Or.inl (by first | rfl | simp [Cond.onTables, Cond.keeps, Cond.steady])) h
theorem p_go (hr : va_Run p l e R s m args below meth c H locs cells slots 0 0 (F0 m pc ls st) rest (fun st0 oc t => oc = .returned v ∧ va_P (pD E) vwCl (pw E α' β') t.heap ∧ va_F (pA E H.size) st0 t) (pA E H.size)) (hS : va_S (pA E s.heap.size) s.heap H locs)
    (kk : ∀ (H1 : Heap) (locs1 : List Loc), va_P (pD E) vwCl (pw E α' β') H1 → va_S (pA E s.heap.size) s.heap H1 locs1 → H.size ≤ H1.size → (∀ q : Nat, q < H.size → ¬ pA E H.size q → H1[q]? = H[q]?) → W p l e R s m args below meth c H1 locs1 cells slots Q (F0 m (pc + 3) ls (v.toList ++ rest))) : W p l e R s m args below meth c H locs cells slots Q (F0 m pc ls st) := by
  intro T hT X
  obtain ⟨v', st₀, t, T', L, h0, X', hL, e1, e2, ⟨hv, hP, hz, hk⟩, stp⟩ := hr T hT X
  cases hv
  rw [h0] at hz hk
  have hA : ∀ q, pA E H.size q → pA E s.heap.size q := fun q h => by
    rcases h with h | h
    · exact Or.inl h
    · exact Or.inr (Nat.le_trans hS.1 h)
  obtain ⟨t2, a1, b1⟩ := kk T'.heap (locs ++ L) (by rw [e1]; exact hP)
    ⟨Nat.le_trans hS.1 (by rw [e1]; exact hz), fun q h1 h2 => by rw [e1, hk q (Nat.lt_of_lt_of_le h1 hS.1) (fun z => h2 (hA q z))]; exact hS.2.1 q h1 h2, fun q hq => by
      rcases List.mem_append.mp hq with h | h
      · exact hS.2.2 q h
      · exact hA _ (hL q h)⟩ (by rw [e1]; exact hz) (fun q h1 h2 => by rw [e1]; exact hk q h1 h2) T' rfl X'
  exact ⟨t2, stp t2 a1, b1⟩
theorem p_blind {av : List Value} {sz : Nat} : FrameBlind (va_Pc av (fun U => pTab U ∧ U.heap.size = sz ∧ va_P (pD E) vwCl (pw E α β) U.heap ∧ va_K (pD E) vwCl (pT E) U)) := fun a U g mk q => by
  obtain ⟨q0, q1, q2, qP, qK⟩ := q
  exact ⟨q0, q1.calling, q2, qP, va_K.moved (u := U) (U := U.calling g mk a) (Vm.Alike.refl U.vm) qK⟩
theorem p_callV {q0 ci : Nat} {q : vw_C} {fs : List Value} (C : pCx p s m c cc nL E own) (hP : va_P (pD E) vwCl (pw E α β) H) (hS : va_S (pA E s.heap.size) s.heap H locs) (hw : pWV own index y bytes maxL ret s args) (hM : pM l E y bytes maxL ret d (.ref b :: As) α β v α' β')
    (he : (pw E α β)[q0]? = some (b, .inr (ci, fs))) (hc : vwCl[ci]? = some q) (hq : q.1 = y.cls) (hd : y.cls ≠ "java/lang/invoke/MethodHandle" ∧ y.cls ≠ "java/lang/invoke/VarHandle" ∧ (parseMethodDescriptor y.desc).map (fun d => d.parameters.length) = some n) (hn : As.length = n) (hR : d + 1 ≤ R.frames ∧ 8 + (maxL + 11) + 40 * d ≤ R.locals) (hsz : ls.size = nL) (hst : st = As.reverse ++ .ref b :: rest) (hrm : (rest.map fun v => v.category).sum ≤ 8) (hdg : decode cc pc = .ok (.invokevirtual index, 3)) (hcs : cells ≤ R.cells ∧ slots ≤ R.slots)
    (kk : ∀ (H1 : Heap) (locs1 : List Loc), va_P (pD E) vwCl (pw E α' β') H1 → va_S (pA E s.heap.size) s.heap H1 locs1 → H.size ≤ H1.size → (∀ q : Nat, q < H.size → ¬ pA E H.size q → H1[q]? = H[q]?) → W p l e R s m args below meth c H1 locs1 cells slots Q (F0 m (pc + 3) ls (v.toList ++ rest))) : W p l e R s m args below meth c H locs cells slots Q (F0 m pc ls st) := by
  obtain ⟨hl, hin, hse, hini, hcode⟩ := hw
  obtain ⟨hx, hb, hml, hown, hT, hK, hE⟩ := C
  refine p_go (va_runV (Ts := []) (C := y.cls) (n := n) ⟨hx, hb, hml, hown, fun w h => by cases h⟩ (hM H.size) ⟨⟨rfl, rfl, hR.1, hR.2, p_code_warm hcode, List.mem_cons_self, hcode, hini, ⟨hd.1, hd.2.1⟩, fun sig h => ?_, hl⟩, hin, hse⟩ ⟨p_blind, ?_, fun U hU hW => ⟨rfl, hT.warm hW, by rw [hU], by rw [hU]; exact hP, va_K.moved hW.alike hK⟩⟩ rfl hn hsz hst (lv_room hrm) hdg hcs) hS kk
  · have h2 := hd.2.2
    rw [h] at h2
    exact (Option.some.inj h2).symm
  · obtain ⟨cell, g1, g2, g3⟩ := va_recv hK hP hc he
    exact ⟨cell, g1, g2, by rw [← hq]; exact g3⟩
theorem p_callS (C : pCx p s m c cc nL E own) (hP : va_P (pD E) vwCl (pw E α β) H) (hS : va_S (pA E s.heap.size) s.heap H locs) (hw : pWS own index y bytes maxL ret s args) (hM : pM l E y bytes maxL ret d As α β v α' β')
    (hd : y.cls ≠ "java/lang/invoke/MethodHandle" ∧ y.cls ≠ "java/lang/invoke/VarHandle" ∧ (parseMethodDescriptor y.desc).map (fun d => d.parameters.length) = some n) (hn : As.length = n) (hR : d + 1 ≤ R.frames ∧ 8 + (maxL + 11) + 40 * d ≤ R.locals) (hsz : ls.size = nL) (hst : st = As.reverse ++ rest) (hrm : (rest.map fun v => v.category).sum ≤ 8) (hdg : decode cc pc = .ok (.invokestatic index, 3)) (hcs : cells ≤ R.cells ∧ slots ≤ R.slots)
    (kk : ∀ (H1 : Heap) (locs1 : List Loc), va_P (pD E) vwCl (pw E α' β') H1 → va_S (pA E s.heap.size) s.heap H1 locs1 → H.size ≤ H1.size → (∀ q : Nat, q < H.size → ¬ pA E H.size q → H1[q]? = H[q]?) → W p l e R s m args below meth c H1 locs1 cells slots Q (F0 m (pc + 3) ls (v.toList ++ rest))) : W p l e R s m args below meth c H locs cells slots Q (F0 m pc ls st) := by
  obtain ⟨hl, hstt, hini, hcode⟩ := hw
  obtain ⟨hx, hb, hml, hown, hT, hK, hE⟩ := C
  refine p_go (va_runS (Ts := []) (n := n) ⟨hx, hb, hml, hown, fun w h => by cases h⟩ (hM H.size) ⟨⟨rfl, rfl, hR.1, hR.2, p_code_warm hcode, List.mem_cons_self, hcode, hini, ⟨hd.1, hd.2.1⟩, fun sig h => ?_, hl⟩, hstt⟩ ⟨p_blind, fun U hU hW => ⟨rfl, hT.warm hW, by rw [hU], by rw [hU]; exact hP, va_K.moved hW.alike hK⟩⟩ rfl hn hsz hst (lv_room hrm) hdg hcs) hS kk
  have h2 := hd.2.2
  rw [h] at h2
  exact (Option.some.inj h2).symm
theorem p_callN (C : pCx p s m c cc nL E own) (hP : va_P (pD E) vwCl (pw E α β) H) (hS : va_S (pA E s.heap.size) s.heap H locs) (hw : pWN own index y host bytes maxL ret s args) (hM : pM l E y bytes maxL ret d As α β v α' β')
    (hd : y.cls ≠ "java/lang/invoke/MethodHandle" ∧ y.cls ≠ "java/lang/invoke/VarHandle" ∧ (parseMethodDescriptor y.desc).map (fun d => d.parameters.length) = some n) (hn : As.length = n) (hR : d + 1 ≤ R.frames ∧ 8 + (maxL + 11) + 40 * d ≤ R.locals) (hsz : ls.size = nL) (hst : st = As.reverse ++ rest) (hrm : (rest.map fun v => v.category).sum ≤ 8) (hdg : decode cc pc = .ok (.invokestatic index, 3)) (hcs : cells ≤ R.cells ∧ slots ≤ R.slots)
    (kk : ∀ (H1 : Heap) (locs1 : List Loc), va_P (pD E) vwCl (pw E α' β') H1 → va_S (pA E s.heap.size) s.heap H1 locs1 → H.size ≤ H1.size → (∀ q : Nat, q < H.size → ¬ pA E H.size q → H1[q]? = H[q]?) → W p l e R s m args below meth c H1 locs1 cells slots Q (F0 m (pc + 3) ls (v.toList ++ rest))) : W p l e R s m args below meth c H locs cells slots Q (F0 m pc ls st) := by
  obtain ⟨hl, hstt, hini, hcode⟩ := hw
  obtain ⟨hx, hb, hml, hown, hT, hK, hE⟩ := C
  refine p_go (va_runSN (Ts := []) (n := n) (host := host) ⟨hx, hb, hml, hown, fun w h => by cases h⟩ (hM H.size) ⟨⟨⟨rfl, rfl, hR.1, hR.2, p_code_warm hcode, List.mem_cons_self⟩, hcode, hini, ⟨hd.1, hd.2.1⟩, fun sig h => ?_, hl⟩, hstt, trivial⟩ ⟨p_blind, fun U hU hW => ⟨rfl, hT.warm hW, by rw [hU], by rw [hU]; exact hP, va_K.moved hW.alike hK⟩⟩ rfl hn hsz hst (lv_room hrm) hdg hcs) hS kk
  have h2 := hd.2.2
  rw [h] at h2
  exact (Option.some.inj h2).symm
end PCL
end
