section
-- ===== PART A: goes FIRST, ahead of the names: the tables' words, and 'selects' of the private methods out of them =====
/-- a private method of a class that the tables say can be made, by its rows of tables_1 -/
def lw_okq (q : MethodName × Nat) : Prop := (q.1.cls ≠ "java/lang/invoke/MethodHandle" ∧ q.1.cls ≠ "java/lang/invoke/VarHandle") ∧ Cond.instantiable q.1.cls q.2 ∈ tables_1 ∧ Cond.privateMethod q.1 ∈ tables_1 ∧ Cond.instanceMethod q.1 ∈ tables_1
theorem lw_p0 : lw_okq (⟨"CountWatch", "firstAlarm", "(LCountWatch$Chart;II)I"⟩, 11) := ⟨⟨by decide +kernel, by decide +kernel⟩, List.mem_of_getElem? (i := 13) (by decide +kernel), List.mem_of_getElem? (i := 428) (by decide +kernel), List.mem_of_getElem? (i := 429) (by decide +kernel)⟩
theorem lw_p1 : lw_okq (⟨"CountWatch", "stands", "(I)Z"⟩, 11) := ⟨⟨by decide +kernel, by decide +kernel⟩, List.mem_of_getElem? (i := 13) (by decide +kernel), List.mem_of_getElem? (i := 499) (by decide +kernel), List.mem_of_getElem? (i := 500) (by decide +kernel)⟩
theorem lw_p2 : lw_okq (⟨"CountWatch", "agreesWithAll", "(I)Z"⟩, 11) := ⟨⟨by decide +kernel, by decide +kernel⟩, List.mem_of_getElem? (i := 13) (by decide +kernel), List.mem_of_getElem? (i := 516) (by decide +kernel), List.mem_of_getElem? (i := 517) (by decide +kernel)⟩
theorem lw_p3 : lw_okq (⟨"CountWatch", "agrees", "(LCountWatch$Sight;LCountWatch$Chart;I)Z"⟩, 11) := ⟨⟨by decide +kernel, by decide +kernel⟩, List.mem_of_getElem? (i := 13) (by decide +kernel), List.mem_of_getElem? (i := 520) (by decide +kernel), List.mem_of_getElem? (i := 521) (by decide +kernel)⟩
theorem lw_p4 : lw_okq (⟨"CountWatch", "alarmsWithGaps", "(LCountWatch$Chart;III)Z"⟩, 11) := ⟨⟨by decide +kernel, by decide +kernel⟩, List.mem_of_getElem? (i := 13) (by decide +kernel), List.mem_of_getElem? (i := 545) (by decide +kernel), List.mem_of_getElem? (i := 546) (by decide +kernel)⟩
theorem lw_p5 : lw_okq (⟨"CountWatchModel", "readWatch", "()I"⟩, 26) := ⟨⟨by decide +kernel, by decide +kernel⟩, List.mem_of_getElem? (i := 578) (by decide +kernel), List.mem_of_getElem? (i := 679) (by decide +kernel), List.mem_of_getElem? (i := 680) (by decide +kernel)⟩
theorem lw_p6 : lw_okq (⟨"CountWatchModel", "readSeries", "()Z"⟩, 26) := ⟨⟨by decide +kernel, by decide +kernel⟩, List.mem_of_getElem? (i := 578) (by decide +kernel), List.mem_of_getElem? (i := 683) (by decide +kernel), List.mem_of_getElem? (i := 684) (by decide +kernel)⟩
theorem lw_p7 : lw_okq (⟨"CountWatchModel", "two", "(I)I"⟩, 26) := ⟨⟨by decide +kernel, by decide +kernel⟩, List.mem_of_getElem? (i := 578) (by decide +kernel), List.mem_of_getElem? (i := 687) (by decide +kernel), List.mem_of_getElem? (i := 688) (by decide +kernel)⟩
theorem lw_p8 : lw_okq (⟨"CountWatchModel", "figure", "(II)I"⟩, 26) := ⟨⟨by decide +kernel, by decide +kernel⟩, List.mem_of_getElem? (i := 578) (by decide +kernel), List.mem_of_getElem? (i := 691) (by decide +kernel), List.mem_of_getElem? (i := 692) (by decide +kernel)⟩
theorem lw_p9 : lw_okq (⟨"CountWatchModel", "noSeries", "(I)Z"⟩, 26) := ⟨⟨by decide +kernel, by decide +kernel⟩, List.mem_of_getElem? (i := 578) (by decide +kernel), List.mem_of_getElem? (i := 703) (by decide +kernel), List.mem_of_getElem? (i := 704) (by decide +kernel)⟩
theorem lw_p10 : lw_okq (⟨"CountWatchModel", "tellOf", "([III)I"⟩, 26) := ⟨⟨by decide +kernel, by decide +kernel⟩, List.mem_of_getElem? (i := 578) (by decide +kernel), List.mem_of_getElem? (i := 708) (by decide +kernel), List.mem_of_getElem? (i := 709) (by decide +kernel)⟩
theorem lw_p11 : lw_okq (⟨"CountWatchModel", "expected", "([II)I"⟩, 26) := ⟨⟨by decide +kernel, by decide +kernel⟩, List.mem_of_getElem? (i := 578) (by decide +kernel), List.mem_of_getElem? (i := 712) (by decide +kernel), List.mem_of_getElem? (i := 713) (by decide +kernel)⟩
theorem lw_p12 : lw_okq (⟨"CountWatchModel", "figureOf", "(II)I"⟩, 26) := ⟨⟨by decide +kernel, by decide +kernel⟩, List.mem_of_getElem? (i := 578) (by decide +kernel), List.mem_of_getElem? (i := 716) (by decide +kernel), List.mem_of_getElem? (i := 717) (by decide +kernel)⟩
theorem lw_p13 : lw_okq (⟨"CountWatchModel", "note", "()V"⟩, 26) := ⟨⟨by decide +kernel, by decide +kernel⟩, List.mem_of_getElem? (i := 578) (by decide +kernel), List.mem_of_getElem? (i := 729) (by decide +kernel), List.mem_of_getElem? (i := 730) (by decide +kernel)⟩
theorem lw_p14 : lw_okq (⟨"CountWatchModel", "countOn", "([III)I"⟩, 26) := ⟨⟨by decide +kernel, by decide +kernel⟩, List.mem_of_getElem? (i := 578) (by decide +kernel), List.mem_of_getElem? (i := 733) (by decide +kernel), List.mem_of_getElem? (i := 734) (by decide +kernel)⟩
theorem lw_p15 : lw_okq (⟨"CountWatchModel", "moves", "([III)V"⟩, 26) := ⟨⟨by decide +kernel, by decide +kernel⟩, List.mem_of_getElem? (i := 578) (by decide +kernel), List.mem_of_getElem? (i := 740) (by decide +kernel), List.mem_of_getElem? (i := 741) (by decide +kernel)⟩
def lw_privs_1 : List (MethodName × Nat) := [(⟨"CountWatch", "firstAlarm", "(LCountWatch$Chart;II)I"⟩, 11), (⟨"CountWatch", "stands", "(I)Z"⟩, 11), (⟨"CountWatch", "agreesWithAll", "(I)Z"⟩, 11), (⟨"CountWatch", "agrees", "(LCountWatch$Sight;LCountWatch$Chart;I)Z"⟩, 11), (⟨"CountWatch", "alarmsWithGaps", "(LCountWatch$Chart;III)Z"⟩, 11), (⟨"CountWatchModel", "readWatch", "()I"⟩, 26), (⟨"CountWatchModel", "readSeries", "()Z"⟩, 26), (⟨"CountWatchModel", "two", "(I)I"⟩, 26), (⟨"CountWatchModel", "figure", "(II)I"⟩, 26), (⟨"CountWatchModel", "noSeries", "(I)Z"⟩, 26), (⟨"CountWatchModel", "tellOf", "([III)I"⟩, 26), (⟨"CountWatchModel", "expected", "([II)I"⟩, 26), (⟨"CountWatchModel", "figureOf", "(II)I"⟩, 26), (⟨"CountWatchModel", "note", "()V"⟩, 26), (⟨"CountWatchModel", "countOn", "([III)I"⟩, 26), (⟨"CountWatchModel", "moves", "([III)V"⟩, 26)]
theorem lw_r1 : ∀ q ∈ lw_privs_1, lw_okq q := List.forall_mem_cons.mpr ⟨lw_p0, List.forall_mem_cons.mpr ⟨lw_p1, List.forall_mem_cons.mpr ⟨lw_p2, List.forall_mem_cons.mpr ⟨lw_p3, List.forall_mem_cons.mpr ⟨lw_p4, List.forall_mem_cons.mpr ⟨lw_p5, List.forall_mem_cons.mpr ⟨lw_p6, List.forall_mem_cons.mpr ⟨lw_p7, List.forall_mem_cons.mpr ⟨lw_p8, List.forall_mem_cons.mpr ⟨lw_p9, List.forall_mem_cons.mpr ⟨lw_p10, List.forall_mem_cons.mpr ⟨lw_p11, List.forall_mem_cons.mpr ⟨lw_p12, List.forall_mem_cons.mpr ⟨lw_p13, List.forall_mem_cons.mpr ⟨lw_p14, List.forall_mem_cons.mpr ⟨lw_p15, fun _ h => absurd h List.not_mem_nil⟩⟩⟩⟩⟩⟩⟩⟩⟩⟩⟩⟩⟩⟩⟩⟩
theorem lw_p16 : lw_okq (⟨"CountWatchModel", "layTrial", "()V"⟩, 26) := ⟨⟨by decide +kernel, by decide +kernel⟩, List.mem_of_getElem? (i := 578) (by decide +kernel), List.mem_of_getElem? (i := 777) (by decide +kernel), List.mem_of_getElem? (i := 778) (by decide +kernel)⟩
theorem lw_p17 : lw_okq (⟨"CountWatchModel", "ringsBy", "(II)I"⟩, 26) := ⟨⟨by decide +kernel, by decide +kernel⟩, List.mem_of_getElem? (i := 578) (by decide +kernel), List.mem_of_getElem? (i := 785) (by decide +kernel), List.mem_of_getElem? (i := 786) (by decide +kernel)⟩
theorem lw_p18 : lw_okq (⟨"CountWatchModel", "chanceOf", "(I)I"⟩, 26) := ⟨⟨by decide +kernel, by decide +kernel⟩, List.mem_of_getElem? (i := 578) (by decide +kernel), List.mem_of_getElem? (i := 800) (by decide +kernel), List.mem_of_getElem? (i := 801) (by decide +kernel)⟩
theorem lw_p19 : lw_okq (⟨"CountWatchModel", "laySquare", "(II)V"⟩, 26) := ⟨⟨by decide +kernel, by decide +kernel⟩, List.mem_of_getElem? (i := 578) (by decide +kernel), List.mem_of_getElem? (i := 808) (by decide +kernel), List.mem_of_getElem? (i := 809) (by decide +kernel)⟩
theorem lw_p20 : lw_okq (⟨"CountWatchModel", "clearSquare", "(I)V"⟩, 26) := ⟨⟨by decide +kernel, by decide +kernel⟩, List.mem_of_getElem? (i := 578) (by decide +kernel), List.mem_of_getElem? (i := 813) (by decide +kernel), List.mem_of_getElem? (i := 814) (by decide +kernel)⟩
theorem lw_p21 : lw_okq (⟨"CountWatchModel", "changeRows", "(II)V"⟩, 26) := ⟨⟨by decide +kernel, by decide +kernel⟩, List.mem_of_getElem? (i := 578) (by decide +kernel), List.mem_of_getElem? (i := 817) (by decide +kernel), List.mem_of_getElem? (i := 818) (by decide +kernel)⟩
theorem lw_p22 : lw_okq (⟨"CountWatchModel", "nearOf", "(I)I"⟩, 26) := ⟨⟨by decide +kernel, by decide +kernel⟩, List.mem_of_getElem? (i := 578) (by decide +kernel), List.mem_of_getElem? (i := 832) (by decide +kernel), List.mem_of_getElem? (i := 833) (by decide +kernel)⟩
theorem lw_p23 : lw_okq (⟨"CountWatchModel", "does", "(III)Z"⟩, 26) := ⟨⟨by decide +kernel, by decide +kernel⟩, List.mem_of_getElem? (i := 578) (by decide +kernel), List.mem_of_getElem? (i := 844) (by decide +kernel), List.mem_of_getElem? (i := 845) (by decide +kernel)⟩
theorem lw_p24 : lw_okq (⟨"CountWatchModel", "isSo", "(II)Z"⟩, 26) := ⟨⟨by decide +kernel, by decide +kernel⟩, List.mem_of_getElem? (i := 578) (by decide +kernel), List.mem_of_getElem? (i := 860) (by decide +kernel), List.mem_of_getElem? (i := 861) (by decide +kernel)⟩
theorem lw_p25 : lw_okq (⟨"CountWatchModel", "allAlarms", "()I"⟩, 26) := ⟨⟨by decide +kernel, by decide +kernel⟩, List.mem_of_getElem? (i := 578) (by decide +kernel), List.mem_of_getElem? (i := 900) (by decide +kernel), List.mem_of_getElem? (i := 901) (by decide +kernel)⟩
def lw_privs_2 : List (MethodName × Nat) := [(⟨"CountWatchModel", "layTrial", "()V"⟩, 26), (⟨"CountWatchModel", "ringsBy", "(II)I"⟩, 26), (⟨"CountWatchModel", "chanceOf", "(I)I"⟩, 26), (⟨"CountWatchModel", "laySquare", "(II)V"⟩, 26), (⟨"CountWatchModel", "clearSquare", "(I)V"⟩, 26), (⟨"CountWatchModel", "changeRows", "(II)V"⟩, 26), (⟨"CountWatchModel", "nearOf", "(I)I"⟩, 26), (⟨"CountWatchModel", "does", "(III)Z"⟩, 26), (⟨"CountWatchModel", "isSo", "(II)Z"⟩, 26), (⟨"CountWatchModel", "allAlarms", "()I"⟩, 26)]
theorem lw_r2 : ∀ q ∈ lw_privs_2, lw_okq q := List.forall_mem_cons.mpr ⟨lw_p16, List.forall_mem_cons.mpr ⟨lw_p17, List.forall_mem_cons.mpr ⟨lw_p18, List.forall_mem_cons.mpr ⟨lw_p19, List.forall_mem_cons.mpr ⟨lw_p20, List.forall_mem_cons.mpr ⟨lw_p21, List.forall_mem_cons.mpr ⟨lw_p22, List.forall_mem_cons.mpr ⟨lw_p23, List.forall_mem_cons.mpr ⟨lw_p24, List.forall_mem_cons.mpr ⟨lw_p25, fun _ h => absurd h List.not_mem_nil⟩⟩⟩⟩⟩⟩⟩⟩⟩⟩
def lw_privs : List (MethodName × Nat) := lw_privs_1 ++ (lw_privs_2)
def lw_tbl : List Cond := k2_sels lw_privs ++ tables_1
theorem lw_privs_ok : ∀ q ∈ lw_privs, lw_okq q := by
  show ∀ q ∈ lw_privs_1 ++ (lw_privs_2), lw_okq q
  exact List.forall_mem_append.mpr ⟨lw_r1, lw_r2⟩
end
section
def RX0 : String := "CountWatch$Acts"
def TX0 : u_T := fun k => match k with
  | 0 => ("CountWatch$Acts", "before", "[LCountWatch$Charts;", true)
  | 1 => ("CountWatch$Acts", "next", "I", false)
  | _ => ("CountWatch$Acts", "size", "I", false)
def tyX0 : Nat → FieldType := fun k => match k with
  | 0 => .array (.object "CountWatch$Charts")
  | 1 => .int
  | _ => .int
abbrev wsX00 : List Cond := u_ws RX0 TX0 3
theorem nmX0 : ∀ a, a < 3 → ∀ b, b < 3 → a ≠ b → (TX0 a).2.1 ≠ (TX0 b).2.1 := by decide +kernel
theorem tyX0_ok : ∀ k, k < 3 → parseFieldDescriptor (TX0 k).2.2.1 = some (tyX0 k) := by decide +kernel
abbrev cX0_init : ByteArray := prog_2_method_1_code
def yX0_init : MethodName := ⟨RX0, "<init>", "()V"⟩
abbrev cX0_remember : ByteArray := prog_2_method_2_code
def yX0_remember : MethodName := ⟨RX0, "remember", "(LCountWatch$Charts;)V"⟩
abbrev cX0_takeBack : ByteArray := prog_2_method_3_code
def yX0_takeBack : MethodName := ⟨RX0, "takeBack", "(LCountWatch$Charts;)V"⟩
abbrev cX0_forget : ByteArray := prog_2_method_4_code
def yX0_forget : MethodName := ⟨RX0, "forget", "()V"⟩
def RX1 : String := "CountWatch$Chart"
def TX1 : u_T := fun k => match k with
  | 0 => ("CountWatch$Chart", "base", "I", false)
  | 1 => ("CountWatch$Chart", "slack", "I", false)
  | 2 => ("CountWatch$Chart", "bound", "I", false)
  | 3 => ("CountWatch$Chart", "rate", "I", false)
  | 4 => ("CountWatch$Chart", "restart", "I", false)
  | 5 => ("CountWatch$Chart", "season", "[I", true)
  | 6 => ("CountWatch$Chart", "seasonLength", "I", false)
  | 7 => ("CountWatch$Chart", "day", "I", false)
  | 8 => ("CountWatch$Chart", "up", "I", false)
  | 9 => ("CountWatch$Chart", "down", "I", false)
  | 10 => ("CountWatch$Chart", "alarms", "I", false)
  | 11 => ("CountWatch$Chart", "kind", "I", false)
  | 12 => ("CountWatch$Chart", "alarmDay", "I", false)
  | 13 => ("CountWatch$Chart", "level", "I", false)
  | 14 => ("CountWatch$Chart", "things", "[I", true)
  | _ => ("CountWatch$Chart", "thingCount", "I", false)
def tyX1 : Nat → FieldType := fun k => match k with
  | 0 => .int
  | 1 => .int
  | 2 => .int
  | 3 => .int
  | 4 => .int
  | 5 => .array .int
  | 6 => .int
  | 7 => .int
  | 8 => .int
  | 9 => .int
  | 10 => .int
  | 11 => .int
  | 12 => .int
  | 13 => .int
  | 14 => .array .int
  | _ => .int
abbrev wsX10 : List Cond := u_ws RX1 TX1 16
theorem nmX1 : ∀ a, a < 16 → ∀ b, b < 16 → a ≠ b → (TX1 a).2.1 ≠ (TX1 b).2.1 := by decide +kernel
theorem tyX1_ok : ∀ k, k < 16 → parseFieldDescriptor (TX1 k).2.2.1 = some (tyX1 k) := by decide +kernel
abbrev cX1_init : ByteArray := prog_3_method_1_code
def yX1_init : MethodName := ⟨RX1, "<init>", "()V"⟩
abbrev cX1_begin : ByteArray := prog_3_method_2_code
def yX1_begin : MethodName := ⟨RX1, "begin", "()V"⟩
abbrev cX1_copyFrom : ByteArray := prog_3_method_3_code
def yX1_copyFrom : MethodName := ⟨RX1, "copyFrom", "(LCountWatch$Chart;)V"⟩
abbrev cX1_seasonDigit : ByteArray := prog_3_method_4_code
def yX1_seasonDigit : MethodName := ⟨RX1, "seasonDigit", "(I)I"⟩
abbrev cX1_expectationOn : ByteArray := prog_3_method_5_code
def yX1_expectationOn : MethodName := ⟨RX1, "expectationOn", "(I)I"⟩
abbrev cX1_expectation : ByteArray := prog_3_method_6_code
def yX1_expectation : MethodName := ⟨RX1, "expectation", "()I"⟩
abbrev cX1_addCount : ByteArray := prog_3_method_7_code
def yX1_addCount : MethodName := ⟨RX1, "addCount", "(I)I"⟩
abbrev cX1_ring : ByteArray := prog_3_method_8_code
def yX1_ring : MethodName := ⟨RX1, "ring", "(I)V"⟩
abbrev cX1_adapt : ByteArray := prog_3_method_9_code
def yX1_adapt : MethodName := ⟨RX1, "adapt", "(I)V"⟩
abbrev cX1_addCounts : ByteArray := prog_3_method_10_code
def yX1_addCounts : MethodName := ⟨RX1, "addCounts", "(II)V"⟩
abbrev cX1_addGap : ByteArray := prog_3_method_11_code
def yX1_addGap : MethodName := ⟨RX1, "addGap", "()V"⟩
abbrev cX1_append : ByteArray := prog_3_method_12_code
def yX1_append : MethodName := ⟨RX1, "append", "(I)V"⟩
abbrev cX1_remembers : ByteArray := prog_3_method_13_code
def yX1_remembers : MethodName := ⟨RX1, "remembers", "(I)Z"⟩
abbrev cX1_thingAt : ByteArray := prog_3_method_14_code
def yX1_thingAt : MethodName := ⟨RX1, "thingAt", "(I)I"⟩
abbrev cX1_dropSums : ByteArray := prog_3_method_15_code
def yX1_dropSums : MethodName := ⟨RX1, "dropSums", "()V"⟩
abbrev cX1_replay : ByteArray := prog_3_method_16_code
def yX1_replay : MethodName := ⟨RX1, "replay", "(II)I"⟩
abbrev cX1_allows : ByteArray := prog_3_method_17_code
def yX1_allows : MethodName := ⟨RX1, "allows", "(II)Z"⟩
abbrev cX1_parameter : ByteArray := prog_3_method_18_code
def yX1_parameter : MethodName := ⟨RX1, "parameter", "(I)I"⟩
abbrev cX1_change : ByteArray := prog_3_method_19_code
def yX1_change : MethodName := ⟨RX1, "change", "(II)V"⟩
abbrev cX1_property : ByteArray := prog_3_method_20_code
def yX1_property : MethodName := ⟨RX1, "property", "(I)I"⟩
def RX2 : String := "CountWatch$Charts"
def TX2 : u_T := fun k => match k with
  | 0 => ("CountWatch$Charts", "rows", "[LCountWatch$Chart;", true)
  | 1 => ("CountWatch$Charts", "size", "I", false)
  | _ => ("CountWatch$Charts", "chances", "I", false)
def tyX2 : Nat → FieldType := fun k => match k with
  | 0 => .array (.object "CountWatch$Chart")
  | 1 => .int
  | _ => .int
abbrev wsX20 : List Cond := u_ws RX2 TX2 3
theorem nmX2 : ∀ a, a < 3 → ∀ b, b < 3 → a ≠ b → (TX2 a).2.1 ≠ (TX2 b).2.1 := by decide +kernel
theorem tyX2_ok : ∀ k, k < 3 → parseFieldDescriptor (TX2 k).2.2.1 = some (tyX2 k) := by decide +kernel
abbrev cX2_init : ByteArray := prog_4_method_1_code
def yX2_init : MethodName := ⟨RX2, "<init>", "()V"⟩
abbrev cX2_copyFrom : ByteArray := prog_4_method_2_code
def yX2_copyFrom : MethodName := ⟨RX2, "copyFrom", "(LCountWatch$Charts;)V"⟩
abbrev cX2_at : ByteArray := prog_4_method_3_code
def yX2_at : MethodName := ⟨RX2, "at", "(I)LCountWatch$Chart;"⟩
abbrev cX2_alarmSum : ByteArray := prog_4_method_4_code
def yX2_alarmSum : MethodName := ⟨RX2, "alarmSum", "()I"⟩
abbrev cX2_sumOfUps : ByteArray := prog_4_method_5_code
def yX2_sumOfUps : MethodName := ⟨RX2, "sumOfUps", "(I)I"⟩
abbrev cX2_rankOf : ByteArray := prog_4_method_6_code
def yX2_rankOf : MethodName := ⟨RX2, "rankOf", "(I)I"⟩
abbrev cX2_precedes : ByteArray := prog_4_method_7_code
def yX2_precedes : MethodName := ⟨RX2, "precedes", "(II)Z"⟩
def RX3 : String := "CountWatch$RunLength"
def TX3 : u_T := fun k => match k with
  | 0 => ("CountWatch$RunLength", "rows", "[[J", true)
  | 1 => ("CountWatch$RunLength", "above", "J", false)
  | _ => ("CountWatch$RunLength", "below", "J", false)
def tyX3 : Nat → FieldType := fun k => match k with
  | 0 => .array (.array .long)
  | 1 => .long
  | _ => .long
abbrev wsX30 : List Cond := u_ws RX3 TX3 3
theorem nmX3 : ∀ a, a < 3 → ∀ b, b < 3 → a ≠ b → (TX3 a).2.1 ≠ (TX3 b).2.1 := by decide +kernel
theorem tyX3_ok : ∀ k, k < 3 → parseFieldDescriptor (TX3 k).2.2.1 = some (tyX3 k) := by decide +kernel
abbrev cX3_init : ByteArray := prog_5_method_1_code
def yX3_init : MethodName := ⟨RX3, "<init>", "()V"⟩
abbrev cX3_solve : ByteArray := prog_5_method_2_code
def yX3_solve : MethodName := ⟨RX3, "solve", "(III)Z"⟩
abbrev cX3_climbs : ByteArray := prog_5_method_3_code
def yX3_climbs : MethodName := ⟨RX3, "climbs", "(II)Z"⟩
abbrev cX3_chance : ByteArray := prog_5_method_4_code
def yX3_chance : MethodName := ⟨RX3, "chance", "(II)I"⟩
abbrev cX3_putEquation : ByteArray := prog_5_method_5_code
def yX3_putEquation : MethodName := ⟨RX3, "putEquation", "(IIII)V"⟩
abbrev cX3_eliminate : ByteArray := prog_5_method_6_code
def yX3_eliminate : MethodName := ⟨RX3, "eliminate", "(I)Z"⟩
def RX4 : String := "CountWatch$Sight"
def TX4 : u_T := fun k => match k with
  | 0 => ("CountWatch$Sight", "series", "I", false)
  | 1 => ("CountWatch$Sight", "n", "I", false)
  | 2 => ("CountWatch$Sight", "k", "I", false)
  | _ => ("CountWatch$Sight", "was", "Z", false)
def tyX4 : Nat → FieldType := fun k => match k with
  | 0 => .int
  | 1 => .int
  | 2 => .int
  | _ => .boolean
abbrev wsX40 : List Cond := u_ws RX4 TX4 4
theorem nmX4 : ∀ a, a < 4 → ∀ b, b < 4 → a ≠ b → (TX4 a).2.1 ≠ (TX4 b).2.1 := by decide +kernel
theorem tyX4_ok : ∀ k, k < 4 → parseFieldDescriptor (TX4 k).2.2.1 = some (tyX4 k) := by decide +kernel
abbrev cX4_init : ByteArray := prog_6_method_1_code
def yX4_init : MethodName := ⟨RX4, "<init>", "()V"⟩
def RX5 : String := "CountWatch$Text"
def TX5 : u_T := fun k => match k with
  | 0 => ("CountWatch$Text", "letters", "[I", true)
  | _ => ("CountWatch$Text", "size", "I", false)
def tyX5 : Nat → FieldType := fun k => match k with
  | 0 => .array .int
  | _ => .int
abbrev wsX50 : List Cond := u_ws RX5 TX5 2
theorem nmX5 : ∀ a, a < 2 → ∀ b, b < 2 → a ≠ b → (TX5 a).2.1 ≠ (TX5 b).2.1 := by decide +kernel
theorem tyX5_ok : ∀ k, k < 2 → parseFieldDescriptor (TX5 k).2.2.1 = some (tyX5 k) := by decide +kernel
abbrev cX5_init : ByteArray := prog_7_method_1_code
def yX5_init : MethodName := ⟨RX5, "<init>", "()V"⟩
abbrev cX5_append : ByteArray := prog_7_method_2_code
def yX5_append : MethodName := ⟨RX5, "append", "(I)Z"⟩
abbrev cX5_findFault : ByteArray := prog_7_method_3_code
def yX5_findFault : MethodName := ⟨RX5, "findFault", "()I"⟩
abbrev cX5_fits : ByteArray := prog_7_method_4_code
def yX5_fits : MethodName := ⟨RX5, "fits", "(III)Z"⟩
abbrev cX5_readInto : ByteArray := prog_7_method_5_code
def yX5_readInto : MethodName := ⟨RX5, "readInto", "(LCountWatch$Charts;)V"⟩
abbrev cX5_readSeries : ByteArray := prog_7_method_6_code
def yX5_readSeries : MethodName := ⟨RX5, "readSeries", "(ILCountWatch$Chart;)I"⟩
abbrev cX5_digit : ByteArray := prog_7_method_7_code
def yX5_digit : MethodName := ⟨RX5, "digit", "(I)I"⟩
abbrev cX5_stopsAt : ByteArray := prog_7_method_8_code
def yX5_stopsAt : MethodName := ⟨RX5, "stopsAt", "(I)Z"⟩
def RX6 : String := "CountWatch"
def TX6 : u_T := fun k => match k with
  | 0 => ("CountWatch", "text", "LCountWatch$Text;", true)
  | 1 => ("CountWatch", "now", "LCountWatch$Charts;", true)
  | 2 => ("CountWatch", "acts", "LCountWatch$Acts;", true)
  | 3 => ("CountWatch", "slots", "[LCountWatch$Charts;", true)
  | 4 => ("CountWatch", "kept", "[Z", true)
  | 5 => ("CountWatch", "sights", "[LCountWatch$Sight;", true)
  | 6 => ("CountWatch", "sightCount", "I", false)
  | 7 => ("CountWatch", "seedNow", "J", false)
  | 8 => ("CountWatch", "trial", "LCountWatch$Chart;", true)
  | 9 => ("CountWatch", "trials", "LCountWatch$Charts;", true)
  | _ => ("CountWatch", "runLength", "LCountWatch$RunLength;", true)
def tyX6 : Nat → FieldType := fun k => match k with
  | 0 => .object "CountWatch$Text"
  | 1 => .object "CountWatch$Charts"
  | 2 => .object "CountWatch$Acts"
  | 3 => .array (.object "CountWatch$Charts")
  | 4 => .array .boolean
  | 5 => .array (.object "CountWatch$Sight")
  | 6 => .int
  | 7 => .long
  | 8 => .object "CountWatch$Chart"
  | 9 => .object "CountWatch$Charts"
  | _ => .object "CountWatch$RunLength"
abbrev wsX60 : List Cond := u_ws RX6 TX6 11
theorem nmX6 : ∀ a, a < 11 → ∀ b, b < 11 → a ≠ b → (TX6 a).2.1 ≠ (TX6 b).2.1 := by decide +kernel
theorem tyX6_ok : ∀ k, k < 11 → parseFieldDescriptor (TX6 k).2.2.1 = some (tyX6 k) := by decide +kernel
abbrev cX6_init : ByteArray := prog_1_method_1_code
def yX6_init : MethodName := ⟨RX6, "<init>", "()V"⟩
abbrev cX6_write : ByteArray := prog_1_method_2_code
def yX6_write : MethodName := ⟨RX6, "write", "(I)I"⟩
abbrev cX6_wipe : ByteArray := prog_1_method_3_code
def yX6_wipe : MethodName := ⟨RX6, "wipe", "()I"⟩
abbrev cX6_fault : ByteArray := prog_1_method_4_code
def yX6_fault : MethodName := ⟨RX6, "fault", "()I"⟩
abbrev cX6_watch : ByteArray := prog_1_method_5_code
def yX6_watch : MethodName := ⟨RX6, "watch", "()I"⟩
abbrev cX6_series : ByteArray := prog_1_method_6_code
def yX6_series : MethodName := ⟨RX6, "series", "(II)I"⟩
abbrev cX6_past : ByteArray := prog_1_method_7_code
def yX6_past : MethodName := ⟨RX6, "past", "(II)I"⟩
abbrev cX6_tell : ByteArray := prog_1_method_8_code
def yX6_tell : MethodName := ⟨RX6, "tell", "(II)I"⟩
abbrev cX6_gap : ByteArray := prog_1_method_9_code
def yX6_gap : MethodName := ⟨RX6, "gap", "(I)I"⟩
abbrev cX6_clear : ByteArray := prog_1_method_10_code
def yX6_clear : MethodName := ⟨RX6, "clear", "(I)I"⟩
abbrev cX6_set : ByteArray := prog_1_method_11_code
def yX6_set : MethodName := ⟨RX6, "set", "(III)I"⟩
abbrev cX6_chances : ByteArray := prog_1_method_12_code
def yX6_chances : MethodName := ⟨RX6, "chances", "(I)I"⟩
abbrev cX6_undo : ByteArray := prog_1_method_13_code
def yX6_undo : MethodName := ⟨RX6, "undo", "()I"⟩
abbrev cX6_ahead : ByteArray := prog_1_method_14_code
def yX6_ahead : MethodName := ⟨RX6, "ahead", "(IIII)I"⟩
abbrev cX6_rings : ByteArray := prog_1_method_15_code
def yX6_rings : MethodName := ⟨RX6, "rings", "(II)I"⟩
abbrev cX6_least : ByteArray := prog_1_method_16_code
def yX6_least : MethodName := ⟨RX6, "least", "(II)I"⟩
abbrev cX6_firstAlarm : ByteArray := prog_1_method_17_code
def yX6_firstAlarm : MethodName := ⟨RX6, "firstAlarm", "(LCountWatch$Chart;II)I"⟩
abbrev cX6_length : ByteArray := prog_1_method_18_code
def yX6_length : MethodName := ⟨RX6, "length", "(IZ)J"⟩
abbrev cX6_would : ByteArray := prog_1_method_19_code
def yX6_would : MethodName := ⟨RX6, "would", "(III)I"⟩
abbrev cX6_ranked : ByteArray := prog_1_method_20_code
def yX6_ranked : MethodName := ⟨RX6, "ranked", "(I)I"⟩
abbrev cX6_judge : ByteArray := prog_1_method_21_code
def yX6_judge : MethodName := ⟨RX6, "judge", "(IJ)I"⟩
abbrev cX6_withoutDoings : ByteArray := prog_1_method_22_code
def yX6_withoutDoings : MethodName := ⟨RX6, "withoutDoings", "(JI)J"⟩
abbrev cX6_stands : ByteArray := prog_1_method_23_code
def yX6_stands : MethodName := ⟨RX6, "stands", "(I)Z"⟩
abbrev cX6_see : ByteArray := prog_1_method_24_code
def yX6_see : MethodName := ⟨RX6, "see", "(IIII)I"⟩
abbrev cX6_unsee : ByteArray := prog_1_method_25_code
def yX6_unsee : MethodName := ⟨RX6, "unsee", "()I"⟩
abbrev cX6_which : ByteArray := prog_1_method_26_code
def yX6_which : MethodName := ⟨RX6, "which", "()I"⟩
abbrev cX6_agreesWithAll : ByteArray := prog_1_method_27_code
def yX6_agreesWithAll : MethodName := ⟨RX6, "agreesWithAll", "(I)Z"⟩
abbrev cX6_agrees : ByteArray := prog_1_method_28_code
def yX6_agrees : MethodName := ⟨RX6, "agrees", "(LCountWatch$Sight;LCountWatch$Chart;I)Z"⟩
abbrev cX6_share : ByteArray := prog_1_method_29_code
def yX6_share : MethodName := ⟨RX6, "share", "(IIZ)I"⟩
abbrev cX6_lost : ByteArray := prog_1_method_30_code
def yX6_lost : MethodName := ⟨RX6, "lost", "(IIIIZ)I"⟩
abbrev cX6_alarmsWithGaps : ByteArray := prog_1_method_31_code
def yX6_alarmsWithGaps : MethodName := ⟨RX6, "alarmsWithGaps", "(LCountWatch$Chart;III)Z"⟩
abbrev cX6_weight : ByteArray := prog_1_method_32_code
def yX6_weight : MethodName := ⟨RX6, "weight", "(III)J"⟩
abbrev cX6_seed : ByteArray := prog_1_method_33_code
def yX6_seed : MethodName := ⟨RX6, "seed", "(J)J"⟩
abbrev cX6_drawn : ByteArray := prog_1_method_34_code
def yX6_drawn : MethodName := ⟨RX6, "drawn", "(I)I"⟩
abbrev cX6_keep : ByteArray := prog_1_method_35_code
def yX6_keep : MethodName := ⟨RX6, "keep", "(I)I"⟩
abbrev cX6_again : ByteArray := prog_1_method_36_code
def yX6_again : MethodName := ⟨RX6, "again", "(I)I"⟩
abbrev cX6_count : ByteArray := prog_1_method_37_code
def yX6_count : MethodName := ⟨RX6, "count", "(I)I"⟩
abbrev cX6_within : ByteArray := prog_1_method_38_code
def yX6_within : MethodName := ⟨RX6, "within", "(III)Z"⟩
abbrev cX6_digitSum : ByteArray := prog_1_method_39_code
def yX6_digitSum : MethodName := ⟨RX6, "digitSum", "(I)I"⟩
abbrev cX6_factorial : ByteArray := prog_1_method_40_code
def yX6_factorial : MethodName := ⟨RX6, "factorial", "(I)J"⟩
abbrev cX6_lowest : ByteArray := prog_1_method_41_code
def yX6_lowest : MethodName := ⟨RX6, "lowest", "(JJZ)J"⟩
abbrev cX6_commonDivisor : ByteArray := prog_1_method_42_code
def yX6_commonDivisor : MethodName := ⟨RX6, "commonDivisor", "(JJ)J"⟩
def RX7 : String := "CountWatchModel"
def TX7 : u_T := fun k => match k with
  | 0 => ("CountWatchModel", "thrown", "I", false)
  | 1 => ("CountWatchModel", "text", "[I", true)
  | 2 => ("CountWatchModel", "textSize", "I", false)
  | 3 => ("CountWatchModel", "place", "I", false)
  | 4 => ("CountWatchModel", "many", "I", false)
  | 5 => ("CountWatchModel", "base", "[I", true)
  | 6 => ("CountWatchModel", "season", "[I", true)
  | 7 => ("CountWatchModel", "seasonMany", "[I", true)
  | 8 => ("CountWatchModel", "readMany", "I", false)
  | 9 => ("CountWatchModel", "readBase", "[I", true)
  | 10 => ("CountWatchModel", "readSeason", "[I", true)
  | 11 => ("CountWatchModel", "readSeasonMany", "[I", true)
  | 12 => ("CountWatchModel", "readPage", "[I", true)
  | 13 => ("CountWatchModel", "page", "[I", true)
  | 14 => ("CountWatchModel", "trial", "[I", true)
  | 15 => ("CountWatchModel", "book", "[I", true)
  | 16 => ("CountWatchModel", "doings", "I", false)
  | 17 => ("CountWatchModel", "kept", "[I", true)
  | 18 => ("CountWatchModel", "isKept", "[Z", true)
  | 19 => ("CountWatchModel", "seen", "I", false)
  | 20 => ("CountWatchModel", "seenSeries", "[I", true)
  | 21 => ("CountWatchModel", "seenTimes", "[I", true)
  | 22 => ("CountWatchModel", "seenMore", "[I", true)
  | 23 => ("CountWatchModel", "seenWas", "[I", true)
  | 24 => ("CountWatchModel", "seed", "J", false)
  | _ => ("CountWatchModel", "square", "[J", true)
def tyX7 : Nat → FieldType := fun k => match k with
  | 0 => .int
  | 1 => .array .int
  | 2 => .int
  | 3 => .int
  | 4 => .int
  | 5 => .array .int
  | 6 => .array .int
  | 7 => .array .int
  | 8 => .int
  | 9 => .array .int
  | 10 => .array .int
  | 11 => .array .int
  | 12 => .array .int
  | 13 => .array .int
  | 14 => .array .int
  | 15 => .array .int
  | 16 => .int
  | 17 => .array .int
  | 18 => .array .boolean
  | 19 => .int
  | 20 => .array .int
  | 21 => .array .int
  | 22 => .array .int
  | 23 => .array .int
  | 24 => .long
  | _ => .array .long
abbrev wsX70 : List Cond := u_ws RX7 TX7 26
theorem nmX7 : ∀ a, a < 26 → ∀ b, b < 26 → a ≠ b → (TX7 a).2.1 ≠ (TX7 b).2.1 := by decide +kernel
theorem tyX7_ok : ∀ k, k < 26 → parseFieldDescriptor (TX7 k).2.2.1 = some (tyX7 k) := by decide +kernel
abbrev cX7_init : ByteArray := prog_9_method_1_code
def yX7_init : MethodName := ⟨RX7, "<init>", "()V"⟩
abbrev cX7_in : ByteArray := prog_9_method_3_code
def yX7_in : MethodName := ⟨RX7, "in", "(JJJ)Z"⟩
abbrev cX7_has : ByteArray := prog_9_method_4_code
def yX7_has : MethodName := ⟨RX7, "has", "(II)Z"⟩
abbrev cX7_ones : ByteArray := prog_9_method_5_code
def yX7_ones : MethodName := ⟨RX7, "ones", "(I)I"⟩
abbrev cX7_power : ByteArray := prog_9_method_6_code
def yX7_power : MethodName := ⟨RX7, "power", "(II)I"⟩
abbrev cX7_layTrial : ByteArray := prog_9_method_7_code
def yX7_layTrial : MethodName := ⟨RX7, "layTrial", "()V"⟩
abbrev cX7_noSeries : ByteArray := prog_9_method_8_code
def yX7_noSeries : MethodName := ⟨RX7, "noSeries", "(I)Z"⟩
abbrev cX7_write : ByteArray := prog_9_method_9_code
def yX7_write : MethodName := ⟨RX7, "write", "(I)I"⟩
abbrev cX7_wipe : ByteArray := prog_9_method_10_code
def yX7_wipe : MethodName := ⟨RX7, "wipe", "()I"⟩
abbrev cX7_figure : ByteArray := prog_9_method_11_code
def yX7_figure : MethodName := ⟨RX7, "figure", "(II)I"⟩
abbrev cX7_two : ByteArray := prog_9_method_12_code
def yX7_two : MethodName := ⟨RX7, "two", "(I)I"⟩
abbrev cX7_readSeries : ByteArray := prog_9_method_13_code
def yX7_readSeries : MethodName := ⟨RX7, "readSeries", "()Z"⟩
abbrev cX7_readWatch : ByteArray := prog_9_method_14_code
def yX7_readWatch : MethodName := ⟨RX7, "readWatch", "()I"⟩
abbrev cX7_fault : ByteArray := prog_9_method_15_code
def yX7_fault : MethodName := ⟨RX7, "fault", "()I"⟩
abbrev cX7_watch : ByteArray := prog_9_method_16_code
def yX7_watch : MethodName := ⟨RX7, "watch", "()I"⟩
abbrev cX7_figureOf : ByteArray := prog_9_method_17_code
def yX7_figureOf : MethodName := ⟨RX7, "figureOf", "(II)I"⟩
abbrev cX7_expected : ByteArray := prog_9_method_18_code
def yX7_expected : MethodName := ⟨RX7, "expected", "([II)I"⟩
abbrev cX7_comes : ByteArray := prog_9_method_19_code
def yX7_comes : MethodName := ⟨RX7, "comes", "([III)V"⟩
abbrev cX7_moves : ByteArray := prog_9_method_20_code
def yX7_moves : MethodName := ⟨RX7, "moves", "([III)V"⟩
abbrev cX7_over : ByteArray := prog_9_method_21_code
def yX7_over : MethodName := ⟨RX7, "over", "(I)I"⟩
abbrev cX7_countOn : ByteArray := prog_9_method_22_code
def yX7_countOn : MethodName := ⟨RX7, "countOn", "([III)I"⟩
abbrev cX7_allAlarms : ByteArray := prog_9_method_23_code
def yX7_allAlarms : MethodName := ⟨RX7, "allAlarms", "()I"⟩
abbrev cX7_tellOf : ByteArray := prog_9_method_24_code
def yX7_tellOf : MethodName := ⟨RX7, "tellOf", "([III)I"⟩
abbrev cX7_series : ByteArray := prog_9_method_25_code
def yX7_series : MethodName := ⟨RX7, "series", "(II)I"⟩
abbrev cX7_past : ByteArray := prog_9_method_26_code
def yX7_past : MethodName := ⟨RX7, "past", "(II)I"⟩
abbrev cX7_note : ByteArray := prog_9_method_27_code
def yX7_note : MethodName := ⟨RX7, "note", "()V"⟩
abbrev cX7_tell : ByteArray := prog_9_method_28_code
def yX7_tell : MethodName := ⟨RX7, "tell", "(II)I"⟩
abbrev cX7_gap : ByteArray := prog_9_method_29_code
def yX7_gap : MethodName := ⟨RX7, "gap", "(I)I"⟩
abbrev cX7_clear : ByteArray := prog_9_method_30_code
def yX7_clear : MethodName := ⟨RX7, "clear", "(I)I"⟩
abbrev cX7_set : ByteArray := prog_9_method_31_code
def yX7_set : MethodName := ⟨RX7, "set", "(III)I"⟩
abbrev cX7_chances : ByteArray := prog_9_method_32_code
def yX7_chances : MethodName := ⟨RX7, "chances", "(I)I"⟩
abbrev cX7_undo : ByteArray := prog_9_method_33_code
def yX7_undo : MethodName := ⟨RX7, "undo", "()I"⟩
abbrev cX7_ahead : ByteArray := prog_9_method_34_code
def yX7_ahead : MethodName := ⟨RX7, "ahead", "(IIII)I"⟩
abbrev cX7_ringsBy : ByteArray := prog_9_method_35_code
def yX7_ringsBy : MethodName := ⟨RX7, "ringsBy", "(II)I"⟩
abbrev cX7_rings : ByteArray := prog_9_method_36_code
def yX7_rings : MethodName := ⟨RX7, "rings", "(II)I"⟩
abbrev cX7_least : ByteArray := prog_9_method_37_code
def yX7_least : MethodName := ⟨RX7, "least", "(II)I"⟩
abbrev cX7_chanceOf : ByteArray := prog_9_method_38_code
def yX7_chanceOf : MethodName := ⟨RX7, "chanceOf", "(I)I"⟩
abbrev cX7_laySquare : ByteArray := prog_9_method_39_code
def yX7_laySquare : MethodName := ⟨RX7, "laySquare", "(II)V"⟩
abbrev cX7_changeRows : ByteArray := prog_9_method_40_code
def yX7_changeRows : MethodName := ⟨RX7, "changeRows", "(II)V"⟩
abbrev cX7_clearSquare : ByteArray := prog_9_method_41_code
def yX7_clearSquare : MethodName := ⟨RX7, "clearSquare", "(I)V"⟩
abbrev cX7_longDivisor : ByteArray := prog_9_method_42_code
def yX7_longDivisor : MethodName := ⟨RX7, "longDivisor", "(JJ)J"⟩
abbrev cX7_length : ByteArray := prog_9_method_43_code
def yX7_length : MethodName := ⟨RX7, "length", "(IZ)J"⟩
abbrev cX7_would : ByteArray := prog_9_method_44_code
def yX7_would : MethodName := ⟨RX7, "would", "(III)I"⟩
abbrev cX7_nearOf : ByteArray := prog_9_method_45_code
def yX7_nearOf : MethodName := ⟨RX7, "nearOf", "(I)I"⟩
abbrev cX7_ranked : ByteArray := prog_9_method_46_code
def yX7_ranked : MethodName := ⟨RX7, "ranked", "(I)I"⟩
abbrev cX7_does : ByteArray := prog_9_method_47_code
def yX7_does : MethodName := ⟨RX7, "does", "(III)Z"⟩
abbrev cX7_longPower : ByteArray := prog_9_method_48_code
def yX7_longPower : MethodName := ⟨RX7, "longPower", "(JI)J"⟩
abbrev cX7_judge : ByteArray := prog_9_method_49_code
def yX7_judge : MethodName := ⟨RX7, "judge", "(IJ)I"⟩
abbrev cX7_see : ByteArray := prog_9_method_50_code
def yX7_see : MethodName := ⟨RX7, "see", "(IIII)I"⟩
abbrev cX7_unsee : ByteArray := prog_9_method_51_code
def yX7_unsee : MethodName := ⟨RX7, "unsee", "()I"⟩
abbrev cX7_isSo : ByteArray := prog_9_method_52_code
def yX7_isSo : MethodName := ⟨RX7, "isSo", "(II)Z"⟩
abbrev cX7_which : ByteArray := prog_9_method_53_code
def yX7_which : MethodName := ⟨RX7, "which", "()I"⟩
abbrev cX7_fraction : ByteArray := prog_9_method_54_code
def yX7_fraction : MethodName := ⟨RX7, "fraction", "(IIZ)I"⟩
abbrev cX7_factorial : ByteArray := prog_9_method_55_code
def yX7_factorial : MethodName := ⟨RX7, "factorial", "(I)I"⟩
abbrev cX7_share : ByteArray := prog_9_method_56_code
def yX7_share : MethodName := ⟨RX7, "share", "(IIZ)I"⟩
abbrev cX7_lost : ByteArray := prog_9_method_57_code
def yX7_lost : MethodName := ⟨RX7, "lost", "(IIIIZ)I"⟩
abbrev cX7_seed : ByteArray := prog_9_method_58_code
def yX7_seed : MethodName := ⟨RX7, "seed", "(J)J"⟩
abbrev cX7_drawn : ByteArray := prog_9_method_59_code
def yX7_drawn : MethodName := ⟨RX7, "drawn", "(I)I"⟩
abbrev cX7_keep : ByteArray := prog_9_method_60_code
def yX7_keep : MethodName := ⟨RX7, "keep", "(I)I"⟩
abbrev cX7_again : ByteArray := prog_9_method_61_code
def yX7_again : MethodName := ⟨RX7, "again", "(I)I"⟩
abbrev cX7_count : ByteArray := prog_9_method_62_code
def yX7_count : MethodName := ⟨RX7, "count", "(I)I"⟩
def RJ6 : String := "java/lang/Integer"
abbrev cJ6_bitCount_0f7a4 : ByteArray := prog_10_method_49_code
def yJ6_bitCount_0f7a4 : MethodName := ⟨RJ6, "bitCount", "(I)I"⟩
def RJ9 : String := "java/lang/Math"
abbrev cJ9_max_7cf53 : ByteArray := prog_11_method_65_code
def yJ9_max_7cf53 : MethodName := ⟨RJ9, "max", "(II)I"⟩
abbrev cJ9_min_7cf53 : ByteArray := prog_11_method_69_code
def yJ9_min_7cf53 : MethodName := ⟨RJ9, "min", "(II)I"⟩
def RJ10 : String := "java/lang/System"
def RL : String := "CountWatchLaw"
abbrev cL_law : ByteArray := code
def yL_law : MethodName := ⟨RL, "law", "([I)Z"⟩
end
section
/-! THE MACHINE SEEN AS A PREDICATE TRANSFORMER: values and cells by logical numbers; the cells' shape is fixed (mv_lay, mv_rf), their whole numbers are two functions I and J. mv_step: what one instruction asks; mv_V: the least predicate closed under it. Nothing here speaks of the launch. -/
abbrev mv_I : Type := Nat → Nat → Int32
abbrev mv_J : Type := Nat → Nat → Int64
abbrev mv_L : Type := List (Nat × Value)
abbrev mv_G : Type := va_G × (Nat → Nat) × (Nat → ClassId)
abbrev mv_E : Type := Nat × Instr × Nat × Int32 × Int64 × Nat × Nat
abbrev mv_e (pc : Nat) (i : Instr) (nx a b : Nat) : mv_E := (pc, i, nx, 0, 0, a, b)
abbrev mv_ev (pc : Nat) (i : Instr) (nx : Nat) (v : Int32) (a : Nat) : mv_E := (pc, i, nx, v, 0, a, 0)
abbrev mv_ew (pc : Nat) (i : Instr) (nx : Nat) (w : Int64) : mv_E := (pc, i, nx, 0, w, 0, 0)
/-- a method: name, bytes, locals, answer, its class, how many values a call takes, frames, words -/
abbrev mv_M : Type := MethodName × ByteArray × Nat × Option FieldType × Nat × Nat × Nat × Nat
abbrev mv_SP : Type := (List Value → mv_I → mv_J → Prop) × (List Value → mv_I → mv_J → Option Value → mv_I → mv_J → Prop)
abbrev mv_X : Type := Nat → mv_L → List Value → mv_I → mv_J → Prop
abbrev mv_K : Type := Option Value → mv_I → mv_J → Prop
-- the cells: 1 an object of a class, 2 int row, 3 boolean row, 4 long row, 5 row of objects, 6 row of long rows; 0 none
def mv_small : List (Nat × Nat × Nat) := [(1, 6, 0), (1, 5, 0), (2, 80, 0), (1, 0, 0), (5, 14, 2), (5, 2, 2), (3, 2, 0), (5, 6, 4), (1, 4, 0), (1, 4, 0), (1, 4, 0), (1, 4, 0), (1, 4, 0), (1, 4, 0), (1, 3, 0), (6, 6, 0), (4, 7, 0), (4, 7, 0), (4, 7, 0), (4, 7, 0), (4, 7, 0), (4, 7, 0), (0, 0, 0), (0, 0, 0), (0, 0, 0), (0, 0, 0), (0, 0, 0), (0, 0, 0), (0, 0, 0), (0, 0, 0), (1, 7, 0), (2, 80, 0), (2, 5, 0), (2, 25, 0), (2, 5, 0), (2, 5, 0), (2, 25, 0), (2, 5, 0), (2, 121, 0), (2, 121, 0), (2, 121, 0), (2, 1694, 0), (2, 242, 0), (3, 2, 0), (2, 6, 0), (2, 6, 0), (2, 6, 0), (2, 6, 0), (4, 42, 0)]
def mv_lay (k : Nat) : Nat × Nat × Nat := match Nat.blt k 49 with
  | true => mv_small.getD k (0, 0, 0)
  | false => match Nat.ble 100 k && Nat.blt k 373 with
    | true => (match (k - 100) % 3 with | 0 => (1, 1, 0) | 1 => (2, 5, 0) | _ => (2, 12, 0))
    | false => match Nat.ble 400 k && Nat.blt k 436 with
      | true => (match k % 2 with | 0 => (1, 2, 0) | _ => (5, 5, 1))
      | false => (0, 0, 0)
/-- the series c (0 to 89: five in each of the eighteen groups; 90: the trial), its season, its past -/
abbrev mv_ch (c : Nat) : Nat := 100 + 3 * c
/-- the group g: 0 now, 1 to 14 before, 15 and 16 slots, 17 trials -/
abbrev mv_gr (g : Nat) : Nat := 400 + 2 * g
def mv_rf0 : List (Option Nat) := [some 1, some 400, some 3, some 5, some 6, some 7, none, none, some 370, some 434, some 14]
def mv_rf30 : List (Option Nat) := [none, some 31, none, none, none, some 32, some 33, some 34, none, some 35, some 36, some 37, some 38, some 39, some 40, some 41, none, some 42, some 43, none, some 44, some 45, some 46, some 47, none, some 48]
/-- the references: the field j of the cell k, the place j of the row k -/
def mv_rf (k j : Nat) : Option Nat := match Nat.blt k 49 with
  | true => (match k with
    | 0 => mv_rf0.getD j none
    | 1 => (match j with | 0 => some 2 | _ => none)
    | 3 => (match j with | 0 => some 4 | _ => none)
    | 4 => (match Nat.blt j 14 with | true => some (402 + 2 * j) | false => none)
    | 5 => (match Nat.blt j 2 with | true => some (430 + 2 * j) | false => none)
    | 7 => (match Nat.blt j 6 with | true => some (8 + j) | false => none)
    | 14 => (match j with | 0 => some 15 | _ => none)
    | 15 => (match Nat.blt j 6 with | true => some (16 + j) | false => none)
    | 30 => mv_rf30.getD j none
    | _ => none)
  | false => match Nat.blt k 400 with
    | true => (match (k - 100) % 3 with | 0 => (match j with | 5 => some (k + 1) | 14 => some (k + 2) | _ => none) | _ => none)
    | false => (match k % 2 with | 0 => (match j with | 0 => some (k + 1) | _ => none) | _ => (match Nat.blt j 5 with | true => some (100 + 15 * ((k - 401) / 2) + 3 * j) | false => none))
-- the classes: the field's kind 0 int, 1 boolean, 2 long, 3 reference
def mv_cl : List vw_C := [(RX0, TX0, 3), (RX1, TX1, 16), (RX2, TX2, 3), (RX3, TX3, 3), (RX4, TX4, 4), (RX5, TX5, 2), (RX6, TX6, 11), (RX7, TX7, 26)]
def mv_fts : List (List Nat) := [[3, 0, 0], [0, 0, 0, 0, 0, 3, 0, 0, 0, 0, 0, 0, 0, 0, 3, 0], [3, 0, 0], [3, 2, 2], [0, 0, 0, 1], [3, 0], [3, 3, 3, 3, 3, 3, 0, 2, 3, 3, 3], [0, 3, 0, 0, 0, 3, 3, 3, 0, 3, 3, 3, 3, 3, 3, 3, 0, 3, 3, 0, 3, 3, 3, 3, 2, 3]]
def mv_ft (c j : Nat) : Nat := (mv_fts.getD c []).getD j 0
def mv_nf (c : Nat) : Nat := (mv_fts.getD c []).length
def mv_si (I : mv_I) (k j : Nat) (x : Int32) : mv_I := fun a b => if a = k ∧ b = j then x else I a b
def mv_sj (J : mv_J) (k j : Nat) (x : Int64) : mv_J := fun a b => if a = k ∧ b = j then x else J a b
def mv_sr (I : mv_I) (k : Nat) (f : Nat → Int32) : mv_I := fun a => if a = k then f else I a
-- values seen from outside
def mv_z (ad : Nat → Nat) : Value → Value
  | .ref k => .ref (ad k)
  | v => v
def mv_fv (ad : Nat → Nat) (I : mv_I) (J : mv_J) (k c j : Nat) : Value := match mv_ft c j with
  | 2 => .long (J k j)
  | 3 => va_rf ((mv_rf k j).map ad)
  | _ => .int (I k j)
def mv_cell (G : mv_G) (I : mv_I) (J : mv_J) (k : Nat) : va_E := match mv_lay k with
  | (1, c, _) => .inr (c, (List.range (mv_nf c)).map (mv_fv G.2.1 I J k c))
  | (2, n, _) => .inl (G.2.2 0, (n, .inl (I k)))
  | (3, n, _) => .inl (G.2.2 1, (n, .inl (I k)))
  | (4, n, _) => .inl (G.2.2 2, (n, .inr (.inl (J k))))
  | (5, n, t) => .inl (G.2.2 (10 + t), (n, .inr (.inr (.inr (.inr (fun i => (mv_rf k i).map G.2.1))))))
  | (_, n, _) => .inl (G.2.2 3, (n, .inr (.inr (.inr (.inr (fun i => (mv_rf k i).map G.2.1))))))
def mv_ids : List Nat := (List.range 440).filter (fun k => (mv_lay k).1 != 0)
def mv_ws (G : mv_G) (I : mv_I) (J : mv_J) : va_W := mv_ids.map (fun k => (G.2.1 k, mv_cell G I J k))
def mv_tys (G : mv_G) : List (ClassId × FieldType) := [(G.2.2 0, .int), (G.2.2 1, .boolean), (G.2.2 2, .long), (G.2.2 11, .object RX1), (G.2.2 12, .object RX2), (G.2.2 14, .object RX4), (G.2.2 3, .array .long)]
-- locals
def mv_lget : mv_L → Nat → Option Value
  | [], _ => none
  | (j, v) :: r, i => match Nat.beq i j with
    | true => some v
    | false => mv_lget r i
def mv_ins : mv_L → Nat → Value → mv_L
  | [], i, v => [(i, v)]
  | (j, w) :: r, i, v => match Nat.blt j i with
    | true => (j, w) :: mv_ins r i v
    | false => (i, v) :: (j, w) :: r
def mv_set1 (l : mv_L) (i : Nat) (v : Value) : mv_L := mv_ins (l.filter (fun q => !(q.1 == i) && !(q.1 + 1 == i && q.2.category == 2))) i v
def mv_set2 (l : mv_L) (i : Nat) (v : Value) : mv_L := mv_ins (l.filter (fun q => !(q.1 == i) && (!(q.1 == i + 1) && !(q.1 + 1 == i && q.2.category == 2)))) i v
def mv_gi (l : mv_L) (i : Nat) (k : Int32 → Prop) : Prop := match mv_lget l i with
  | some (.int x) => k x
  | _ => False
def mv_gl (l : mv_L) (i : Nat) (k : Int64 → Prop) : Prop := match mv_lget l i with
  | some (.long x) => k x
  | _ => False
def mv_ga (l : mv_L) (i : Nat) (k : Value → Prop) : Prop := match mv_lget l i with
  | some (.ref x) => k (.ref x)
  | some .null => k .null
  | _ => False
-- the stack
def mv_i1 (st : List Value) (k : Int32 → List Value → Prop) : Prop := match st with
  | .int x :: r => k x r
  | _ => False
def mv_i2 (st : List Value) (k : Int32 → Int32 → List Value → Prop) : Prop := match st with
  | .int y :: .int x :: r => k x y r
  | _ => False
def mv_l1 (st : List Value) (k : Int64 → List Value → Prop) : Prop := match st with
  | .long x :: r => k x r
  | _ => False
def mv_l2 (st : List Value) (k : Int64 → Int64 → List Value → Prop) : Prop := match st with
  | .long y :: .long x :: r => k x y r
  | _ => False
def mv_li (st : List Value) (k : Int64 → Int32 → List Value → Prop) : Prop := match st with
  | .int y :: .long x :: r => k x y r
  | _ => False
def mv_a1 (st : List Value) (k : Nat → List Value → Prop) : Prop := match st with
  | .ref o :: r => k o r
  | _ => False
def mv_ai (st : List Value) (k : Nat → Int32 → List Value → Prop) : Prop := match st with
  | .int i :: .ref o :: r => k o i r
  | _ => False
def mv_aii (st : List Value) (k : Nat → Int32 → Int32 → List Value → Prop) : Prop := match st with
  | .int x :: .int i :: .ref o :: r => k o i x r
  | _ => False
def mv_ail (st : List Value) (k : Nat → Int32 → Int64 → List Value → Prop) : Prop := match st with
  | .long x :: .int i :: .ref o :: r => k o i x r
  | _ => False
def mv_pi (st : List Value) (k : Nat → Int32 → List Value → Prop) : Prop := match st with
  | .int x :: .ref o :: r => k o x r
  | _ => False
def mv_pl (st : List Value) (k : Nat → Int64 → List Value → Prop) : Prop := match st with
  | .long x :: .ref o :: r => k o x r
  | _ => False
def mv_cpy (st : List Value) (k : Nat → Int32 → Nat → Int32 → Int32 → List Value → Prop) : Prop := match st with
  | .int n :: .int dp :: .ref d :: .int sp :: .ref o :: r => k o sp d dp n r
  | _ => False
def mv_sw : List (Int32 × Nat) → Int32 → (Nat → Prop) → Prop → Prop
  | [], _, _, d => d
  | (c, t) :: l, x, k, d => (x = c → k t) ∧ (¬ x = c → mv_sw l x k d)
def mv_cat1 : Value → Bool
  | .int _ => true
  | .ref _ => true
  | .null => true
  | _ => false
def mv_sum (st : List Value) : Nat := (st.map fun v => v.category).sum
def mv_okc (b : Nat) (st : List Value) : Bool := Nat.ble b st.length && Nat.ble (mv_sum (st.drop b)) 8
/-- one instruction; k: the class of the receiver of a call (9: none); xs of the script: I 999, its length: I 998 0 -/
def mv_step (ow : Nat → Nat) (sw : Nat → List (Int32 × Nat)) (cs : Nat → mv_SP) (K : mv_K) (X : mv_X) (e : mv_E) (lv : mv_L) (st : List Value) (I : mv_I) (J : mv_J) : Prop :=
  match e with
  | (_, ins, nx, v, w, a, b) => match ins with
    | .iconst _ => X nx lv (.int v :: st) I J
    | .bipush _ => X nx lv (.int v :: st) I J
    | .sipush _ => X nx lv (.int v :: st) I J
    | .ldc _ => X nx lv (.int v :: st) I J
    | .ldc_w _ => X nx lv (.int v :: st) I J
    | .lconst _ => X nx lv (.long w :: st) I J
    | .ldc2_w _ => X nx lv (.long w :: st) I J
    | .aconst_null => X nx lv (.null :: st) I J
    | .iload _ => mv_gi lv a (fun x => X nx lv (.int x :: st) I J)
    | .iload_n _ => mv_gi lv a (fun x => X nx lv (.int x :: st) I J)
    | .lload _ => mv_gl lv a (fun x => X nx lv (.long x :: st) I J)
    | .lload_n _ => mv_gl lv a (fun x => X nx lv (.long x :: st) I J)
    | .aload _ => mv_ga lv a (fun x => X nx lv (x :: st) I J)
    | .aload_n _ => mv_ga lv a (fun x => X nx lv (x :: st) I J)
    | .istore _ => mv_i1 st (fun x r => X nx (mv_set1 lv a (.int x)) r I J)
    | .istore_n _ => mv_i1 st (fun x r => X nx (mv_set1 lv a (.int x)) r I J)
    | .lstore _ => mv_l1 st (fun x r => X nx (mv_set2 lv a (.long x)) r I J)
    | .lstore_n _ => mv_l1 st (fun x r => X nx (mv_set2 lv a (.long x)) r I J)
    | .astore _ => (match st with
      | .ref o :: r => X nx (mv_set1 lv a (.ref o)) r I J
      | .null :: r => X nx (mv_set1 lv a .null) r I J
      | _ => False)
    | .astore_n _ => (match st with
      | .ref o :: r => X nx (mv_set1 lv a (.ref o)) r I J
      | .null :: r => X nx (mv_set1 lv a .null) r I J
      | _ => False)
    | .iinc _ _ => mv_gi lv a (fun x => X nx (mv_set1 lv a (.int (x + v))) st I J)
    | .iadd => mv_i2 st (fun x y r => X nx lv (.int (x + y) :: r) I J)
    | .isub => mv_i2 st (fun x y r => X nx lv (.int (x - y) :: r) I J)
    | .imul => mv_i2 st (fun x y r => X nx lv (.int (x * y) :: r) I J)
    | .iand => mv_i2 st (fun x y r => X nx lv (.int (x &&& y) :: r) I J)
    | .ior => mv_i2 st (fun x y r => X nx lv (.int (x ||| y) :: r) I J)
    | .idiv => mv_i2 st (fun x y r => ¬ y = 0 ∧ X nx lv (.int (x / y) :: r) I J)
    | .irem => mv_i2 st (fun x y r => ¬ y = 0 ∧ X nx lv (.int (x - x / y * y) :: r) I J)
    | .ishl => mv_i2 st (fun x y r => X nx lv (.int (x <<< (y &&& 31)) :: r) I J)
    | .ishr => mv_i2 st (fun x y r => X nx lv (.int (x >>> (y &&& 31)) :: r) I J)
    | .iushr => mv_i2 st (fun x y r => X nx lv (.int ((x.toUInt32 >>> (y.toUInt32 &&& Int32.toUInt32 31)).toInt32) :: r) I J)
    | .ladd => mv_l2 st (fun x y r => X nx lv (.long (x + y) :: r) I J)
    | .lsub => mv_l2 st (fun x y r => X nx lv (.long (x - y) :: r) I J)
    | .lmul => mv_l2 st (fun x y r => X nx lv (.long (x * y) :: r) I J)
    | .land => mv_l2 st (fun x y r => X nx lv (.long (x &&& y) :: r) I J)
    | .lor => mv_l2 st (fun x y r => X nx lv (.long (x ||| y) :: r) I J)
    | .ldiv => mv_l2 st (fun x y r => ¬ y = 0 ∧ X nx lv (.long (x / y) :: r) I J)
    | .lrem => mv_l2 st (fun x y r => ¬ y = 0 ∧ X nx lv (.long (x - x / y * y) :: r) I J)
    | .lneg => mv_l1 st (fun x r => X nx lv (.long (-x) :: r) I J)
    | .lcmp => mv_l2 st (fun x y r => X nx lv (.int (lg_cmp x y) :: r) I J)
    | .lshl => mv_li st (fun x y r => X nx lv (.long (x <<< (y.toInt64 &&& 63)) :: r) I J)
    | .lushr => mv_li st (fun x y r => X nx lv (.long ((x.toUInt64 >>> (y.toInt64.toUInt64 &&& Int64.toUInt64 63)).toInt64) :: r) I J)
    | .i2l => mv_i1 st (fun x r => X nx lv (.long x.toInt64 :: r) I J)
    | .l2i => mv_l1 st (fun x r => X nx lv (.int x.toInt32 :: r) I J)
    | .dup => (match st with
      | x :: r => mv_cat1 x = true ∧ X nx lv (x :: x :: r) I J
      | _ => False)
    | .dup2 => (match st with
      | .long x :: r => X nx lv (.long x :: .long x :: r) I J
      | .int x :: .ref o :: r => X nx lv (.int x :: .ref o :: .int x :: .ref o :: r) I J
      | _ => False)
    | .pop => (match st with
      | x :: r => mv_cat1 x = true ∧ X nx lv r I J
      | _ => False)
    | .ifCond .eq _ => mv_i1 st (fun x r => (x = 0 → X a lv r I J) ∧ (¬ x = 0 → X nx lv r I J))
    | .ifCond .ne _ => mv_i1 st (fun x r => (¬ x = 0 → X a lv r I J) ∧ (x = 0 → X nx lv r I J))
    | .ifCond .lt _ => mv_i1 st (fun x r => (x < 0 → X a lv r I J) ∧ (¬ x < 0 → X nx lv r I J))
    | .ifCond .ge _ => mv_i1 st (fun x r => (¬ x < 0 → X a lv r I J) ∧ (x < 0 → X nx lv r I J))
    | .ifCond .gt _ => mv_i1 st (fun x r => (0 < x → X a lv r I J) ∧ (¬ 0 < x → X nx lv r I J))
    | .ifCond .le _ => mv_i1 st (fun x r => (¬ 0 < x → X a lv r I J) ∧ (0 < x → X nx lv r I J))
    | .if_icmp .eq _ => mv_i2 st (fun x y r => (x = y → X a lv r I J) ∧ (¬ x = y → X nx lv r I J))
    | .if_icmp .ne _ => mv_i2 st (fun x y r => (¬ x = y → X a lv r I J) ∧ (x = y → X nx lv r I J))
    | .if_icmp .lt _ => mv_i2 st (fun x y r => (x < y → X a lv r I J) ∧ (¬ x < y → X nx lv r I J))
    | .if_icmp .ge _ => mv_i2 st (fun x y r => (¬ x < y → X a lv r I J) ∧ (x < y → X nx lv r I J))
    | .if_icmp .gt _ => mv_i2 st (fun x y r => (y < x → X a lv r I J) ∧ (¬ y < x → X nx lv r I J))
    | .if_icmp .le _ => mv_i2 st (fun x y r => (¬ y < x → X a lv r I J) ∧ (y < x → X nx lv r I J))
    | .goto _ => X a lv st I J
    | .ifnull _ => (match st with
      | .ref _ :: r => X nx lv r I J
      | .null :: r => X a lv r I J
      | _ => False)
    | .ifnonnull _ => (match st with
      | .ref _ :: r => X a lv r I J
      | .null :: r => X nx lv r I J
      | _ => False)
    | .tableswitch _ _ _ _ => mv_i1 st (fun x r => mv_sw (sw b) x (fun t => X t lv r I J) (X a lv r I J))
    | .lookupswitch _ _ => mv_i1 st (fun x r => mv_sw (sw b) x (fun t => X t lv r I J) (X a lv r I J))
    | .getfield _ => mv_a1 st (fun o r => mv_lay o = (1, a, 0) ∧ (match mv_ft a b with
      | 2 => X nx lv (.long (J o b) :: r) I J
      | 3 => ∃ q, mv_rf o b = some q ∧ X nx lv (.ref q :: r) I J
      | _ => X nx lv (.int (I o b) :: r) I J))
    | .putfield _ => (match mv_ft a b with
      | 0 => mv_pi st (fun o x r => mv_lay o = (1, a, 0) ∧ X nx lv r (mv_si I o b x) J)
      | 1 => mv_pi st (fun o x r => mv_lay o = (1, a, 0) ∧ (x = 0 ∨ x = 1) ∧ X nx lv r (mv_si I o b x) J)
      | 2 => mv_pl st (fun o x r => mv_lay o = (1, a, 0) ∧ X nx lv r I (mv_sj J o b x))
      | _ => False)
    | .arraylength => mv_a1 st (fun o r => o = 999 ∧ X nx lv (.int (I 998 0) :: r) I J)
    | .iaload => (match a with
      | 0 => mv_ai st (fun o i r => ∃ n, mv_lay o = (2, n, 0) ∧ vp_in i n ∧ X nx lv (.int (I o i.toNatClampNeg) :: r) I J)
      | _ => mv_ai st (fun o i r => o = 999 ∧ vp_in i (I 998 0).toNatClampNeg ∧ X nx lv (.int (I 999 i.toNatClampNeg) :: r) I J))
    | .iastore => mv_aii st (fun o i x r => ∃ n, mv_lay o = (2, n, 0) ∧ vp_in i n ∧ X nx lv r (mv_si I o i.toNatClampNeg x) J)
    | .baload => mv_ai st (fun o i r => ∃ n, mv_lay o = (3, n, 0) ∧ vp_in i n ∧ X nx lv (.int (I o i.toNatClampNeg) :: r) I J)
    | .bastore => mv_aii st (fun o i x r => ∃ n, mv_lay o = (3, n, 0) ∧ vp_in i n ∧ (x = 0 ∨ x = 1) ∧ X nx lv r (mv_si I o i.toNatClampNeg x) J)
    | .laload => mv_ai st (fun o i r => ∃ n, mv_lay o = (4, n, 0) ∧ vp_in i n ∧ X nx lv (.long (J o i.toNatClampNeg) :: r) I J)
    | .lastore => mv_ail st (fun o i x r => ∃ n, mv_lay o = (4, n, 0) ∧ vp_in i n ∧ X nx lv r I (mv_sj J o i.toNatClampNeg x))
    | .aaload => (match a with
      | 5 => mv_ai st (fun o i r => ∃ n, mv_lay o = (5, n, b) ∧ vp_in i n ∧ ∃ q, mv_rf o i.toNatClampNeg = some q ∧ X nx lv (.ref q :: r) I J)
      | _ => mv_ai st (fun o i r => ∃ n, mv_lay o = (6, n, 0) ∧ vp_in i n ∧ ∃ q, mv_rf o i.toNatClampNeg = some q ∧ X nx lv (.ref q :: r) I J))
    | .invokevirtual _ => (match (st.take b).reverse with
      | .ref o :: as => mv_okc b st = true ∧ mv_lay o = (1, ow a, 0) ∧ (cs a).1 (.ref o :: as) I J ∧ ∀ r I' J', (cs a).2 (.ref o :: as) I J r I' J' → X nx lv (r.toList ++ st.drop b) I' J'
      | _ => False)
    | .invokestatic _ => (match Nat.beq a 900 with
      | true => mv_cpy st (fun o sp d dp n r => r = [] ∧ ∃ n0 n1, mv_lay o = (2, n0, 0) ∧ mv_lay d = (2, n1, 0) ∧ ¬ sp < 0 ∧ ¬ dp < 0 ∧ ¬ n < 0 ∧ sp.toNatClampNeg + n.toNatClampNeg ≤ n0 ∧ dp.toNatClampNeg + n.toNatClampNeg ≤ n1 ∧ X nx lv r (mv_sr I d (va_cpy (I o) (I d) sp.toNatClampNeg dp.toNatClampNeg n.toNatClampNeg)) J)
      | false => mv_okc b st = true ∧ (cs a).1 (st.take b).reverse I J ∧ ∀ r I' J', (cs a).2 (st.take b).reverse I J r I' J' → X nx lv (r.toList ++ st.drop b) I' J')
    | .ireturn => (match b with
      | 0 => (match st with
        | [.int x] => K (some (.int x)) I J
        | _ => False)
      | _ => (match st with
        | [.int x] => (x = 0 ∨ x = 1) ∧ K (some (.int x)) I J
        | _ => False))
    | .lreturn => (match st with
      | [.long x] => K (some (.long x)) I J
      | _ => False)
    | .areturn => (match st with
      | [.ref x] => K (some (.ref x)) I J
      | [.null] => K (some .null) I J
      | _ => False)
    | .return_ => (match st with
      | [] => K none I J
      | _ => False)
    | _ => False
def mv_find : List mv_E → Nat → Option mv_E
  | [], _ => none
  | e :: r, pc => match Nat.beq e.1 pc with
    | true => some e
    | false => mv_find r pc
def mv_mem : List Nat → Nat → Bool
  | [], _ => false
  | x :: r, y => match Nat.beq x y with
    | true => true
    | false => mv_mem r y
def mv_at (ow : Nat → Nat) (sw : Nat → List (Int32 × Nat)) (tab : List mv_E) (cs : Nat → mv_SP) (K : mv_K) (X : mv_X) : mv_X := fun pc lv st I J => match mv_find tab pc with
  | some e => mv_step ow sw cs K X e lv st I J
  | none => False
end
section
/-! Tables, printed by program out of what TURN printed: classes, methods, pool entries, switches, instructions. -/
def mv_cns : List String := [RX0, RX1, RX2, RX3, RX4, RX5, RX6, RX7, RL, RJ6, RJ9]
def mv_cn (k : Nat) : String := mv_cns.getD k ""
def mv_mt0 : List mv_M := [(yX0_forget, cX0_forget, 1, none, 0, 1, 0, 0),
  (yX0_init, cX0_init, 2, none, 0, 1, 3, 61),
  (yX0_remember, cX0_remember, 2, none, 0, 2, 3, 69),
  (yX0_takeBack, cX0_takeBack, 2, none, 0, 2, 3, 69),
  (yX1_adapt, cX1_adapt, 4, none, 1, 2, 1, 22),
  (yX1_addCount, cX1_addCount, 4, (some .int), 1, 2, 2, 47),
  (yX1_addCounts, cX1_addCounts, 4, none, 1, 3, 3, 70),
  (yX1_addGap, cX1_addGap, 1, none, 1, 1, 2, 47),
  (yX1_allows, cX1_allows, 2, (some .boolean), 1, 2, 1, 22),
  (yX1_append, cX1_append, 2, none, 1, 2, 1, 26),
  (yX1_begin, cX1_begin, 1, none, 1, 1, 0, 0),
  (yX1_change, cX1_change, 3, none, 1, 3, 0, 0),
  (yX1_copyFrom, cX1_copyFrom, 2, none, 1, 2, 1, 26),
  (yX1_dropSums, cX1_dropSums, 1, none, 1, 1, 0, 0),
  (yX1_expectation, cX1_expectation, 1, (some .int), 1, 1, 2, 43),
  (yX1_expectationOn, cX1_expectationOn, 2, (some .int), 1, 2, 1, 22),
  (yX1_init, cX1_init, 1, none, 1, 1, 1, 20),
  (yX1_parameter, cX1_parameter, 2, (some .int), 1, 2, 0, 0),
  (yX1_property, cX1_property, 2, (some .int), 1, 2, 3, 63),
  (yX1_remembers, cX1_remembers, 2, (some .boolean), 1, 2, 1, 22),
  (yX1_replay, cX1_replay, 8, (some .int), 1, 3, 2, 43),
  (yX1_ring, cX1_ring, 3, none, 1, 2, 0, 0),
  (yX1_seasonDigit, cX1_seasonDigit, 3, (some .int), 1, 2, 0, 0),
  (yX1_thingAt, cX1_thingAt, 2, (some .int), 1, 2, 2, 43),
  (yX2_alarmSum, cX2_alarmSum, 3, (some .int), 2, 1, 0, 0),
  (yX2_at, cX2_at, 2, (some (.object "CountWatch$Chart")), 2, 2, 1, 22),
  (yX2_copyFrom, cX2_copyFrom, 3, none, 2, 2, 2, 47),
  (yX2_init, cX2_init, 2, none, 2, 1, 2, 40),
  (yX2_precedes, cX2_precedes, 7, (some .boolean), 2, 3, 2, 43),
  (yX2_rankOf, cX2_rankOf, 4, (some .int), 2, 2, 3, 69),
  (yX2_sumOfUps, cX2_sumOfUps, 4, (some .int), 2, 2, 0, 0),
  (yX3_chance, cX3_chance, 4, (some .int), 3, 2, 0, 0),
  (yX3_climbs, cX3_climbs, 3, (some .boolean), 3, 2, 1, 23),
  (yX3_eliminate, cX3_eliminate, 11, (some .boolean), 3, 2, 0, 0),
  (yX3_init, cX3_init, 1, none, 3, 1, 1, 20),
  (yX3_putEquation, cX3_putEquation, 8, none, 3, 5, 1, 23),
  (yX3_solve, cX3_solve, 5, (some .boolean), 3, 4, 2, 50),
  (yX4_init, cX4_init, 1, none, 4, 1, 1, 20),
  (yX5_append, cX5_append, 2, (some .boolean), 5, 2, 0, 0),
  (yX5_digit, cX5_digit, 2, (some .int), 5, 2, 1, 22)]
def mv_mt1 : List mv_M := [(yX5_findFault, cX5_findFault, 4, (some .int), 5, 1, 2, 44),
  (yX5_fits, cX5_fits, 3, (some .boolean), 5, 3, 1, 22),
  (yX5_init, cX5_init, 1, none, 5, 1, 1, 20),
  (yX5_readInto, cX5_readInto, 4, none, 5, 2, 3, 67),
  (yX5_readSeries, cX5_readSeries, 5, (some .int), 5, 3, 2, 43),
  (yX5_stopsAt, cX5_stopsAt, 2, (some .boolean), 5, 2, 1, 22),
  (yX6_again, cX6_again, 2, (some .int), 6, 2, 3, 69),
  (yX6_agrees, cX6_agrees, 4, (some .boolean), 6, 4, 4, 93),
  (yX6_agreesWithAll, cX6_agreesWithAll, 5, (some .boolean), 6, 2, 5, 116),
  (yX6_ahead, cX6_ahead, 6, (some .int), 6, 5, 4, 93),
  (yX6_alarmsWithGaps, cX6_alarmsWithGaps, 6, (some .boolean), 6, 5, 3, 70),
  (yX6_chances, cX6_chances, 3, (some .int), 6, 2, 4, 90),
  (yX6_clear, cX6_clear, 4, (some .int), 6, 2, 4, 90),
  (yX6_commonDivisor, cX6_commonDivisor, 11, (some .long), 6, 2, 0, 0),
  (yX6_count, cX6_count, 2, (some .int), 6, 2, 1, 22),
  (yX6_digitSum, cX6_digitSum, 3, (some .int), 6, 1, 1, 23),
  (yX6_drawn, cX6_drawn, 6, (some .int), 6, 2, 3, 70),
  (yX6_factorial, cX6_factorial, 4, (some .long), 6, 1, 0, 0),
  (yX6_fault, cX6_fault, 1, (some .int), 6, 1, 3, 67),
  (yX6_firstAlarm, cX6_firstAlarm, 5, (some .int), 6, 4, 3, 70),
  (yX6_gap, cX6_gap, 3, (some .int), 6, 2, 4, 90),
  (yX6_init, cX6_init, 2, none, 6, 1, 4, 82),
  (yX6_judge, cX6_judge, 6, (some .int), 6, 3, 4, 93),
  (yX6_keep, cX6_keep, 2, (some .int), 6, 2, 3, 69),
  (yX6_least, cX6_least, 5, (some .int), 6, 3, 4, 94),
  (yX6_length, cX6_length, 4, (some .long), 6, 3, 3, 74),
  (yX6_lost, cX6_lost, 10, (some .int), 6, 6, 4, 95),
  (yX6_lowest, cX6_lowest, 9, (some .long), 6, 3, 1, 30),
  (yX6_past, cX6_past, 4, (some .int), 6, 3, 3, 64),
  (yX6_ranked, cX6_ranked, 3, (some .int), 6, 2, 4, 92),
  (yX6_rings, cX6_rings, 4, (some .int), 6, 3, 4, 94),
  (yX6_see, cX6_see, 6, (some .int), 6, 5, 2, 43),
  (yX6_seed, cX6_seed, 5, (some .long), 6, 2, 0, 0),
  (yX6_series, cX6_series, 4, (some .int), 6, 3, 4, 84),
  (yX6_set, cX6_set, 6, (some .int), 6, 4, 4, 90),
  (yX6_share, cX6_share, 11, (some .int), 6, 4, 2, 58),
  (yX6_stands, cX6_stands, 4, (some .boolean), 6, 2, 3, 70),
  (yX6_tell, cX6_tell, 4, (some .int), 6, 3, 4, 90),
  (yX6_undo, cX6_undo, 1, (some .int), 6, 1, 4, 90),
  (yX6_unsee, cX6_unsee, 2, (some .int), 6, 1, 0, 0)]
def mv_mt2 : List mv_M := [(yX6_watch, cX6_watch, 2, (some .int), 6, 1, 4, 90),
  (yX6_weight, cX6_weight, 6, (some .long), 6, 3, 0, 0),
  (yX6_which, cX6_which, 3, (some .int), 6, 1, 6, 140),
  (yX6_wipe, cX6_wipe, 2, (some .int), 6, 1, 0, 0),
  (yX6_within, cX6_within, 3, (some .boolean), 6, 3, 0, 0),
  (yX6_withoutDoings, cX6_withoutDoings, 6, (some .long), 6, 2, 0, 0),
  (yX6_would, cX6_would, 5, (some .int), 6, 4, 3, 70),
  (yX6_write, cX6_write, 2, (some .int), 6, 2, 1, 22),
  (yX7_again, cX7_again, 3, (some .int), 7, 2, 1, 25),
  (yX7_ahead, cX7_ahead, 6, (some .int), 7, 5, 3, 78),
  (yX7_allAlarms, cX7_allAlarms, 3, (some .int), 7, 1, 0, 0),
  (yX7_chanceOf, cX7_chanceOf, 2, (some .int), 7, 2, 1, 23),
  (yX7_chances, cX7_chances, 3, (some .int), 7, 2, 1, 25),
  (yX7_changeRows, cX7_changeRows, 6, none, 7, 3, 0, 0),
  (yX7_clear, cX7_clear, 3, (some .int), 7, 2, 2, 46),
  (yX7_clearSquare, cX7_clearSquare, 12, none, 7, 2, 1, 25),
  (yX7_comes, cX7_comes, 5, none, 7, 3, 0, 0),
  (yX7_count, cX7_count, 2, (some .int), 7, 2, 1, 22),
  (yX7_countOn, cX7_countOn, 11, (some .int), 7, 4, 2, 48),
  (yX7_does, cX7_does, 5, (some .boolean), 7, 4, 3, 78),
  (yX7_drawn, cX7_drawn, 5, (some .int), 7, 2, 3, 78),
  (yX7_expected, cX7_expected, 3, (some .int), 7, 3, 1, 22),
  (yX7_factorial, cX7_factorial, 3, (some .int), 7, 1, 0, 0),
  (yX7_fault, cX7_fault, 1, (some .int), 7, 1, 5, 120),
  (yX7_figure, cX7_figure, 4, (some .int), 7, 3, 1, 25),
  (yX7_figureOf, cX7_figureOf, 3, (some .int), 7, 3, 0, 0),
  (yX7_fraction, cX7_fraction, 4, (some .int), 7, 3, 1, 29),
  (yX7_gap, cX7_gap, 2, (some .int), 7, 2, 2, 46),
  (yX7_has, cX7_has, 2, (some .boolean), 7, 2, 0, 0),
  (yX7_in, cX7_in, 6, (some .boolean), 7, 3, 0, 0),
  (yX7_init, cX7_init, 1, none, 7, 1, 1, 20),
  (yX7_isSo, cX7_isSo, 6, (some .boolean), 7, 3, 3, 78),
  (yX7_judge, cX7_judge, 6, (some .int), 7, 3, 4, 102),
  (yX7_keep, cX7_keep, 3, (some .int), 7, 2, 1, 25),
  (yX7_laySquare, cX7_laySquare, 6, none, 7, 3, 2, 44),
  (yX7_layTrial, cX7_layTrial, 2, none, 7, 1, 0, 0),
  (yX7_least, cX7_least, 5, (some .int), 7, 3, 4, 101),
  (yX7_length, cX7_length, 12, (some .long), 7, 3, 3, 69),
  (yX7_longDivisor, cX7_longDivisor, 10, (some .long), 7, 2, 0, 0),
  (yX7_longPower, cX7_longPower, 6, (some .long), 7, 2, 0, 0)]
def mv_mt3 : List mv_M := [(yX7_lost, cX7_lost, 10, (some .int), 7, 6, 3, 78),
  (yX7_moves, cX7_moves, 7, none, 7, 4, 1, 22),
  (yX7_nearOf, cX7_nearOf, 4, (some .int), 7, 2, 0, 0),
  (yX7_noSeries, cX7_noSeries, 2, (some .boolean), 7, 2, 1, 25),
  (yX7_note, cX7_note, 2, none, 7, 1, 0, 0),
  (yX7_ones, cX7_ones, 3, (some .int), 7, 1, 0, 0),
  (yX7_over, cX7_over, 1, (some .int), 7, 1, 0, 0),
  (yX7_past, cX7_past, 3, (some .int), 7, 3, 2, 46),
  (yX7_power, cX7_power, 4, (some .int), 7, 2, 0, 0),
  (yX7_ranked, cX7_ranked, 7, (some .int), 7, 2, 1, 25),
  (yX7_readSeries, cX7_readSeries, 9, (some .boolean), 7, 1, 3, 71),
  (yX7_readWatch, cX7_readWatch, 2, (some .int), 7, 1, 4, 99),
  (yX7_rings, cX7_rings, 3, (some .int), 7, 3, 4, 101),
  (yX7_ringsBy, cX7_ringsBy, 4, (some .int), 7, 3, 3, 78),
  (yX7_see, cX7_see, 5, (some .int), 7, 5, 2, 46),
  (yX7_seed, cX7_seed, 5, (some .long), 7, 2, 0, 0),
  (yX7_series, cX7_series, 3, (some .int), 7, 3, 3, 68),
  (yX7_set, cX7_set, 5, (some .int), 7, 4, 2, 46),
  (yX7_share, cX7_share, 8, (some .int), 7, 4, 2, 52),
  (yX7_tell, cX7_tell, 3, (some .int), 7, 3, 3, 78),
  (yX7_tellOf, cX7_tellOf, 5, (some .int), 7, 4, 2, 44),
  (yX7_two, cX7_two, 4, (some .int), 7, 2, 2, 48),
  (yX7_undo, cX7_undo, 2, (some .int), 7, 1, 0, 0),
  (yX7_unsee, cX7_unsee, 2, (some .int), 7, 1, 0, 0),
  (yX7_watch, cX7_watch, 2, (some .int), 7, 1, 5, 120),
  (yX7_which, cX7_which, 5, (some .int), 7, 1, 4, 103),
  (yX7_wipe, cX7_wipe, 2, (some .int), 7, 1, 0, 0),
  (yX7_would, cX7_would, 10, (some .int), 7, 4, 2, 46),
  (yX7_write, cX7_write, 2, (some .int), 7, 2, 1, 25),
  (yJ6_bitCount_0f7a4, cJ6_bitCount_0f7a4, 1, (some .int), 9, 1, 0, 0),
  (yJ9_max_7cf53, cJ9_max_7cf53, 2, (some .int), 10, 2, 0, 0),
  (yJ9_min_7cf53, cJ9_min_7cf53, 2, (some .int), 10, 2, 0, 0),
  (yL_law, cL_law, 4, (some .boolean), 8, 1, 7, 162)]
def mv_mt : List mv_M := mv_mt0 ++ mv_mt1 ++ mv_mt2 ++ mv_mt3
def mv_m0 : mv_M := (⟨"", "", ""⟩, ⟨#[]⟩, 0, none, 0, 0, 0, 0)
def mv_m (k : Nat) : mv_M := mv_mt.getD k mv_m0
def mv_ow (k : Nat) : Nat := (mv_m k).2.2.2.2.1
def mv_pF : List (Nat × Nat × Nat × Nat) := [(0, 11, 0, 0), (0, 15, 0, 1), (0, 19, 0, 2), (1, 11, 1, 5), (1, 15, 1, 14), (1, 18, 1, 7), (1, 22, 1, 8), (1, 25, 1, 9), (1, 28, 1, 10), (1, 31, 1, 11), (1, 34, 1, 12), (1, 37, 1, 0), (1, 40, 1, 13), (1, 43, 1, 15), (1, 46, 1, 1), (1, 49, 1, 2), (1, 52, 1, 3), (1, 55, 1, 4), (1, 64, 1, 6), (2, 11, 2, 0), (2, 17, 2, 1), (2, 21, 2, 2), (2, 33, 1, 10), (2, 36, 1, 8), (2, 47, 1, 9), (2, 56, 1, 2), (3, 13, 3, 0), (3, 16, 3, 1), (3, 20, 3, 2), (5, 11, 5, 0), (5, 15, 5, 1), (5, 26, 2, 0), (5, 36, 2, 1), (5, 41, 1, 0), (5, 46, 1, 1), (5, 49, 1, 2), (5, 52, 1, 3), (5, 55, 1, 4), (5, 62, 1, 5), (5, 65, 1, 6), (6, 10, 6, 0), (6, 19, 6, 1), (6, 26, 6, 2), (6, 30, 6, 3), (6, 34, 6, 4), (6, 40, 6, 5), (6, 44, 6, 6), (6, 48, 6, 7), (6, 55, 6, 8), (6, 59, 6, 9), (6, 65, 6, 10), (6, 78, 5, 1), (6, 92, 2, 1), (6, 116, 1, 7), (6, 119, 1, 8), (6, 122, 1, 9), (6, 143, 2, 2), (6, 146, 0, 2), (6, 163, 1, 2), (6, 168, 1, 1), (6, 176, 3, 1), (6, 179, 3, 2), (6, 204, 1, 11), (6, 210, 4, 0), (6, 213, 4, 1), (6, 216, 4, 2), (6, 219, 4, 3), (6, 230, 1, 10), (7, 7, 7, 1), (7, 13, 7, 5), (7, 16, 7, 6), (7, 19, 7, 7), (7, 22, 7, 9), (7, 25, 7, 10), (7, 28, 7, 11), (7, 31, 7, 12), (7, 34, 7, 13), (7, 37, 7, 14), (7, 40, 7, 15), (7, 43, 7, 17), (7, 46, 7, 18), (7, 50, 7, 20), (7, 53, 7, 21), (7, 56, 7, 22), (7, 59, 7, 23), (7, 62, 7, 25), (7, 66, 7, 0), (7, 70, 7, 4), (7, 79, 7, 2), (7, 82, 7, 3), (7, 89, 7, 8), (7, 104, 7, 16), (7, 204, 7, 19), (7, 226, 7, 24)]
def mv_pC : List (Nat × Nat × Int32) := [(6, 139, 99999), (9, 265, 1431655765), (9, 266, 858993459), (9, 267, 252645135)]
def mv_pL : List (Nat × Nat × Int64) := [(3, 43, 10), (6, 161, -1), (6, 166, -3), (6, 174, -9), (6, 199, 10000), (6, 253, 6364136223846793005), (6, 255, 1442695040888963407), (7, 77, 255), (7, 128, 13), (7, 134, 99), (7, 142, 3), (7, 144, 9), (7, 146, 4), (7, 148, 99999), (7, 150, 60), (7, 152, 5), (7, 160, 30), (7, 165, 10), (7, 174, -1), (7, 176, -3), (7, 178, -9), (7, 194, 10000), (7, 224, 6), (7, 230, 20), (7, 232, 6364136223846793005), (7, 234, 1442695040888963407), (8, 91, 4294967295)]
def mv_pV : List (Nat × Nat × Nat) := [(0, 23, 26), (1, 67, 22), (1, 71, 15), (1, 80, 21), (1, 84, 4), (1, 87, 9), (1, 93, 5), (1, 100, 19), (1, 104, 14), (2, 25, 12), (2, 39, 28), (2, 43, 25), (3, 31, 35), (3, 35, 33), (5, 32, 44), (5, 37, 39), (5, 58, 45), (5, 68, 10), (6, 74, 38), (6, 81, 40), (6, 85, 43), (6, 89, 0), (6, 93, 25), (6, 97, 18), (6, 101, 19), (6, 104, 23), (6, 107, 2), (6, 110, 5), (6, 113, 7), (6, 125, 13), (6, 132, 17), (6, 135, 11), (6, 147, 3), (6, 150, 12), (6, 154, 6), (6, 157, 59), (6, 171, 36), (6, 186, 20), (6, 190, 29), (6, 197, 26), (6, 201, 76), (6, 207, 14), (6, 223, 48), (6, 226, 47), (6, 233, 30), (6, 245, 50), (6, 257, 24), (7, 85, 104), (7, 92, 141), (7, 96, 130), (7, 100, 131), (7, 107, 105), (7, 110, 101), (7, 117, 121), (7, 124, 123), (7, 130, 140), (7, 136, 124), (7, 139, 98), (7, 154, 115), (7, 157, 133), (7, 167, 91), (7, 170, 93), (7, 180, 114), (7, 183, 95), (7, 191, 122), (7, 200, 99), (7, 207, 111), (7, 236, 90), (8, 13, 87), (8, 17, 148), (8, 18, 83), (8, 22, 146), (8, 23, 58), (8, 26, 103), (8, 27, 80), (8, 30, 144), (8, 31, 73), (8, 35, 136), (8, 36, 68), (8, 39, 127), (8, 40, 77), (8, 43, 139), (8, 44, 60), (8, 47, 107), (8, 48, 52), (8, 51, 94), (8, 52, 74), (8, 56, 137), (8, 57, 51), (8, 60, 92), (8, 61, 78), (8, 64, 142), (8, 65, 49), (8, 69, 89), (8, 70, 70), (8, 73, 132), (8, 74, 64), (8, 77, 116), (8, 78, 65), (8, 82, 117), (8, 83, 86), (8, 86, 147), (8, 87, 69), (8, 90, 129), (8, 93, 62), (8, 97, 112), (8, 98, 71), (8, 101, 134), (8, 102, 79), (8, 105, 143), (8, 106, 82), (8, 109, 145), (8, 110, 75), (8, 114, 138), (8, 115, 66), (8, 119, 120), (8, 120, 72), (8, 124, 135), (8, 125, 56), (8, 128, 100), (8, 129, 63), (8, 132, 113), (8, 133, 46), (8, 136, 88), (8, 137, 54), (8, 140, 97)]
def mv_pS : List (Nat × Nat × Nat × Nat) := [(0, 27, 151, 0), (1, 74, 150, 0), (1, 90, 151, 0), (1, 96, 84, 1), (2, 29, 84, 1), (2, 50, 150, 0), (3, 23, 84, 1), (3, 27, 32, 0), (3, 39, 31, 0), (3, 45, 150, 0), (5, 19, 41, 0), (5, 23, 84, 1), (6, 70, 84, 0), (6, 128, 8, 0), (6, 140, 55, 0), (6, 182, 67, 0), (6, 193, 85, 0), (6, 236, 149, 0), (6, 241, 57, 0), (6, 249, 81, 0), (6, 260, 31, 0), (6, 263, 53, 0), (7, 73, 109, 0), (7, 114, 126, 0), (7, 121, 96, 0), (7, 162, 128, 0), (7, 187, 118, 0), (7, 196, 119, 0), (7, 211, 108, 0), (7, 214, 125, 0), (7, 217, 102, 0), (7, 220, 106, 0)]
def mv_swl : List (List (Int32 × Nat)) := [[(0, 32), (1, 40), (2, 48), (3, 55)], [(0, 28), (1, 36), (2, 44)], [(0, 28), (1, 33), (2, 38)], [(0, 68), (1, 73), (2, 78), (3, 83), (4, 88), (5, 93), (6, 98), (7, 103), (8, 108), (9, 113), (10, 118), (11, 123), (12, 128)], [(0, 72), (1, 157), (2, 157), (3, 157), (4, 157), (5, 84), (6, 104), (7, 113), (8, 157), (9, 122), (10, 122), (11, 122), (12, 122), (13, 145)], [(0, 40), (1, 48), (2, 56), (3, 64), (4, 72), (5, 80)], [(1, 72), (2, 80), (3, 94), (4, 108), (5, 122), (6, 136), (7, 150)], [(0, 44), (1, 49), (2, 54), (3, 59), (4, 67), (5, 72)], [(1, 60), (2, 73), (3, 91), (4, 120), (5, 139), (6, 159), (7, 179)], [(12, 32), (13, 42)], [(0, 164), (1, 187), (2, 200), (3, 213), (4, 226), (5, 259), (6, 292), (7, 325), (8, 348), (9, 371), (10, 414), (11, 437), (12, 450), (13, 503), (14, 536), (15, 569), (16, 619), (17, 662), (18, 685), (19, 748), (20, 801), (21, 814), (22, 827), (23, 886), (24, 965), (25, 1019), (26, 1042), (27, 1065), (28, 1088)]]
def mv_swf (k : Nat) : List (Int32 × Nat) := mv_swl.getD k []
end
section
/-! What a printed row must be, beside the bytes. -/
def mv_csOf (pc : Nat) (lo : Int) : List Int → List (Int32 × Nat)
  | [] => []
  | o :: r => (Int32.ofInt lo, ((pc : Int) + o).toNat) :: mv_csOf pc (lo + 1) r
def mv_csL (pc : Nat) : List (Int × Int) → List (Int32 × Nat)
  | [] => []
  | (c, o) :: r => (Int32.ofInt c, ((pc : Int) + o).toNat) :: mv_csL pc r
def mv_ok (M : mv_M) (e : mv_E) : Bool := match e with
  | (pc, ins, nx, v, w, a, b) => decide (decode M.2.1 pc = .ok (ins, nx - pc)) && decide (pc < nx) && (match ins with
    | .iconst n => decide (Int32.ofInt n = v) && decide (nx = pc + 1)
    | .bipush n => decide ((Int8.ofInt n).toInt32 = v) && decide (nx = pc + 2)
    | .sipush n => decide ((Int16.ofInt n).toInt32 = v) && decide (nx = pc + 3)
    | .ldc i => decide ((M.2.2.2.2.1, i, v) ∈ mv_pC) && decide (nx = pc + 2)
    | .ldc_w i => decide ((M.2.2.2.2.1, i, v) ∈ mv_pC) && decide (nx = pc + 3)
    | .lconst n => decide (Int64.ofNat (n : Nat) = w) && decide (nx = pc + 1)
    | .ldc2_w i => decide ((M.2.2.2.2.1, i, w) ∈ mv_pL) && decide (nx = pc + 3)
    | .iload n => decide (n = a) && decide (nx = pc + 2)
    | .lload n => decide (n = a) && decide (nx = pc + 2)
    | .aload n => decide (n = a) && decide (nx = pc + 2)
    | .istore n => decide (n = a) && decide (nx = pc + 2) && decide (a < M.2.2.1)
    | .astore n => decide (n = a) && decide (nx = pc + 2) && decide (a < M.2.2.1)
    | .lstore n => decide (n = a) && decide (nx = pc + 2) && decide (a + 1 < M.2.2.1)
    | .iload_n n => decide ((n : Nat) = a) && decide (nx = pc + 1)
    | .lload_n n => decide ((n : Nat) = a) && decide (nx = pc + 1)
    | .aload_n n => decide ((n : Nat) = a) && decide (nx = pc + 1)
    | .istore_n n => decide ((n : Nat) = a) && decide (nx = pc + 1) && decide (a < M.2.2.1)
    | .astore_n n => decide ((n : Nat) = a) && decide (nx = pc + 1) && decide (a < M.2.2.1)
    | .lstore_n n => decide ((n : Nat) = a) && decide (nx = pc + 1) && decide (a + 1 < M.2.2.1)
    | .iinc i n => decide (i = a) && decide (nx = pc + 3) && decide (a < M.2.2.1) && decide (Int32.ofInt n = v)
    | .ifCond _ o => decide ((pc : Int) + o = (a : Int)) && decide (nx = pc + 3)
    | .if_icmp _ o => decide ((pc : Int) + o = (a : Int)) && decide (nx = pc + 3)
    | .goto o => decide ((pc : Int) + o = (a : Int))&& decide (nx = pc + 3)
    | .ifnull o => decide ((pc : Int) + o = (a : Int)) && decide (nx = pc + 3)
    | .ifnonnull o => decide ((pc : Int) + o = (a : Int)) && decide (nx = pc + 3)
    | .tableswitch d lo hi os => decide (mv_swf b = mv_csOf pc lo os.toList) && decide ((pc : Int) + d = (a : Int)) && decide (hi = lo + (os.size : Int) - 1) && decide (-1000 ≤ lo) && decide (hi ≤ 1000) && os.toList.all (fun o => decide (0 ≤ (pc : Int) + o))
    | .lookupswitch d os => decide (mv_swf b = mv_csL pc os.toList) && decide ((pc : Int) + d = (a : Int)) && os.toList.all (fun q => decide (0 ≤ (pc : Int) + q.2) && decide (-1000 ≤ q.1) && decide (q.1 ≤ 1000)) && (os.toList.zip (os.toList.drop 1)).all (fun (q, next) => decide (q.1 < next.1))
    | .getfield i => decide ((M.2.2.2.2.1, i, a, b) ∈ mv_pF) && decide (nx = pc + 3) && decide (a < 8) && decide (b < mv_nf a)
    | .putfield i => decide ((M.2.2.2.2.1, i, a, b) ∈ mv_pF) && decide (nx = pc + 3) && decide (a < 8) && decide (b < mv_nf a)
    | .iaload => decide (nx = pc + 1) && (decide (a = 0) || decide (M.2.2.2.2.1 = 8))
    | .arraylength => decide (nx = pc + 1) && decide (M.2.2.2.2.1 = 8)
    | .aaload => decide (nx = pc + 1) && ((decide (a = 5) && (decide (b = 1) || decide (b = 2) || decide (b = 4))) || decide (a = 6))
    | .invokevirtual i => decide ((M.2.2.2.2.1, i, a) ∈ mv_pV) && decide (nx = pc + 3) && decide (b = (mv_m a).2.2.2.2.2.1) && decide ((mv_m a).2.2.2.2.2.2.1 + 1 ≤ M.2.2.2.2.2.2.1) && decide (8 + ((mv_m a).2.2.1 + 11) + (mv_m a).2.2.2.2.2.2.2 ≤ M.2.2.2.2.2.2.2)
    | .invokestatic i => decide (nx = pc + 3) && (if a = 900 then decide (M.2.2.2.2.1 = 1) && decide (i = 58) && decide (1 ≤ M.2.2.2.2.2.2.1) && decide (18 ≤ M.2.2.2.2.2.2.2) else (decide ((M.2.2.2.2.1, i, a, 0) ∈ mv_pS) || decide ((M.2.2.2.2.1, i, a, 1) ∈ mv_pS)) && decide (b = (mv_m a).2.2.2.2.2.1) && decide ((mv_m a).2.2.2.2.2.2.1 + 1 ≤ M.2.2.2.2.2.2.1) && decide (8 + ((mv_m a).2.2.1 + 11) + (mv_m a).2.2.2.2.2.2.2 ≤ M.2.2.2.2.2.2.2))
    | .ireturn => decide (nx = pc + 1) && ((decide (b = 0) && decide (M.2.2.2.1 = some .int)) || (decide (b = 1) && decide (M.2.2.2.1 = some .boolean)))
    | .lreturn => decide (nx = pc + 1) && decide (M.2.2.2.1 = some .long)
    | .areturn => decide (nx = pc + 1) && decide (M.2.2.2.1 = some (.object RX1))
    | .return_ => decide (nx = pc + 1) && decide (M.2.2.2.1 = none)
    | _ => decide (nx = pc + 1))
end
section
def mv_t_X0_forget : List mv_E := [mv_e 0 (.aload_n 0) 1 0 0, mv_ev 1 (.iconst 0) 2 (0) 0, mv_e 2 (.putfield 19) 5 0 2, mv_e 5 (.return_) 6 0 0]
def mv_t_X0_remember : List mv_E := [mv_e 0 (.aload_n 0) 1 0 0, mv_e 1 (.getfield 11) 4 0 0, mv_e 4 (.aload_n 0) 5 0 0, mv_e 5 (.getfield 15) 8 0 1, mv_e 8 (.aaload) 9 5 2, mv_e 9 (.aload_n 1) 10 1 0, mv_e 10 (.invokevirtual 23) 13 26 2, mv_e 13 (.aload_n 0) 14 0 0, mv_e 14 (.aload_n 0) 15 0 0, mv_e 15 (.getfield 15) 18 0 1, mv_ev 18 (.iconst 1) 19 (1) 0, mv_e 19 (.iadd) 20 0 0, mv_ev 20 (.bipush 14) 22 (14) 0, mv_e 22 (.irem) 23 0 0, mv_e 23 (.putfield 15) 26 0 1, mv_e 26 (.aload_n 0) 27 0 0, mv_ev 27 (.bipush 14) 29 (14) 0, mv_e 29 (.aload_n 0) 30 0 0, mv_e 30 (.getfield 19) 33 0 2, mv_ev 33 (.iconst 1) 34 (1) 0, mv_e 34 (.iadd) 35 0 0, mv_e 35 (.invokestatic 27) 38 151 2, mv_e 38 (.putfield 19) 41 0 2, mv_e 41 (.return_) 42 0 0]
def mv_t_X0_takeBack : List mv_E := [mv_e 0 (.aload_n 0) 1 0 0, mv_e 1 (.aload_n 0) 2 0 0, mv_e 2 (.getfield 15) 5 0 1, mv_ev 5 (.bipush 14) 7 (14) 0, mv_e 7 (.iadd) 8 0 0, mv_ev 8 (.iconst 1) 9 (1) 0, mv_e 9 (.isub) 10 0 0, mv_ev 10 (.bipush 14) 12 (14) 0, mv_e 12 (.irem) 13 0 0, mv_e 13 (.putfield 15) 16 0 1, mv_e 16 (.aload_n 1) 17 1 0, mv_e 17 (.aload_n 0) 18 0 0, mv_e 18 (.getfield 11) 21 0 0, mv_e 21 (.aload_n 0) 22 0 0, mv_e 22 (.getfield 15) 25 0 1, mv_e 25 (.aaload) 26 5 2, mv_e 26 (.invokevirtual 23) 29 26 2, mv_e 29 (.aload_n 0) 30 0 0, mv_e 30 (.dup) 31 0 0, mv_e 31 (.getfield 19) 34 0 2, mv_ev 34 (.iconst 1) 35 (1) 0, mv_e 35 (.isub) 36 0 0, mv_e 36 (.putfield 19) 39 0 2, mv_e 39 (.return_) 40 0 0]
def mv_t_X1_adapt : List mv_E := [mv_ev 0 (.bipush 16) 2 (16) 0, mv_e 2 (.iload_n 1) 3 1 0, mv_e 3 (.aload_n 0) 4 0 0, mv_e 4 (.aload_n 0) 5 0 0, mv_e 5 (.getfield 18) 8 1 7, mv_e 8 (.invokevirtual 67) 11 22 2, mv_e 11 (.isub) 12 0 0, mv_ev 12 (.iconst 5) 13 (5) 0, mv_e 13 (.iadd) 14 0 0, mv_e 14 (.imul) 15 0 0, mv_e 15 (.istore_n 2) 16 2 0, mv_e 16 (.aload_n 0) 17 0 0, mv_e 17 (.getfield 40) 20 1 13, mv_e 20 (.iload_n 2) 21 2 0, mv_e 21 (.aload_n 0) 22 0 0, mv_e 22 (.getfield 40) 25 1 13, mv_e 25 (.isub) 26 0 0, mv_e 26 (.aload_n 0) 27 0 0, mv_e 27 (.getfield 52) 30 1 3, mv_e 30 (.ishr) 31 0 0, mv_e 31 (.iadd) 32 0 0, mv_e 32 (.istore_n 3) 33 3 0, mv_e 33 (.aload_n 0) 34 0 0, mv_ev 34 (.iconst 0) 35 (0) 0, mv_ev 35 (.sipush 1584) 38 (1584) 0, mv_e 38 (.iload_n 3) 39 3 0, mv_e 39 (.invokestatic 90) 42 151 2, mv_e 42 (.invokestatic 74) 45 150 2, mv_e 45 (.putfield 40) 48 1 13, mv_e 48 (.return_) 49 0 0]
def mv_t_X1_addCount : List mv_E := [mv_e 0 (.aload_n 0) 1 0 0, mv_e 1 (.aload_n 0) 2 0 0, mv_e 2 (.getfield 18) 5 1 7, mv_e 5 (.invokevirtual 71) 8 15 2, mv_e 8 (.istore_n 2) 9 2 0, mv_e 9 (.aload_n 0) 10 0 0, mv_ev 10 (.iconst 0) 11 (0) 0, mv_e 11 (.aload_n 0) 12 0 0, mv_e 12 (.getfield 22) 15 1 8, mv_e 15 (.iload_n 1) 16 1 0, mv_e 16 (.iadd) 17 0 0, mv_e 17 (.iload_n 2) 18 2 0, mv_e 18 (.isub) 19 0 0, mv_e 19 (.aload_n 0) 20 0 0, mv_e 20 (.getfield 46) 23 1 1, mv_e 23 (.isub) 24 0 0, mv_e 24 (.invokestatic 74) 27 150 2, mv_e 27 (.putfield 22) 30 1 8, mv_e 30 (.aload_n 0) 31 0 0, mv_ev 31 (.iconst 0) 32 (0) 0, mv_e 32 (.aload_n 0) 33 0 0, mv_e 33 (.getfield 25) 36 1 9, mv_e 36 (.iload_n 2) 37 2 0, mv_e 37 (.iadd) 38 0 0, mv_e 38 (.iload_n 1) 39 1 0, mv_e 39 (.isub) 40 0 0, mv_e 40 (.aload_n 0) 41 0 0, mv_e 41 (.getfield 46) 44 1 1, mv_e 44 (.isub) 45 0 0, mv_e 45 (.invokestatic 74) 48 150 2, mv_e 48 (.putfield 25) 51 1 9, mv_e 51 (.aload_n 0) 52 0 0, mv_e 52 (.getfield 22) 55 1 8, mv_e 55 (.aload_n 0) 56 0 0, mv_e 56 (.getfield 49) 59 1 2, mv_e 59 (.if_icmp .lt 7) 62 66 0, mv_ev 62 (.iconst 1) 63 (1) 0, mv_e 63 (.goto 4) 66 67 0, mv_ev 66 (.iconst 0) 67 (0) 0, mv_e 67 (.aload_n 0) 68 0 0, mv_e 68 (.getfield 25) 71 1 9, mv_e 71 (.aload_n 0) 72 0 0, mv_e 72 (.getfield 49) 75 1 2, mv_e 75 (.if_icmp .lt 7) 78 82 0, mv_ev 78 (.iconst 2) 79 (2) 0, mv_e 79 (.goto 4) 82 83 0, mv_ev 82 (.iconst 0) 83 (0) 0, mv_e 83 (.iadd) 84 0 0, mv_e 84 (.istore_n 3) 85 3 0, mv_e 85 (.iload_n 3) 86 3 0, mv_e 86 (.ifCond .eq 11) 89 97 0, mv_e 89 (.aload_n 0) 90 0 0, mv_e 90 (.iload_n 3) 91 3 0, mv_e 91 (.invokevirtual 80) 94 21 2, mv_e 94 (.goto 29) 97 123 0, mv_e 97 (.aload_n 0) 98 0 0, mv_e 98 (.getfield 52) 101 1 3, mv_e 101 (.ifCond .le 22) 104 123 0, mv_e 104 (.aload_n 0) 105 0 0, mv_e 105 (.getfield 22) 108 1 8, mv_e 108 (.ifCond .ne 15) 111 123 0, mv_e 111 (.aload_n 0) 112 0 0, mv_e 112 (.getfield 25) 115 1 9, mv_e 115 (.ifCond .ne 8) 118 123 0, mv_e 118 (.aload_n 0) 119 0 0, mv_e 119 (.iload_n 1) 120 1 0, mv_e 120 (.invokevirtual 84) 123 4 2, mv_e 123 (.aload_n 0) 124 0 0, mv_e 124 (.iload_n 1) 125 1 0, mv_e 125 (.invokevirtual 87) 128 9 2, mv_e 128 (.iload_n 3) 129 3 0, mv_e 129 (.ireturn) 130 0 0]
def mv_t_X1_addCounts : List mv_E := [mv_ev 0 (.iconst 0) 1 (0) 0, mv_e 1 (.istore_n 3) 2 3 0, mv_e 2 (.iload_n 3) 3 3 0, mv_e 3 (.iload_n 2) 4 2 0, mv_e 4 (.if_icmp .ge 15) 7 19 0, mv_e 7 (.aload_n 0) 8 0 0, mv_e 8 (.iload_n 1) 9 1 0, mv_e 9 (.invokevirtual 93) 12 5 2, mv_e 12 (.pop) 13 0 0, mv_ev 13 (.iinc 3 1) 16 (1) 3, mv_e 16 (.goto (-14)) 19 2 0, mv_e 19 (.return_) 20 0 0]
def mv_t_X1_addGap : List mv_E := [mv_e 0 (.aload_n 0) 1 0 0, mv_ev 1 (.bipush (-9)) 3 (-9) 0, mv_e 3 (.invokevirtual 87) 6 9 2, mv_e 6 (.return_) 7 0 0]
def mv_t_X1_allows : List mv_E := [mv_e 0 (.iload_n 0) 1 0 0, mv_e 1 (.tableswitch 61 0 3 #[31, 39, 47, 54]) 32 62 0, mv_e 32 (.iload_n 1) 33 1 0, mv_ev 33 (.iconst 0) 34 (0) 0, mv_ev 34 (.bipush 9) 36 (9) 0, mv_e 36 (.invokestatic 96) 39 84 3, mv_e 39 (.ireturn) 40 0 1, mv_e 40 (.iload_n 1) 41 1 0, mv_ev 41 (.iconst 1) 42 (1) 0, mv_ev 42 (.bipush 99) 44 (99) 0, mv_e 44 (.invokestatic 96) 47 84 3, mv_e 47 (.ireturn) 48 0 1, mv_e 48 (.iload_n 1) 49 1 0, mv_ev 49 (.iconst 0) 50 (0) 0, mv_ev 50 (.iconst 4) 51 (4) 0, mv_e 51 (.invokestatic 96) 54 84 3, mv_e 54 (.ireturn) 55 0 1, mv_e 55 (.iload_n 1) 56 1 0, mv_ev 56 (.iconst 0) 57 (0) 0, mv_ev 57 (.iconst 1) 58 (1) 0, mv_e 58 (.invokestatic 96) 61 84 3, mv_e 61 (.ireturn) 62 0 1, mv_ev 62 (.iconst 0) 63 (0) 0, mv_e 63 (.ireturn) 64 0 1]
def mv_t_X1_append : List mv_E := [mv_e 0 (.aload_n 0) 1 0 0, mv_e 1 (.getfield 43) 4 1 15, mv_ev 4 (.bipush 12) 6 (12) 0, mv_e 6 (.if_icmp .lt 24) 9 30 0, mv_e 9 (.aload_n 0) 10 0 0, mv_e 10 (.getfield 15) 13 1 14, mv_ev 13 (.iconst 1) 14 (1) 0, mv_e 14 (.aload_n 0) 15 0 0, mv_e 15 (.getfield 15) 18 1 14, mv_ev 18 (.iconst 0) 19 (0) 0, mv_ev 19 (.bipush 11) 21 (11) 0, mv_e 21 (.invokestatic 58) 24 900 5, mv_e 24 (.aload_n 0) 25 0 0, mv_ev 25 (.bipush 11) 27 (11) 0, mv_e 27 (.putfield 43) 30 1 15, mv_e 30 (.aload_n 0) 31 0 0, mv_e 31 (.getfield 15) 34 1 14, mv_e 34 (.aload_n 0) 35 0 0, mv_e 35 (.getfield 43) 38 1 15, mv_e 38 (.iload_n 1) 39 1 0, mv_e 39 (.iastore) 40 0 0, mv_e 40 (.aload_n 0) 41 0 0, mv_e 41 (.dup) 42 0 0, mv_e 42 (.getfield 43) 45 1 15, mv_ev 45 (.iconst 1) 46 (1) 0, mv_e 46 (.iadd) 47 0 0, mv_e 47 (.putfield 43) 50 1 15, mv_e 50 (.aload_n 0) 51 0 0, mv_e 51 (.dup) 52 0 0, mv_e 52 (.getfield 18) 55 1 7, mv_ev 55 (.iconst 1) 56 (1) 0, mv_e 56 (.iadd) 57 0 0, mv_e 57 (.putfield 18) 60 1 7, mv_e 60 (.return_) 61 0 0]
def mv_t_X1_begin : List mv_E := [mv_e 0 (.aload_n 0) 1 0 0, mv_ev 1 (.iconst 0) 2 (0) 0, mv_e 2 (.putfield 18) 5 1 7, mv_e 5 (.aload_n 0) 6 0 0, mv_ev 6 (.iconst 0) 7 (0) 0, mv_e 7 (.putfield 22) 10 1 8, mv_e 10 (.aload_n 0) 11 0 0, mv_ev 11 (.iconst 0) 12 (0) 0, mv_e 12 (.putfield 25) 15 1 9, mv_e 15 (.aload_n 0) 16 0 0, mv_ev 16 (.iconst 0) 17 (0) 0, mv_e 17 (.putfield 28) 20 1 10, mv_e 20 (.aload_n 0) 21 0 0, mv_ev 21 (.iconst 0) 22 (0) 0, mv_e 22 (.putfield 31) 25 1 11, mv_e 25 (.aload_n 0) 26 0 0, mv_ev 26 (.bipush (-9)) 28 (-9) 0, mv_e 28 (.putfield 34) 31 1 12, mv_e 31 (.aload_n 0) 32 0 0, mv_ev 32 (.bipush 16) 34 (16) 0, mv_e 34 (.aload_n 0) 35 0 0, mv_e 35 (.getfield 37) 38 1 0, mv_e 38 (.imul) 39 0 0, mv_e 39 (.putfield 40) 42 1 13, mv_e 42 (.aload_n 0) 43 0 0, mv_ev 43 (.iconst 0) 44 (0) 0, mv_e 44 (.putfield 43) 47 1 15, mv_e 47 (.return_) 48 0 0]
def mv_t_X1_change : List mv_E := [mv_e 0 (.iload_n 1) 1 1 0, mv_e 1 (.tableswitch 51 0 2 #[27, 35, 43]) 28 52 1, mv_e 28 (.aload_n 0) 29 0 0, mv_e 29 (.iload_n 2) 30 2 0, mv_e 30 (.putfield 46) 33 1 1, mv_e 33 (.goto 24) 36 57 0, mv_e 36 (.aload_n 0) 37 0 0, mv_e 37 (.iload_n 2) 38 2 0, mv_e 38 (.putfield 49) 41 1 2, mv_e 41 (.goto 16) 44 57 0, mv_e 44 (.aload_n 0) 45 0 0, mv_e 45 (.iload_n 2) 46 2 0, mv_e 46 (.putfield 52) 49 1 3, mv_e 49 (.goto 8) 52 57 0, mv_e 52 (.aload_n 0) 53 0 0, mv_e 53 (.iload_n 2) 54 2 0, mv_e 54 (.putfield 55) 57 1 4, mv_e 57 (.return_) 58 0 0]
def mv_t_X1_copyFrom : List mv_E := [mv_e 0 (.aload_n 0) 1 0 0, mv_e 1 (.aload_n 1) 2 1 0, mv_e 2 (.getfield 37) 5 1 0, mv_e 5 (.putfield 37) 8 1 0, mv_e 8 (.aload_n 0) 9 0 0, mv_e 9 (.aload_n 1) 10 1 0, mv_e 10 (.getfield 46) 13 1 1, mv_e 13 (.putfield 46) 16 1 1, mv_e 16 (.aload_n 0) 17 0 0, mv_e 17 (.aload_n 1) 18 1 0, mv_e 18 (.getfield 49) 21 1 2, mv_e 21 (.putfield 49) 24 1 2, mv_e 24 (.aload_n 0) 25 0 0, mv_e 25 (.aload_n 1) 26 1 0, mv_e 26 (.getfield 52) 29 1 3, mv_e 29 (.putfield 52) 32 1 3, mv_e 32 (.aload_n 0) 33 0 0, mv_e 33 (.aload_n 1) 34 1 0, mv_e 34 (.getfield 55) 37 1 4, mv_e 37 (.putfield 55) 40 1 4, mv_e 40 (.aload_n 1) 41 1 0, mv_e 41 (.getfield 11) 44 1 5, mv_ev 44 (.iconst 0) 45 (0) 0, mv_e 45 (.aload_n 0) 46 0 0, mv_e 46 (.getfield 11) 49 1 5, mv_ev 49 (.iconst 0) 50 (0) 0, mv_ev 50 (.iconst 5) 51 (5) 0, mv_e 51 (.invokestatic 58) 54 900 5, mv_e 54 (.aload_n 0) 55 0 0, mv_e 55 (.aload_n 1) 56 1 0, mv_e 56 (.getfield 64) 59 1 6, mv_e 59 (.putfield 64) 62 1 6, mv_e 62 (.aload_n 0) 63 0 0, mv_e 63 (.aload_n 1) 64 1 0, mv_e 64 (.getfield 18) 67 1 7, mv_e 67 (.putfield 18) 70 1 7, mv_e 70 (.aload_n 0) 71 0 0, mv_e 71 (.aload_n 1) 72 1 0, mv_e 72 (.getfield 22) 75 1 8, mv_e 75 (.putfield 22) 78 1 8, mv_e 78 (.aload_n 0) 79 0 0, mv_e 79 (.aload_n 1) 80 1 0, mv_e 80 (.getfield 25) 83 1 9, mv_e 83 (.putfield 25) 86 1 9, mv_e 86 (.aload_n 0) 87 0 0, mv_e 87 (.aload_n 1) 88 1 0, mv_e 88 (.getfield 28) 91 1 10, mv_e 91 (.putfield 28) 94 1 10, mv_e 94 (.aload_n 0) 95 0 0, mv_e 95 (.aload_n 1) 96 1 0, mv_e 96 (.getfield 31) 99 1 11, mv_e 99 (.putfield 31) 102 1 11, mv_e 102 (.aload_n 0) 103 0 0, mv_e 103 (.aload_n 1) 104 1 0, mv_e 104 (.getfield 34) 107 1 12, mv_e 107 (.putfield 34) 110 1 12, mv_e 110 (.aload_n 0) 111 0 0, mv_e 111 (.aload_n 1) 112 1 0, mv_e 112 (.getfield 40) 115 1 13, mv_e 115 (.putfield 40) 118 1 13, mv_e 118 (.aload_n 1) 119 1 0, mv_e 119 (.getfield 15) 122 1 14, mv_ev 122 (.iconst 0) 123 (0) 0, mv_e 123 (.aload_n 0) 124 0 0, mv_e 124 (.getfield 15) 127 1 14, mv_ev 127 (.iconst 0) 128 (0) 0, mv_ev 128 (.bipush 12) 130 (12) 0, mv_e 130 (.invokestatic 58) 133 900 5, mv_e 133 (.aload_n 0) 134 0 0, mv_e 134 (.aload_n 1) 135 1 0, mv_e 135 (.getfield 43) 138 1 15, mv_e 138 (.putfield 43) 141 1 15, mv_e 141 (.return_) 142 0 0]
def mv_t_X1_dropSums : List mv_E := [mv_e 0 (.aload_n 0) 1 0 0, mv_ev 1 (.iconst 0) 2 (0) 0, mv_e 2 (.putfield 22) 5 1 8, mv_e 5 (.aload_n 0) 6 0 0, mv_ev 6 (.iconst 0) 7 (0) 0, mv_e 7 (.putfield 25) 10 1 9, mv_e 10 (.return_) 11 0 0]
def mv_t_X1_expectation : List mv_E := [mv_e 0 (.aload_n 0) 1 0 0, mv_e 1 (.aload_n 0) 2 0 0, mv_e 2 (.getfield 18) 5 1 7, mv_e 5 (.invokevirtual 71) 8 15 2, mv_e 8 (.ireturn) 9 0 0]
def mv_t_X1_expectationOn : List mv_E := [mv_e 0 (.aload_n 0) 1 0 0, mv_e 1 (.getfield 40) 4 1 13, mv_ev 4 (.iconst 4) 5 (4) 0, mv_e 5 (.ishr) 6 0 0, mv_e 6 (.aload_n 0) 7 0 0, mv_e 7 (.iload_n 1) 8 1 0, mv_e 8 (.invokevirtual 67) 11 22 2, mv_e 11 (.iadd) 12 0 0, mv_ev 12 (.iconst 5) 13 (5) 0, mv_e 13 (.isub) 14 0 0, mv_e 14 (.ireturn) 15 0 0]
def mv_t_X1_parameter : List mv_E := [mv_e 0 (.iload_n 1) 1 1 0, mv_e 1 (.tableswitch 42 0 2 #[27, 32, 37]) 28 43 2, mv_e 28 (.aload_n 0) 29 0 0, mv_e 29 (.getfield 46) 32 1 1, mv_e 32 (.ireturn) 33 0 0, mv_e 33 (.aload_n 0) 34 0 0, mv_e 34 (.getfield 49) 37 1 2, mv_e 37 (.ireturn) 38 0 0, mv_e 38 (.aload_n 0) 39 0 0, mv_e 39 (.getfield 52) 42 1 3, mv_e 42 (.ireturn) 43 0 0, mv_e 43 (.aload_n 0) 44 0 0, mv_e 44 (.getfield 55) 47 1 4, mv_e 47 (.ireturn) 48 0 0]
def mv_t_X1_property : List mv_E := [mv_e 0 (.iload_n 1) 1 1 0, mv_e 1 (.tableswitch 135 0 12 #[67, 72, 77, 82, 87, 92, 97, 102, 107, 112, 117, 122, 127]) 68 136 3, mv_e 68 (.aload_n 0) 69 0 0, mv_e 69 (.getfield 37) 72 1 0, mv_e 72 (.ireturn) 73 0 0, mv_e 73 (.aload_n 0) 74 0 0, mv_e 74 (.getfield 46) 77 1 1, mv_e 77 (.ireturn) 78 0 0, mv_e 78 (.aload_n 0) 79 0 0, mv_e 79 (.getfield 49) 82 1 2, mv_e 82 (.ireturn) 83 0 0, mv_e 83 (.aload_n 0) 84 0 0, mv_e 84 (.getfield 52) 87 1 3, mv_e 87 (.ireturn) 88 0 0, mv_e 88 (.aload_n 0) 89 0 0, mv_e 89 (.getfield 55) 92 1 4, mv_e 92 (.ireturn) 93 0 0, mv_e 93 (.aload_n 0) 94 0 0, mv_e 94 (.getfield 18) 97 1 7, mv_e 97 (.ireturn) 98 0 0, mv_e 98 (.aload_n 0) 99 0 0, mv_e 99 (.getfield 22) 102 1 8, mv_e 102 (.ireturn) 103 0 0, mv_e 103 (.aload_n 0) 104 0 0, mv_e 104 (.getfield 25) 107 1 9, mv_e 107 (.ireturn) 108 0 0, mv_e 108 (.aload_n 0) 109 0 0, mv_e 109 (.getfield 28) 112 1 10, mv_e 112 (.ireturn) 113 0 0, mv_e 113 (.aload_n 0) 114 0 0, mv_e 114 (.getfield 31) 117 1 11, mv_e 117 (.ireturn) 118 0 0, mv_e 118 (.aload_n 0) 119 0 0, mv_e 119 (.getfield 34) 122 1 12, mv_e 122 (.ireturn) 123 0 0, mv_e 123 (.aload_n 0) 124 0 0, mv_e 124 (.getfield 40) 127 1 13, mv_e 127 (.ireturn) 128 0 0, mv_e 128 (.aload_n 0) 129 0 0, mv_e 129 (.invokevirtual 104) 132 14 1, mv_ev 132 (.bipush 100) 134 (100) 0, mv_e 134 (.iadd) 135 0 0, mv_e 135 (.ireturn) 136 0 0, mv_e 136 (.aload_n 0) 137 0 0, mv_e 137 (.getfield 43) 140 1 15, mv_e 140 (.ireturn) 141 0 0]
def mv_t_X1_remembers : List mv_E := [mv_e 0 (.iload_n 1) 1 1 0, mv_ev 1 (.iconst 0) 2 (0) 0, mv_e 2 (.aload_n 0) 3 0 0, mv_e 3 (.getfield 43) 6 1 15, mv_ev 6 (.iconst 1) 7 (1) 0, mv_e 7 (.isub) 8 0 0, mv_e 8 (.invokestatic 96) 11 84 3, mv_e 11 (.ireturn) 12 0 1]
def mv_t_X1_replay : List mv_E := [mv_ev 0 (.iconst 0) 1 (0) 0, mv_e 1 (.istore_n 3) 2 3 0, mv_ev 2 (.iconst 0) 3 (0) 0, mv_e 3 (.istore 4) 5 4 0, mv_ev 5 (.iconst 0) 6 (0) 0, mv_e 6 (.istore 5) 8 5 0, mv_e 8 (.iload 5) 10 5 0, mv_e 10 (.aload_n 0) 11 0 0, mv_e 11 (.getfield 43) 14 1 15, mv_e 14 (.if_icmp .ge 87) 17 101 0, mv_e 17 (.aload_n 0) 18 0 0, mv_e 18 (.getfield 15) 21 1 14, mv_e 21 (.iload 5) 23 5 0, mv_e 23 (.iaload) 24 0 0, mv_e 24 (.istore 6) 26 6 0, mv_e 26 (.iload 6) 28 6 0, mv_ev 28 (.bipush (-9)) 30 (-9) 0, mv_e 30 (.if_icmp .eq 65) 33 95 0, mv_e 33 (.aload_n 0) 34 0 0, mv_e 34 (.aload_n 0) 35 0 0, mv_e 35 (.getfield 18) 38 1 7, mv_e 38 (.aload_n 0) 39 0 0, mv_e 39 (.getfield 43) 42 1 15, mv_e 42 (.isub) 43 0 0, mv_e 43 (.iload 5) 45 5 0, mv_e 45 (.iadd) 46 0 0, mv_e 46 (.invokevirtual 71) 49 15 2, mv_e 49 (.istore 7) 51 7 0, mv_ev 51 (.iconst 0) 52 (0) 0, mv_e 52 (.iload_n 3) 53 3 0, mv_e 53 (.iload 6) 55 6 0, mv_e 55 (.iadd) 56 0 0, mv_e 56 (.iload 7) 58 7 0, mv_e 58 (.isub) 59 0 0, mv_e 59 (.iload_n 1) 60 1 0, mv_e 60 (.isub) 61 0 0, mv_e 61 (.invokestatic 74) 64 150 2, mv_e 64 (.istore_n 3) 65 3 0, mv_ev 65 (.iconst 0) 66 (0) 0, mv_e 66 (.iload 4) 68 4 0, mv_e 68 (.iload 7) 70 7 0, mv_e 70 (.iadd) 71 0 0, mv_e 71 (.iload 6) 73 6 0, mv_e 73 (.isub) 74 0 0, mv_e 74 (.iload_n 1) 75 1 0, mv_e 75 (.isub) 76 0 0, mv_e 76 (.invokestatic 74) 79 150 2, mv_e 79 (.istore 4) 81 4 0, mv_e 81 (.iload_n 3) 82 3 0, mv_e 82 (.iload_n 2) 83 2 0, mv_e 83 (.if_icmp .ge 9) 86 92 0, mv_e 86 (.iload 4) 88 4 0, mv_e 88 (.iload_n 2) 89 2 0, mv_e 89 (.if_icmp .lt 6) 92 95 0, mv_e 92 (.iload 5) 94 5 0, mv_e 94 (.ireturn) 95 0 0, mv_ev 95 (.iinc 5 1) 98 (1) 5, mv_e 98 (.goto (-90)) 101 8 0, mv_ev 101 (.bipush (-9)) 103 (-9) 0, mv_e 103 (.ireturn) 104 0 0]
def mv_t_X1_ring : List mv_E := [mv_e 0 (.aload_n 0) 1 0 0, mv_e 1 (.dup) 2 0 0, mv_e 2 (.getfield 28) 5 1 10, mv_ev 5 (.iconst 1) 6 (1) 0, mv_e 6 (.iadd) 7 0 0, mv_e 7 (.putfield 28) 10 1 10, mv_e 10 (.aload_n 0) 11 0 0, mv_e 11 (.iload_n 1) 12 1 0, mv_e 12 (.putfield 31) 15 1 11, mv_e 15 (.aload_n 0) 16 0 0, mv_e 16 (.aload_n 0) 17 0 0, mv_e 17 (.getfield 18) 20 1 7, mv_e 20 (.putfield 34) 23 1 12, mv_e 23 (.aload_n 0) 24 0 0, mv_e 24 (.getfield 55) 27 1 4, mv_ev 27 (.iconst 1) 28 (1) 0, mv_e 28 (.if_icmp .ne 12) 31 40 0, mv_e 31 (.aload_n 0) 32 0 0, mv_e 32 (.getfield 49) 35 1 2, mv_ev 35 (.iconst 2) 36 (2) 0, mv_e 36 (.idiv) 37 0 0, mv_e 37 (.goto 4) 40 41 0, mv_ev 40 (.iconst 0) 41 (0) 0, mv_e 41 (.istore_n 2) 42 2 0, mv_e 42 (.aload_n 0) 43 0 0, mv_e 43 (.iload_n 1) 44 1 0, mv_ev 44 (.iconst 1) 45 (1) 0, mv_e 45 (.iand) 46 0 0, mv_e 46 (.ifCond .eq 7) 49 53 0, mv_e 49 (.iload_n 2) 50 2 0, mv_e 50 (.goto 4) 53 54 0, mv_ev 53 (.iconst 0) 54 (0) 0, mv_e 54 (.putfield 22) 57 1 8, mv_e 57 (.aload_n 0) 58 0 0, mv_e 58 (.iload_n 1) 59 1 0, mv_ev 59 (.iconst 2) 60 (2) 0, mv_e 60 (.iand) 61 0 0, mv_e 61 (.ifCond .eq 7) 64 68 0, mv_e 64 (.iload_n 2) 65 2 0, mv_e 65 (.goto 4) 68 69 0, mv_ev 68 (.iconst 0) 69 (0) 0, mv_e 69 (.putfield 25) 72 1 9, mv_e 72 (.return_) 73 0 0]
def mv_t_X1_seasonDigit : List mv_E := [mv_e 0 (.aload_n 0) 1 0 0, mv_e 1 (.getfield 64) 4 1 6, mv_e 4 (.ifCond .le 12) 7 16 0, mv_e 7 (.iload_n 1) 8 1 0, mv_e 8 (.aload_n 0) 9 0 0, mv_e 9 (.getfield 64) 12 1 6, mv_e 12 (.irem) 13 0 0, mv_e 13 (.goto 4) 16 17 0, mv_ev 16 (.iconst 0) 17 (0) 0, mv_e 17 (.istore_n 2) 18 2 0, mv_e 18 (.iload_n 2) 19 2 0, mv_e 19 (.ifCond .lt 17) 22 36 0, mv_e 22 (.iload_n 2) 23 2 0, mv_ev 23 (.iconst 5) 24 (5) 0, mv_e 24 (.if_icmp .ge 12) 27 36 0, mv_e 27 (.aload_n 0) 28 0 0, mv_e 28 (.getfield 11) 31 1 5, mv_e 31 (.iload_n 2) 32 2 0, mv_e 32 (.iaload) 33 0 0, mv_e 33 (.goto 4) 36 37 0, mv_ev 36 (.iconst 0) 37 (0) 0, mv_e 37 (.ireturn) 38 0 0]
def mv_t_X1_thingAt : List mv_E := [mv_e 0 (.aload_n 0) 1 0 0, mv_e 1 (.iload_n 1) 2 1 0, mv_e 2 (.invokevirtual 100) 5 19 2, mv_e 5 (.ifCond .eq 12) 8 17 0, mv_e 8 (.aload_n 0) 9 0 0, mv_e 9 (.getfield 15) 12 1 14, mv_e 12 (.iload_n 1) 13 1 0, mv_e 13 (.iaload) 14 0 0, mv_e 14 (.goto 5) 17 19 0, mv_ev 17 (.bipush (-9)) 19 (-9) 0, mv_e 19 (.ireturn) 20 0 0]
def mv_t_X2_alarmSum : List mv_E := [mv_ev 0 (.iconst 0) 1 (0) 0, mv_e 1 (.istore_n 1) 2 1 0, mv_ev 2 (.iconst 0) 3 (0) 0, mv_e 3 (.istore_n 2) 4 2 0, mv_e 4 (.iload_n 2) 5 2 0, mv_e 5 (.aload_n 0) 6 0 0, mv_e 6 (.getfield 17) 9 2 1, mv_e 9 (.if_icmp .ge 21) 12 30 0, mv_e 12 (.iload_n 1) 13 1 0, mv_e 13 (.aload_n 0) 14 0 0, mv_e 14 (.getfield 11) 17 2 0, mv_e 17 (.iload_n 2) 18 2 0, mv_e 18 (.aaload) 19 5 1, mv_e 19 (.getfield 33) 22 1 10, mv_e 22 (.iadd) 23 0 0, mv_e 23 (.istore_n 1) 24 1 0, mv_ev 24 (.iinc 2 1) 27 (1) 2, mv_e 27 (.goto (-23)) 30 4 0, mv_e 30 (.iload_n 1) 31 1 0, mv_e 31 (.ireturn) 32 0 0]
def mv_t_X2_at : List mv_E := [mv_e 0 (.iload_n 1) 1 1 0, mv_ev 1 (.iconst 0) 2 (0) 0, mv_e 2 (.aload_n 0) 3 0 0, mv_e 3 (.getfield 17) 6 2 1, mv_ev 6 (.iconst 1) 7 (1) 0, mv_e 7 (.isub) 8 0 0, mv_e 8 (.invokestatic 29) 11 84 3, mv_e 11 (.ifCond .eq 12) 14 23 0, mv_e 14 (.aload_n 0) 15 0 0, mv_e 15 (.getfield 11) 18 2 0, mv_e 18 (.iload_n 1) 19 1 0, mv_e 19 (.aaload) 20 5 1, mv_e 20 (.goto 4) 23 24 0, mv_e 23 (.aconst_null) 24 0 0, mv_e 24 (.areturn) 25 0 0]
def mv_t_X2_copyFrom : List mv_E := [mv_e 0 (.aload_n 0) 1 0 0, mv_e 1 (.aload_n 1) 2 1 0, mv_e 2 (.getfield 17) 5 2 1, mv_e 5 (.putfield 17) 8 2 1, mv_e 8 (.aload_n 0) 9 0 0, mv_e 9 (.aload_n 1) 10 1 0, mv_e 10 (.getfield 21) 13 2 2, mv_e 13 (.putfield 21) 16 2 2, mv_ev 16 (.iconst 0) 17 (0) 0, mv_e 17 (.istore_n 2) 18 2 0, mv_e 18 (.iload_n 2) 19 2 0, mv_e 19 (.aload_n 1) 20 1 0, mv_e 20 (.getfield 17) 23 2 1, mv_e 23 (.if_icmp .ge 24) 26 47 0, mv_e 26 (.aload_n 0) 27 0 0, mv_e 27 (.getfield 11) 30 2 0, mv_e 30 (.iload_n 2) 31 2 0, mv_e 31 (.aaload) 32 5 1, mv_e 32 (.aload_n 1) 33 1 0, mv_e 33 (.getfield 11) 36 2 0, mv_e 36 (.iload_n 2) 37 2 0, mv_e 37 (.aaload) 38 5 1, mv_e 38 (.invokevirtual 25) 41 12 2, mv_ev 41 (.iinc 2 1) 44 (1) 2, mv_e 44 (.goto (-26)) 47 18 0, mv_e 47 (.return_) 48 0 0]
def mv_t_X2_precedes : List mv_E := [mv_e 0 (.aload_n 0) 1 0 0, mv_e 1 (.iload_n 1) 2 1 0, mv_e 2 (.invokevirtual 43) 5 25 2, mv_e 5 (.astore_n 3) 6 3 0, mv_e 6 (.aload_n 0) 7 0 0, mv_e 7 (.iload_n 2) 8 2 0, mv_e 8 (.invokevirtual 43) 11 25 2, mv_e 11 (.astore 4) 13 4 0, mv_e 13 (.aload_n 3) 14 3 0, mv_e 14 (.ifnull 8) 17 22 0, mv_e 17 (.aload 4) 19 4 0, mv_e 19 (.ifnonnull 5) 22 24 0, mv_ev 22 (.iconst 0) 23 (0) 0, mv_e 23 (.ireturn) 24 0 1, mv_e 24 (.aload_n 3) 25 3 0, mv_e 25 (.getfield 36) 28 1 8, mv_e 28 (.aload_n 3) 29 3 0, mv_e 29 (.getfield 47) 32 1 9, mv_e 32 (.invokestatic 50) 35 150 2, mv_e 35 (.aload 4) 37 4 0, mv_e 37 (.getfield 56) 40 1 2, mv_e 40 (.imul) 41 0 0, mv_e 41 (.istore 5) 43 5 0, mv_e 43 (.aload 4) 45 4 0, mv_e 45 (.getfield 36) 48 1 8, mv_e 48 (.aload 4) 50 4 0, mv_e 50 (.getfield 47) 53 1 9, mv_e 53 (.invokestatic 50) 56 150 2, mv_e 56 (.aload_n 3) 57 3 0, mv_e 57 (.getfield 56) 60 1 2, mv_e 60 (.imul) 61 0 0, mv_e 61 (.istore 6) 63 6 0, mv_e 63 (.iload 5) 65 5 0, mv_e 65 (.iload 6) 67 6 0, mv_e 67 (.if_icmp .gt 15) 70 82 0, mv_e 70 (.iload 5) 72 5 0, mv_e 72 (.iload 6) 74 6 0, mv_e 74 (.if_icmp .ne 12) 77 86 0, mv_e 77 (.iload_n 1) 78 1 0, mv_e 78 (.iload_n 2) 79 2 0, mv_e 79 (.if_icmp .ge 7) 82 86 0, mv_ev 82 (.iconst 1) 83 (1) 0, mv_e 83 (.goto 4) 86 87 0, mv_ev 86 (.iconst 0) 87 (0) 0, mv_e 87 (.ireturn) 88 0 1]
def mv_t_X2_rankOf : List mv_E := [mv_ev 0 (.iconst 0) 1 (0) 0, mv_e 1 (.istore_n 2) 2 2 0, mv_ev 2 (.iconst 0) 3 (0) 0, mv_e 3 (.istore_n 3) 4 3 0, mv_e 4 (.iload_n 3) 5 3 0, mv_e 5 (.aload_n 0) 6 0 0, mv_e 6 (.getfield 17) 9 2 1, mv_e 9 (.if_icmp .ge 26) 12 35 0, mv_e 12 (.iload_n 2) 13 2 0, mv_e 13 (.aload_n 0) 14 0 0, mv_e 14 (.iload_n 3) 15 3 0, mv_e 15 (.iload_n 1) 16 1 0, mv_e 16 (.invokevirtual 39) 19 28 3, mv_e 19 (.ifCond .eq 7) 22 26 0, mv_ev 22 (.iconst 1) 23 (1) 0, mv_e 23 (.goto 4) 26 27 0, mv_ev 26 (.iconst 0) 27 (0) 0, mv_e 27 (.iadd) 28 0 0, mv_e 28 (.istore_n 2) 29 2 0, mv_ev 29 (.iinc 3 1) 32 (1) 3, mv_e 32 (.goto (-28)) 35 4 0, mv_e 35 (.iload_n 2) 36 2 0, mv_e 36 (.ireturn) 37 0 0]
def mv_t_X2_sumOfUps : List mv_E := [mv_ev 0 (.iconst 0) 1 (0) 0, mv_e 1 (.istore_n 2) 2 2 0, mv_ev 2 (.iconst 0) 3 (0) 0, mv_e 3 (.istore_n 3) 4 3 0, mv_e 4 (.iload_n 3) 5 3 0, mv_e 5 (.aload_n 0) 6 0 0, mv_e 6 (.getfield 17) 9 2 1, mv_e 9 (.if_icmp .ge 34) 12 43 0, mv_e 12 (.iload_n 2) 13 2 0, mv_e 13 (.iload_n 1) 14 1 0, mv_e 14 (.iload_n 3) 15 3 0, mv_e 15 (.ishr) 16 0 0, mv_ev 16 (.iconst 1) 17 (1) 0, mv_e 17 (.iand) 18 0 0, mv_ev 18 (.iconst 1) 19 (1) 0, mv_e 19 (.if_icmp .ne 15) 22 34 0, mv_e 22 (.aload_n 0) 23 0 0, mv_e 23 (.getfield 11) 26 2 0, mv_e 26 (.iload_n 3) 27 3 0, mv_e 27 (.aaload) 28 5 1, mv_e 28 (.getfield 36) 31 1 8, mv_e 31 (.goto 4) 34 35 0, mv_ev 34 (.iconst 0) 35 (0) 0, mv_e 35 (.iadd) 36 0 0, mv_e 36 (.istore_n 2) 37 2 0, mv_ev 37 (.iinc 3 1) 40 (1) 3, mv_e 40 (.goto (-36)) 43 4 0, mv_e 43 (.iload_n 2) 44 2 0, mv_e 44 (.ireturn) 45 0 0]
def mv_t_X3_chance : List mv_E := [mv_e 0 (.iload_n 0) 1 0 0, mv_e 1 (.istore_n 2) 2 2 0, mv_e 2 (.iload_n 1) 3 1 0, mv_e 3 (.istore_n 3) 4 3 0, mv_e 4 (.iload_n 3) 5 3 0, mv_ev 5 (.iconst 4) 6 (4) 0, mv_e 6 (.if_icmp .ge 14) 9 20 0, mv_e 9 (.iload_n 2) 10 2 0, mv_ev 10 (.bipush 10) 12 (10) 0, mv_e 12 (.idiv) 13 0 0, mv_e 13 (.istore_n 2) 14 2 0, mv_ev 14 (.iinc 3 1) 17 (1) 3, mv_e 17 (.goto (-13)) 20 4 0, mv_e 20 (.iload_n 2) 21 2 0, mv_ev 21 (.bipush 10) 23 (10) 0, mv_e 23 (.irem) 24 0 0, mv_e 24 (.ireturn) 25 0 0]
def mv_t_X3_climbs : List mv_E := [mv_ev 0 (.iconst 0) 1 (0) 0, mv_e 1 (.istore_n 2) 2 2 0, mv_e 2 (.iload_n 2) 3 2 0, mv_ev 3 (.iconst 5) 4 (5) 0, mv_e 4 (.if_icmp .ge 26) 7 30 0, mv_e 7 (.iload_n 2) 8 2 0, mv_ev 8 (.iconst 2) 9 (2) 0, mv_e 9 (.isub) 10 0 0, mv_e 10 (.iload_n 0) 11 0 0, mv_e 11 (.if_icmp .le 13) 14 24 0, mv_e 14 (.iload_n 1) 15 1 0, mv_e 15 (.iload_n 2) 16 2 0, mv_e 16 (.invokestatic 39) 19 31 2, mv_e 19 (.ifCond .le 5) 22 24 0, mv_ev 22 (.iconst 1) 23 (1) 0, mv_e 23 (.ireturn) 24 0 1, mv_ev 24 (.iinc 2 1) 27 (1) 2, mv_e 27 (.goto (-25)) 30 2 0, mv_ev 30 (.iconst 0) 31 (0) 0, mv_e 31 (.ireturn) 32 0 1]
def mv_t_X3_eliminate : List mv_E := [mv_ew 0 (.lconst 1) 1 (1), mv_e 1 (.lstore_n 2) 2 2 0, mv_ev 2 (.iconst 0) 3 (0) 0, mv_e 3 (.istore 4) 5 4 0, mv_e 5 (.iload 4) 7 4 0, mv_e 7 (.iload_n 1) 8 1 0, mv_ev 8 (.iconst 1) 9 (1) 0, mv_e 9 (.isub) 10 0 0, mv_e 10 (.if_icmp .ge 122) 13 132 0, mv_e 13 (.aload_n 0) 14 0 0, mv_e 14 (.getfield 13) 17 3 0, mv_e 17 (.iload 4) 19 4 0, mv_e 19 (.aaload) 20 6 0, mv_e 20 (.iload 4) 22 4 0, mv_e 22 (.laload) 23 0 0, mv_e 23 (.lstore 5) 25 5 0, mv_e 25 (.iload 4) 27 4 0, mv_ev 27 (.iconst 1) 28 (1) 0, mv_e 28 (.iadd) 29 0 0, mv_e 29 (.istore 7) 31 7 0, mv_e 31 (.iload 7) 33 7 0, mv_e 33 (.iload_n 1) 34 1 0, mv_e 34 (.if_icmp .ge 89) 37 123 0, mv_e 37 (.iload 4) 39 4 0, mv_ev 39 (.iconst 1) 40 (1) 0, mv_e 40 (.iadd) 41 0 0, mv_e 41 (.istore 8) 43 8 0, mv_e 43 (.iload 8) 45 8 0, mv_e 45 (.iload_n 1) 46 1 0, mv_e 46 (.if_icmp .gt 71) 49 117 0, mv_e 49 (.aload_n 0) 50 0 0, mv_e 50 (.getfield 13) 53 3 0, mv_e 53 (.iload 7) 55 7 0, mv_e 55 (.aaload) 56 6 0, mv_e 56 (.iload 8) 58 8 0, mv_e 58 (.laload) 59 0 0, mv_e 59 (.lload 5) 61 5 0, mv_e 61 (.lmul) 62 0 0, mv_e 62 (.aload_n 0) 63 0 0, mv_e 63 (.getfield 13) 66 3 0, mv_e 66 (.iload 7) 68 7 0, mv_e 68 (.aaload) 69 6 0, mv_e 69 (.iload 4) 71 4 0, mv_e 71 (.laload) 72 0 0, mv_e 72 (.aload_n 0) 73 0 0, mv_e 73 (.getfield 13) 76 3 0, mv_e 76 (.iload 4) 78 4 0, mv_e 78 (.aaload) 79 6 0, mv_e 79 (.iload 8) 81 8 0, mv_e 81 (.laload) 82 0 0, mv_e 82 (.lmul) 83 0 0, mv_e 83 (.lsub) 84 0 0, mv_e 84 (.lstore 9) 86 9 0, mv_e 86 (.aload_n 0) 87 0 0, mv_e 87 (.getfield 13) 90 3 0, mv_e 90 (.iload 7) 92 7 0, mv_e 92 (.aaload) 93 6 0, mv_e 93 (.iload 8) 95 8 0, mv_e 95 (.lload_n 2) 96 2 0, mv_ew 96 (.lconst 0) 97 (0), mv_e 97 (.lcmp) 98 0 0, mv_e 98 (.ifCond .eq 10) 101 108 0, mv_e 101 (.lload 9) 103 9 0, mv_e 103 (.lload_n 2) 104 2 0, mv_e 104 (.ldiv) 105 0 0, mv_e 105 (.goto 5) 108 110 0, mv_e 108 (.lload 9) 110 9 0, mv_e 110 (.lastore) 111 0 0, mv_ev 111 (.iinc 8 1) 114 (1) 8, mv_e 114 (.goto (-71)) 117 43 0, mv_ev 117 (.iinc 7 1) 120 (1) 7, mv_e 120 (.goto (-89)) 123 31 0, mv_e 123 (.lload 5) 125 5 0, mv_e 125 (.lstore_n 2) 126 2 0, mv_ev 126 (.iinc 4 1) 129 (1) 4, mv_e 129 (.goto (-124)) 132 5 0, mv_e 132 (.aload_n 0) 133 0 0, mv_e 133 (.aload_n 0) 134 0 0, mv_e 134 (.getfield 13) 137 3 0, mv_e 137 (.iload_n 1) 138 1 0, mv_ev 138 (.iconst 1) 139 (1) 0, mv_e 139 (.isub) 140 0 0, mv_e 140 (.aaload) 141 6 0, mv_e 141 (.iload_n 1) 142 1 0, mv_e 142 (.laload) 143 0 0, mv_e 143 (.putfield 16) 146 3 1, mv_e 146 (.aload_n 0) 147 0 0, mv_e 147 (.aload_n 0) 148 0 0, mv_e 148 (.getfield 13) 151 3 0, mv_e 151 (.iload_n 1) 152 1 0, mv_ev 152 (.iconst 1) 153 (1) 0, mv_e 153 (.isub) 154 0 0, mv_e 154 (.aaload) 155 6 0, mv_e 155 (.iload_n 1) 156 1 0, mv_ev 156 (.iconst 1) 157 (1) 0, mv_e 157 (.isub) 158 0 0, mv_e 158 (.laload) 159 0 0, mv_e 159 (.putfield 20) 162 3 2, mv_e 162 (.aload_n 0) 163 0 0, mv_e 163 (.getfield 20) 166 3 2, mv_ew 166 (.lconst 0) 167 (0), mv_e 167 (.lcmp) 168 0 0, mv_e 168 (.ifCond .le 7) 171 175 0, mv_ev 171 (.iconst 1) 172 (1) 0, mv_e 172 (.goto 4) 175 176 0, mv_ev 175 (.iconst 0) 176 (0) 0, mv_e 176 (.ireturn) 177 0 1]
def mv_t_X3_putEquation : List mv_E := [mv_e 0 (.aload_n 0) 1 0 0, mv_e 1 (.getfield 13) 4 3 0, mv_e 4 (.iload_n 3) 5 3 0, mv_ev 5 (.iconst 1) 6 (1) 0, mv_e 6 (.isub) 7 0 0, mv_e 7 (.iload_n 1) 8 1 0, mv_e 8 (.isub) 9 0 0, mv_e 9 (.aaload) 10 6 0, mv_e 10 (.astore 5) 12 5 0, mv_ev 12 (.iconst 0) 13 (0) 0, mv_e 13 (.istore 6) 15 6 0, mv_e 15 (.iload 6) 17 6 0, mv_e 17 (.iload_n 3) 18 3 0, mv_e 18 (.if_icmp .ge 15) 21 33 0, mv_e 21 (.aload 5) 23 5 0, mv_e 23 (.iload 6) 25 6 0, mv_ew 25 (.lconst 0) 26 (0), mv_e 26 (.lastore) 27 0 0, mv_ev 27 (.iinc 6 1) 30 (1) 6, mv_e 30 (.goto (-15)) 33 15 0, mv_e 33 (.aload 5) 35 5 0, mv_e 35 (.iload_n 3) 36 3 0, mv_ev 36 (.iconst 1) 37 (1) 0, mv_e 37 (.isub) 38 0 0, mv_e 38 (.iload_n 1) 39 1 0, mv_e 39 (.isub) 40 0 0, mv_ew 40 (.ldc2_w 43) 43 (10), mv_e 43 (.lastore) 44 0 0, mv_e 44 (.aload 5) 46 5 0, mv_e 46 (.iload_n 3) 47 3 0, mv_ew 47 (.ldc2_w 43) 50 (10), mv_e 50 (.lastore) 51 0 0, mv_ev 51 (.iconst 0) 52 (0) 0, mv_e 52 (.istore 6) 54 6 0, mv_e 54 (.iload 6) 56 6 0, mv_ev 56 (.iconst 5) 57 (5) 0, mv_e 57 (.if_icmp .ge 49) 60 106 0, mv_ev 60 (.iconst 0) 61 (0) 0, mv_e 61 (.iload_n 1) 62 1 0, mv_e 62 (.iload 6) 64 6 0, mv_e 64 (.iadd) 65 0 0, mv_ev 65 (.iconst 2) 66 (2) 0, mv_e 66 (.isub) 67 0 0, mv_e 67 (.iload_n 2) 68 2 0, mv_e 68 (.isub) 69 0 0, mv_e 69 (.invokestatic 45) 72 150 2, mv_e 72 (.istore 7) 74 7 0, mv_e 74 (.iload 7) 76 7 0, mv_e 76 (.iload_n 3) 77 3 0, mv_e 77 (.if_icmp .ge 23) 80 100 0, mv_e 80 (.aload 5) 82 5 0, mv_e 82 (.iload_n 3) 83 3 0, mv_ev 83 (.iconst 1) 84 (1) 0, mv_e 84 (.isub) 85 0 0, mv_e 85 (.iload 7) 87 7 0, mv_e 87 (.isub) 88 0 0, mv_e 88 (.dup2) 89 0 0, mv_e 89 (.laload) 90 0 0, mv_e 90 (.iload 4) 92 4 0, mv_e 92 (.iload 6) 94 6 0, mv_e 94 (.invokestatic 39) 97 31 2, mv_e 97 (.i2l) 98 0 0, mv_e 98 (.lsub) 99 0 0, mv_e 99 (.lastore) 100 0 0, mv_ev 100 (.iinc 6 1) 103 (1) 6, mv_e 103 (.goto (-49)) 106 54 0, mv_e 106 (.return_) 107 0 0]
def mv_t_X3_solve : List mv_E := [mv_e 0 (.iload_n 2) 1 2 0, mv_ev 1 (.iconst 1) 2 (1) 0, mv_ev 2 (.bipush 6) 4 (6) 0, mv_e 4 (.invokestatic 23) 7 84 3, mv_e 7 (.ifCond .eq 11) 10 18 0, mv_e 10 (.iload_n 1) 11 1 0, mv_e 11 (.iload_n 3) 12 3 0, mv_e 12 (.invokestatic 27) 15 32 2, mv_e 15 (.ifCond .ne 5) 18 20 0, mv_ev 18 (.iconst 0) 19 (0) 0, mv_e 19 (.ireturn) 20 0 1, mv_ev 20 (.iconst 0) 21 (0) 0, mv_e 21 (.istore 4) 23 4 0, mv_e 23 (.iload 4) 25 4 0, mv_e 25 (.iload_n 2) 26 2 0, mv_e 26 (.if_icmp .ge 18) 29 44 0, mv_e 29 (.aload_n 0) 30 0 0, mv_e 30 (.iload 4) 32 4 0, mv_e 32 (.iload_n 1) 33 1 0, mv_e 33 (.iload_n 2) 34 2 0, mv_e 34 (.iload_n 3) 35 3 0, mv_e 35 (.invokevirtual 31) 38 35 5, mv_ev 38 (.iinc 4 1) 41 (1) 4, mv_e 41 (.goto (-18)) 44 23 0, mv_e 44 (.aload_n 0) 45 0 0, mv_e 45 (.iload_n 2) 46 2 0, mv_e 46 (.invokevirtual 35) 49 33 2, mv_e 49 (.ireturn) 50 0 1]
def mv_t_X5_append : List mv_E := [mv_e 0 (.aload_n 0) 1 0 0, mv_e 1 (.getfield 15) 4 5 1, mv_ev 4 (.bipush 80) 6 (80) 0, mv_e 6 (.if_icmp .lt 5) 9 11 0, mv_ev 9 (.iconst 0) 10 (0) 0, mv_e 10 (.ireturn) 11 0 1, mv_e 11 (.aload_n 0) 12 0 0, mv_e 12 (.getfield 11) 15 5 0, mv_e 15 (.aload_n 0) 16 0 0, mv_e 16 (.getfield 15) 19 5 1, mv_e 19 (.iload_n 1) 20 1 0, mv_e 20 (.iastore) 21 0 0, mv_e 21 (.aload_n 0) 22 0 0, mv_e 22 (.dup) 23 0 0, mv_e 23 (.getfield 15) 26 5 1, mv_ev 26 (.iconst 1) 27 (1) 0, mv_e 27 (.iadd) 28 0 0, mv_e 28 (.putfield 15) 31 5 1, mv_ev 31 (.iconst 1) 32 (1) 0, mv_e 32 (.ireturn) 33 0 1]
def mv_t_X5_digit : List mv_E := [mv_e 0 (.iload_n 1) 1 1 0, mv_ev 1 (.iconst 0) 2 (0) 0, mv_e 2 (.aload_n 0) 3 0 0, mv_e 3 (.getfield 15) 6 5 1, mv_ev 6 (.iconst 1) 7 (1) 0, mv_e 7 (.isub) 8 0 0, mv_e 8 (.invokestatic 23) 11 84 3, mv_e 11 (.ifCond .eq 15) 14 26 0, mv_e 14 (.aload_n 0) 15 0 0, mv_e 15 (.getfield 11) 18 5 0, mv_e 18 (.iload_n 1) 19 1 0, mv_e 19 (.iaload) 20 0 0, mv_ev 20 (.bipush 48) 22 (48) 0, mv_e 22 (.isub) 23 0 0, mv_e 23 (.goto 4) 26 27 0, mv_ev 26 (.iconst 0) 27 (0) 0, mv_e 27 (.ireturn) 28 0 0]
def mv_t_X5_findFault : List mv_E := [mv_e 0 (.aload_n 0) 1 0 0, mv_e 1 (.getfield 15) 4 5 1, mv_e 4 (.ifCond .eq 14) 7 18 0, mv_e 7 (.aload_n 0) 8 0 0, mv_e 8 (.getfield 11) 11 5 0, mv_ev 11 (.iconst 0) 12 (0) 0, mv_e 12 (.iaload) 13 0 0, mv_ev 13 (.bipush 87) 15 (87) 0, mv_e 15 (.if_icmp .eq 5) 18 20 0, mv_ev 18 (.iconst 0) 19 (0) 0, mv_e 19 (.ireturn) 20 0 0, mv_ev 20 (.iconst 0) 21 (0) 0, mv_e 21 (.istore_n 1) 22 1 0, mv_ev 22 (.iconst 0) 23 (0) 0, mv_e 23 (.istore_n 2) 24 2 0, mv_ev 24 (.iconst 1) 25 (1) 0, mv_e 25 (.istore_n 3) 26 3 0, mv_e 26 (.iload_n 3) 27 3 0, mv_e 27 (.aload_n 0) 28 0 0, mv_e 28 (.getfield 15) 31 5 1, mv_e 31 (.if_icmp .ge 59) 34 90 0, mv_e 34 (.iload_n 2) 35 2 0, mv_ev 35 (.iconst 5) 36 (5) 0, mv_e 36 (.if_icmp .eq 24) 39 60 0, mv_e 39 (.iload_n 1) 40 1 0, mv_e 40 (.aload_n 0) 41 0 0, mv_e 41 (.getfield 11) 44 5 0, mv_e 44 (.iload_n 3) 45 3 0, mv_e 45 (.iaload) 46 0 0, mv_e 46 (.aload_n 0) 47 0 0, mv_e 47 (.getfield 11) 50 5 0, mv_e 50 (.iload_n 3) 51 3 0, mv_ev 51 (.iconst 1) 52 (1) 0, mv_e 52 (.isub) 53 0 0, mv_e 53 (.iaload) 54 0 0, mv_e 54 (.invokestatic 19) 57 41 3, mv_e 57 (.ifCond .ne 5) 60 62 0, mv_e 60 (.iload_n 3) 61 3 0, mv_e 61 (.ireturn) 62 0 0, mv_e 62 (.aload_n 0) 63 0 0, mv_e 63 (.getfield 11) 66 5 0, mv_e 66 (.iload_n 3) 67 3 0, mv_e 67 (.iaload) 68 0 0, mv_ev 68 (.bipush 46) 70 (46) 0, mv_e 70 (.if_icmp .ne 11) 73 81 0, mv_ev 73 (.iconst 0) 74 (0) 0, mv_e 74 (.istore_n 1) 75 1 0, mv_ev 75 (.iinc 2 1) 78 (1) 2, mv_e 78 (.goto 6) 81 84 0, mv_ev 81 (.iinc 1 1) 84 (1) 1, mv_ev 84 (.iinc 3 1) 87 (1) 3, mv_e 87 (.goto (-61)) 90 26 0, mv_e 90 (.iload_n 1) 91 1 0, mv_e 91 (.ifCond .ne 8) 94 99 0, mv_ev 94 (.bipush (-9)) 96 (-9) 0, mv_e 96 (.goto 7) 99 103 0, mv_e 99 (.aload_n 0) 100 0 0, mv_e 100 (.getfield 15) 103 5 1, mv_e 103 (.ireturn) 104 0 0]
def mv_t_X5_fits : List mv_E := [mv_e 0 (.iload_n 0) 1 0 0, mv_e 1 (.tableswitch 156 0 13 #[71, 156, 156, 156, 156, 83, 103, 112, 156, 121, 121, 121, 121, 144]) 72 157 4, mv_e 72 (.iload_n 1) 73 1 0, mv_ev 73 (.bipush 99) 75 (99) 0, mv_e 75 (.if_icmp .ne 7) 78 82 0, mv_ev 78 (.iconst 1) 79 (1) 0, mv_e 79 (.goto 4) 82 83 0, mv_ev 82 (.iconst 0) 83 (0) 0, mv_e 83 (.ireturn) 84 0 1, mv_e 84 (.iload_n 1) 85 1 0, mv_e 85 (.iload_n 2) 86 2 0, mv_ev 86 (.bipush 48) 88 (48) 0, mv_e 88 (.if_icmp .ne 8) 91 96 0, mv_ev 91 (.bipush 49) 93 (49) 0, mv_e 93 (.goto 5) 96 98 0, mv_ev 96 (.bipush 48) 98 (48) 0, mv_ev 98 (.bipush 57) 100 (57) 0, mv_e 100 (.invokestatic 23) 103 84 3, mv_e 103 (.ireturn) 104 0 1, mv_e 104 (.iload_n 1) 105 1 0, mv_ev 105 (.bipush 48) 107 (48) 0, mv_ev 107 (.bipush 52) 109 (52) 0, mv_e 109 (.invokestatic 23) 112 84 3, mv_e 112 (.ireturn) 113 0 1, mv_e 113 (.iload_n 1) 114 1 0, mv_ev 114 (.bipush 48) 116 (48) 0, mv_ev 116 (.bipush 49) 118 (49) 0, mv_e 118 (.invokestatic 23) 121 84 3, mv_e 121 (.ireturn) 122 0 1, mv_e 122 (.iload_n 1) 123 1 0, mv_ev 123 (.bipush 46) 125 (46) 0, mv_e 125 (.if_icmp .eq 14) 128 139 0, mv_e 128 (.iload_n 1) 129 1 0, mv_ev 129 (.bipush 48) 131 (48) 0, mv_ev 131 (.bipush 57) 133 (57) 0, mv_e 133 (.invokestatic 23) 136 84 3, mv_e 136 (.ifCond .eq 7) 139 143 0, mv_ev 139 (.iconst 1) 140 (1) 0, mv_e 140 (.goto 4) 143 144 0, mv_ev 143 (.iconst 0) 144 (0) 0, mv_e 144 (.ireturn) 145 0 1, mv_e 145 (.iload_n 1) 146 1 0, mv_ev 146 (.bipush 46) 148 (46) 0, mv_e 148 (.if_icmp .ne 7) 151 155 0, mv_ev 151 (.iconst 1) 152 (1) 0, mv_e 152 (.goto 4) 155 156 0, mv_ev 155 (.iconst 0) 156 (0) 0, mv_e 156 (.ireturn) 157 0 1, mv_e 157 (.iload_n 1) 158 1 0, mv_ev 158 (.bipush 48) 160 (48) 0, mv_ev 160 (.bipush 57) 162 (57) 0, mv_e 162 (.invokestatic 23) 165 84 3, mv_e 165 (.ireturn) 166 0 1]
def mv_t_X5_readInto : List mv_E := [mv_ev 0 (.iconst 1) 1 (1) 0, mv_e 1 (.istore_n 2) 2 2 0, mv_ev 2 (.iconst 0) 3 (0) 0, mv_e 3 (.istore_n 3) 4 3 0, mv_e 4 (.iload_n 3) 5 3 0, mv_ev 5 (.iconst 5) 6 (5) 0, mv_e 6 (.if_icmp .ge 32) 9 38 0, mv_e 9 (.iload_n 2) 10 2 0, mv_ev 10 (.bipush 10) 12 (10) 0, mv_e 12 (.iadd) 13 0 0, mv_e 13 (.aload_n 0) 14 0 0, mv_e 14 (.getfield 15) 17 5 1, mv_e 17 (.if_icmp .gt 21) 20 38 0, mv_e 20 (.aload_n 0) 21 0 0, mv_e 21 (.iload_n 2) 22 2 0, mv_e 22 (.aload_n 1) 23 1 0, mv_e 23 (.getfield 26) 26 2 0, mv_e 26 (.iload_n 3) 27 3 0, mv_e 27 (.aaload) 28 5 1, mv_e 28 (.invokevirtual 32) 31 44 3, mv_e 31 (.istore_n 2) 32 2 0, mv_ev 32 (.iinc 3 1) 35 (1) 3, mv_e 35 (.goto (-31)) 38 4 0, mv_e 38 (.aload_n 1) 39 1 0, mv_e 39 (.iload_n 3) 40 3 0, mv_e 40 (.putfield 36) 43 2 1, mv_e 43 (.return_) 44 0 0]
def mv_t_X5_readSeries : List mv_E := [mv_e 0 (.aload_n 2) 1 2 0, mv_ev 1 (.bipush 10) 3 (10) 0, mv_e 3 (.aload_n 0) 4 0 0, mv_e 4 (.iload_n 1) 5 1 0, mv_ev 5 (.iconst 1) 6 (1) 0, mv_e 6 (.iadd) 7 0 0, mv_e 7 (.invokevirtual 37) 10 39 2, mv_e 10 (.imul) 11 0 0, mv_e 11 (.aload_n 0) 12 0 0, mv_e 12 (.iload_n 1) 13 1 0, mv_ev 13 (.iconst 2) 14 (2) 0, mv_e 14 (.iadd) 15 0 0, mv_e 15 (.invokevirtual 37) 18 39 2, mv_e 18 (.iadd) 19 0 0, mv_e 19 (.putfield 41) 22 1 0, mv_e 22 (.aload_n 2) 23 2 0, mv_e 23 (.aload_n 0) 24 0 0, mv_e 24 (.iload_n 1) 25 1 0, mv_ev 25 (.iconst 3) 26 (3) 0, mv_e 26 (.iadd) 27 0 0, mv_e 27 (.invokevirtual 37) 30 39 2, mv_e 30 (.putfield 46) 33 1 1, mv_e 33 (.aload_n 2) 34 2 0, mv_ev 34 (.bipush 10) 36 (10) 0, mv_e 36 (.aload_n 0) 37 0 0, mv_e 37 (.iload_n 1) 38 1 0, mv_ev 38 (.iconst 4) 39 (4) 0, mv_e 39 (.iadd) 40 0 0, mv_e 40 (.invokevirtual 37) 43 39 2, mv_e 43 (.imul) 44 0 0, mv_e 44 (.aload_n 0) 45 0 0, mv_e 45 (.iload_n 1) 46 1 0, mv_ev 46 (.iconst 5) 47 (5) 0, mv_e 47 (.iadd) 48 0 0, mv_e 48 (.invokevirtual 37) 51 39 2, mv_e 51 (.iadd) 52 0 0, mv_e 52 (.putfield 49) 55 1 2, mv_e 55 (.aload_n 2) 56 2 0, mv_e 56 (.aload_n 0) 57 0 0, mv_e 57 (.iload_n 1) 58 1 0, mv_ev 58 (.bipush 6) 60 (6) 0, mv_e 60 (.iadd) 61 0 0, mv_e 61 (.invokevirtual 37) 64 39 2, mv_e 64 (.putfield 52) 67 1 3, mv_e 67 (.aload_n 2) 68 2 0, mv_e 68 (.aload_n 0) 69 0 0, mv_e 69 (.iload_n 1) 70 1 0, mv_ev 70 (.bipush 7) 72 (7) 0, mv_e 72 (.iadd) 73 0 0, mv_e 73 (.invokevirtual 37) 76 39 2, mv_e 76 (.putfield 55) 79 1 4, mv_e 79 (.iload_n 1) 80 1 0, mv_ev 80 (.bipush 8) 82 (8) 0, mv_e 82 (.iadd) 83 0 0, mv_e 83 (.istore_n 3) 84 3 0, mv_ev 84 (.iconst 0) 85 (0) 0, mv_e 85 (.istore 4) 87 4 0, mv_e 87 (.iload 4) 89 4 0, mv_ev 89 (.iconst 5) 90 (5) 0, mv_e 90 (.if_icmp .ge 35) 93 125 0, mv_e 93 (.aload_n 0) 94 0 0, mv_e 94 (.iload_n 3) 95 3 0, mv_e 95 (.iload 4) 97 4 0, mv_e 97 (.iadd) 98 0 0, mv_e 98 (.invokevirtual 58) 101 45 2, mv_e 101 (.ifCond .ne 24) 104 125 0, mv_e 104 (.aload_n 2) 105 2 0, mv_e 105 (.getfield 62) 108 1 5, mv_e 108 (.iload 4) 110 4 0, mv_e 110 (.aload_n 0) 111 0 0, mv_e 111 (.iload_n 3) 112 3 0, mv_e 112 (.iload 4) 114 4 0, mv_e 114 (.iadd) 115 0 0, mv_e 115 (.invokevirtual 37) 118 39 2, mv_e 118 (.iastore) 119 0 0, mv_ev 119 (.iinc 4 1) 122 (1) 4, mv_e 122 (.goto (-35)) 125 87 0, mv_e 125 (.aload_n 2) 126 2 0, mv_e 126 (.iload 4) 128 4 0, mv_e 128 (.putfield 65) 131 1 6, mv_e 131 (.aload_n 2) 132 2 0, mv_e 132 (.invokevirtual 68) 135 10 1, mv_e 135 (.iload_n 3) 136 3 0, mv_e 136 (.iload 4) 138 4 0, mv_e 138 (.iadd) 139 0 0, mv_ev 139 (.iconst 1) 140 (1) 0, mv_e 140 (.iadd) 141 0 0, mv_e 141 (.ireturn) 142 0 0]
def mv_t_X5_stopsAt : List mv_E := [mv_e 0 (.iload_n 1) 1 1 0, mv_ev 1 (.iconst 0) 2 (0) 0, mv_e 2 (.aload_n 0) 3 0 0, mv_e 3 (.getfield 15) 6 5 1, mv_ev 6 (.iconst 1) 7 (1) 0, mv_e 7 (.isub) 8 0 0, mv_e 8 (.invokestatic 23) 11 84 3, mv_e 11 (.ifCond .eq 14) 14 25 0, mv_e 14 (.aload_n 0) 15 0 0, mv_e 15 (.getfield 11) 18 5 0, mv_e 18 (.iload_n 1) 19 1 0, mv_e 19 (.iaload) 20 0 0, mv_ev 20 (.bipush 46) 22 (46) 0, mv_e 22 (.if_icmp .ne 7) 25 29 0, mv_ev 25 (.iconst 1) 26 (1) 0, mv_e 26 (.goto 4) 29 30 0, mv_ev 29 (.iconst 0) 30 (0) 0, mv_e 30 (.ireturn) 31 0 1]
def mv_t_X6_again : List mv_E := [mv_e 0 (.iload_n 1) 1 1 0, mv_ev 1 (.iconst 0) 2 (0) 0, mv_ev 2 (.iconst 1) 3 (1) 0, mv_e 3 (.invokestatic 70) 6 84 3, mv_e 6 (.ifCond .ne 5) 9 11 0, mv_ev 9 (.iconst (-1)) 10 (-1) 0, mv_e 10 (.ireturn) 11 0 0, mv_e 11 (.aload_n 0) 12 0 0, mv_e 12 (.getfield 34) 15 6 4, mv_e 15 (.iload_n 1) 16 1 0, mv_e 16 (.baload) 17 0 0, mv_e 17 (.ifCond .ne 6) 20 23 0, mv_ev 20 (.bipush (-3)) 22 (-3) 0, mv_e 22 (.ireturn) 23 0 0, mv_e 23 (.aload_n 0) 24 0 0, mv_e 24 (.getfield 19) 27 6 1, mv_e 27 (.aload_n 0) 28 0 0, mv_e 28 (.getfield 30) 31 6 3, mv_e 31 (.iload_n 1) 32 1 0, mv_e 32 (.aaload) 33 5 2, mv_e 33 (.invokevirtual 197) 36 26 2, mv_e 36 (.aload_n 0) 37 0 0, mv_e 37 (.getfield 26) 40 6 2, mv_e 40 (.invokevirtual 89) 43 0 1, mv_e 43 (.aload_n 0) 44 0 0, mv_e 44 (.getfield 19) 47 6 1, mv_e 47 (.invokevirtual 257) 50 24 1, mv_e 50 (.ireturn) 51 0 0]
def mv_t_X6_agrees : List mv_E := [mv_e 0 (.aload_n 0) 1 0 0, mv_e 1 (.getfield 55) 4 6 8, mv_e 4 (.aload_n 2) 5 2 0, mv_e 5 (.invokevirtual 150) 8 12 2, mv_e 8 (.aload_n 0) 9 0 0, mv_e 9 (.getfield 55) 12 6 8, mv_e 12 (.iload_n 3) 13 3 0, mv_e 13 (.aload_n 1) 14 1 0, mv_e 14 (.getfield 213) 17 4 1, mv_e 17 (.invokevirtual 154) 20 6 3, mv_e 20 (.aload_n 0) 21 0 0, mv_e 21 (.getfield 55) 24 6 8, mv_e 24 (.getfield 230) 27 1 10, mv_e 27 (.aload_n 2) 28 2 0, mv_e 28 (.getfield 230) 31 1 10, mv_e 31 (.isub) 32 0 0, mv_e 32 (.aload_n 1) 33 1 0, mv_e 33 (.getfield 216) 36 4 2, mv_e 36 (.if_icmp .ne 7) 39 43 0, mv_ev 39 (.iconst 1) 40 (1) 0, mv_e 40 (.goto 4) 43 44 0, mv_ev 43 (.iconst 0) 44 (0) 0, mv_e 44 (.aload_n 1) 45 1 0, mv_e 45 (.getfield 219) 48 4 3, mv_e 48 (.if_icmp .ne 7) 51 55 0, mv_ev 51 (.iconst 1) 52 (1) 0, mv_e 52 (.goto 4) 55 56 0, mv_ev 55 (.iconst 0) 56 (0) 0, mv_e 56 (.ireturn) 57 0 1]
def mv_t_X6_agreesWithAll : List mv_E := [mv_ev 0 (.iconst 0) 1 (0) 0, mv_e 1 (.istore_n 2) 2 2 0, mv_e 2 (.iload_n 2) 3 2 0, mv_e 3 (.aload_n 0) 4 0 0, mv_e 4 (.getfield 44) 7 6 6, mv_e 7 (.if_icmp .ge 47) 10 54 0, mv_e 10 (.aload_n 0) 11 0 0, mv_e 11 (.getfield 40) 14 6 5, mv_e 14 (.iload_n 2) 15 2 0, mv_e 15 (.aaload) 16 5 4, mv_e 16 (.astore_n 3) 17 3 0, mv_e 17 (.aload_n 0) 18 0 0, mv_e 18 (.getfield 19) 21 6 1, mv_e 21 (.aload_n 3) 22 3 0, mv_e 22 (.getfield 210) 25 4 0, mv_e 25 (.invokevirtual 93) 28 25 2, mv_e 28 (.astore 4) 30 4 0, mv_e 30 (.aload 4) 32 4 0, mv_e 32 (.ifnull 16) 35 48 0, mv_e 35 (.aload_n 0) 36 0 0, mv_e 36 (.aload_n 3) 37 3 0, mv_e 37 (.aload 4) 39 4 0, mv_e 39 (.iload_n 1) 40 1 0, mv_e 40 (.invokevirtual 226) 43 47 4, mv_e 43 (.ifCond .ne 5) 46 48 0, mv_ev 46 (.iconst 0) 47 (0) 0, mv_e 47 (.ireturn) 48 0 1, mv_ev 48 (.iinc 2 1) 51 (1) 2, mv_e 51 (.goto (-49)) 54 2 0, mv_ev 54 (.iconst 1) 55 (1) 0, mv_e 55 (.ireturn) 56 0 1]
def mv_t_X6_ahead : List mv_E := [mv_e 0 (.aload_n 0) 1 0 0, mv_e 1 (.getfield 19) 4 6 1, mv_e 4 (.iload_n 3) 5 3 0, mv_e 5 (.invokevirtual 93) 8 25 2, mv_e 8 (.astore 5) 10 5 0, mv_e 10 (.aload 5) 12 5 0, mv_e 12 (.ifnonnull 5) 15 17 0, mv_ev 15 (.iconst (-1)) 16 (-1) 0, mv_e 16 (.ireturn) 17 0 0, mv_e 17 (.iload_n 1) 18 1 0, mv_ev 18 (.iconst 0) 19 (0) 0, mv_ev 19 (.bipush 60) 21 (60) 0, mv_e 21 (.invokestatic 70) 24 84 3, mv_e 24 (.ifCond .eq 24) 27 48 0, mv_e 27 (.iload_n 2) 28 2 0, mv_ev 28 (.iconst 0) 29 (0) 0, mv_ev 29 (.bipush 99) 31 (99) 0, mv_e 31 (.invokestatic 70) 34 84 3, mv_e 34 (.ifCond .eq 14) 37 48 0, mv_e 37 (.iload 4) 39 4 0, mv_ev 39 (.iconst 5) 40 (5) 0, mv_ev 40 (.bipush 13) 42 (13) 0, mv_e 42 (.invokestatic 70) 45 84 3, mv_e 45 (.ifCond .ne 6) 48 51 0, mv_ev 48 (.bipush (-2)) 50 (-2) 0, mv_e 50 (.ireturn) 51 0 0, mv_e 51 (.aload_n 0) 52 0 0, mv_e 52 (.getfield 55) 55 6 8, mv_e 55 (.aload 5) 57 5 0, mv_e 57 (.invokevirtual 150) 60 12 2, mv_e 60 (.aload_n 0) 61 0 0, mv_e 61 (.getfield 55) 64 6 8, mv_e 64 (.iload_n 2) 65 2 0, mv_e 65 (.iload_n 1) 66 1 0, mv_e 66 (.invokevirtual 154) 69 6 3, mv_e 69 (.aload_n 0) 70 0 0, mv_e 70 (.getfield 55) 73 6 8, mv_e 73 (.iload 4) 75 4 0, mv_e 75 (.invokevirtual 97) 78 18 2, mv_e 78 (.ireturn) 79 0 0]
def mv_t_X6_alarmsWithGaps : List mv_E := [mv_e 0 (.aload_n 0) 1 0 0, mv_e 1 (.getfield 55) 4 6 8, mv_e 4 (.aload_n 1) 5 1 0, mv_e 5 (.invokevirtual 150) 8 12 2, mv_ev 8 (.iconst 0) 9 (0) 0, mv_e 9 (.istore 5) 11 5 0, mv_e 11 (.iload 5) 13 5 0, mv_e 13 (.iload_n 3) 14 3 0, mv_e 14 (.if_icmp .ge 43) 17 57 0, mv_e 17 (.iload 4) 19 4 0, mv_e 19 (.iload 5) 21 5 0, mv_e 21 (.ishr) 22 0 0, mv_ev 22 (.iconst 1) 23 (1) 0, mv_e 23 (.iand) 24 0 0, mv_ev 24 (.iconst 1) 25 (1) 0, mv_e 25 (.if_icmp .ne 13) 28 38 0, mv_e 28 (.aload_n 0) 29 0 0, mv_e 29 (.getfield 55) 32 6 8, mv_e 32 (.invokevirtual 113) 35 7 1, mv_e 35 (.goto 16) 38 51 0, mv_e 38 (.aload_n 0) 39 0 0, mv_e 39 (.getfield 55) 42 6 8, mv_e 42 (.iload_n 2) 43 2 0, mv_e 43 (.invokevirtual 110) 46 5 2, mv_e 46 (.ifCond .eq 5) 49 51 0, mv_ev 49 (.iconst 1) 50 (1) 0, mv_e 50 (.ireturn) 51 0 1, mv_ev 51 (.iinc 5 1) 54 (1) 5, mv_e 54 (.goto (-43)) 57 11 0, mv_ev 57 (.iconst 0) 58 (0) 0, mv_e 58 (.ireturn) 59 0 1]
def mv_t_X6_chances : List mv_E := [mv_e 0 (.iload_n 1) 1 1 0, mv_ev 1 (.iconst 0) 2 (0) 0, mv_ev 2 (.ldc 139) 4 (99999) 0, mv_e 4 (.invokestatic 70) 7 84 3, mv_e 7 (.ifCond .eq 12) 10 19 0, mv_e 10 (.iload_n 1) 11 1 0, mv_e 11 (.invokestatic 140) 14 55 1, mv_ev 14 (.bipush 10) 16 (10) 0, mv_e 16 (.if_icmp .eq 6) 19 22 0, mv_ev 19 (.bipush (-2)) 21 (-2) 0, mv_e 21 (.ireturn) 22 0 0, mv_e 22 (.aload_n 0) 23 0 0, mv_e 23 (.getfield 19) 26 6 1, mv_e 26 (.getfield 143) 29 2 2, mv_e 29 (.istore_n 2) 30 2 0, mv_e 30 (.aload_n 0) 31 0 0, mv_e 31 (.getfield 26) 34 6 2, mv_e 34 (.aload_n 0) 35 0 0, mv_e 35 (.getfield 19) 38 6 1, mv_e 38 (.invokevirtual 107) 41 2 2, mv_e 41 (.aload_n 0) 42 0 0, mv_e 42 (.getfield 19) 45 6 1, mv_e 45 (.iload_n 1) 46 1 0, mv_e 46 (.putfield 143) 49 2 2, mv_e 49 (.iload_n 2) 50 2 0, mv_e 50 (.ireturn) 51 0 0]
def mv_t_X6_clear : List mv_E := [mv_e 0 (.aload_n 0) 1 0 0, mv_e 1 (.getfield 19) 4 6 1, mv_e 4 (.iload_n 1) 5 1 0, mv_e 5 (.invokevirtual 93) 8 25 2, mv_e 8 (.astore_n 2) 9 2 0, mv_e 9 (.aload_n 2) 10 2 0, mv_e 10 (.ifnonnull 5) 13 15 0, mv_ev 13 (.iconst (-1)) 14 (-1) 0, mv_e 14 (.ireturn) 15 0 0, mv_e 15 (.aload_n 2) 16 2 0, mv_e 16 (.getfield 119) 19 1 8, mv_e 19 (.aload_n 2) 20 2 0, mv_e 20 (.getfield 122) 23 1 9, mv_e 23 (.iadd) 24 0 0, mv_e 24 (.istore_n 3) 25 3 0, mv_e 25 (.aload_n 0) 26 0 0, mv_e 26 (.getfield 26) 29 6 2, mv_e 29 (.aload_n 0) 30 0 0, mv_e 30 (.getfield 19) 33 6 1, mv_e 33 (.invokevirtual 107) 36 2 2, mv_e 36 (.aload_n 2) 37 2 0, mv_e 37 (.invokevirtual 125) 40 13 1, mv_e 40 (.iload_n 3) 41 3 0, mv_e 41 (.ireturn) 42 0 0]
def mv_t_X6_commonDivisor : List mv_E := [mv_e 0 (.lload_n 0) 1 0 0, mv_e 1 (.lstore 4) 3 4 0, mv_e 3 (.lload_n 2) 4 2 0, mv_e 4 (.lstore 6) 6 6 0, mv_ev 6 (.iconst 0) 7 (0) 0, mv_e 7 (.istore 8) 9 8 0, mv_e 9 (.iload 8) 11 8 0, mv_ev 11 (.bipush 100) 13 (100) 0, mv_e 13 (.if_icmp .ge 31) 16 44 0, mv_e 16 (.lload 6) 18 6 0, mv_ew 18 (.lconst 0) 19 (0), mv_e 19 (.lcmp) 20 0 0, mv_e 20 (.ifCond .eq 24) 23 44 0, mv_e 23 (.lload 4) 25 4 0, mv_e 25 (.lload 6) 27 6 0, mv_e 27 (.lrem) 28 0 0, mv_e 28 (.lstore 9) 30 9 0, mv_e 30 (.lload 6) 32 6 0, mv_e 32 (.lstore 4) 34 4 0, mv_e 34 (.lload 9) 36 9 0, mv_e 36 (.lstore 6) 38 6 0, mv_ev 38 (.iinc 8 1) 41 (1) 8, mv_e 41 (.goto (-32)) 44 9 0, mv_e 44 (.lload 4) 46 4 0, mv_e 46 (.lreturn) 47 0 0]
def mv_t_X6_count : List mv_E := [mv_e 0 (.iload_n 1) 1 1 0, mv_e 1 (.tableswitch 84 0 5 #[39, 47, 55, 63, 71, 79]) 40 85 5, mv_e 40 (.aload_n 0) 41 0 0, mv_e 41 (.getfield 10) 44 6 0, mv_e 44 (.getfield 78) 47 5 1, mv_e 47 (.ireturn) 48 0 0, mv_e 48 (.aload_n 0) 49 0 0, mv_e 49 (.getfield 19) 52 6 1, mv_e 52 (.getfield 92) 55 2 1, mv_e 55 (.ireturn) 56 0 0, mv_e 56 (.aload_n 0) 57 0 0, mv_e 57 (.getfield 19) 60 6 1, mv_e 60 (.invokevirtual 257) 63 24 1, mv_e 63 (.ireturn) 64 0 0, mv_e 64 (.aload_n 0) 65 0 0, mv_e 65 (.getfield 19) 68 6 1, mv_e 68 (.getfield 143) 71 2 2, mv_e 71 (.ireturn) 72 0 0, mv_e 72 (.aload_n 0) 73 0 0, mv_e 73 (.getfield 26) 76 6 2, mv_e 76 (.getfield 146) 79 0 2, mv_e 79 (.ireturn) 80 0 0, mv_e 80 (.aload_n 0) 81 0 0, mv_e 81 (.getfield 44) 84 6 6, mv_e 84 (.ireturn) 85 0 0, mv_ev 85 (.bipush (-2)) 87 (-2) 0, mv_e 87 (.ireturn) 88 0 0]
def mv_t_X6_digitSum : List mv_E := [mv_ev 0 (.iconst 0) 1 (0) 0, mv_e 1 (.istore_n 1) 2 1 0, mv_ev 2 (.iconst 0) 3 (0) 0, mv_e 3 (.istore_n 2) 4 2 0, mv_e 4 (.iload_n 2) 5 2 0, mv_ev 5 (.iconst 5) 6 (5) 0, mv_e 6 (.if_icmp .ge 17) 9 23 0, mv_e 9 (.iload_n 1) 10 1 0, mv_e 10 (.iload_n 0) 11 0 0, mv_e 11 (.iload_n 2) 12 2 0, mv_e 12 (.invokestatic 260) 15 31 2, mv_e 15 (.iadd) 16 0 0, mv_e 16 (.istore_n 1) 17 1 0, mv_ev 17 (.iinc 2 1) 20 (1) 2, mv_e 20 (.goto (-16)) 23 4 0, mv_e 23 (.iload_n 1) 24 1 0, mv_e 24 (.ireturn) 25 0 0]
def mv_t_X6_drawn : List mv_E := [mv_e 0 (.iload_n 1) 1 1 0, mv_ev 1 (.iconst 1) 2 (1) 0, mv_ev 2 (.bipush 20) 4 (20) 0, mv_e 4 (.invokestatic 70) 7 84 3, mv_e 7 (.ifCond .ne 6) 10 13 0, mv_ev 10 (.bipush (-2)) 12 (-2) 0, mv_e 12 (.ireturn) 13 0 0, mv_e 13 (.aload_n 0) 14 0 0, mv_e 14 (.getfield 59) 17 6 9, mv_e 17 (.aload_n 0) 18 0 0, mv_e 18 (.getfield 19) 21 6 1, mv_e 21 (.invokevirtual 197) 24 26 2, mv_ev 24 (.iconst 0) 25 (0) 0, mv_e 25 (.istore_n 2) 26 2 0, mv_ev 26 (.iconst 0) 27 (0) 0, mv_e 27 (.istore_n 3) 28 3 0, mv_e 28 (.iload_n 3) 29 3 0, mv_e 29 (.iload_n 1) 30 1 0, mv_e 30 (.if_icmp .ge 92) 33 122 0, mv_e 33 (.aload_n 0) 34 0 0, mv_e 34 (.aload_n 0) 35 0 0, mv_e 35 (.getfield 48) 38 6 7, mv_ew 38 (.ldc2_w 253) 41 (6364136223846793005), mv_e 41 (.lmul) 42 0 0, mv_ew 42 (.ldc2_w 255) 45 (1442695040888963407), mv_e 45 (.ladd) 46 0 0, mv_e 46 (.putfield 48) 49 6 7, mv_e 49 (.aload_n 0) 50 0 0, mv_e 50 (.getfield 48) 53 6 7, mv_ev 53 (.bipush 33) 55 (33) 0, mv_e 55 (.lushr) 56 0 0, mv_e 56 (.l2i) 57 0 0, mv_e 57 (.istore 4) 59 4 0, mv_e 59 (.aload_n 0) 60 0 0, mv_e 60 (.getfield 59) 63 6 9, mv_e 63 (.getfield 92) 66 2 1, mv_e 66 (.ifCond .le 26) 69 92 0, mv_e 69 (.aload_n 0) 70 0 0, mv_e 70 (.getfield 59) 73 6 9, mv_e 73 (.iload 4) 75 4 0, mv_ev 75 (.bipush 64) 77 (64) 0, mv_e 77 (.idiv) 78 0 0, mv_e 78 (.aload_n 0) 79 0 0, mv_e 79 (.getfield 59) 82 6 9, mv_e 82 (.getfield 92) 85 2 1, mv_e 85 (.irem) 86 0 0, mv_e 86 (.invokevirtual 93) 89 25 2, mv_e 89 (.goto 4) 92 93 0, mv_e 92 (.aconst_null) 93 0 0, mv_e 93 (.astore 5) 95 5 0, mv_e 95 (.aload 5) 97 5 0, mv_e 97 (.ifnull 19) 100 116 0, mv_e 100 (.aload 5) 102 5 0, mv_e 102 (.iload 4) 104 4 0, mv_ev 104 (.bipush 40) 106 (40) 0, mv_e 106 (.irem) 107 0 0, mv_e 107 (.invokevirtual 110) 110 5 2, mv_e 110 (.ifCond .eq 6) 113 116 0, mv_ev 113 (.iinc 2 1) 116 (1) 2, mv_ev 116 (.iinc 3 1) 119 (1) 3, mv_e 119 (.goto (-91)) 122 28 0, mv_e 122 (.iload_n 2) 123 2 0, mv_e 123 (.ireturn) 124 0 0]
def mv_t_X6_factorial : List mv_E := [mv_ew 0 (.lconst 1) 1 (1), mv_e 1 (.lstore_n 1) 2 1 0, mv_ev 2 (.iconst 2) 3 (2) 0, mv_e 3 (.istore_n 3) 4 3 0, mv_e 4 (.iload_n 3) 5 3 0, mv_e 5 (.iload_n 0) 6 0 0, mv_e 6 (.if_icmp .gt 14) 9 20 0, mv_e 9 (.lload_n 1) 10 1 0, mv_e 10 (.iload_n 3) 11 3 0, mv_e 11 (.i2l) 12 0 0, mv_e 12 (.lmul) 13 0 0, mv_e 13 (.lstore_n 1) 14 1 0, mv_ev 14 (.iinc 3 1) 17 (1) 3, mv_e 17 (.goto (-13)) 20 4 0, mv_e 20 (.lload_n 1) 21 1 0, mv_e 21 (.lreturn) 22 0 0]
def mv_t_X6_fault : List mv_E := [mv_e 0 (.aload_n 0) 1 0 0, mv_e 1 (.getfield 10) 4 6 0, mv_e 4 (.invokevirtual 81) 7 40 1, mv_e 7 (.ireturn) 8 0 0]
def mv_t_X6_firstAlarm : List mv_E := [mv_e 0 (.aload_n 0) 1 0 0, mv_e 1 (.getfield 55) 4 6 8, mv_e 4 (.aload_n 1) 5 1 0, mv_e 5 (.invokevirtual 150) 8 12 2, mv_ev 8 (.iconst 1) 9 (1) 0, mv_e 9 (.istore 4) 11 4 0, mv_e 11 (.iload 4) 13 4 0, mv_e 13 (.iload_n 3) 14 3 0, mv_e 14 (.if_icmp .gt 23) 17 37 0, mv_e 17 (.aload_n 0) 18 0 0, mv_e 18 (.getfield 55) 21 6 8, mv_e 21 (.iload_n 2) 22 2 0, mv_e 22 (.invokevirtual 110) 25 5 2, mv_e 25 (.ifCond .eq 6) 28 31 0, mv_e 28 (.iload 4) 30 4 0, mv_e 30 (.ireturn) 31 0 0, mv_ev 31 (.iinc 4 1) 34 (1) 4, mv_e 34 (.goto (-23)) 37 11 0, mv_ev 37 (.bipush (-9)) 39 (-9) 0, mv_e 39 (.ireturn) 40 0 0]
def mv_t_X6_gap : List mv_E := [mv_e 0 (.aload_n 0) 1 0 0, mv_e 1 (.getfield 19) 4 6 1, mv_e 4 (.iload_n 1) 5 1 0, mv_e 5 (.invokevirtual 93) 8 25 2, mv_e 8 (.astore_n 2) 9 2 0, mv_e 9 (.aload_n 2) 10 2 0, mv_e 10 (.ifnonnull 5) 13 15 0, mv_ev 13 (.iconst (-1)) 14 (-1) 0, mv_e 14 (.ireturn) 15 0 0, mv_e 15 (.aload_n 0) 16 0 0, mv_e 16 (.getfield 26) 19 6 2, mv_e 19 (.aload_n 0) 20 0 0, mv_e 20 (.getfield 19) 23 6 1, mv_e 23 (.invokevirtual 107) 26 2 2, mv_e 26 (.aload_n 2) 27 2 0, mv_e 27 (.invokevirtual 113) 30 7 1, mv_e 30 (.aload_n 2) 31 2 0, mv_e 31 (.getfield 116) 34 1 7, mv_e 34 (.ireturn) 35 0 0]
def mv_t_X6_judge : List mv_E := [mv_e 0 (.iload_n 1) 1 1 0, mv_ev 1 (.iconst 1) 2 (1) 0, mv_ev 2 (.iconst 4) 3 (4) 0, mv_e 3 (.invokestatic 70) 6 84 3, mv_e 6 (.ifCond .eq 19) 9 25 0, mv_e 9 (.lload_n 2) 10 2 0, mv_ew 10 (.lconst 0) 11 (0), mv_e 11 (.lcmp) 12 0 0, mv_e 12 (.ifCond .lt 13) 15 25 0, mv_e 15 (.lload_n 2) 16 2 0, mv_e 16 (.iload_n 1) 17 1 0, mv_e 17 (.invokestatic 193) 20 85 2, mv_ew 20 (.lconst 0) 21 (0), mv_e 21 (.lcmp) 22 0 0, mv_e 22 (.ifCond .eq 6) 25 28 0, mv_ev 25 (.bipush (-2)) 27 (-2) 0, mv_e 27 (.ireturn) 28 0 0, mv_e 28 (.aload_n 0) 29 0 0, mv_e 29 (.getfield 59) 32 6 9, mv_e 32 (.aload_n 0) 33 0 0, mv_e 33 (.getfield 19) 36 6 1, mv_e 36 (.invokevirtual 197) 39 26 2, mv_ev 39 (.iconst 0) 40 (0) 0, mv_e 40 (.istore 4) 42 4 0, mv_e 42 (.iload 4) 44 4 0, mv_e 44 (.iload_n 1) 45 1 0, mv_e 45 (.if_icmp .ge 38) 48 83 0, mv_e 48 (.lload_n 2) 49 2 0, mv_e 49 (.iload_n 1) 50 1 0, mv_ev 50 (.iconst 1) 51 (1) 0, mv_e 51 (.isub) 52 0 0, mv_e 52 (.iload 4) 54 4 0, mv_e 54 (.isub) 55 0 0, mv_e 55 (.invokestatic 193) 58 85 2, mv_ew 58 (.ldc2_w 199) 61 (10000), mv_e 61 (.lrem) 62 0 0, mv_e 62 (.l2i) 63 0 0, mv_e 63 (.istore 5) 65 5 0, mv_e 65 (.aload_n 0) 66 0 0, mv_e 66 (.iload 5) 68 5 0, mv_e 68 (.invokevirtual 201) 71 76 2, mv_e 71 (.ifCond .ne 6) 74 77 0, mv_e 74 (.iload 4) 76 4 0, mv_e 76 (.ireturn) 77 0 0, mv_ev 77 (.iinc 4 1) 80 (1) 4, mv_e 80 (.goto (-38)) 83 42 0, mv_ev 83 (.bipush (-9)) 85 (-9) 0, mv_e 85 (.ireturn) 86 0 0]
def mv_t_X6_keep : List mv_E := [mv_e 0 (.iload_n 1) 1 1 0, mv_ev 1 (.iconst 0) 2 (0) 0, mv_ev 2 (.iconst 1) 3 (1) 0, mv_e 3 (.invokestatic 70) 6 84 3, mv_e 6 (.ifCond .ne 5) 9 11 0, mv_ev 9 (.iconst (-1)) 10 (-1) 0, mv_e 10 (.ireturn) 11 0 0, mv_e 11 (.aload_n 0) 12 0 0, mv_e 12 (.getfield 30) 15 6 3, mv_e 15 (.iload_n 1) 16 1 0, mv_e 16 (.aaload) 17 5 2, mv_e 17 (.aload_n 0) 18 0 0, mv_e 18 (.getfield 19) 21 6 1, mv_e 21 (.invokevirtual 197) 24 26 2, mv_e 24 (.aload_n 0) 25 0 0, mv_e 25 (.getfield 34) 28 6 4, mv_e 28 (.iload_n 1) 29 1 0, mv_ev 29 (.iconst 1) 30 (1) 0, mv_e 30 (.bastore) 31 0 0, mv_e 31 (.aload_n 0) 32 0 0, mv_e 32 (.getfield 19) 35 6 1, mv_e 35 (.invokevirtual 257) 38 24 1, mv_e 38 (.ireturn) 39 0 0]
def mv_t_X6_least : List mv_E := [mv_e 0 (.aload_n 0) 1 0 0, mv_e 1 (.getfield 19) 4 6 1, mv_e 4 (.iload_n 1) 5 1 0, mv_e 5 (.invokevirtual 93) 8 25 2, mv_e 8 (.astore_n 3) 9 3 0, mv_e 9 (.aload_n 3) 10 3 0, mv_e 10 (.ifnonnull 5) 13 15 0, mv_ev 13 (.iconst (-1)) 14 (-1) 0, mv_e 14 (.ireturn) 15 0 0, mv_e 15 (.iload_n 2) 16 2 0, mv_ev 16 (.iconst 1) 17 (1) 0, mv_ev 17 (.bipush 30) 19 (30) 0, mv_e 19 (.invokestatic 70) 22 84 3, mv_e 22 (.ifCond .ne 6) 25 28 0, mv_ev 25 (.bipush (-2)) 27 (-2) 0, mv_e 27 (.ireturn) 28 0 0, mv_ev 28 (.iconst 0) 29 (0) 0, mv_e 29 (.istore 4) 31 4 0, mv_e 31 (.iload 4) 33 4 0, mv_ev 33 (.bipush 99) 35 (99) 0, mv_e 35 (.if_icmp .gt 25) 38 60 0, mv_e 38 (.aload_n 0) 39 0 0, mv_e 39 (.aload_n 3) 40 3 0, mv_e 40 (.iload 4) 42 4 0, mv_e 42 (.iload_n 2) 43 2 0, mv_e 43 (.invokevirtual 157) 46 59 4, mv_ev 46 (.bipush (-9)) 48 (-9) 0, mv_e 48 (.if_icmp .eq 6) 51 54 0, mv_e 51 (.iload 4) 53 4 0, mv_e 53 (.ireturn) 54 0 0, mv_ev 54 (.iinc 4 1) 57 (1) 4, mv_e 57 (.goto (-26)) 60 31 0, mv_ev 60 (.bipush (-9)) 62 (-9) 0, mv_e 62 (.ireturn) 63 0 0]
def mv_t_X6_length : List mv_E := [mv_e 0 (.aload_n 0) 1 0 0, mv_e 1 (.getfield 19) 4 6 1, mv_e 4 (.iload_n 1) 5 1 0, mv_e 5 (.invokevirtual 93) 8 25 2, mv_e 8 (.astore_n 3) 9 3 0, mv_e 9 (.aload_n 3) 10 3 0, mv_e 10 (.ifnonnull 7) 13 17 0, mv_ew 13 (.ldc2_w 161) 16 (-1), mv_e 16 (.lreturn) 17 0 0, mv_e 17 (.aload_n 3) 18 3 0, mv_e 18 (.getfield 163) 21 1 2, mv_ev 21 (.bipush 6) 23 (6) 0, mv_e 23 (.if_icmp .le 7) 26 30 0, mv_ew 26 (.ldc2_w 166) 29 (-3), mv_e 29 (.lreturn) 30 0 0, mv_e 30 (.aload_n 0) 31 0 0, mv_e 31 (.getfield 65) 34 6 10, mv_e 34 (.aload_n 3) 35 3 0, mv_e 35 (.getfield 168) 38 1 1, mv_e 38 (.aload_n 3) 39 3 0, mv_e 39 (.getfield 163) 42 1 2, mv_e 42 (.aload_n 0) 43 0 0, mv_e 43 (.getfield 19) 46 6 1, mv_e 46 (.getfield 143) 49 2 2, mv_e 49 (.invokevirtual 171) 52 36 4, mv_e 52 (.ifCond .ne 7) 55 59 0, mv_ew 55 (.ldc2_w 174) 58 (-9), mv_e 58 (.lreturn) 59 0 0, mv_e 59 (.aload_n 0) 60 0 0, mv_e 60 (.getfield 65) 63 6 10, mv_e 63 (.getfield 176) 66 3 1, mv_e 66 (.aload_n 0) 67 0 0, mv_e 67 (.getfield 65) 70 6 10, mv_e 70 (.getfield 179) 73 3 2, mv_e 73 (.iload_n 2) 74 2 0, mv_e 74 (.invokestatic 182) 77 67 3, mv_e 77 (.lreturn) 78 0 0]
def mv_t_X6_lost : List mv_E := [mv_e 0 (.aload_n 0) 1 0 0, mv_e 1 (.getfield 19) 4 6 1, mv_e 4 (.iload_n 1) 5 1 0, mv_e 5 (.invokevirtual 93) 8 25 2, mv_e 8 (.astore 6) 10 6 0, mv_e 10 (.aload 6) 12 6 0, mv_e 12 (.ifnonnull 5) 15 17 0, mv_ev 15 (.iconst (-1)) 16 (-1) 0, mv_e 16 (.ireturn) 17 0 0, mv_e 17 (.iload_n 2) 18 2 0, mv_ev 18 (.iconst 0) 19 (0) 0, mv_ev 19 (.bipush 99) 21 (99) 0, mv_e 21 (.invokestatic 70) 24 84 3, mv_e 24 (.ifCond .eq 24) 27 48 0, mv_e 27 (.iload_n 3) 28 3 0, mv_ev 28 (.iconst 1) 29 (1) 0, mv_ev 29 (.bipush 6) 31 (6) 0, mv_e 31 (.invokestatic 70) 34 84 3, mv_e 34 (.ifCond .eq 14) 37 48 0, mv_e 37 (.iload 4) 39 4 0, mv_ev 39 (.iconst 0) 40 (0) 0, mv_ev 40 (.bipush 10) 42 (10) 0, mv_e 42 (.invokestatic 70) 45 84 3, mv_e 45 (.ifCond .ne 6) 48 51 0, mv_ev 48 (.bipush (-2)) 50 (-2) 0, mv_e 50 (.ireturn) 51 0 0, mv_ew 51 (.lconst 0) 52 (0), mv_e 52 (.lstore 7) 54 7 0, mv_ev 54 (.iconst 0) 55 (0) 0, mv_e 55 (.istore 9) 57 9 0, mv_e 57 (.iload 9) 59 9 0, mv_ev 59 (.iconst 1) 60 (1) 0, mv_e 60 (.iload_n 3) 61 3 0, mv_e 61 (.ishl) 62 0 0, mv_e 62 (.if_icmp .ge 35) 65 97 0, mv_e 65 (.aload_n 0) 66 0 0, mv_e 66 (.aload 6) 68 6 0, mv_e 68 (.iload_n 2) 69 2 0, mv_e 69 (.iload_n 3) 70 3 0, mv_e 70 (.iload 9) 72 9 0, mv_e 72 (.invokevirtual 245) 75 50 5, mv_e 75 (.ifCond .eq 16) 78 91 0, mv_e 78 (.lload 7) 80 7 0, mv_e 80 (.iload_n 3) 81 3 0, mv_e 81 (.iload 9) 83 9 0, mv_e 83 (.iload 4) 85 4 0, mv_e 85 (.invokestatic 249) 88 81 3, mv_e 88 (.ladd) 89 0 0, mv_e 89 (.lstore 7) 91 7 0, mv_ev 91 (.iinc 9 1) 94 (1) 9, mv_e 94 (.goto (-37)) 97 57 0, mv_e 97 (.lload 7) 99 7 0, mv_e 99 (.iload_n 3) 100 3 0, mv_ev 100 (.iconst 0) 101 (0) 0, mv_ev 101 (.iconst 0) 102 (0) 0, mv_e 102 (.invokestatic 249) 105 81 3, mv_e 105 (.iload 5) 107 5 0, mv_e 107 (.invokestatic 182) 110 67 3, mv_e 110 (.l2i) 111 0 0, mv_e 111 (.ireturn) 112 0 0]
def mv_t_X6_lowest : List mv_E := [mv_e 0 (.lload_n 0) 1 0 0, mv_e 1 (.lload_n 2) 2 2 0, mv_e 2 (.invokestatic 263) 5 53 2, mv_e 5 (.lstore 5) 7 5 0, mv_e 7 (.iload 4) 9 4 0, mv_e 9 (.ifCond .eq 7) 12 16 0, mv_e 12 (.lload_n 0) 13 0 0, mv_e 13 (.goto 4) 16 17 0, mv_e 16 (.lload_n 2) 17 2 0, mv_e 17 (.lstore 7) 19 7 0, mv_e 19 (.lload 5) 21 5 0, mv_ew 21 (.lconst 0) 22 (0), mv_e 22 (.lcmp) 23 0 0, mv_e 23 (.ifCond .le 11) 26 34 0, mv_e 26 (.lload 7) 28 7 0, mv_e 28 (.lload 5) 30 5 0, mv_e 30 (.ldiv) 31 0 0, mv_e 31 (.goto 5) 34 36 0, mv_e 34 (.lload 7) 36 7 0, mv_e 36 (.lreturn) 37 0 0]
def mv_t_X6_past : List mv_E := [mv_e 0 (.aload_n 0) 1 0 0, mv_e 1 (.getfield 19) 4 6 1, mv_e 4 (.iload_n 1) 5 1 0, mv_e 5 (.invokevirtual 93) 8 25 2, mv_e 8 (.astore_n 3) 9 3 0, mv_e 9 (.aload_n 3) 10 3 0, mv_e 10 (.ifnull 11) 13 21 0, mv_e 13 (.aload_n 3) 14 3 0, mv_e 14 (.iload_n 2) 15 2 0, mv_e 15 (.invokevirtual 101) 18 19 2, mv_e 18 (.ifCond .ne 5) 21 23 0, mv_ev 21 (.iconst (-1)) 22 (-1) 0, mv_e 22 (.ireturn) 23 0 0, mv_e 23 (.aload_n 3) 24 3 0, mv_e 24 (.iload_n 2) 25 2 0, mv_e 25 (.invokevirtual 104) 28 23 2, mv_e 28 (.ireturn) 29 0 0]
def mv_t_X6_ranked : List mv_E := [mv_ev 0 (.iconst 0) 1 (0) 0, mv_e 1 (.istore_n 2) 2 2 0, mv_e 2 (.iload_n 2) 3 2 0, mv_e 3 (.aload_n 0) 4 0 0, mv_e 4 (.getfield 19) 7 6 1, mv_e 7 (.getfield 92) 10 2 1, mv_e 10 (.if_icmp .ge 23) 13 33 0, mv_e 13 (.aload_n 0) 14 0 0, mv_e 14 (.getfield 19) 17 6 1, mv_e 17 (.iload_n 2) 18 2 0, mv_e 18 (.invokevirtual 190) 21 29 2, mv_e 21 (.iload_n 1) 22 1 0, mv_e 22 (.if_icmp .ne 5) 25 27 0, mv_e 25 (.iload_n 2) 26 2 0, mv_e 26 (.ireturn) 27 0 0, mv_ev 27 (.iinc 2 1) 30 (1) 2, mv_e 30 (.goto (-28)) 33 2 0, mv_ev 33 (.iconst (-1)) 34 (-1) 0, mv_e 34 (.ireturn) 35 0 0]
def mv_t_X6_rings : List mv_E := [mv_e 0 (.aload_n 0) 1 0 0, mv_e 1 (.getfield 19) 4 6 1, mv_e 4 (.iload_n 1) 5 1 0, mv_e 5 (.invokevirtual 93) 8 25 2, mv_e 8 (.astore_n 3) 9 3 0, mv_e 9 (.aload_n 3) 10 3 0, mv_e 10 (.ifnonnull 5) 13 15 0, mv_ev 13 (.iconst (-1)) 14 (-1) 0, mv_e 14 (.ireturn) 15 0 0, mv_e 15 (.iload_n 2) 16 2 0, mv_ev 16 (.iconst 0) 17 (0) 0, mv_ev 17 (.bipush 99) 19 (99) 0, mv_e 19 (.invokestatic 70) 22 84 3, mv_e 22 (.ifCond .eq 14) 25 36 0, mv_e 25 (.aload_n 0) 26 0 0, mv_e 26 (.aload_n 3) 27 3 0, mv_e 27 (.iload_n 2) 28 2 0, mv_ev 28 (.bipush 60) 30 (60) 0, mv_e 30 (.invokevirtual 157) 33 59 4, mv_e 33 (.goto 5) 36 38 0, mv_ev 36 (.bipush (-2)) 38 (-2) 0, mv_e 38 (.ireturn) 39 0 0]
def mv_t_X6_see : List mv_E := [mv_e 0 (.aload_n 0) 1 0 0, mv_e 1 (.getfield 19) 4 6 1, mv_e 4 (.iload_n 1) 5 1 0, mv_e 5 (.invokevirtual 93) 8 25 2, mv_e 8 (.ifnonnull 5) 11 13 0, mv_ev 11 (.iconst (-1)) 12 (-1) 0, mv_e 12 (.ireturn) 13 0 0, mv_e 13 (.iload_n 2) 14 2 0, mv_ev 14 (.iconst 0) 15 (0) 0, mv_ev 15 (.bipush 9) 17 (9) 0, mv_e 17 (.invokestatic 70) 20 84 3, mv_e 20 (.ifCond .eq 23) 23 43 0, mv_e 23 (.iload_n 3) 24 3 0, mv_ev 24 (.iconst 0) 25 (0) 0, mv_ev 25 (.bipush 9) 27 (9) 0, mv_e 27 (.invokestatic 70) 30 84 3, mv_e 30 (.ifCond .eq 13) 33 43 0, mv_e 33 (.iload 4) 35 4 0, mv_ev 35 (.iconst 0) 36 (0) 0, mv_ev 36 (.iconst 1) 37 (1) 0, mv_e 37 (.invokestatic 70) 40 84 3, mv_e 40 (.ifCond .ne 6) 43 46 0, mv_ev 43 (.bipush (-2)) 45 (-2) 0, mv_e 45 (.ireturn) 46 0 0, mv_e 46 (.aload_n 0) 47 0 0, mv_e 47 (.getfield 44) 50 6 6, mv_ev 50 (.bipush 6) 52 (6) 0, mv_e 52 (.if_icmp .lt 6) 55 58 0, mv_ev 55 (.bipush (-4)) 57 (-4) 0, mv_e 57 (.ireturn) 58 0 0, mv_e 58 (.aload_n 0) 59 0 0, mv_e 59 (.getfield 40) 62 6 5, mv_e 62 (.aload_n 0) 63 0 0, mv_e 63 (.getfield 44) 66 6 6, mv_e 66 (.aaload) 67 5 4, mv_e 67 (.astore 5) 69 5 0, mv_e 69 (.aload 5) 71 5 0, mv_e 71 (.iload_n 1) 72 1 0, mv_e 72 (.putfield 210) 75 4 0, mv_e 75 (.aload 5) 77 5 0, mv_e 77 (.iload_n 2) 78 2 0, mv_e 78 (.putfield 213) 81 4 1, mv_e 81 (.aload 5) 83 5 0, mv_e 83 (.iload_n 3) 84 3 0, mv_e 84 (.putfield 216) 87 4 2, mv_e 87 (.aload 5) 89 5 0, mv_e 89 (.iload 4) 91 4 0, mv_ev 91 (.iconst 1) 92 (1) 0, mv_e 92 (.if_icmp .ne 7) 95 99 0, mv_ev 95 (.iconst 1) 96 (1) 0, mv_e 96 (.goto 4) 99 100 0, mv_ev 99 (.iconst 0) 100 (0) 0, mv_e 100 (.putfield 219) 103 4 3, mv_e 103 (.aload_n 0) 104 0 0, mv_e 104 (.dup) 105 0 0, mv_e 105 (.getfield 44) 108 6 6, mv_ev 108 (.iconst 1) 109 (1) 0, mv_e 109 (.iadd) 110 0 0, mv_e 110 (.putfield 44) 113 6 6, mv_e 113 (.aload_n 0) 114 0 0, mv_e 114 (.getfield 44) 117 6 6, mv_e 117 (.ireturn) 118 0 0]
def mv_t_X6_seed : List mv_E := [mv_e 0 (.aload_n 0) 1 0 0, mv_e 1 (.getfield 48) 4 6 7, mv_e 4 (.lstore_n 3) 5 3 0, mv_e 5 (.aload_n 0) 6 0 0, mv_e 6 (.lload_n 1) 7 1 0, mv_e 7 (.putfield 48) 10 6 7, mv_e 10 (.lload_n 3) 11 3 0, mv_e 11 (.lreturn) 12 0 0]
def mv_t_X6_series : List mv_E := [mv_e 0 (.aload_n 0) 1 0 0, mv_e 1 (.getfield 19) 4 6 1, mv_e 4 (.iload_n 1) 5 1 0, mv_e 5 (.invokevirtual 93) 8 25 2, mv_e 8 (.astore_n 3) 9 3 0, mv_e 9 (.aload_n 3) 10 3 0, mv_e 10 (.ifnonnull 5) 13 15 0, mv_ev 13 (.iconst (-1)) 14 (-1) 0, mv_e 14 (.ireturn) 15 0 0, mv_e 15 (.iload_n 2) 16 2 0, mv_ev 16 (.iconst 0) 17 (0) 0, mv_ev 17 (.bipush 13) 19 (13) 0, mv_e 19 (.invokestatic 70) 22 84 3, mv_e 22 (.ifCond .eq 11) 25 33 0, mv_e 25 (.aload_n 3) 26 3 0, mv_e 26 (.iload_n 2) 27 2 0, mv_e 27 (.invokevirtual 97) 30 18 2, mv_e 30 (.goto 5) 33 35 0, mv_ev 33 (.bipush (-2)) 35 (-2) 0, mv_e 35 (.ireturn) 36 0 0]
def mv_t_X6_set : List mv_E := [mv_e 0 (.aload_n 0) 1 0 0, mv_e 1 (.getfield 19) 4 6 1, mv_e 4 (.iload_n 1) 5 1 0, mv_e 5 (.invokevirtual 93) 8 25 2, mv_e 8 (.astore 4) 10 4 0, mv_e 10 (.aload 4) 12 4 0, mv_e 12 (.ifnonnull 5) 15 17 0, mv_ev 15 (.iconst (-1)) 16 (-1) 0, mv_e 16 (.ireturn) 17 0 0, mv_e 17 (.iload_n 2) 18 2 0, mv_e 18 (.iload_n 3) 19 3 0, mv_e 19 (.invokestatic 128) 22 8 2, mv_e 22 (.ifCond .ne 6) 25 28 0, mv_ev 25 (.bipush (-2)) 27 (-2) 0, mv_e 27 (.ireturn) 28 0 0, mv_e 28 (.aload 4) 30 4 0, mv_e 30 (.iload_n 2) 31 2 0, mv_e 31 (.invokevirtual 132) 34 17 2, mv_e 34 (.istore 5) 36 5 0, mv_e 36 (.aload_n 0) 37 0 0, mv_e 37 (.getfield 26) 40 6 2, mv_e 40 (.aload_n 0) 41 0 0, mv_e 41 (.getfield 19) 44 6 1, mv_e 44 (.invokevirtual 107) 47 2 2, mv_e 47 (.aload 4) 49 4 0, mv_e 49 (.iload_n 2) 50 2 0, mv_e 50 (.iload_n 3) 51 3 0, mv_e 51 (.invokevirtual 135) 54 11 3, mv_e 54 (.iload 5) 56 5 0, mv_e 56 (.ireturn) 57 0 0]
def mv_t_X6_share : List mv_E := [mv_e 0 (.aload_n 0) 1 0 0, mv_e 1 (.getfield 19) 4 6 1, mv_e 4 (.iload_n 1) 5 1 0, mv_e 5 (.invokevirtual 93) 8 25 2, mv_e 8 (.astore 4) 10 4 0, mv_e 10 (.aload 4) 12 4 0, mv_e 12 (.ifnonnull 5) 15 17 0, mv_ev 15 (.iconst (-1)) 16 (-1) 0, mv_e 16 (.ireturn) 17 0 0, mv_e 17 (.iload_n 2) 18 2 0, mv_ev 18 (.iconst 1) 19 (1) 0, mv_ev 19 (.bipush 99) 21 (99) 0, mv_e 21 (.invokestatic 70) 24 84 3, mv_e 24 (.ifCond .ne 6) 27 30 0, mv_ev 27 (.bipush (-2)) 29 (-2) 0, mv_e 29 (.ireturn) 30 0 0, mv_e 30 (.aload_n 0) 31 0 0, mv_e 31 (.getfield 19) 34 6 1, mv_e 34 (.getfield 92) 37 2 1, mv_ev 37 (.iconst 1) 38 (1) 0, mv_e 38 (.isub) 39 0 0, mv_e 39 (.istore 5) 41 5 0, mv_ew 41 (.lconst 0) 42 (0), mv_e 42 (.lstore 6) 44 6 0, mv_ev 44 (.iconst 0) 45 (0) 0, mv_e 45 (.istore 8) 47 8 0, mv_e 47 (.iload 8) 49 8 0, mv_ev 49 (.iconst 1) 50 (1) 0, mv_e 50 (.aload_n 0) 51 0 0, mv_e 51 (.getfield 19) 54 6 1, mv_e 54 (.getfield 92) 57 2 1, mv_e 57 (.ishl) 58 0 0, mv_e 58 (.if_icmp .ge 73) 61 131 0, mv_e 61 (.aload_n 0) 62 0 0, mv_e 62 (.getfield 19) 65 6 1, mv_e 65 (.iload 8) 67 8 0, mv_e 67 (.invokevirtual 233) 70 30 2, mv_e 70 (.istore 9) 72 9 0, mv_e 72 (.iload 8) 74 8 0, mv_e 74 (.iload_n 1) 75 1 0, mv_e 75 (.ishr) 76 0 0, mv_ev 76 (.iconst 1) 77 (1) 0, mv_e 77 (.iand) 78 0 0, mv_e 78 (.ifCond .ne 47) 81 125 0, mv_e 81 (.iload 9) 83 9 0, mv_e 83 (.iload_n 2) 84 2 0, mv_e 84 (.if_icmp .ge 41) 87 125 0, mv_e 87 (.iload 9) 89 9 0, mv_e 89 (.aload 4) 91 4 0, mv_e 91 (.getfield 119) 94 1 8, mv_e 94 (.iadd) 95 0 0, mv_e 95 (.iload_n 2) 96 2 0, mv_e 96 (.if_icmp .lt 29) 99 125 0, mv_e 99 (.iload 8) 101 8 0, mv_e 101 (.invokestatic 236) 104 149 1, mv_e 104 (.istore 10) 106 10 0, mv_e 106 (.lload 6) 108 6 0, mv_e 108 (.iload 10) 110 10 0, mv_e 110 (.invokestatic 241) 113 57 1, mv_e 113 (.iload 5) 115 5 0, mv_e 115 (.iload 10) 117 10 0, mv_e 117 (.isub) 118 0 0, mv_e 118 (.invokestatic 241) 121 57 1, mv_e 121 (.lmul) 122 0 0, mv_e 122 (.ladd) 123 0 0, mv_e 123 (.lstore 6) 125 6 0, mv_ev 125 (.iinc 8 1) 128 (1) 8, mv_e 128 (.goto (-81)) 131 47 0, mv_e 131 (.lload 6) 133 6 0, mv_e 133 (.aload_n 0) 134 0 0, mv_e 134 (.getfield 19) 137 6 1, mv_e 137 (.getfield 92) 140 2 1, mv_e 140 (.invokestatic 241) 143 57 1, mv_e 143 (.iload_n 3) 144 3 0, mv_e 144 (.invokestatic 182) 147 67 3, mv_e 147 (.l2i) 148 0 0, mv_e 148 (.ireturn) 149 0 0]
def mv_t_X6_stands : List mv_E := [mv_e 0 (.iload_n 1) 1 1 0, mv_ev 1 (.bipush 100) 3 (100) 0, mv_e 3 (.irem) 4 0 0, mv_e 4 (.istore_n 2) 5 2 0, mv_e 5 (.aload_n 0) 6 0 0, mv_e 6 (.getfield 59) 9 6 9, mv_e 9 (.iload_n 1) 10 1 0, mv_ev 10 (.bipush 100) 12 (100) 0, mv_e 12 (.idiv) 13 0 0, mv_ev 13 (.bipush 10) 15 (10) 0, mv_e 15 (.irem) 16 0 0, mv_e 16 (.invokevirtual 93) 19 25 2, mv_e 19 (.astore_n 3) 20 3 0, mv_e 20 (.aload_n 3) 21 3 0, mv_e 21 (.ifnonnull 5) 24 26 0, mv_ev 24 (.iconst 0) 25 (0) 0, mv_e 25 (.ireturn) 26 0 1, mv_e 26 (.iload_n 1) 27 1 0, mv_ev 27 (.sipush 1000) 30 (1000) 0, mv_e 30 (.idiv) 31 0 0, mv_e 31 (.tableswitch 133 1 7 #[41, 49, 63, 77, 91, 105, 119]) 72 164 6, mv_e 72 (.aload_n 3) 73 3 0, mv_e 73 (.iload_n 2) 74 2 0, mv_e 74 (.invokevirtual 110) 77 5 2, mv_e 77 (.pop) 78 0 0, mv_ev 78 (.iconst 1) 79 (1) 0, mv_e 79 (.ireturn) 80 0 1, mv_e 80 (.aload_n 3) 81 3 0, mv_e 81 (.invokevirtual 113) 84 7 1, mv_e 84 (.iload_n 2) 85 2 0, mv_e 85 (.ifCond .ne 7) 88 92 0, mv_ev 88 (.iconst 1) 89 (1) 0, mv_e 89 (.goto 4) 92 93 0, mv_ev 92 (.iconst 0) 93 (0) 0, mv_e 93 (.ireturn) 94 0 1, mv_e 94 (.aload_n 3) 95 3 0, mv_e 95 (.invokevirtual 125) 98 13 1, mv_e 98 (.iload_n 2) 99 2 0, mv_e 99 (.ifCond .ne 7) 102 106 0, mv_ev 102 (.iconst 1) 103 (1) 0, mv_e 103 (.goto 4) 106 107 0, mv_ev 106 (.iconst 0) 107 (0) 0, mv_e 107 (.ireturn) 108 0 1, mv_e 108 (.aload_n 3) 109 3 0, mv_e 109 (.getfield 119) 112 1 8, mv_e 112 (.iload_n 2) 113 2 0, mv_e 113 (.if_icmp .ne 7) 116 120 0, mv_ev 116 (.iconst 1) 117 (1) 0, mv_e 117 (.goto 4) 120 121 0, mv_ev 120 (.iconst 0) 121 (0) 0, mv_e 121 (.ireturn) 122 0 1, mv_e 122 (.aload_n 3) 123 3 0, mv_e 123 (.getfield 122) 126 1 9, mv_e 126 (.iload_n 2) 127 2 0, mv_e 127 (.if_icmp .ne 7) 130 134 0, mv_ev 130 (.iconst 1) 131 (1) 0, mv_e 131 (.goto 4) 134 135 0, mv_ev 134 (.iconst 0) 135 (0) 0, mv_e 135 (.ireturn) 136 0 1, mv_e 136 (.aload_n 3) 137 3 0, mv_e 137 (.getfield 204) 140 1 11, mv_e 140 (.iload_n 2) 141 2 0, mv_e 141 (.if_icmp .ne 7) 144 148 0, mv_ev 144 (.iconst 1) 145 (1) 0, mv_e 145 (.goto 4) 148 149 0, mv_ev 148 (.iconst 0) 149 (0) 0, mv_e 149 (.ireturn) 150 0 1, mv_e 150 (.aload_n 3) 151 3 0, mv_e 151 (.invokevirtual 207) 154 14 1, mv_e 154 (.iload_n 2) 155 2 0, mv_e 155 (.if_icmp .ne 7) 158 162 0, mv_ev 158 (.iconst 1) 159 (1) 0, mv_e 159 (.goto 4) 162 163 0, mv_ev 162 (.iconst 0) 163 (0) 0, mv_e 163 (.ireturn) 164 0 1, mv_ev 164 (.iconst 0) 165 (0) 0, mv_e 165 (.ireturn) 166 0 1]
def mv_t_X6_tell : List mv_E := [mv_e 0 (.aload_n 0) 1 0 0, mv_e 1 (.getfield 19) 4 6 1, mv_e 4 (.iload_n 1) 5 1 0, mv_e 5 (.invokevirtual 93) 8 25 2, mv_e 8 (.astore_n 3) 9 3 0, mv_e 9 (.aload_n 3) 10 3 0, mv_e 10 (.ifnonnull 5) 13 15 0, mv_ev 13 (.iconst (-1)) 14 (-1) 0, mv_e 14 (.ireturn) 15 0 0, mv_e 15 (.iload_n 2) 16 2 0, mv_ev 16 (.iconst 0) 17 (0) 0, mv_ev 17 (.bipush 99) 19 (99) 0, mv_e 19 (.invokestatic 70) 22 84 3, mv_e 22 (.ifCond .ne 6) 25 28 0, mv_ev 25 (.bipush (-2)) 27 (-2) 0, mv_e 27 (.ireturn) 28 0 0, mv_e 28 (.aload_n 0) 29 0 0, mv_e 29 (.getfield 26) 32 6 2, mv_e 32 (.aload_n 0) 33 0 0, mv_e 33 (.getfield 19) 36 6 1, mv_e 36 (.invokevirtual 107) 39 2 2, mv_e 39 (.aload_n 3) 40 3 0, mv_e 40 (.iload_n 2) 41 2 0, mv_e 41 (.invokevirtual 110) 44 5 2, mv_e 44 (.ireturn) 45 0 0]
def mv_t_X6_undo : List mv_E := [mv_e 0 (.aload_n 0) 1 0 0, mv_e 1 (.getfield 26) 4 6 2, mv_e 4 (.getfield 146) 7 0 2, mv_e 7 (.ifCond .ne 6) 10 13 0, mv_ev 10 (.bipush (-3)) 12 (-3) 0, mv_e 12 (.ireturn) 13 0 0, mv_e 13 (.aload_n 0) 14 0 0, mv_e 14 (.getfield 26) 17 6 2, mv_e 17 (.aload_n 0) 18 0 0, mv_e 18 (.getfield 19) 21 6 1, mv_e 21 (.invokevirtual 147) 24 3 2, mv_e 24 (.aload_n 0) 25 0 0, mv_e 25 (.getfield 26) 28 6 2, mv_e 28 (.getfield 146) 31 0 2, mv_e 31 (.ireturn) 32 0 0]
def mv_t_X6_unsee : List mv_E := [mv_e 0 (.aload_n 0) 1 0 0, mv_e 1 (.getfield 44) 4 6 6, mv_e 4 (.istore_n 1) 5 1 0, mv_e 5 (.aload_n 0) 6 0 0, mv_ev 6 (.iconst 0) 7 (0) 0, mv_e 7 (.putfield 44) 10 6 6, mv_e 10 (.iload_n 1) 11 1 0, mv_e 11 (.ireturn) 12 0 0]
def mv_t_X6_watch : List mv_E := [mv_e 0 (.aload_n 0) 1 0 0, mv_e 1 (.getfield 10) 4 6 0, mv_e 4 (.invokevirtual 81) 7 40 1, mv_ev 7 (.bipush (-9)) 9 (-9) 0, mv_e 9 (.if_icmp .eq 6) 12 15 0, mv_ev 12 (.bipush (-3)) 14 (-3) 0, mv_e 14 (.ireturn) 15 0 0, mv_e 15 (.aload_n 0) 16 0 0, mv_e 16 (.getfield 10) 19 6 0, mv_e 19 (.aload_n 0) 20 0 0, mv_e 20 (.getfield 19) 23 6 1, mv_e 23 (.invokevirtual 85) 26 43 2, mv_e 26 (.aload_n 0) 27 0 0, mv_e 27 (.getfield 26) 30 6 2, mv_e 30 (.invokevirtual 89) 33 0 1, mv_ev 33 (.iconst 0) 34 (0) 0, mv_e 34 (.istore_n 1) 35 1 0, mv_e 35 (.iload_n 1) 36 1 0, mv_ev 36 (.iconst 2) 37 (2) 0, mv_e 37 (.if_icmp .ge 16) 40 53 0, mv_e 40 (.aload_n 0) 41 0 0, mv_e 41 (.getfield 34) 44 6 4, mv_e 44 (.iload_n 1) 45 1 0, mv_ev 45 (.iconst 0) 46 (0) 0, mv_e 46 (.bastore) 47 0 0, mv_ev 47 (.iinc 1 1) 50 (1) 1, mv_e 50 (.goto (-15)) 53 35 0, mv_e 53 (.aload_n 0) 54 0 0, mv_e 54 (.getfield 19) 57 6 1, mv_e 57 (.getfield 92) 60 2 1, mv_e 60 (.ireturn) 61 0 0]
def mv_t_X6_weight : List mv_E := [mv_ew 0 (.lconst 1) 1 (1), mv_e 1 (.lstore_n 3) 2 3 0, mv_ev 2 (.iconst 0) 3 (0) 0, mv_e 3 (.istore 5) 5 5 0, mv_e 5 (.iload 5) 7 5 0, mv_e 7 (.iload_n 0) 8 0 0, mv_e 8 (.if_icmp .ge 32) 11 40 0, mv_e 11 (.lload_n 3) 12 3 0, mv_e 12 (.iload_n 1) 13 1 0, mv_e 13 (.iload 5) 15 5 0, mv_e 15 (.ishr) 16 0 0, mv_ev 16 (.iconst 1) 17 (1) 0, mv_e 17 (.iand) 18 0 0, mv_ev 18 (.iconst 1) 19 (1) 0, mv_e 19 (.if_icmp .ne 8) 22 27 0, mv_e 22 (.iload_n 2) 23 2 0, mv_e 23 (.i2l) 24 0 0, mv_e 24 (.goto 8) 27 32 0, mv_ev 27 (.bipush 10) 29 (10) 0, mv_e 29 (.iload_n 2) 30 2 0, mv_e 30 (.isub) 31 0 0, mv_e 31 (.i2l) 32 0 0, mv_e 32 (.lmul) 33 0 0, mv_e 33 (.lstore_n 3) 34 3 0, mv_ev 34 (.iinc 5 1) 37 (1) 5, mv_e 37 (.goto (-32)) 40 5 0, mv_e 40 (.lload_n 3) 41 3 0, mv_e 41 (.lreturn) 42 0 0]
def mv_t_X6_which : List mv_E := [mv_ev 0 (.iconst 0) 1 (0) 0, mv_e 1 (.istore_n 1) 2 1 0, mv_ev 2 (.iconst 0) 3 (0) 0, mv_e 3 (.istore_n 2) 4 2 0, mv_e 4 (.iload_n 2) 5 2 0, mv_ev 5 (.bipush 31) 7 (31) 0, mv_e 7 (.if_icmp .gt 23) 10 30 0, mv_e 10 (.aload_n 0) 11 0 0, mv_e 11 (.iload_n 2) 12 2 0, mv_e 12 (.invokevirtual 223) 15 48 2, mv_e 15 (.ifCond .eq 9) 18 24 0, mv_e 18 (.iload_n 1) 19 1 0, mv_ev 19 (.iconst 1) 20 (1) 0, mv_e 20 (.iload_n 2) 21 2 0, mv_e 21 (.ishl) 22 0 0, mv_e 22 (.ior) 23 0 0, mv_e 23 (.istore_n 1) 24 1 0, mv_ev 24 (.iinc 2 1) 27 (1) 2, mv_e 27 (.goto (-23)) 30 4 0, mv_e 30 (.iload_n 1) 31 1 0, mv_e 31 (.ireturn) 32 0 0]
def mv_t_X6_wipe : List mv_E := [mv_e 0 (.aload_n 0) 1 0 0, mv_e 1 (.getfield 10) 4 6 0, mv_e 4 (.getfield 78) 7 5 1, mv_e 7 (.istore_n 1) 8 1 0, mv_e 8 (.aload_n 0) 9 0 0, mv_e 9 (.getfield 10) 12 6 0, mv_ev 12 (.iconst 0) 13 (0) 0, mv_e 13 (.putfield 78) 16 5 1, mv_e 16 (.iload_n 1) 17 1 0, mv_e 17 (.ireturn) 18 0 0]
def mv_t_X6_within : List mv_E := [mv_e 0 (.iload_n 0) 1 0 0, mv_e 1 (.iload_n 1) 2 1 0, mv_e 2 (.if_icmp .lt 12) 5 14 0, mv_e 5 (.iload_n 0) 6 0 0, mv_e 6 (.iload_n 2) 7 2 0, mv_e 7 (.if_icmp .gt 7) 10 14 0, mv_ev 10 (.iconst 1) 11 (1) 0, mv_e 11 (.goto 4) 14 15 0, mv_ev 14 (.iconst 0) 15 (0) 0, mv_e 15 (.ireturn) 16 0 1]
def mv_t_X6_withoutDoings : List mv_E := [mv_e 0 (.lload_n 0) 1 0 0, mv_e 1 (.lstore_n 3) 2 3 0, mv_ev 2 (.iconst 0) 3 (0) 0, mv_e 3 (.istore 5) 5 5 0, mv_e 5 (.iload 5) 7 5 0, mv_e 7 (.iload_n 2) 8 2 0, mv_e 8 (.if_icmp .ge 15) 11 23 0, mv_e 11 (.lload_n 3) 12 3 0, mv_ew 12 (.ldc2_w 199) 15 (10000), mv_e 15 (.ldiv) 16 0 0, mv_e 16 (.lstore_n 3) 17 3 0, mv_ev 17 (.iinc 5 1) 20 (1) 5, mv_e 20 (.goto (-15)) 23 5 0, mv_e 23 (.lload_n 3) 24 3 0, mv_e 24 (.lreturn) 25 0 0]
def mv_t_X6_would : List mv_E := [mv_e 0 (.aload_n 0) 1 0 0, mv_e 1 (.getfield 19) 4 6 1, mv_e 4 (.iload_n 1) 5 1 0, mv_e 5 (.invokevirtual 93) 8 25 2, mv_e 8 (.astore 4) 10 4 0, mv_e 10 (.aload 4) 12 4 0, mv_e 12 (.ifnonnull 5) 15 17 0, mv_ev 15 (.iconst (-1)) 16 (-1) 0, mv_e 16 (.ireturn) 17 0 0, mv_e 17 (.iload_n 2) 18 2 0, mv_ev 18 (.iconst 0) 19 (0) 0, mv_ev 19 (.bipush 9) 21 (9) 0, mv_e 21 (.invokestatic 70) 24 84 3, mv_e 24 (.ifCond .eq 13) 27 37 0, mv_e 27 (.iload_n 3) 28 3 0, mv_ev 28 (.iconst 1) 29 (1) 0, mv_ev 29 (.bipush 99) 31 (99) 0, mv_e 31 (.invokestatic 70) 34 84 3, mv_e 34 (.ifCond .ne 6) 37 40 0, mv_ev 37 (.bipush (-2)) 39 (-2) 0, mv_e 39 (.ireturn) 40 0 0, mv_e 40 (.aload 4) 42 4 0, mv_e 42 (.iload_n 2) 43 2 0, mv_e 43 (.iload_n 3) 44 3 0, mv_e 44 (.invokevirtual 186) 47 20 3, mv_e 47 (.ireturn) 48 0 0]
def mv_t_X6_write : List mv_E := [mv_e 0 (.iload_n 1) 1 1 0, mv_ev 1 (.iconst 0) 2 (0) 0, mv_ev 2 (.sipush 255) 5 (255) 0, mv_e 5 (.invokestatic 70) 8 84 3, mv_e 8 (.ifCond .ne 6) 11 14 0, mv_ev 11 (.bipush (-2)) 13 (-2) 0, mv_e 13 (.ireturn) 14 0 0, mv_e 14 (.aload_n 0) 15 0 0, mv_e 15 (.getfield 10) 18 6 0, mv_e 18 (.iload_n 1) 19 1 0, mv_e 19 (.invokevirtual 74) 22 38 2, mv_e 22 (.ifCond .eq 13) 25 35 0, mv_e 25 (.aload_n 0) 26 0 0, mv_e 26 (.getfield 10) 29 6 0, mv_e 29 (.getfield 78) 32 5 1, mv_e 32 (.goto 5) 35 37 0, mv_ev 35 (.bipush (-4)) 37 (-4) 0, mv_e 37 (.ireturn) 38 0 0]
def mv_t_X7_again : List mv_E := [mv_e 0 (.aload_n 0) 1 0 0, mv_ev 1 (.iconst 0) 2 (0) 0, mv_e 2 (.putfield 66) 5 7 0, mv_e 5 (.iload_n 1) 6 1 0, mv_e 6 (.i2l) 7 0 0, mv_ew 7 (.lconst 0) 8 (0), mv_ew 8 (.lconst 1) 9 (1), mv_e 9 (.invokestatic 73) 12 109 3, mv_e 12 (.ifCond .ne 5) 15 17 0, mv_ev 15 (.iconst (-1)) 16 (-1) 0, mv_e 16 (.ireturn) 17 0 0, mv_e 17 (.aload_n 0) 18 0 0, mv_e 18 (.getfield 46) 21 7 18, mv_e 21 (.iload_n 1) 22 1 0, mv_e 22 (.baload) 23 0 0, mv_e 23 (.ifCond .ne 6) 26 29 0, mv_ev 26 (.bipush (-3)) 28 (-3) 0, mv_e 28 (.ireturn) 29 0 0, mv_ev 29 (.iconst 0) 30 (0) 0, mv_e 30 (.istore_n 2) 31 2 0, mv_e 31 (.iload_n 2) 32 2 0, mv_ev 32 (.bipush 121) 34 (121) 0, mv_e 34 (.if_icmp .ge 26) 37 60 0, mv_e 37 (.aload_n 0) 38 0 0, mv_e 38 (.getfield 34) 41 7 13, mv_e 41 (.iload_n 2) 42 2 0, mv_e 42 (.aload_n 0) 43 0 0, mv_e 43 (.getfield 43) 46 7 17, mv_ev 46 (.bipush 121) 48 (121) 0, mv_e 48 (.iload_n 1) 49 1 0, mv_e 49 (.imul) 50 0 0, mv_e 50 (.iload_n 2) 51 2 0, mv_e 51 (.iadd) 52 0 0, mv_e 52 (.iaload) 53 0 0, mv_e 53 (.iastore) 54 0 0, mv_ev 54 (.iinc 2 1) 57 (1) 2, mv_e 57 (.goto (-26)) 60 31 0, mv_e 60 (.aload_n 0) 61 0 0, mv_ev 61 (.iconst 0) 62 (0) 0, mv_e 62 (.putfield 104) 65 7 16, mv_e 65 (.aload_n 0) 66 0 0, mv_e 66 (.invokevirtual 236) 69 90 1, mv_e 69 (.ireturn) 70 0 0]
def mv_t_X7_ahead : List mv_E := [mv_e 0 (.aload_n 0) 1 0 0, mv_ev 1 (.iconst 0) 2 (0) 0, mv_e 2 (.putfield 66) 5 7 0, mv_e 5 (.aload_n 0) 6 0 0, mv_e 6 (.iload_n 3) 7 3 0, mv_e 7 (.invokevirtual 124) 10 123 2, mv_e 10 (.ifCond .eq 5) 13 15 0, mv_ev 13 (.iconst (-1)) 14 (-1) 0, mv_e 14 (.ireturn) 15 0 0, mv_e 15 (.iload_n 1) 16 1 0, mv_e 16 (.i2l) 17 0 0, mv_ew 17 (.lconst 0) 18 (0), mv_ew 18 (.ldc2_w 150) 21 (60), mv_e 21 (.invokestatic 73) 24 109 3, mv_e 24 (.ifCond .eq 30) 27 54 0, mv_e 27 (.iload_n 2) 28 2 0, mv_e 28 (.i2l) 29 0 0, mv_ew 29 (.lconst 0) 30 (0), mv_ew 30 (.ldc2_w 134) 33 (99), mv_e 33 (.invokestatic 73) 36 109 3, mv_e 36 (.ifCond .eq 18) 39 54 0, mv_e 39 (.iload 4) 41 4 0, mv_e 41 (.i2l) 42 0 0, mv_ew 42 (.ldc2_w 152) 45 (5), mv_ew 45 (.ldc2_w 128) 48 (13), mv_e 48 (.invokestatic 73) 51 109 3, mv_e 51 (.ifCond .ne 6) 54 57 0, mv_ev 54 (.bipush (-2)) 56 (-2) 0, mv_e 56 (.ireturn) 57 0 0, mv_e 57 (.aload_n 0) 58 0 0, mv_e 58 (.invokevirtual 154) 61 115 1, mv_ev 61 (.iconst 0) 62 (0) 0, mv_e 62 (.istore 5) 64 5 0, mv_e 64 (.iload 5) 66 5 0, mv_e 66 (.iload_n 1) 67 1 0, mv_e 67 (.if_icmp .ge 20) 70 87 0, mv_e 70 (.aload_n 0) 71 0 0, mv_e 71 (.aload_n 0) 72 0 0, mv_e 72 (.getfield 37) 75 7 14, mv_e 75 (.iload_n 3) 76 3 0, mv_e 76 (.iload_n 2) 77 2 0, mv_e 77 (.invokevirtual 139) 80 98 4, mv_e 80 (.pop) 81 0 0, mv_ev 81 (.iinc 5 1) 84 (1) 5, mv_e 84 (.goto (-20)) 87 64 0, mv_e 87 (.aload_n 0) 88 0 0, mv_e 88 (.aload_n 0) 89 0 0, mv_e 89 (.getfield 37) 92 7 14, mv_e 92 (.iload_n 3) 93 3 0, mv_e 93 (.iload 4) 95 4 0, mv_e 95 (.invokevirtual 130) 98 140 4, mv_e 98 (.ireturn) 99 0 0]
def mv_t_X7_allAlarms : List mv_E := [mv_ev 0 (.iconst 0) 1 (0) 0, mv_e 1 (.istore_n 1) 2 1 0, mv_ev 2 (.iconst 0) 3 (0) 0, mv_e 3 (.istore_n 2) 4 2 0, mv_e 4 (.iload_n 2) 5 2 0, mv_e 5 (.aload_n 0) 6 0 0, mv_e 6 (.getfield 70) 9 7 4, mv_e 9 (.if_icmp .ge 24) 12 33 0, mv_e 12 (.iload_n 1) 13 1 0, mv_e 13 (.aload_n 0) 14 0 0, mv_e 14 (.getfield 34) 17 7 13, mv_ev 17 (.bipush 24) 19 (24) 0, mv_e 19 (.iload_n 2) 20 2 0, mv_e 20 (.imul) 21 0 0, mv_ev 21 (.bipush 7) 23 (7) 0, mv_e 23 (.iadd) 24 0 0, mv_e 24 (.iaload) 25 0 0, mv_e 25 (.iadd) 26 0 0, mv_e 26 (.istore_n 1) 27 1 0, mv_ev 27 (.iinc 2 1) 30 (1) 2, mv_e 30 (.goto (-26)) 33 4 0, mv_e 33 (.iload_n 1) 34 1 0, mv_e 34 (.ireturn) 35 0 0]
def mv_t_X7_chanceOf : List mv_E := [mv_e 0 (.aload_n 0) 1 0 0, mv_e 1 (.getfield 34) 4 7 13, mv_ev 4 (.bipush 120) 6 (120) 0, mv_e 6 (.iaload) 7 0 0, mv_ev 7 (.bipush 10) 9 (10) 0, mv_ev 9 (.iconst 2) 10 (2) 0, mv_e 10 (.iload_n 1) 11 1 0, mv_e 11 (.isub) 12 0 0, mv_e 12 (.invokestatic 162) 15 128 2, mv_e 15 (.idiv) 16 0 0, mv_ev 16 (.bipush 10) 18 (10) 0, mv_e 18 (.irem) 19 0 0, mv_e 19 (.ireturn) 20 0 0]
def mv_t_X7_chances : List mv_E := [mv_e 0 (.aload_n 0) 1 0 0, mv_ev 1 (.iconst 0) 2 (0) 0, mv_e 2 (.putfield 66) 5 7 0, mv_e 5 (.iload_n 1) 6 1 0, mv_e 6 (.i2l) 7 0 0, mv_ew 7 (.lconst 0) 8 (0), mv_ew 8 (.ldc2_w 148) 11 (99999), mv_e 11 (.invokestatic 73) 14 109 3, mv_e 14 (.ifCond .eq 43) 17 57 0, mv_e 17 (.iload_n 1) 18 1 0, mv_ev 18 (.sipush 10000) 21 (10000) 0, mv_e 21 (.idiv) 22 0 0, mv_e 22 (.iload_n 1) 23 1 0, mv_ev 23 (.sipush 1000) 26 (1000) 0, mv_e 26 (.idiv) 27 0 0, mv_ev 27 (.bipush 10) 29 (10) 0, mv_e 29 (.irem) 30 0 0, mv_e 30 (.iadd) 31 0 0, mv_e 31 (.iload_n 1) 32 1 0, mv_ev 32 (.bipush 100) 34 (100) 0, mv_e 34 (.idiv) 35 0 0, mv_ev 35 (.bipush 10) 37 (10) 0, mv_e 37 (.irem) 38 0 0, mv_e 38 (.iadd) 39 0 0, mv_e 39 (.iload_n 1) 40 1 0, mv_ev 40 (.bipush 10) 42 (10) 0, mv_e 42 (.idiv) 43 0 0, mv_ev 43 (.bipush 10) 45 (10) 0, mv_e 45 (.irem) 46 0 0, mv_e 46 (.iadd) 47 0 0, mv_e 47 (.iload_n 1) 48 1 0, mv_ev 48 (.bipush 10) 50 (10) 0, mv_e 50 (.irem) 51 0 0, mv_e 51 (.iadd) 52 0 0, mv_ev 52 (.bipush 10) 54 (10) 0, mv_e 54 (.if_icmp .eq 6) 57 60 0, mv_ev 57 (.bipush (-2)) 59 (-2) 0, mv_e 59 (.ireturn) 60 0 0, mv_e 60 (.aload_n 0) 61 0 0, mv_e 61 (.invokevirtual 136) 64 124 1, mv_e 64 (.aload_n 0) 65 0 0, mv_e 65 (.getfield 34) 68 7 13, mv_ev 68 (.bipush 120) 70 (120) 0, mv_e 70 (.iaload) 71 0 0, mv_e 71 (.istore_n 2) 72 2 0, mv_e 72 (.aload_n 0) 73 0 0, mv_e 73 (.getfield 34) 76 7 13, mv_ev 76 (.bipush 120) 78 (120) 0, mv_e 78 (.iload_n 1) 79 1 0, mv_e 79 (.iastore) 80 0 0, mv_e 80 (.iload_n 2) 81 2 0, mv_e 81 (.ireturn) 82 0 0]
def mv_t_X7_changeRows : List mv_E := [mv_ev 0 (.iconst 0) 1 (0) 0, mv_e 1 (.istore_n 3) 2 3 0, mv_e 2 (.iload_n 3) 3 3 0, mv_ev 3 (.bipush 7) 5 (7) 0, mv_e 5 (.if_icmp .ge 57) 8 62 0, mv_e 8 (.aload_n 0) 9 0 0, mv_e 9 (.getfield 62) 12 7 25, mv_ev 12 (.bipush 7) 14 (7) 0, mv_e 14 (.iload_n 1) 15 1 0, mv_e 15 (.imul) 16 0 0, mv_e 16 (.iload_n 3) 17 3 0, mv_e 17 (.iadd) 18 0 0, mv_e 18 (.laload) 19 0 0, mv_e 19 (.lstore 4) 21 4 0, mv_e 21 (.aload_n 0) 22 0 0, mv_e 22 (.getfield 62) 25 7 25, mv_ev 25 (.bipush 7) 27 (7) 0, mv_e 27 (.iload_n 1) 28 1 0, mv_e 28 (.imul) 29 0 0, mv_e 29 (.iload_n 3) 30 3 0, mv_e 30 (.iadd) 31 0 0, mv_e 31 (.aload_n 0) 32 0 0, mv_e 32 (.getfield 62) 35 7 25, mv_ev 35 (.bipush 7) 37 (7) 0, mv_e 37 (.iload_n 2) 38 2 0, mv_e 38 (.imul) 39 0 0, mv_e 39 (.iload_n 3) 40 3 0, mv_e 40 (.iadd) 41 0 0, mv_e 41 (.laload) 42 0 0, mv_e 42 (.lastore) 43 0 0, mv_e 43 (.aload_n 0) 44 0 0, mv_e 44 (.getfield 62) 47 7 25, mv_ev 47 (.bipush 7) 49 (7) 0, mv_e 49 (.iload_n 2) 50 2 0, mv_e 50 (.imul) 51 0 0, mv_e 51 (.iload_n 3) 52 3 0, mv_e 52 (.iadd) 53 0 0, mv_e 53 (.lload 4) 55 4 0, mv_e 55 (.lastore) 56 0 0, mv_ev 56 (.iinc 3 1) 59 (1) 3, mv_e 59 (.goto (-57)) 62 2 0, mv_e 62 (.return_) 63 0 0]
def mv_t_X7_clear : List mv_E := [mv_e 0 (.aload_n 0) 1 0 0, mv_ev 1 (.iconst 0) 2 (0) 0, mv_e 2 (.putfield 66) 5 7 0, mv_e 5 (.aload_n 0) 6 0 0, mv_e 6 (.iload_n 1) 7 1 0, mv_e 7 (.invokevirtual 124) 10 123 2, mv_e 10 (.ifCond .eq 5) 13 15 0, mv_ev 13 (.iconst (-1)) 14 (-1) 0, mv_e 14 (.ireturn) 15 0 0, mv_e 15 (.aload_n 0) 16 0 0, mv_e 16 (.invokevirtual 136) 19 124 1, mv_e 19 (.aload_n 0) 20 0 0, mv_e 20 (.getfield 34) 23 7 13, mv_ev 23 (.bipush 24) 25 (24) 0, mv_e 25 (.iload_n 1) 26 1 0, mv_e 26 (.imul) 27 0 0, mv_ev 27 (.iconst 5) 28 (5) 0, mv_e 28 (.iadd) 29 0 0, mv_e 29 (.iaload) 30 0 0, mv_e 30 (.aload_n 0) 31 0 0, mv_e 31 (.getfield 34) 34 7 13, mv_ev 34 (.bipush 24) 36 (24) 0, mv_e 36 (.iload_n 1) 37 1 0, mv_e 37 (.imul) 38 0 0, mv_ev 38 (.bipush 6) 40 (6) 0, mv_e 40 (.iadd) 41 0 0, mv_e 41 (.iaload) 42 0 0, mv_e 42 (.iadd) 43 0 0, mv_e 43 (.istore_n 2) 44 2 0, mv_e 44 (.aload_n 0) 45 0 0, mv_e 45 (.getfield 34) 48 7 13, mv_ev 48 (.bipush 24) 50 (24) 0, mv_e 50 (.iload_n 1) 51 1 0, mv_e 51 (.imul) 52 0 0, mv_ev 52 (.iconst 5) 53 (5) 0, mv_e 53 (.iadd) 54 0 0, mv_ev 54 (.iconst 0) 55 (0) 0, mv_e 55 (.iastore) 56 0 0, mv_e 56 (.aload_n 0) 57 0 0, mv_e 57 (.getfield 34) 60 7 13, mv_ev 60 (.bipush 24) 62 (24) 0, mv_e 62 (.iload_n 1) 63 1 0, mv_e 63 (.imul) 64 0 0, mv_ev 64 (.bipush 6) 66 (6) 0, mv_e 66 (.iadd) 67 0 0, mv_ev 67 (.iconst 0) 68 (0) 0, mv_e 68 (.iastore) 69 0 0, mv_e 69 (.iload_n 2) 70 2 0, mv_e 70 (.ireturn) 71 0 0]
def mv_t_X7_clearSquare_0 : List mv_E := [mv_ew 0 (.lconst 1) 1 (1), mv_e 1 (.lstore_n 2) 2 2 0, mv_ev 2 (.iconst 0) 3 (0) 0, mv_e 3 (.istore 4) 5 4 0, mv_e 5 (.iload 4) 7 4 0, mv_e 7 (.iload_n 1) 8 1 0, mv_e 8 (.if_icmp .ge 219) 11 227 0, mv_e 11 (.iload 4) 13 4 0, mv_e 13 (.istore 5) 15 5 0, mv_e 15 (.iload 5) 17 5 0, mv_e 17 (.iload_n 1) 18 1 0, mv_e 18 (.if_icmp .ge 27) 21 45 0, mv_e 21 (.aload_n 0) 22 0 0, mv_e 22 (.getfield 62) 25 7 25, mv_ev 25 (.bipush 7) 27 (7) 0, mv_e 27 (.iload 5) 29 5 0, mv_e 29 (.imul) 30 0 0, mv_e 30 (.iload 4) 32 4 0, mv_e 32 (.iadd) 33 0 0, mv_e 33 (.laload) 34 0 0, mv_ew 34 (.lconst 0) 35 (0), mv_e 35 (.lcmp) 36 0 0, mv_e 36 (.ifCond .ne 9) 39 45 0, mv_ev 39 (.iinc 5 1) 42 (1) 5, mv_e 42 (.goto (-27)) 45 15 0, mv_e 45 (.iload 5) 47 5 0, mv_e 47 (.iload 4) 49 4 0, mv_e 49 (.if_icmp .eq 54) 52 103 0, mv_e 52 (.aload_n 0) 53 0 0, mv_e 53 (.iload 4) 55 4 0, mv_e 55 (.iload 5) 57 5 0, mv_e 57 (.invokevirtual 170) 60 93 3, mv_ev 60 (.iconst 0) 61 (0) 0, mv_e 61 (.istore 6) 63 6 0, mv_e 63 (.iload 6) 65 6 0, mv_ev 65 (.bipush 7) 67 (7) 0, mv_e 67 (.if_icmp .ge 36) 70 103 0, mv_e 70 (.aload_n 0) 71 0 0, mv_e 71 (.getfield 62) 74 7 25, mv_ev 74 (.bipush 7) 76 (7) 0, mv_e 76 (.iload 4) 78 4 0, mv_e 78 (.imul) 79 0 0, mv_e 79 (.iload 6) 81 6 0, mv_e 81 (.iadd) 82 0 0, mv_e 82 (.aload_n 0) 83 0 0, mv_e 83 (.getfield 62) 86 7 25, mv_ev 86 (.bipush 7) 88 (7) 0, mv_e 88 (.iload 4) 90 4 0, mv_e 90 (.imul) 91 0 0, mv_e 91 (.iload 6) 93 6 0, mv_e 93 (.iadd) 94 0 0, mv_e 94 (.laload) 95 0 0, mv_e 95 (.lneg) 96 0 0, mv_e 96 (.lastore) 97 0 0, mv_ev 97 (.iinc 6 1) 100 (1) 6, mv_e 100 (.goto (-37)) 103 63 0, mv_e 103 (.aload_n 0) 104 0 0, mv_e 104 (.getfield 62) 107 7 25, mv_ev 107 (.bipush 7) 109 (7) 0, mv_e 109 (.iload 4) 111 4 0, mv_e 111 (.imul) 112 0 0, mv_e 112 (.iload 4) 114 4 0, mv_e 114 (.iadd) 115 0 0, mv_e 115 (.laload) 116 0 0, mv_e 116 (.lstore 6) 118 6 0, mv_ev 118 (.iconst 0) 119 (0) 0, mv_e 119 (.istore 8) 121 8 0, mv_e 121 (.iload 8) 123 8 0, mv_e 123 (.iload_n 1) 124 1 0, mv_e 124 (.if_icmp .ge 94) 127 218 0, mv_e 127 (.aload_n 0) 128 0 0, mv_e 128 (.getfield 62) 131 7 25, mv_ev 131 (.bipush 7) 133 (7) 0, mv_e 133 (.iload 8) 135 8 0, mv_e 135 (.imul) 136 0 0, mv_e 136 (.iload 4) 138 4 0, mv_e 138 (.iadd) 139 0 0, mv_e 139 (.laload) 140 0 0, mv_e 140 (.lstore 9) 142 9 0, mv_ev 142 (.iconst 0) 143 (0) 0, mv_e 143 (.istore 11) 145 11 0, mv_e 145 (.iload 11) 147 11 0, mv_e 147 (.iload_n 1) 148 1 0, mv_e 148 (.if_icmp .gt 64) 151 212 0, mv_e 151 (.iload 8) 153 8 0, mv_e 153 (.iload 4) 155 4 0, mv_e 155 (.if_icmp .eq 57) 158 212 0, mv_e 158 (.aload_n 0) 159 0 0, mv_e 159 (.getfield 62) 162 7 25, mv_ev 162 (.bipush 7) 164 (7) 0, mv_e 164 (.iload 8) 166 8 0, mv_e 166 (.imul) 167 0 0, mv_e 167 (.iload 11) 169 11 0, mv_e 169 (.iadd) 170 0 0, mv_e 170 (.lload 6) 172 6 0, mv_e 172 (.aload_n 0) 173 0 0, mv_e 173 (.getfield 62) 176 7 25, mv_ev 176 (.bipush 7) 178 (7) 0, mv_e 178 (.iload 8) 180 8 0, mv_e 180 (.imul) 181 0 0, mv_e 181 (.iload 11) 183 11 0, mv_e 183 (.iadd) 184 0 0, mv_e 184 (.laload) 185 0 0, mv_e 185 (.lmul) 186 0 0, mv_e 186 (.lload 9) 188 9 0, mv_e 188 (.aload_n 0) 189 0 0, mv_e 189 (.getfield 62) 192 7 25, mv_ev 192 (.bipush 7) 194 (7) 0, mv_e 194 (.iload 4) 196 4 0, mv_e 196 (.imul) 197 0 0, mv_e 197 (.iload 11) 199 11 0, mv_e 199 (.iadd) 200 0 0, mv_e 200 (.laload) 201 0 0, mv_e 201 (.lmul) 202 0 0, mv_e 202 (.lsub) 203 0 0, mv_e 203 (.lload_n 2) 204 2 0, mv_e 204 (.ldiv) 205 0 0, mv_e 205 (.lastore) 206 0 0, mv_ev 206 (.iinc 11 1) 209 (1) 11, mv_e 209 (.goto (-64)) 212 145 0]
def mv_t_X7_clearSquare_1 : List mv_E := [mv_ev 212 (.iinc 8 1) 215 (1) 8, mv_e 215 (.goto (-94)) 218 121 0, mv_e 218 (.lload 6) 220 6 0, mv_e 220 (.lstore_n 2) 221 2 0, mv_ev 221 (.iinc 4 1) 224 (1) 4, mv_e 224 (.goto (-219)) 227 5 0, mv_e 227 (.return_) 228 0 0]
def mv_t_X7_clearSquare : List mv_E := mv_t_X7_clearSquare_0 ++ mv_t_X7_clearSquare_1
def mv_t_X7_comes : List mv_E := [mv_ev 0 (.bipush 24) 2 (24) 0, mv_e 2 (.iload_n 1) 3 1 0, mv_e 3 (.imul) 4 0 0, mv_e 4 (.istore_n 3) 5 3 0, mv_e 5 (.aload_n 0) 6 0 0, mv_e 6 (.iload_n 3) 7 3 0, mv_ev 7 (.bipush 11) 9 (11) 0, mv_e 9 (.iadd) 10 0 0, mv_e 10 (.iaload) 11 0 0, mv_ev 11 (.bipush 12) 13 (12) 0, mv_e 13 (.if_icmp .ne 51) 16 64 0, mv_ev 16 (.iconst 0) 17 (0) 0, mv_e 17 (.istore 4) 19 4 0, mv_e 19 (.iload 4) 21 4 0, mv_ev 21 (.iconst 1) 22 (1) 0, mv_e 22 (.iadd) 23 0 0, mv_ev 23 (.bipush 12) 25 (12) 0, mv_e 25 (.if_icmp .ge 29) 28 54 0, mv_e 28 (.aload_n 0) 29 0 0, mv_e 29 (.iload_n 3) 30 3 0, mv_ev 30 (.bipush 12) 32 (12) 0, mv_e 32 (.iadd) 33 0 0, mv_e 33 (.iload 4) 35 4 0, mv_e 35 (.iadd) 36 0 0, mv_e 36 (.aload_n 0) 37 0 0, mv_e 37 (.iload_n 3) 38 3 0, mv_ev 38 (.bipush 12) 40 (12) 0, mv_e 40 (.iadd) 41 0 0, mv_e 41 (.iload 4) 43 4 0, mv_e 43 (.iadd) 44 0 0, mv_ev 44 (.iconst 1) 45 (1) 0, mv_e 45 (.iadd) 46 0 0, mv_e 46 (.iaload) 47 0 0, mv_e 47 (.iastore) 48 0 0, mv_ev 48 (.iinc 4 1) 51 (1) 4, mv_e 51 (.goto (-32)) 54 19 0, mv_e 54 (.aload_n 0) 55 0 0, mv_e 55 (.iload_n 3) 56 3 0, mv_ev 56 (.bipush 11) 58 (11) 0, mv_e 58 (.iadd) 59 0 0, mv_e 59 (.dup2) 60 0 0, mv_e 60 (.iaload) 61 0 0, mv_ev 61 (.iconst 1) 62 (1) 0, mv_e 62 (.isub) 63 0 0, mv_e 63 (.iastore) 64 0 0, mv_e 64 (.aload_n 0) 65 0 0, mv_e 65 (.iload_n 3) 66 3 0, mv_ev 66 (.bipush 12) 68 (12) 0, mv_e 68 (.iadd) 69 0 0, mv_e 69 (.aload_n 0) 70 0 0, mv_e 70 (.iload_n 3) 71 3 0, mv_ev 71 (.bipush 11) 73 (11) 0, mv_e 73 (.iadd) 74 0 0, mv_e 74 (.iaload) 75 0 0, mv_e 75 (.iadd) 76 0 0, mv_e 76 (.iload_n 2) 77 2 0, mv_e 77 (.iastore) 78 0 0, mv_e 78 (.aload_n 0) 79 0 0, mv_e 79 (.iload_n 3) 80 3 0, mv_ev 80 (.bipush 11) 82 (11) 0, mv_e 82 (.iadd) 83 0 0, mv_e 83 (.dup2) 84 0 0, mv_e 84 (.iaload) 85 0 0, mv_ev 85 (.iconst 1) 86 (1) 0, mv_e 86 (.iadd) 87 0 0, mv_e 87 (.iastore) 88 0 0, mv_e 88 (.aload_n 0) 89 0 0, mv_e 89 (.iload_n 3) 90 3 0, mv_ev 90 (.iconst 4) 91 (4) 0, mv_e 91 (.iadd) 92 0 0, mv_e 92 (.dup2) 93 0 0, mv_e 93 (.iaload) 94 0 0, mv_ev 94 (.iconst 1) 95 (1) 0, mv_e 95 (.iadd) 96 0 0, mv_e 96 (.iastore) 97 0 0, mv_e 97 (.return_) 98 0 0]
def mv_t_X7_count : List mv_E := [mv_e 0 (.aload_n 0) 1 0 0, mv_ev 1 (.iconst 0) 2 (0) 0, mv_e 2 (.putfield 66) 5 7 0, mv_e 5 (.iload_n 1) 6 1 0, mv_e 6 (.tableswitch 71 0 5 #[38, 43, 48, 53, 61, 66]) 44 77 7, mv_e 44 (.aload_n 0) 45 0 0, mv_e 45 (.getfield 79) 48 7 2, mv_e 48 (.ireturn) 49 0 0, mv_e 49 (.aload_n 0) 50 0 0, mv_e 50 (.getfield 70) 53 7 4, mv_e 53 (.ireturn) 54 0 0, mv_e 54 (.aload_n 0) 55 0 0, mv_e 55 (.invokevirtual 236) 58 90 1, mv_e 58 (.ireturn) 59 0 0, mv_e 59 (.aload_n 0) 60 0 0, mv_e 60 (.getfield 34) 63 7 13, mv_ev 63 (.bipush 120) 65 (120) 0, mv_e 65 (.iaload) 66 0 0, mv_e 66 (.ireturn) 67 0 0, mv_e 67 (.aload_n 0) 68 0 0, mv_e 68 (.getfield 104) 71 7 16, mv_e 71 (.ireturn) 72 0 0, mv_e 72 (.aload_n 0) 73 0 0, mv_e 73 (.getfield 204) 76 7 19, mv_e 76 (.ireturn) 77 0 0, mv_ev 77 (.bipush (-2)) 79 (-2) 0, mv_e 79 (.ireturn) 80 0 0]
def mv_t_X7_countOn_0 : List mv_E := [mv_ev 0 (.bipush 24) 2 (24) 0, mv_e 2 (.iload_n 2) 3 2 0, mv_e 3 (.imul) 4 0 0, mv_e 4 (.istore 4) 6 4 0, mv_e 6 (.aload_n 0) 7 0 0, mv_e 7 (.aload_n 1) 8 1 0, mv_e 8 (.iload_n 2) 9 2 0, mv_e 9 (.invokevirtual 110) 12 101 3, mv_e 12 (.istore 5) 14 5 0, mv_e 14 (.aload_n 1) 15 1 0, mv_e 15 (.iload 4) 17 4 0, mv_ev 17 (.iconst 5) 18 (5) 0, mv_e 18 (.iadd) 19 0 0, mv_e 19 (.iaload) 20 0 0, mv_e 20 (.iload_n 3) 21 3 0, mv_e 21 (.iadd) 22 0 0, mv_e 22 (.iload 5) 24 5 0, mv_e 24 (.isub) 25 0 0, mv_e 25 (.aload_n 1) 26 1 0, mv_e 26 (.iload 4) 28 4 0, mv_ev 28 (.iconst 0) 29 (0) 0, mv_e 29 (.iadd) 30 0 0, mv_e 30 (.iaload) 31 0 0, mv_e 31 (.isub) 32 0 0, mv_e 32 (.invokestatic 114) 35 126 1, mv_e 35 (.istore 6) 37 6 0, mv_e 37 (.aload_n 1) 38 1 0, mv_e 38 (.iload 4) 40 4 0, mv_ev 40 (.bipush 6) 42 (6) 0, mv_e 42 (.iadd) 43 0 0, mv_e 43 (.iaload) 44 0 0, mv_e 44 (.iload 5) 46 5 0, mv_e 46 (.iadd) 47 0 0, mv_e 47 (.iload_n 3) 48 3 0, mv_e 48 (.isub) 49 0 0, mv_e 49 (.aload_n 1) 50 1 0, mv_e 50 (.iload 4) 52 4 0, mv_ev 52 (.iconst 0) 53 (0) 0, mv_e 53 (.iadd) 54 0 0, mv_e 54 (.iaload) 55 0 0, mv_e 55 (.isub) 56 0 0, mv_e 56 (.invokestatic 114) 59 126 1, mv_e 59 (.istore 7) 61 7 0, mv_e 61 (.aload_n 1) 62 1 0, mv_e 62 (.iload 4) 64 4 0, mv_ev 64 (.iconst 1) 65 (1) 0, mv_e 65 (.iadd) 66 0 0, mv_e 66 (.iaload) 67 0 0, mv_e 67 (.istore 8) 69 8 0, mv_e 69 (.iload 6) 71 6 0, mv_e 71 (.iload 8) 73 8 0, mv_e 73 (.if_icmp .lt 7) 76 80 0, mv_ev 76 (.iconst 1) 77 (1) 0, mv_e 77 (.goto 4) 80 81 0, mv_ev 80 (.iconst 0) 81 (0) 0, mv_e 81 (.iload 7) 83 7 0, mv_e 83 (.iload 8) 85 8 0, mv_e 85 (.if_icmp .lt 7) 88 92 0, mv_ev 88 (.iconst 2) 89 (2) 0, mv_e 89 (.goto 4) 92 93 0, mv_ev 92 (.iconst 0) 93 (0) 0, mv_e 93 (.iadd) 94 0 0, mv_e 94 (.istore 9) 96 9 0, mv_e 96 (.iload 9) 98 9 0, mv_e 98 (.ifCond .le 89) 101 187 0, mv_e 101 (.aload_n 1) 102 1 0, mv_e 102 (.iload 4) 104 4 0, mv_ev 104 (.bipush 7) 106 (7) 0, mv_e 106 (.iadd) 107 0 0, mv_e 107 (.dup2) 108 0 0, mv_e 108 (.iaload) 109 0 0, mv_ev 109 (.iconst 1) 110 (1) 0, mv_e 110 (.iadd) 111 0 0, mv_e 111 (.iastore) 112 0 0, mv_e 112 (.aload_n 1) 113 1 0, mv_e 113 (.iload 4) 115 4 0, mv_ev 115 (.bipush 8) 117 (8) 0, mv_e 117 (.iadd) 118 0 0, mv_e 118 (.iload 9) 120 9 0, mv_e 120 (.iastore) 121 0 0, mv_e 121 (.aload_n 1) 122 1 0, mv_e 122 (.iload 4) 124 4 0, mv_ev 124 (.bipush 9) 126 (9) 0, mv_e 126 (.iadd) 127 0 0, mv_e 127 (.aload_n 1) 128 1 0, mv_e 128 (.iload 4) 130 4 0, mv_ev 130 (.iconst 4) 131 (4) 0, mv_e 131 (.iadd) 132 0 0, mv_e 132 (.iaload) 133 0 0, mv_e 133 (.iastore) 134 0 0, mv_e 134 (.aload_n 1) 135 1 0, mv_e 135 (.iload 4) 137 4 0, mv_ev 137 (.iconst 3) 138 (3) 0, mv_e 138 (.iadd) 139 0 0, mv_e 139 (.iaload) 140 0 0, mv_ev 140 (.iconst 1) 141 (1) 0, mv_e 141 (.if_icmp .ne 10) 144 151 0, mv_e 144 (.iload 8) 146 8 0, mv_ev 146 (.iconst 2) 147 (2) 0, mv_e 147 (.idiv) 148 0 0, mv_e 148 (.goto 4) 151 152 0, mv_ev 151 (.iconst 0) 152 (0) 0, mv_e 152 (.istore 10) 154 10 0, mv_e 154 (.iload 6) 156 6 0, mv_e 156 (.iload 8) 158 8 0, mv_e 158 (.if_icmp .lt 8) 161 166 0, mv_e 161 (.iload 10) 163 10 0, mv_e 163 (.goto 4) 166 167 0, mv_ev 166 (.iconst 0) 167 (0) 0, mv_e 167 (.istore 6) 169 6 0, mv_e 169 (.iload 7) 171 7 0, mv_e 171 (.iload 8) 173 8 0, mv_e 173 (.if_icmp .lt 8) 176 181 0, mv_e 176 (.iload 10) 178 10 0, mv_e 178 (.goto 4) 181 182 0, mv_ev 181 (.iconst 0) 182 (0) 0, mv_e 182 (.istore 7) 184 7 0, mv_e 184 (.goto 29) 187 213 0, mv_e 187 (.aload_n 1) 188 1 0, mv_e 188 (.iload 4) 190 4 0]
def mv_t_X7_countOn_1 : List mv_E := [mv_ev 190 (.iconst 2) 191 (2) 0, mv_e 191 (.iadd) 192 0 0, mv_e 192 (.iaload) 193 0 0, mv_e 193 (.ifCond .le 20) 196 213 0, mv_e 196 (.iload 6) 198 6 0, mv_e 198 (.ifCond .ne 15) 201 213 0, mv_e 201 (.iload 7) 203 7 0, mv_e 203 (.ifCond .ne 10) 206 213 0, mv_e 206 (.aload_n 0) 207 0 0, mv_e 207 (.aload_n 1) 208 1 0, mv_e 208 (.iload_n 2) 209 2 0, mv_e 209 (.iload_n 3) 210 3 0, mv_e 210 (.invokevirtual 117) 213 121 4, mv_e 213 (.aload_n 1) 214 1 0, mv_e 214 (.iload 4) 216 4 0, mv_ev 216 (.iconst 5) 217 (5) 0, mv_e 217 (.iadd) 218 0 0, mv_e 218 (.iload 6) 220 6 0, mv_e 220 (.iastore) 221 0 0, mv_e 221 (.aload_n 1) 222 1 0, mv_e 222 (.iload 4) 224 4 0, mv_ev 224 (.bipush 6) 226 (6) 0, mv_e 226 (.iadd) 227 0 0, mv_e 227 (.iload 7) 229 7 0, mv_e 229 (.iastore) 230 0 0, mv_e 230 (.aload_n 1) 231 1 0, mv_e 231 (.iload_n 2) 232 2 0, mv_e 232 (.iload_n 3) 233 3 0, mv_e 233 (.invokestatic 121) 236 96 3, mv_e 236 (.iload 9) 238 9 0, mv_e 238 (.ireturn) 239 0 0]
def mv_t_X7_countOn : List mv_E := mv_t_X7_countOn_0 ++ mv_t_X7_countOn_1
def mv_t_X7_does : List mv_E := [mv_e 0 (.aload_n 0) 1 0 0, mv_e 1 (.iload_n 2) 2 2 0, mv_e 2 (.invokevirtual 124) 5 123 2, mv_e 5 (.ifCond .eq 5) 8 10 0, mv_ev 8 (.iconst 0) 9 (0) 0, mv_e 9 (.ireturn) 10 0 1, mv_ev 10 (.bipush 24) 12 (24) 0, mv_e 12 (.iload_n 2) 13 2 0, mv_e 13 (.imul) 14 0 0, mv_e 14 (.istore 4) 16 4 0, mv_e 16 (.iload_n 1) 17 1 0, mv_e 17 (.tableswitch 181 1 7 #[43, 56, 74, 103, 122, 142, 162]) 60 198 8, mv_e 60 (.aload_n 0) 61 0 0, mv_e 61 (.aload_n 0) 62 0 0, mv_e 62 (.getfield 37) 65 7 14, mv_e 65 (.iload_n 2) 66 2 0, mv_e 66 (.iload_n 3) 67 3 0, mv_e 67 (.invokevirtual 139) 70 98 4, mv_e 70 (.pop) 71 0 0, mv_ev 71 (.iconst 1) 72 (1) 0, mv_e 72 (.ireturn) 73 0 1, mv_e 73 (.iload_n 3) 74 3 0, mv_e 74 (.ifCond .eq 5) 77 79 0, mv_ev 77 (.iconst 0) 78 (0) 0, mv_e 78 (.ireturn) 79 0 1, mv_e 79 (.aload_n 0) 80 0 0, mv_e 80 (.getfield 37) 83 7 14, mv_e 83 (.iload_n 2) 84 2 0, mv_ev 84 (.bipush (-9)) 86 (-9) 0, mv_e 86 (.invokestatic 121) 89 96 3, mv_ev 89 (.iconst 1) 90 (1) 0, mv_e 90 (.ireturn) 91 0 1, mv_e 91 (.iload_n 3) 92 3 0, mv_e 92 (.ifCond .eq 5) 95 97 0, mv_ev 95 (.iconst 0) 96 (0) 0, mv_e 96 (.ireturn) 97 0 1, mv_e 97 (.aload_n 0) 98 0 0, mv_e 98 (.getfield 37) 101 7 14, mv_e 101 (.iload 4) 103 4 0, mv_ev 103 (.iconst 5) 104 (5) 0, mv_e 104 (.iadd) 105 0 0, mv_ev 105 (.iconst 0) 106 (0) 0, mv_e 106 (.iastore) 107 0 0, mv_e 107 (.aload_n 0) 108 0 0, mv_e 108 (.getfield 37) 111 7 14, mv_e 111 (.iload 4) 113 4 0, mv_ev 113 (.bipush 6) 115 (6) 0, mv_e 115 (.iadd) 116 0 0, mv_ev 116 (.iconst 0) 117 (0) 0, mv_e 117 (.iastore) 118 0 0, mv_ev 118 (.iconst 1) 119 (1) 0, mv_e 119 (.ireturn) 120 0 1, mv_e 120 (.aload_n 0) 121 0 0, mv_e 121 (.getfield 37) 124 7 14, mv_e 124 (.iload 4) 126 4 0, mv_ev 126 (.iconst 5) 127 (5) 0, mv_e 127 (.iadd) 128 0 0, mv_e 128 (.iaload) 129 0 0, mv_e 129 (.iload_n 3) 130 3 0, mv_e 130 (.if_icmp .ne 7) 133 137 0, mv_ev 133 (.iconst 1) 134 (1) 0, mv_e 134 (.goto 4) 137 138 0, mv_ev 137 (.iconst 0) 138 (0) 0, mv_e 138 (.ireturn) 139 0 1, mv_e 139 (.aload_n 0) 140 0 0, mv_e 140 (.getfield 37) 143 7 14, mv_e 143 (.iload 4) 145 4 0, mv_ev 145 (.bipush 6) 147 (6) 0, mv_e 147 (.iadd) 148 0 0, mv_e 148 (.iaload) 149 0 0, mv_e 149 (.iload_n 3) 150 3 0, mv_e 150 (.if_icmp .ne 7) 153 157 0, mv_ev 153 (.iconst 1) 154 (1) 0, mv_e 154 (.goto 4) 157 158 0, mv_ev 157 (.iconst 0) 158 (0) 0, mv_e 158 (.ireturn) 159 0 1, mv_e 159 (.aload_n 0) 160 0 0, mv_e 160 (.getfield 37) 163 7 14, mv_e 163 (.iload 4) 165 4 0, mv_ev 165 (.bipush 8) 167 (8) 0, mv_e 167 (.iadd) 168 0 0, mv_e 168 (.iaload) 169 0 0, mv_e 169 (.iload_n 3) 170 3 0, mv_e 170 (.if_icmp .ne 7) 173 177 0, mv_ev 173 (.iconst 1) 174 (1) 0, mv_e 174 (.goto 4) 177 178 0, mv_ev 177 (.iconst 0) 178 (0) 0, mv_e 178 (.ireturn) 179 0 1, mv_e 179 (.aload_n 0) 180 0 0, mv_e 180 (.aload_n 0) 181 0 0, mv_e 181 (.getfield 37) 184 7 14, mv_e 184 (.iload_n 2) 185 2 0, mv_e 185 (.invokevirtual 110) 188 101 3, mv_e 188 (.iload_n 3) 189 3 0, mv_e 189 (.if_icmp .ne 7) 192 196 0, mv_ev 192 (.iconst 1) 193 (1) 0, mv_e 193 (.goto 4) 196 197 0, mv_ev 196 (.iconst 0) 197 (0) 0, mv_e 197 (.ireturn) 198 0 1, mv_ev 198 (.iconst 0) 199 (0) 0, mv_e 199 (.ireturn) 200 0 1]
def mv_t_X7_drawn : List mv_E := [mv_e 0 (.aload_n 0) 1 0 0, mv_ev 1 (.iconst 0) 2 (0) 0, mv_e 2 (.putfield 66) 5 7 0, mv_e 5 (.iload_n 1) 6 1 0, mv_e 6 (.i2l) 7 0 0, mv_ew 7 (.lconst 1) 8 (1), mv_ew 8 (.ldc2_w 230) 11 (20), mv_e 11 (.invokestatic 73) 14 109 3, mv_e 14 (.ifCond .ne 6) 17 20 0, mv_ev 17 (.bipush (-2)) 19 (-2) 0, mv_e 19 (.ireturn) 20 0 0, mv_e 20 (.aload_n 0) 21 0 0, mv_e 21 (.invokevirtual 154) 24 115 1, mv_ev 24 (.iconst 0) 25 (0) 0, mv_e 25 (.istore_n 2) 26 2 0, mv_ev 26 (.iconst 0) 27 (0) 0, mv_e 27 (.istore_n 3) 28 3 0, mv_e 28 (.iload_n 3) 29 3 0, mv_e 29 (.iload_n 1) 30 1 0, mv_e 30 (.if_icmp .ge 76) 33 106 0, mv_e 33 (.aload_n 0) 34 0 0, mv_e 34 (.aload_n 0) 35 0 0, mv_e 35 (.getfield 226) 38 7 24, mv_ew 38 (.ldc2_w 232) 41 (6364136223846793005), mv_e 41 (.lmul) 42 0 0, mv_ew 42 (.ldc2_w 234) 45 (1442695040888963407), mv_e 45 (.ladd) 46 0 0, mv_e 46 (.putfield 226) 49 7 24, mv_e 49 (.aload_n 0) 50 0 0, mv_e 50 (.getfield 226) 53 7 24, mv_ev 53 (.bipush 33) 55 (33) 0, mv_e 55 (.lushr) 56 0 0, mv_e 56 (.l2i) 57 0 0, mv_e 57 (.istore 4) 59 4 0, mv_e 59 (.aload_n 0) 60 0 0, mv_e 60 (.getfield 70) 63 7 4, mv_e 63 (.ifCond .le 37) 66 100 0, mv_e 66 (.iload_n 2) 67 2 0, mv_e 67 (.aload_n 0) 68 0 0, mv_e 68 (.aload_n 0) 69 0 0, mv_e 69 (.getfield 37) 72 7 14, mv_e 72 (.iload 4) 74 4 0, mv_ev 74 (.bipush 64) 76 (64) 0, mv_e 76 (.idiv) 77 0 0, mv_e 77 (.aload_n 0) 78 0 0, mv_e 78 (.getfield 70) 81 7 4, mv_e 81 (.irem) 82 0 0, mv_e 82 (.iload 4) 84 4 0, mv_ev 84 (.bipush 40) 86 (40) 0, mv_e 86 (.irem) 87 0 0, mv_e 87 (.invokevirtual 139) 90 98 4, mv_e 90 (.ifCond .le 7) 93 97 0, mv_ev 93 (.iconst 1) 94 (1) 0, mv_e 94 (.goto 4) 97 98 0, mv_ev 97 (.iconst 0) 98 (0) 0, mv_e 98 (.iadd) 99 0 0, mv_e 99 (.istore_n 2) 100 2 0, mv_ev 100 (.iinc 3 1) 103 (1) 3, mv_e 103 (.goto (-75)) 106 28 0, mv_e 106 (.iload_n 2) 107 2 0, mv_e 107 (.ireturn) 108 0 0]
def mv_t_X7_expected : List mv_E := [mv_e 0 (.aload_n 1) 1 1 0, mv_ev 1 (.bipush 24) 3 (24) 0, mv_e 3 (.iload_n 2) 4 2 0, mv_e 4 (.imul) 5 0 0, mv_ev 5 (.bipush 10) 7 (10) 0, mv_e 7 (.iadd) 8 0 0, mv_e 8 (.iaload) 9 0 0, mv_ev 9 (.iconst 4) 10 (4) 0, mv_e 10 (.ishr) 11 0 0, mv_e 11 (.aload_n 0) 12 0 0, mv_e 12 (.iload_n 2) 13 2 0, mv_e 13 (.aload_n 1) 14 1 0, mv_ev 14 (.bipush 24) 16 (24) 0, mv_e 16 (.iload_n 2) 17 2 0, mv_e 17 (.imul) 18 0 0, mv_ev 18 (.iconst 4) 19 (4) 0, mv_e 19 (.iadd) 20 0 0, mv_e 20 (.iaload) 21 0 0, mv_e 21 (.invokevirtual 107) 24 105 3, mv_e 24 (.iadd) 25 0 0, mv_ev 25 (.iconst 5) 26 (5) 0, mv_e 26 (.isub) 27 0 0, mv_e 27 (.ireturn) 28 0 0]
def mv_t_X7_factorial : List mv_E := [mv_ev 0 (.iconst 1) 1 (1) 0, mv_e 1 (.istore_n 1) 2 1 0, mv_ev 2 (.iconst 2) 3 (2) 0, mv_e 3 (.istore_n 2) 4 2 0, mv_e 4 (.iload_n 2) 5 2 0, mv_e 5 (.iload_n 0) 6 0 0, mv_e 6 (.if_icmp .gt 13) 9 19 0, mv_e 9 (.iload_n 1) 10 1 0, mv_e 10 (.iload_n 2) 11 2 0, mv_e 11 (.imul) 12 0 0, mv_e 12 (.istore_n 1) 13 1 0, mv_ev 13 (.iinc 2 1) 16 (1) 2, mv_e 16 (.goto (-12)) 19 4 0, mv_e 19 (.iload_n 1) 20 1 0, mv_e 20 (.ireturn) 21 0 0]
def mv_t_X7_fault : List mv_E := [mv_e 0 (.aload_n 0) 1 0 0, mv_ev 1 (.iconst 0) 2 (0) 0, mv_e 2 (.putfield 66) 5 7 0, mv_e 5 (.aload_n 0) 6 0 0, mv_e 6 (.invokevirtual 100) 9 131 1, mv_e 9 (.ireturn) 10 0 0]
def mv_t_X7_figure : List mv_E := [mv_e 0 (.aload_n 0) 1 0 0, mv_e 1 (.getfield 82) 4 7 3, mv_e 4 (.aload_n 0) 5 0 0, mv_e 5 (.getfield 79) 8 7 2, mv_e 8 (.if_icmp .ge 18) 11 26 0, mv_e 11 (.aload_n 0) 12 0 0, mv_e 12 (.getfield 7) 15 7 1, mv_e 15 (.aload_n 0) 16 0 0, mv_e 16 (.getfield 82) 19 7 3, mv_e 19 (.iaload) 20 0 0, mv_ev 20 (.bipush 48) 22 (48) 0, mv_e 22 (.isub) 23 0 0, mv_e 23 (.goto 5) 26 28 0, mv_ev 26 (.bipush (-9)) 28 (-9) 0, mv_e 28 (.istore_n 3) 29 3 0, mv_e 29 (.iload_n 3) 30 3 0, mv_e 30 (.i2l) 31 0 0, mv_e 31 (.iload_n 1) 32 1 0, mv_e 32 (.i2l) 33 0 0, mv_e 33 (.iload_n 2) 34 2 0, mv_e 34 (.i2l) 35 0 0, mv_e 35 (.invokestatic 73) 38 109 3, mv_e 38 (.ifCond .ne 6) 41 44 0, mv_ev 41 (.bipush (-9)) 43 (-9) 0, mv_e 43 (.ireturn) 44 0 0, mv_e 44 (.aload_n 0) 45 0 0, mv_e 45 (.dup) 46 0 0, mv_e 46 (.getfield 82) 49 7 3, mv_ev 49 (.iconst 1) 50 (1) 0, mv_e 50 (.iadd) 51 0 0, mv_e 51 (.putfield 82) 54 7 3, mv_e 54 (.iload_n 3) 55 3 0, mv_e 55 (.ireturn) 56 0 0]
def mv_t_X7_figureOf : List mv_E := [mv_e 0 (.aload_n 0) 1 0 0, mv_e 1 (.getfield 16) 4 7 6, mv_ev 4 (.iconst 5) 5 (5) 0, mv_e 5 (.iload_n 1) 6 1 0, mv_e 6 (.imul) 7 0 0, mv_e 7 (.iload_n 2) 8 2 0, mv_e 8 (.aload_n 0) 9 0 0, mv_e 9 (.getfield 19) 12 7 7, mv_e 12 (.iload_n 1) 13 1 0, mv_e 13 (.iaload) 14 0 0, mv_e 14 (.irem) 15 0 0, mv_e 15 (.iadd) 16 0 0, mv_e 16 (.iaload) 17 0 0, mv_e 17 (.ireturn) 18 0 0]
def mv_t_X7_fraction : List mv_E := [mv_e 0 (.iload_n 0) 1 0 0, mv_e 1 (.i2l) 2 0 0, mv_e 2 (.iload_n 1) 3 1 0, mv_e 3 (.i2l) 4 0 0, mv_e 4 (.invokestatic 187) 7 118 2, mv_e 7 (.l2i) 8 0 0, mv_e 8 (.istore_n 3) 9 3 0, mv_e 9 (.iload_n 2) 10 2 0, mv_e 10 (.ifCond .eq 9) 13 19 0, mv_e 13 (.iload_n 0) 14 0 0, mv_e 14 (.iload_n 3) 15 3 0, mv_e 15 (.idiv) 16 0 0, mv_e 16 (.goto 6) 19 22 0, mv_e 19 (.iload_n 1) 20 1 0, mv_e 20 (.iload_n 3) 21 3 0, mv_e 21 (.idiv) 22 0 0, mv_e 22 (.ireturn) 23 0 0]
def mv_t_X7_gap : List mv_E := [mv_e 0 (.aload_n 0) 1 0 0, mv_ev 1 (.iconst 0) 2 (0) 0, mv_e 2 (.putfield 66) 5 7 0, mv_e 5 (.aload_n 0) 6 0 0, mv_e 6 (.iload_n 1) 7 1 0, mv_e 7 (.invokevirtual 124) 10 123 2, mv_e 10 (.ifCond .eq 5) 13 15 0, mv_ev 13 (.iconst (-1)) 14 (-1) 0, mv_e 14 (.ireturn) 15 0 0, mv_e 15 (.aload_n 0) 16 0 0, mv_e 16 (.invokevirtual 136) 19 124 1, mv_e 19 (.aload_n 0) 20 0 0, mv_e 20 (.getfield 34) 23 7 13, mv_e 23 (.iload_n 1) 24 1 0, mv_ev 24 (.bipush (-9)) 26 (-9) 0, mv_e 26 (.invokestatic 121) 29 96 3, mv_e 29 (.aload_n 0) 30 0 0, mv_e 30 (.getfield 34) 33 7 13, mv_ev 33 (.bipush 24) 35 (24) 0, mv_e 35 (.iload_n 1) 36 1 0, mv_e 36 (.imul) 37 0 0, mv_ev 37 (.iconst 4) 38 (4) 0, mv_e 38 (.iadd) 39 0 0, mv_e 39 (.iaload) 40 0 0, mv_e 40 (.ireturn) 41 0 0]
def mv_t_X7_has : List mv_E := [mv_e 0 (.iload_n 0) 1 0 0, mv_e 1 (.iload_n 1) 2 1 0, mv_e 2 (.ishr) 3 0 0, mv_ev 3 (.iconst 1) 4 (1) 0, mv_e 4 (.iand) 5 0 0, mv_ev 5 (.iconst 1) 6 (1) 0, mv_e 6 (.if_icmp .ne 7) 9 13 0, mv_ev 9 (.iconst 1) 10 (1) 0, mv_e 10 (.goto 4) 13 14 0, mv_ev 13 (.iconst 0) 14 (0) 0, mv_e 14 (.ireturn) 15 0 1]
def mv_t_X7_in : List mv_E := [mv_e 0 (.lload_n 0) 1 0 0, mv_e 1 (.lload_n 2) 2 2 0, mv_e 2 (.lcmp) 3 0 0, mv_e 3 (.ifCond .lt 14) 6 17 0, mv_e 6 (.lload_n 0) 7 0 0, mv_e 7 (.lload 4) 9 4 0, mv_e 9 (.lcmp) 10 0 0, mv_e 10 (.ifCond .gt 7) 13 17 0, mv_ev 13 (.iconst 1) 14 (1) 0, mv_e 14 (.goto 4) 17 18 0, mv_ev 17 (.iconst 0) 18 (0) 0, mv_e 18 (.ireturn) 19 0 1]
def mv_t_X7_isSo : List mv_E := [mv_e 0 (.aload_n 0) 1 0 0, mv_e 1 (.getfield 50) 4 7 20, mv_e 4 (.iload_n 2) 5 2 0, mv_e 5 (.iaload) 6 0 0, mv_e 6 (.istore_n 3) 7 3 0, mv_e 7 (.aload_n 0) 8 0 0, mv_e 8 (.iload_n 3) 9 3 0, mv_e 9 (.invokevirtual 124) 12 123 2, mv_e 12 (.ifCond .eq 5) 15 17 0, mv_ev 15 (.iconst 1) 16 (1) 0, mv_e 16 (.ireturn) 17 0 1, mv_e 17 (.aload_n 0) 18 0 0, mv_e 18 (.invokevirtual 154) 21 115 1, mv_ev 21 (.iconst 0) 22 (0) 0, mv_e 22 (.istore 4) 24 4 0, mv_ev 24 (.iconst 0) 25 (0) 0, mv_e 25 (.istore 5) 27 5 0, mv_e 27 (.iload 5) 29 5 0, mv_e 29 (.aload_n 0) 30 0 0, mv_e 30 (.getfield 53) 33 7 21, mv_e 33 (.iload_n 2) 34 2 0, mv_e 34 (.iaload) 35 0 0, mv_e 35 (.if_icmp .ge 32) 38 67 0, mv_e 38 (.iload 4) 40 4 0, mv_e 40 (.aload_n 0) 41 0 0, mv_e 41 (.aload_n 0) 42 0 0, mv_e 42 (.getfield 37) 45 7 14, mv_e 45 (.iload_n 3) 46 3 0, mv_e 46 (.iload_n 1) 47 1 0, mv_e 47 (.invokevirtual 139) 50 98 4, mv_e 50 (.ifCond .le 7) 53 57 0, mv_ev 53 (.iconst 1) 54 (1) 0, mv_e 54 (.goto 4) 57 58 0, mv_ev 57 (.iconst 0) 58 (0) 0, mv_e 58 (.iadd) 59 0 0, mv_e 59 (.istore 4) 61 4 0, mv_ev 61 (.iinc 5 1) 64 (1) 5, mv_e 64 (.goto (-37)) 67 27 0, mv_e 67 (.iload 4) 69 4 0, mv_e 69 (.aload_n 0) 70 0 0, mv_e 70 (.getfield 56) 73 7 22, mv_e 73 (.iload_n 2) 74 2 0, mv_e 74 (.iaload) 75 0 0, mv_e 75 (.if_icmp .ne 7) 78 82 0, mv_ev 78 (.iconst 1) 79 (1) 0, mv_e 79 (.goto 4) 82 83 0, mv_ev 82 (.iconst 0) 83 (0) 0, mv_e 83 (.aload_n 0) 84 0 0, mv_e 84 (.getfield 59) 87 7 23, mv_e 87 (.iload_n 2) 88 2 0, mv_e 88 (.iaload) 89 0 0, mv_ev 89 (.iconst 1) 90 (1) 0, mv_e 90 (.if_icmp .ne 7) 93 97 0, mv_ev 93 (.iconst 1) 94 (1) 0, mv_e 94 (.goto 4) 97 98 0, mv_ev 97 (.iconst 0) 98 (0) 0, mv_e 98 (.if_icmp .ne 7) 101 105 0, mv_ev 101 (.iconst 1) 102 (1) 0, mv_e 102 (.goto 4) 105 106 0, mv_ev 105 (.iconst 0) 106 (0) 0, mv_e 106 (.ireturn) 107 0 1]
def mv_t_X7_judge : List mv_E := [mv_e 0 (.aload_n 0) 1 0 0, mv_ev 1 (.iconst 0) 2 (0) 0, mv_e 2 (.putfield 66) 5 7 0, mv_e 5 (.iload_n 1) 6 1 0, mv_e 6 (.i2l) 7 0 0, mv_ew 7 (.lconst 1) 8 (1), mv_ew 8 (.ldc2_w 146) 11 (4), mv_e 11 (.invokestatic 73) 14 109 3, mv_e 14 (.ifCond .eq 20) 17 34 0, mv_e 17 (.lload_n 2) 18 2 0, mv_ew 18 (.lconst 0) 19 (0), mv_ew 19 (.ldc2_w 194) 22 (10000), mv_e 22 (.iload_n 1) 23 1 0, mv_e 23 (.invokestatic 196) 26 119 2, mv_ew 26 (.lconst 1) 27 (1), mv_e 27 (.lsub) 28 0 0, mv_e 28 (.invokestatic 73) 31 109 3, mv_e 31 (.ifCond .ne 6) 34 37 0, mv_ev 34 (.bipush (-2)) 36 (-2) 0, mv_e 36 (.ireturn) 37 0 0, mv_e 37 (.aload_n 0) 38 0 0, mv_e 38 (.invokevirtual 154) 41 115 1, mv_ev 41 (.iconst 0) 42 (0) 0, mv_e 42 (.istore 4) 44 4 0, mv_e 44 (.iload 4) 46 4 0, mv_e 46 (.iload_n 1) 47 1 0, mv_e 47 (.if_icmp .ge 59) 50 106 0, mv_e 50 (.lload_n 2) 51 2 0, mv_ew 51 (.ldc2_w 194) 54 (10000), mv_e 54 (.iload_n 1) 55 1 0, mv_ev 55 (.iconst 1) 56 (1) 0, mv_e 56 (.isub) 57 0 0, mv_e 57 (.iload 4) 59 4 0, mv_e 59 (.isub) 60 0 0, mv_e 60 (.invokestatic 196) 63 119 2, mv_e 63 (.ldiv) 64 0 0, mv_ew 64 (.ldc2_w 194) 67 (10000), mv_e 67 (.lrem) 68 0 0, mv_e 68 (.l2i) 69 0 0, mv_e 69 (.istore 5) 71 5 0, mv_e 71 (.aload_n 0) 72 0 0, mv_e 72 (.iload 5) 74 5 0, mv_ev 74 (.sipush 1000) 77 (1000) 0, mv_e 77 (.idiv) 78 0 0, mv_e 78 (.iload 5) 80 5 0, mv_ev 80 (.bipush 100) 82 (100) 0, mv_e 82 (.idiv) 83 0 0, mv_ev 83 (.bipush 10) 85 (10) 0, mv_e 85 (.irem) 86 0 0, mv_e 86 (.iload 5) 88 5 0, mv_ev 88 (.bipush 100) 90 (100) 0, mv_e 90 (.irem) 91 0 0, mv_e 91 (.invokevirtual 200) 94 99 4, mv_e 94 (.ifCond .ne 6) 97 100 0, mv_e 97 (.iload 4) 99 4 0, mv_e 99 (.ireturn) 100 0 0, mv_ev 100 (.iinc 4 1) 103 (1) 4, mv_e 103 (.goto (-59)) 106 44 0, mv_ev 106 (.bipush (-9)) 108 (-9) 0, mv_e 108 (.ireturn) 109 0 0]
def mv_t_X7_keep : List mv_E := [mv_e 0 (.aload_n 0) 1 0 0, mv_ev 1 (.iconst 0) 2 (0) 0, mv_e 2 (.putfield 66) 5 7 0, mv_e 5 (.iload_n 1) 6 1 0, mv_e 6 (.i2l) 7 0 0, mv_ew 7 (.lconst 0) 8 (0), mv_ew 8 (.lconst 1) 9 (1), mv_e 9 (.invokestatic 73) 12 109 3, mv_e 12 (.ifCond .ne 5) 15 17 0, mv_ev 15 (.iconst (-1)) 16 (-1) 0, mv_e 16 (.ireturn) 17 0 0, mv_e 17 (.aload_n 0) 18 0 0, mv_e 18 (.getfield 46) 21 7 18, mv_e 21 (.iload_n 1) 22 1 0, mv_ev 22 (.iconst 1) 23 (1) 0, mv_e 23 (.bastore) 24 0 0, mv_ev 24 (.iconst 0) 25 (0) 0, mv_e 25 (.istore_n 2) 26 2 0, mv_e 26 (.iload_n 2) 27 2 0, mv_ev 27 (.bipush 121) 29 (121) 0, mv_e 29 (.if_icmp .ge 26) 32 55 0, mv_e 32 (.aload_n 0) 33 0 0, mv_e 33 (.getfield 43) 36 7 17, mv_ev 36 (.bipush 121) 38 (121) 0, mv_e 38 (.iload_n 1) 39 1 0, mv_e 39 (.imul) 40 0 0, mv_e 40 (.iload_n 2) 41 2 0, mv_e 41 (.iadd) 42 0 0, mv_e 42 (.aload_n 0) 43 0 0, mv_e 43 (.getfield 34) 46 7 13, mv_e 46 (.iload_n 2) 47 2 0, mv_e 47 (.iaload) 48 0 0, mv_e 48 (.iastore) 49 0 0, mv_ev 49 (.iinc 2 1) 52 (1) 2, mv_e 52 (.goto (-26)) 55 26 0, mv_e 55 (.aload_n 0) 56 0 0, mv_e 56 (.invokevirtual 236) 59 90 1, mv_e 59 (.ireturn) 60 0 0]
def mv_t_X7_laySquare : List mv_E := [mv_ev 0 (.iconst 0) 1 (0) 0, mv_e 1 (.istore_n 3) 2 3 0, mv_e 2 (.iload_n 3) 3 3 0, mv_e 3 (.iload_n 1) 4 1 0, mv_e 4 (.if_icmp .ge 121) 7 125 0, mv_ev 7 (.iconst 0) 8 (0) 0, mv_e 8 (.istore 4) 10 4 0, mv_e 10 (.iload 4) 12 4 0, mv_ev 12 (.bipush 7) 14 (7) 0, mv_e 14 (.if_icmp .ge 22) 17 36 0, mv_e 17 (.aload_n 0) 18 0 0, mv_e 18 (.getfield 62) 21 7 25, mv_ev 21 (.bipush 7) 23 (7) 0, mv_e 23 (.iload_n 3) 24 3 0, mv_e 24 (.imul) 25 0 0, mv_e 25 (.iload 4) 27 4 0, mv_e 27 (.iadd) 28 0 0, mv_ew 28 (.lconst 0) 29 (0), mv_e 29 (.lastore) 30 0 0, mv_ev 30 (.iinc 4 1) 33 (1) 4, mv_e 33 (.goto (-23)) 36 10 0, mv_e 36 (.aload_n 0) 37 0 0, mv_e 37 (.getfield 62) 40 7 25, mv_ev 40 (.bipush 7) 42 (7) 0, mv_e 42 (.iload_n 3) 43 3 0, mv_e 43 (.imul) 44 0 0, mv_e 44 (.iload_n 3) 45 3 0, mv_e 45 (.iadd) 46 0 0, mv_ew 46 (.ldc2_w 165) 49 (10), mv_e 49 (.lastore) 50 0 0, mv_e 50 (.aload_n 0) 51 0 0, mv_e 51 (.getfield 62) 54 7 25, mv_ev 54 (.bipush 7) 56 (7) 0, mv_e 56 (.iload_n 3) 57 3 0, mv_e 57 (.imul) 58 0 0, mv_e 58 (.iload_n 1) 59 1 0, mv_e 59 (.iadd) 60 0 0, mv_ew 60 (.ldc2_w 165) 63 (10), mv_e 63 (.lastore) 64 0 0, mv_ev 64 (.bipush (-2)) 66 (-2) 0, mv_e 66 (.istore 4) 68 4 0, mv_e 68 (.iload 4) 70 4 0, mv_ev 70 (.iconst 2) 71 (2) 0, mv_e 71 (.if_icmp .gt 48) 74 119 0, mv_e 74 (.iload_n 3) 75 3 0, mv_e 75 (.iload 4) 77 4 0, mv_e 77 (.iadd) 78 0 0, mv_e 78 (.iload_n 2) 79 2 0, mv_e 79 (.isub) 80 0 0, mv_e 80 (.invokestatic 114) 83 126 1, mv_e 83 (.istore 5) 85 5 0, mv_e 85 (.iload 5) 87 5 0, mv_e 87 (.iload_n 1) 88 1 0, mv_e 88 (.if_icmp .ge 25) 91 113 0, mv_e 91 (.aload_n 0) 92 0 0, mv_e 92 (.getfield 62) 95 7 25, mv_ev 95 (.bipush 7) 97 (7) 0, mv_e 97 (.iload_n 3) 98 3 0, mv_e 98 (.imul) 99 0 0, mv_e 99 (.iload 5) 101 5 0, mv_e 101 (.iadd) 102 0 0, mv_e 102 (.dup2) 103 0 0, mv_e 103 (.laload) 104 0 0, mv_e 104 (.aload_n 0) 105 0 0, mv_e 105 (.iload 4) 107 4 0, mv_e 107 (.invokevirtual 167) 110 91 2, mv_e 110 (.i2l) 111 0 0, mv_e 111 (.lsub) 112 0 0, mv_e 112 (.lastore) 113 0 0, mv_ev 113 (.iinc 4 1) 116 (1) 4, mv_e 116 (.goto (-48)) 119 68 0, mv_ev 119 (.iinc 3 1) 122 (1) 3, mv_e 122 (.goto (-120)) 125 2 0, mv_e 125 (.return_) 126 0 0]
def mv_t_X7_layTrial : List mv_E := [mv_ev 0 (.iconst 0) 1 (0) 0, mv_e 1 (.istore_n 1) 2 1 0, mv_e 2 (.iload_n 1) 3 1 0, mv_ev 3 (.bipush 121) 5 (121) 0, mv_e 5 (.if_icmp .ge 21) 8 26 0, mv_e 8 (.aload_n 0) 9 0 0, mv_e 9 (.getfield 37) 12 7 14, mv_e 12 (.iload_n 1) 13 1 0, mv_e 13 (.aload_n 0) 14 0 0, mv_e 14 (.getfield 34) 17 7 13, mv_e 17 (.iload_n 1) 18 1 0, mv_e 18 (.iaload) 19 0 0, mv_e 19 (.iastore) 20 0 0, mv_ev 20 (.iinc 1 1) 23 (1) 1, mv_e 23 (.goto (-21)) 26 2 0, mv_e 26 (.return_) 27 0 0]
def mv_t_X7_least : List mv_E := [mv_e 0 (.aload_n 0) 1 0 0, mv_ev 1 (.iconst 0) 2 (0) 0, mv_e 2 (.putfield 66) 5 7 0, mv_e 5 (.aload_n 0) 6 0 0, mv_e 6 (.iload_n 1) 7 1 0, mv_e 7 (.invokevirtual 124) 10 123 2, mv_e 10 (.ifCond .eq 5) 13 15 0, mv_ev 13 (.iconst (-1)) 14 (-1) 0, mv_e 14 (.ireturn) 15 0 0, mv_e 15 (.iload_n 2) 16 2 0, mv_e 16 (.i2l) 17 0 0, mv_ew 17 (.lconst 1) 18 (1), mv_ew 18 (.ldc2_w 160) 21 (30), mv_e 21 (.invokestatic 73) 24 109 3, mv_e 24 (.ifCond .ne 6) 27 30 0, mv_ev 27 (.bipush (-2)) 29 (-2) 0, mv_e 29 (.ireturn) 30 0 0, mv_ev 30 (.iconst 0) 31 (0) 0, mv_e 31 (.istore_n 3) 32 3 0, mv_e 32 (.iload_n 3) 33 3 0, mv_ev 33 (.bipush 100) 35 (100) 0, mv_e 35 (.if_icmp .ge 30) 38 65 0, mv_e 38 (.aload_n 0) 39 0 0, mv_e 39 (.iload_n 1) 40 1 0, mv_e 40 (.iload_n 3) 41 3 0, mv_e 41 (.invokevirtual 157) 44 133 3, mv_e 44 (.istore 4) 46 4 0, mv_e 46 (.iload 4) 48 4 0, mv_e 48 (.ifCond .le 11) 51 59 0, mv_e 51 (.iload 4) 53 4 0, mv_e 53 (.iload_n 2) 54 2 0, mv_e 54 (.if_icmp .gt 5) 57 59 0, mv_e 57 (.iload_n 3) 58 3 0, mv_e 58 (.ireturn) 59 0 0, mv_ev 59 (.iinc 3 1) 62 (1) 3, mv_e 62 (.goto (-30)) 65 32 0, mv_ev 65 (.bipush (-9)) 67 (-9) 0, mv_e 67 (.ireturn) 68 0 0]
def mv_t_X7_length : List mv_E := [mv_e 0 (.aload_n 0) 1 0 0, mv_ev 1 (.iconst 0) 2 (0) 0, mv_e 2 (.putfield 66) 5 7 0, mv_e 5 (.aload_n 0) 6 0 0, mv_e 6 (.iload_n 1) 7 1 0, mv_e 7 (.invokevirtual 124) 10 123 2, mv_e 10 (.ifCond .eq 7) 13 17 0, mv_ew 13 (.ldc2_w 174) 16 (-1), mv_e 16 (.lreturn) 17 0 0, mv_e 17 (.aload_n 0) 18 0 0, mv_e 18 (.getfield 34) 21 7 13, mv_ev 21 (.bipush 24) 23 (24) 0, mv_e 23 (.iload_n 1) 24 1 0, mv_e 24 (.imul) 25 0 0, mv_ev 25 (.iconst 1) 26 (1) 0, mv_e 26 (.iadd) 27 0 0, mv_e 27 (.iaload) 28 0 0, mv_e 28 (.istore_n 3) 29 3 0, mv_e 29 (.aload_n 0) 30 0 0, mv_e 30 (.getfield 34) 33 7 13, mv_ev 33 (.bipush 24) 35 (24) 0, mv_e 35 (.iload_n 1) 36 1 0, mv_e 36 (.imul) 37 0 0, mv_ev 37 (.iconst 0) 38 (0) 0, mv_e 38 (.iadd) 39 0 0, mv_e 39 (.iaload) 40 0 0, mv_e 40 (.istore 4) 42 4 0, mv_e 42 (.iload_n 3) 43 3 0, mv_ev 43 (.bipush 6) 45 (6) 0, mv_e 45 (.if_icmp .le 7) 48 52 0, mv_ew 48 (.ldc2_w 176) 51 (-3), mv_e 51 (.lreturn) 52 0 0, mv_ev 52 (.iconst 0) 53 (0) 0, mv_e 53 (.istore 5) 55 5 0, mv_ev 55 (.bipush (-2)) 57 (-2) 0, mv_e 57 (.istore 6) 59 6 0, mv_e 59 (.iload 6) 61 6 0, mv_ev 61 (.iconst 2) 62 (2) 0, mv_e 62 (.if_icmp .gt 37) 65 99 0, mv_e 65 (.iload 5) 67 5 0, mv_e 67 (.ifCond .ne 19) 70 86 0, mv_e 70 (.iload 6) 72 6 0, mv_e 72 (.iload 4) 74 4 0, mv_e 74 (.if_icmp .le 16) 77 90 0, mv_e 77 (.aload_n 0) 78 0 0, mv_e 78 (.iload 6) 80 6 0, mv_e 80 (.invokevirtual 167) 83 91 2, mv_e 83 (.ifCond .le 7) 86 90 0, mv_ev 86 (.iconst 1) 87 (1) 0, mv_e 87 (.goto 4) 90 91 0, mv_ev 90 (.iconst 0) 91 (0) 0, mv_e 91 (.istore 5) 93 5 0, mv_ev 93 (.iinc 6 1) 96 (1) 6, mv_e 96 (.goto (-37)) 99 59 0, mv_e 99 (.iload 5) 101 5 0, mv_e 101 (.ifCond .ne 7) 104 108 0, mv_ew 104 (.ldc2_w 178) 107 (-9), mv_e 107 (.lreturn) 108 0 0, mv_e 108 (.aload_n 0) 109 0 0, mv_e 109 (.iload_n 3) 110 3 0, mv_e 110 (.iload 4) 112 4 0, mv_e 112 (.invokevirtual 180) 115 114 3, mv_e 115 (.aload_n 0) 116 0 0, mv_e 116 (.iload_n 3) 117 3 0, mv_e 117 (.invokevirtual 183) 120 95 2, mv_e 120 (.aload_n 0) 121 0 0, mv_e 121 (.getfield 62) 124 7 25, mv_e 124 (.iload_n 3) 125 3 0, mv_e 125 (.laload) 126 0 0, mv_e 126 (.lstore 6) 128 6 0, mv_e 128 (.aload_n 0) 129 0 0, mv_e 129 (.getfield 62) 132 7 25, mv_ev 132 (.iconst 0) 133 (0) 0, mv_e 133 (.laload) 134 0 0, mv_e 134 (.lstore 8) 136 8 0, mv_e 136 (.lload 6) 138 6 0, mv_e 138 (.lload 8) 140 8 0, mv_e 140 (.invokestatic 187) 143 118 2, mv_e 143 (.lstore 10) 145 10 0, mv_e 145 (.lload 8) 147 8 0, mv_ew 147 (.lconst 0) 148 (0), mv_e 148 (.lcmp) 149 0 0, mv_e 149 (.ifCond .ge 9) 152 158 0, mv_e 152 (.lload 10) 154 10 0, mv_e 154 (.lneg) 155 0 0, mv_e 155 (.goto 5) 158 160 0, mv_e 158 (.lload 10) 160 10 0, mv_e 160 (.lstore 10) 162 10 0, mv_e 162 (.iload_n 2) 163 2 0, mv_e 163 (.ifCond .eq 11) 166 174 0, mv_e 166 (.lload 6) 168 6 0, mv_e 168 (.lload 10) 170 10 0, mv_e 170 (.ldiv) 171 0 0, mv_e 171 (.goto 8) 174 179 0, mv_e 174 (.lload 8) 176 8 0, mv_e 176 (.lload 10) 178 10 0, mv_e 178 (.ldiv) 179 0 0, mv_e 179 (.lreturn) 180 0 0]
def mv_t_X7_longDivisor : List mv_E := [mv_e 0 (.lload_n 0) 1 0 0, mv_ew 1 (.lconst 0) 2 (0), mv_e 2 (.lcmp) 3 0 0, mv_e 3 (.ifCond .ge 8) 6 11 0, mv_e 6 (.lload_n 0) 7 0 0, mv_e 7 (.lneg) 8 0 0, mv_e 8 (.goto 4) 11 12 0, mv_e 11 (.lload_n 0) 12 0 0, mv_e 12 (.lstore 4) 14 4 0, mv_e 14 (.lload_n 2) 15 2 0, mv_ew 15 (.lconst 0) 16 (0), mv_e 16 (.lcmp) 17 0 0, mv_e 17 (.ifCond .ge 8) 20 25 0, mv_e 20 (.lload_n 2) 21 2 0, mv_e 21 (.lneg) 22 0 0, mv_e 22 (.goto 4) 25 26 0, mv_e 25 (.lload_n 2) 26 2 0, mv_e 26 (.lstore 6) 28 6 0, mv_e 28 (.lload 6) 30 6 0, mv_ew 30 (.lconst 0) 31 (0), mv_e 31 (.lcmp) 32 0 0, mv_e 32 (.ifCond .eq 21) 35 53 0, mv_e 35 (.lload 4) 37 4 0, mv_e 37 (.lload 6) 39 6 0, mv_e 39 (.lrem) 40 0 0, mv_e 40 (.lstore 8) 42 8 0, mv_e 42 (.lload 6) 44 6 0, mv_e 44 (.lstore 4) 46 4 0, mv_e 46 (.lload 8) 48 8 0, mv_e 48 (.lstore 6) 50 6 0, mv_e 50 (.goto (-22)) 53 28 0, mv_e 53 (.lload 4) 55 4 0, mv_e 55 (.lreturn) 56 0 0]
def mv_t_X7_longPower : List mv_E := [mv_ew 0 (.lconst 1) 1 (1), mv_e 1 (.lstore_n 3) 2 3 0, mv_ev 2 (.iconst 0) 3 (0) 0, mv_e 3 (.istore 5) 5 5 0, mv_e 5 (.iload 5) 7 5 0, mv_e 7 (.iload_n 2) 8 2 0, mv_e 8 (.if_icmp .ge 13) 11 21 0, mv_e 11 (.lload_n 3) 12 3 0, mv_e 12 (.lload_n 0) 13 0 0, mv_e 13 (.lmul) 14 0 0, mv_e 14 (.lstore_n 3) 15 3 0, mv_ev 15 (.iinc 5 1) 18 (1) 5, mv_e 18 (.goto (-13)) 21 5 0, mv_e 21 (.lload_n 3) 22 3 0, mv_e 22 (.lreturn) 23 0 0]
def mv_t_X7_lost : List mv_E := [mv_e 0 (.aload_n 0) 1 0 0, mv_ev 1 (.iconst 0) 2 (0) 0, mv_e 2 (.putfield 66) 5 7 0, mv_e 5 (.aload_n 0) 6 0 0, mv_e 6 (.iload_n 1) 7 1 0, mv_e 7 (.invokevirtual 124) 10 123 2, mv_e 10 (.ifCond .eq 5) 13 15 0, mv_ev 13 (.iconst (-1)) 14 (-1) 0, mv_e 14 (.ireturn) 15 0 0, mv_e 15 (.iload_n 2) 16 2 0, mv_e 16 (.i2l) 17 0 0, mv_ew 17 (.lconst 0) 18 (0), mv_ew 18 (.ldc2_w 134) 21 (99), mv_e 21 (.invokestatic 73) 24 109 3, mv_e 24 (.ifCond .eq 28) 27 52 0, mv_e 27 (.iload_n 3) 28 3 0, mv_e 28 (.i2l) 29 0 0, mv_ew 29 (.lconst 1) 30 (1), mv_ew 30 (.ldc2_w 224) 33 (6), mv_e 33 (.invokestatic 73) 36 109 3, mv_e 36 (.ifCond .eq 16) 39 52 0, mv_e 39 (.iload 4) 41 4 0, mv_e 41 (.i2l) 42 0 0, mv_ew 42 (.lconst 0) 43 (0), mv_ew 43 (.ldc2_w 165) 46 (10), mv_e 46 (.invokestatic 73) 49 109 3, mv_e 49 (.ifCond .ne 6) 52 55 0, mv_ev 52 (.bipush (-2)) 54 (-2) 0, mv_e 54 (.ireturn) 55 0 0, mv_ev 55 (.iconst 0) 56 (0) 0, mv_e 56 (.istore 6) 58 6 0, mv_ev 58 (.iconst 0) 59 (0) 0, mv_e 59 (.istore 7) 61 7 0, mv_e 61 (.iload 7) 63 7 0, mv_ev 63 (.iconst 1) 64 (1) 0, mv_e 64 (.iload_n 3) 65 3 0, mv_e 65 (.ishl) 66 0 0, mv_e 66 (.if_icmp .ge 119) 69 185 0, mv_e 69 (.aload_n 0) 70 0 0, mv_e 70 (.invokevirtual 154) 73 115 1, mv_ev 73 (.iconst 0) 74 (0) 0, mv_e 74 (.istore 8) 76 8 0, mv_ev 76 (.iconst 0) 77 (0) 0, mv_e 77 (.istore 9) 79 9 0, mv_e 79 (.iload 9) 81 9 0, mv_e 81 (.iload_n 3) 82 3 0, mv_e 82 (.if_icmp .ge 57) 85 139 0, mv_e 85 (.iload 7) 87 7 0, mv_e 87 (.iload 9) 89 9 0, mv_e 89 (.invokestatic 211) 92 108 2, mv_e 92 (.ifCond .eq 16) 95 108 0, mv_e 95 (.aload_n 0) 96 0 0, mv_e 96 (.getfield 37) 99 7 14, mv_e 99 (.iload_n 1) 100 1 0, mv_ev 100 (.bipush (-9)) 102 (-9) 0, mv_e 102 (.invokestatic 121) 105 96 3, mv_e 105 (.goto 28) 108 133 0, mv_e 108 (.aload_n 0) 109 0 0, mv_e 109 (.aload_n 0) 110 0 0, mv_e 110 (.getfield 37) 113 7 14, mv_e 113 (.iload_n 1) 114 1 0, mv_e 114 (.iload_n 2) 115 2 0, mv_e 115 (.invokevirtual 139) 118 98 4, mv_e 118 (.ifCond .gt 8) 121 126 0, mv_e 121 (.iload 8) 123 8 0, mv_e 123 (.ifCond .eq 7) 126 130 0, mv_ev 126 (.iconst 1) 127 (1) 0, mv_e 127 (.goto 4) 130 131 0, mv_ev 130 (.iconst 0) 131 (0) 0, mv_e 131 (.istore 8) 133 8 0, mv_ev 133 (.iinc 9 1) 136 (1) 9, mv_e 136 (.goto (-57)) 139 79 0, mv_e 139 (.iload 6) 141 6 0, mv_e 141 (.iload 8) 143 8 0, mv_e 143 (.ifCond .eq 32) 146 175 0, mv_e 146 (.iload 4) 148 4 0, mv_e 148 (.iload 7) 150 7 0, mv_e 150 (.invokestatic 214) 153 125 1, mv_e 153 (.invokestatic 162) 156 128 2, mv_ev 156 (.bipush 10) 158 (10) 0, mv_e 158 (.iload 4) 160 4 0, mv_e 160 (.isub) 161 0 0, mv_e 161 (.iload_n 3) 162 3 0, mv_e 162 (.iload 7) 164 7 0, mv_e 164 (.invokestatic 214) 167 125 1, mv_e 167 (.isub) 168 0 0, mv_e 168 (.invokestatic 162) 171 128 2, mv_e 171 (.imul) 172 0 0, mv_e 172 (.goto 4) 175 176 0, mv_ev 175 (.iconst 0) 176 (0) 0, mv_e 176 (.iadd) 177 0 0, mv_e 177 (.istore 6) 179 6 0, mv_ev 179 (.iinc 7 1) 182 (1) 7, mv_e 182 (.goto (-121)) 185 61 0, mv_e 185 (.iload 6) 187 6 0, mv_ev 187 (.bipush 10) 189 (10) 0, mv_e 189 (.iload_n 3) 190 3 0, mv_e 190 (.invokestatic 162) 193 128 2, mv_e 193 (.iload 5) 195 5 0, mv_e 195 (.invokestatic 220) 198 106 3, mv_e 198 (.ireturn) 199 0 0]
def mv_t_X7_moves : List mv_E := [mv_ev 0 (.bipush 24) 2 (24) 0, mv_e 2 (.iload_n 2) 3 2 0, mv_e 3 (.imul) 4 0 0, mv_e 4 (.istore 4) 6 4 0, mv_ev 6 (.bipush 16) 8 (16) 0, mv_e 8 (.iload_n 3) 9 3 0, mv_e 9 (.aload_n 0) 10 0 0, mv_e 10 (.iload_n 2) 11 2 0, mv_e 11 (.aload_n 1) 12 1 0, mv_e 12 (.iload 4) 14 4 0, mv_ev 14 (.iconst 4) 15 (4) 0, mv_e 15 (.iadd) 16 0 0, mv_e 16 (.iaload) 17 0 0, mv_e 17 (.invokevirtual 107) 20 105 3, mv_e 20 (.isub) 21 0 0, mv_ev 21 (.iconst 5) 22 (5) 0, mv_e 22 (.iadd) 23 0 0, mv_e 23 (.imul) 24 0 0, mv_e 24 (.istore 5) 26 5 0, mv_e 26 (.aload_n 1) 27 1 0, mv_e 27 (.iload 4) 29 4 0, mv_ev 29 (.bipush 10) 31 (10) 0, mv_e 31 (.iadd) 32 0 0, mv_e 32 (.iaload) 33 0 0, mv_e 33 (.iload 5) 35 5 0, mv_e 35 (.aload_n 1) 36 1 0, mv_e 36 (.iload 4) 38 4 0, mv_ev 38 (.bipush 10) 40 (10) 0, mv_e 40 (.iadd) 41 0 0, mv_e 41 (.iaload) 42 0 0, mv_e 42 (.isub) 43 0 0, mv_e 43 (.aload_n 1) 44 1 0, mv_e 44 (.iload 4) 46 4 0, mv_ev 46 (.iconst 2) 47 (2) 0, mv_e 47 (.iadd) 48 0 0, mv_e 48 (.iaload) 49 0 0, mv_e 49 (.ishr) 50 0 0, mv_e 50 (.iadd) 51 0 0, mv_e 51 (.istore 6) 53 6 0, mv_e 53 (.aload_n 1) 54 1 0, mv_e 54 (.iload 4) 56 4 0, mv_ev 56 (.bipush 10) 58 (10) 0, mv_e 58 (.iadd) 59 0 0, mv_e 59 (.iload 6) 61 6 0, mv_e 61 (.ifCond .ge 7) 64 68 0, mv_ev 64 (.iconst 0) 65 (0) 0, mv_e 65 (.goto 19) 68 84 0, mv_e 68 (.iload 6) 70 6 0, mv_ev 70 (.sipush 1584) 73 (1584) 0, mv_e 73 (.if_icmp .le 9) 76 82 0, mv_ev 76 (.sipush 1584) 79 (1584) 0, mv_e 79 (.goto 5) 82 84 0, mv_e 82 (.iload 6) 84 6 0, mv_e 84 (.iastore) 85 0 0, mv_e 85 (.return_) 86 0 0]
def mv_t_X7_nearOf : List mv_E := [mv_e 0 (.aload_n 0) 1 0 0, mv_e 1 (.getfield 34) 4 7 13, mv_ev 4 (.bipush 24) 6 (24) 0, mv_e 6 (.iload_n 1) 7 1 0, mv_e 7 (.imul) 8 0 0, mv_ev 8 (.iconst 5) 9 (5) 0, mv_e 9 (.iadd) 10 0 0, mv_e 10 (.iaload) 11 0 0, mv_e 11 (.istore_n 2) 12 2 0, mv_e 12 (.aload_n 0) 13 0 0, mv_e 13 (.getfield 34) 16 7 13, mv_ev 16 (.bipush 24) 18 (24) 0, mv_e 18 (.iload_n 1) 19 1 0, mv_e 19 (.imul) 20 0 0, mv_ev 20 (.bipush 6) 22 (6) 0, mv_e 22 (.iadd) 23 0 0, mv_e 23 (.iaload) 24 0 0, mv_e 24 (.istore_n 3) 25 3 0, mv_e 25 (.iload_n 2) 26 2 0, mv_e 26 (.iload_n 3) 27 3 0, mv_e 27 (.if_icmp .le 7) 30 34 0, mv_e 30 (.iload_n 2) 31 2 0, mv_e 31 (.goto 4) 34 35 0, mv_e 34 (.iload_n 3) 35 3 0, mv_e 35 (.ireturn) 36 0 0]
def mv_t_X7_noSeries : List mv_E := [mv_e 0 (.iload_n 1) 1 1 0, mv_e 1 (.i2l) 2 0 0, mv_ew 2 (.lconst 0) 3 (0), mv_e 3 (.aload_n 0) 4 0 0, mv_e 4 (.getfield 70) 7 7 4, mv_ev 7 (.iconst 1) 8 (1) 0, mv_e 8 (.isub) 9 0 0, mv_e 9 (.i2l) 10 0 0, mv_e 10 (.invokestatic 73) 13 109 3, mv_e 13 (.ifCond .ne 7) 16 20 0, mv_ev 16 (.iconst 1) 17 (1) 0, mv_e 17 (.goto 4) 20 21 0, mv_ev 20 (.iconst 0) 21 (0) 0, mv_e 21 (.ireturn) 22 0 1]
def mv_t_X7_note : List mv_E := [mv_e 0 (.aload_n 0) 1 0 0, mv_e 1 (.getfield 104) 4 7 16, mv_ev 4 (.bipush 14) 6 (14) 0, mv_e 6 (.if_icmp .ne 43) 9 49 0, mv_ev 9 (.iconst 0) 10 (0) 0, mv_e 10 (.istore_n 1) 11 1 0, mv_e 11 (.iload_n 1) 12 1 0, mv_ev 12 (.sipush 1573) 15 (1573) 0, mv_e 15 (.if_icmp .ge 24) 18 39 0, mv_e 18 (.aload_n 0) 19 0 0, mv_e 19 (.getfield 40) 22 7 15, mv_e 22 (.iload_n 1) 23 1 0, mv_e 23 (.aload_n 0) 24 0 0, mv_e 24 (.getfield 40) 27 7 15, mv_e 27 (.iload_n 1) 28 1 0, mv_ev 28 (.bipush 121) 30 (121) 0, mv_e 30 (.iadd) 31 0 0, mv_e 31 (.iaload) 32 0 0, mv_e 32 (.iastore) 33 0 0, mv_ev 33 (.iinc 1 1) 36 (1) 1, mv_e 36 (.goto (-25)) 39 11 0, mv_e 39 (.aload_n 0) 40 0 0, mv_e 40 (.dup) 41 0 0, mv_e 41 (.getfield 104) 44 7 16, mv_ev 44 (.iconst 1) 45 (1) 0, mv_e 45 (.isub) 46 0 0, mv_e 46 (.putfield 104) 49 7 16, mv_ev 49 (.iconst 0) 50 (0) 0, mv_e 50 (.istore_n 1) 51 1 0, mv_e 51 (.iload_n 1) 52 1 0, mv_ev 52 (.bipush 121) 54 (121) 0, mv_e 54 (.if_icmp .ge 29) 57 83 0, mv_e 57 (.aload_n 0) 58 0 0, mv_e 58 (.getfield 40) 61 7 15, mv_ev 61 (.bipush 121) 63 (121) 0, mv_e 63 (.aload_n 0) 64 0 0, mv_e 64 (.getfield 104) 67 7 16, mv_e 67 (.imul) 68 0 0, mv_e 68 (.iload_n 1) 69 1 0, mv_e 69 (.iadd) 70 0 0, mv_e 70 (.aload_n 0) 71 0 0, mv_e 71 (.getfield 34) 74 7 13, mv_e 74 (.iload_n 1) 75 1 0, mv_e 75 (.iaload) 76 0 0, mv_e 76 (.iastore) 77 0 0, mv_ev 77 (.iinc 1 1) 80 (1) 1, mv_e 80 (.goto (-29)) 83 51 0, mv_e 83 (.aload_n 0) 84 0 0, mv_e 84 (.dup) 85 0 0, mv_e 85 (.getfield 104) 88 7 16, mv_ev 88 (.iconst 1) 89 (1) 0, mv_e 89 (.iadd) 90 0 0, mv_e 90 (.putfield 104) 93 7 16, mv_e 93 (.return_) 94 0 0]
def mv_t_X7_ones : List mv_E := [mv_ev 0 (.iconst 0) 1 (0) 0, mv_e 1 (.istore_n 1) 2 1 0, mv_ev 2 (.iconst 0) 3 (0) 0, mv_e 3 (.istore_n 2) 4 2 0, mv_e 4 (.iload_n 2) 5 2 0, mv_ev 5 (.bipush 8) 7 (8) 0, mv_e 7 (.if_icmp .ge 17) 10 24 0, mv_e 10 (.iload_n 1) 11 1 0, mv_e 11 (.iload_n 0) 12 0 0, mv_e 12 (.iload_n 2) 13 2 0, mv_e 13 (.ishr) 14 0 0, mv_ev 14 (.iconst 1) 15 (1) 0, mv_e 15 (.iand) 16 0 0, mv_e 16 (.iadd) 17 0 0, mv_e 17 (.istore_n 1) 18 1 0, mv_ev 18 (.iinc 2 1) 21 (1) 2, mv_e 21 (.goto (-17)) 24 4 0, mv_e 24 (.iload_n 1) 25 1 0, mv_e 25 (.ireturn) 26 0 0]
def mv_t_X7_over : List mv_E := [mv_e 0 (.iload_n 0) 1 0 0, mv_e 1 (.ifCond .ge 7) 4 8 0, mv_ev 4 (.iconst 0) 5 (0) 0, mv_e 5 (.goto 4) 8 9 0, mv_e 8 (.iload_n 0) 9 0 0, mv_e 9 (.ireturn) 10 0 0]
def mv_t_X7_past : List mv_E := [mv_e 0 (.aload_n 0) 1 0 0, mv_ev 1 (.iconst 0) 2 (0) 0, mv_e 2 (.putfield 66) 5 7 0, mv_e 5 (.aload_n 0) 6 0 0, mv_e 6 (.iload_n 1) 7 1 0, mv_e 7 (.invokevirtual 124) 10 123 2, mv_e 10 (.ifCond .ne 27) 13 37 0, mv_e 13 (.iload_n 2) 14 2 0, mv_e 14 (.i2l) 15 0 0, mv_ew 15 (.lconst 0) 16 (0), mv_e 16 (.aload_n 0) 17 0 0, mv_e 17 (.getfield 34) 20 7 13, mv_ev 20 (.bipush 24) 22 (24) 0, mv_e 22 (.iload_n 1) 23 1 0, mv_e 23 (.imul) 24 0 0, mv_ev 24 (.bipush 11) 26 (11) 0, mv_e 26 (.iadd) 27 0 0, mv_e 27 (.iaload) 28 0 0, mv_ev 28 (.iconst 1) 29 (1) 0, mv_e 29 (.isub) 30 0 0, mv_e 30 (.i2l) 31 0 0, mv_e 31 (.invokestatic 73) 34 109 3, mv_e 34 (.ifCond .ne 7) 37 41 0, mv_ev 37 (.iconst (-1)) 38 (-1) 0, mv_e 38 (.goto 17) 41 55 0, mv_e 41 (.aload_n 0) 42 0 0, mv_e 42 (.getfield 34) 45 7 13, mv_ev 45 (.bipush 24) 47 (24) 0, mv_e 47 (.iload_n 1) 48 1 0, mv_e 48 (.imul) 49 0 0, mv_ev 49 (.bipush 12) 51 (12) 0, mv_e 51 (.iadd) 52 0 0, mv_e 52 (.iload_n 2) 53 2 0, mv_e 53 (.iadd) 54 0 0, mv_e 54 (.iaload) 55 0 0, mv_e 55 (.ireturn) 56 0 0]
def mv_t_X7_power : List mv_E := [mv_ev 0 (.iconst 1) 1 (1) 0, mv_e 1 (.istore_n 2) 2 2 0, mv_ev 2 (.iconst 0) 3 (0) 0, mv_e 3 (.istore_n 3) 4 3 0, mv_e 4 (.iload_n 3) 5 3 0, mv_e 5 (.iload_n 1) 6 1 0, mv_e 6 (.if_icmp .ge 13) 9 19 0, mv_e 9 (.iload_n 2) 10 2 0, mv_e 10 (.iload_n 0) 11 0 0, mv_e 11 (.imul) 12 0 0, mv_e 12 (.istore_n 2) 13 2 0, mv_ev 13 (.iinc 3 1) 16 (1) 3, mv_e 16 (.goto (-12)) 19 4 0, mv_e 19 (.iload_n 2) 20 2 0, mv_e 20 (.ireturn) 21 0 0]
def mv_t_X7_ranked : List mv_E := [mv_e 0 (.aload_n 0) 1 0 0, mv_ev 1 (.iconst 0) 2 (0) 0, mv_e 2 (.putfield 66) 5 7 0, mv_e 5 (.iload_n 1) 6 1 0, mv_e 6 (.i2l) 7 0 0, mv_ew 7 (.lconst 0) 8 (0), mv_e 8 (.aload_n 0) 9 0 0, mv_e 9 (.getfield 70) 12 7 4, mv_ev 12 (.iconst 1) 13 (1) 0, mv_e 13 (.isub) 14 0 0, mv_e 14 (.i2l) 15 0 0, mv_e 15 (.invokestatic 73) 18 109 3, mv_e 18 (.ifCond .ne 5) 21 23 0, mv_ev 21 (.iconst (-1)) 22 (-1) 0, mv_e 22 (.ireturn) 23 0 0, mv_ev 23 (.iconst 0) 24 (0) 0, mv_e 24 (.istore_n 2) 25 2 0, mv_ev 25 (.iconst 0) 26 (0) 0, mv_e 26 (.istore_n 3) 27 3 0, mv_e 27 (.iload_n 3) 28 3 0, mv_e 28 (.aload_n 0) 29 0 0, mv_e 29 (.getfield 70) 32 7 4, mv_e 32 (.if_icmp .ge 107) 35 139 0, mv_ev 35 (.iconst 0) 36 (0) 0, mv_e 36 (.istore 4) 38 4 0, mv_ev 38 (.iconst 0) 39 (0) 0, mv_e 39 (.istore 5) 41 5 0, mv_e 41 (.iload 5) 43 5 0, mv_e 43 (.aload_n 0) 44 0 0, mv_e 44 (.getfield 70) 47 7 4, mv_e 47 (.if_icmp .ge 74) 50 121 0, mv_e 50 (.aload_n 0) 51 0 0, mv_e 51 (.iload 5) 53 5 0, mv_e 53 (.invokevirtual 191) 56 122 2, mv_e 56 (.aload_n 0) 57 0 0, mv_e 57 (.getfield 34) 60 7 13, mv_ev 60 (.bipush 24) 62 (24) 0, mv_e 62 (.iload_n 3) 63 3 0, mv_e 63 (.imul) 64 0 0, mv_ev 64 (.iconst 1) 65 (1) 0, mv_e 65 (.iadd) 66 0 0, mv_e 66 (.iaload) 67 0 0, mv_e 67 (.imul) 68 0 0, mv_e 68 (.aload_n 0) 69 0 0, mv_e 69 (.iload_n 3) 70 3 0, mv_e 70 (.invokevirtual 191) 73 122 2, mv_e 73 (.aload_n 0) 74 0 0, mv_e 74 (.getfield 34) 77 7 13, mv_ev 77 (.bipush 24) 79 (24) 0, mv_e 79 (.iload 5) 81 5 0, mv_e 81 (.imul) 82 0 0, mv_ev 82 (.iconst 1) 83 (1) 0, mv_e 83 (.iadd) 84 0 0, mv_e 84 (.iaload) 85 0 0, mv_e 85 (.imul) 86 0 0, mv_e 86 (.isub) 87 0 0, mv_e 87 (.istore 6) 89 6 0, mv_e 89 (.iload 4) 91 4 0, mv_e 91 (.iload 6) 93 6 0, mv_e 93 (.ifCond .gt 14) 96 107 0, mv_e 96 (.iload 6) 98 6 0, mv_e 98 (.ifCond .ne 13) 101 111 0, mv_e 101 (.iload 5) 103 5 0, mv_e 103 (.iload_n 3) 104 3 0, mv_e 104 (.if_icmp .ge 7) 107 111 0, mv_ev 107 (.iconst 1) 108 (1) 0, mv_e 108 (.goto 4) 111 112 0, mv_ev 111 (.iconst 0) 112 (0) 0, mv_e 112 (.iadd) 113 0 0, mv_e 113 (.istore 4) 115 4 0, mv_ev 115 (.iinc 5 1) 118 (1) 5, mv_e 118 (.goto (-77)) 121 41 0, mv_e 121 (.iload 4) 123 4 0, mv_e 123 (.iload_n 1) 124 1 0, mv_e 124 (.if_icmp .ne 7) 127 131 0, mv_e 127 (.iload_n 3) 128 3 0, mv_e 128 (.goto 4) 131 132 0, mv_e 131 (.iload_n 2) 132 2 0, mv_e 132 (.istore_n 2) 133 2 0, mv_ev 133 (.iinc 3 1) 136 (1) 3, mv_e 136 (.goto (-109)) 139 27 0, mv_e 139 (.iload_n 2) 140 2 0, mv_e 140 (.ireturn) 141 0 0]
def mv_t_X7_readSeries_0 : List mv_E := [mv_e 0 (.aload_n 0) 1 0 0, mv_e 1 (.getfield 89) 4 7 8, mv_ev 4 (.iconst 5) 5 (5) 0, mv_e 5 (.if_icmp .eq 17) 8 22 0, mv_e 8 (.aload_n 0) 9 0 0, mv_e 9 (.getfield 7) 12 7 1, mv_e 12 (.aload_n 0) 13 0 0, mv_e 13 (.getfield 82) 16 7 3, mv_e 16 (.iaload) 17 0 0, mv_ev 17 (.bipush 99) 19 (99) 0, mv_e 19 (.if_icmp .eq 5) 22 24 0, mv_ev 22 (.iconst 0) 23 (0) 0, mv_e 23 (.ireturn) 24 0 1, mv_e 24 (.aload_n 0) 25 0 0, mv_e 25 (.dup) 26 0 0, mv_e 26 (.getfield 82) 29 7 3, mv_ev 29 (.iconst 1) 30 (1) 0, mv_e 30 (.iadd) 31 0 0, mv_e 31 (.putfield 82) 34 7 3, mv_e 34 (.aload_n 0) 35 0 0, mv_e 35 (.getfield 89) 38 7 8, mv_e 38 (.istore_n 1) 39 1 0, mv_ev 39 (.bipush 24) 41 (24) 0, mv_e 41 (.iload_n 1) 42 1 0, mv_e 42 (.imul) 43 0 0, mv_e 43 (.istore_n 2) 44 2 0, mv_e 44 (.aload_n 0) 45 0 0, mv_ev 45 (.iconst 0) 46 (0) 0, mv_e 46 (.invokevirtual 92) 49 141 2, mv_e 49 (.istore_n 3) 50 3 0, mv_e 50 (.iload_n 3) 51 3 0, mv_ev 51 (.bipush (-9)) 53 (-9) 0, mv_e 53 (.if_icmp .ne 8) 56 61 0, mv_ev 56 (.bipush (-9)) 58 (-9) 0, mv_e 58 (.goto 10) 61 68 0, mv_e 61 (.aload_n 0) 62 0 0, mv_ev 62 (.iconst 0) 63 (0) 0, mv_ev 63 (.bipush 9) 65 (9) 0, mv_e 65 (.invokevirtual 85) 68 104 3, mv_e 68 (.istore 4) 70 4 0, mv_e 70 (.iload 4) 72 4 0, mv_ev 72 (.bipush (-9)) 74 (-9) 0, mv_e 74 (.if_icmp .ne 8) 77 82 0, mv_ev 77 (.bipush (-9)) 79 (-9) 0, mv_e 79 (.goto 8) 82 87 0, mv_e 82 (.aload_n 0) 83 0 0, mv_ev 83 (.iconst 1) 84 (1) 0, mv_e 84 (.invokevirtual 92) 87 141 2, mv_e 87 (.istore 5) 89 5 0, mv_e 89 (.iload 5) 91 5 0, mv_ev 91 (.bipush (-9)) 93 (-9) 0, mv_e 93 (.if_icmp .ne 8) 96 101 0, mv_ev 96 (.bipush (-9)) 98 (-9) 0, mv_e 98 (.goto 9) 101 107 0, mv_e 101 (.aload_n 0) 102 0 0, mv_ev 102 (.iconst 0) 103 (0) 0, mv_ev 103 (.iconst 4) 104 (4) 0, mv_e 104 (.invokevirtual 85) 107 104 3, mv_e 107 (.istore 6) 109 6 0, mv_e 109 (.iload 6) 111 6 0, mv_ev 111 (.bipush (-9)) 113 (-9) 0, mv_e 113 (.if_icmp .ne 8) 116 121 0, mv_ev 116 (.bipush (-9)) 118 (-9) 0, mv_e 118 (.goto 9) 121 127 0, mv_e 121 (.aload_n 0) 122 0 0, mv_ev 122 (.iconst 0) 123 (0) 0, mv_ev 123 (.iconst 1) 124 (1) 0, mv_e 124 (.invokevirtual 85) 127 104 3, mv_e 127 (.istore 7) 129 7 0, mv_e 129 (.iload 7) 131 7 0, mv_ev 131 (.bipush (-9)) 133 (-9) 0, mv_e 133 (.if_icmp .ne 8) 136 141 0, mv_ev 136 (.bipush (-9)) 138 (-9) 0, mv_e 138 (.goto 10) 141 148 0, mv_e 141 (.aload_n 0) 142 0 0, mv_ev 142 (.iconst 0) 143 (0) 0, mv_ev 143 (.bipush 9) 145 (9) 0, mv_e 145 (.invokevirtual 85) 148 104 3, mv_e 148 (.istore 8) 150 8 0, mv_e 150 (.iload 8) 152 8 0, mv_ev 152 (.bipush (-9)) 154 (-9) 0, mv_e 154 (.if_icmp .ne 5) 157 159 0, mv_ev 157 (.iconst 0) 158 (0) 0, mv_e 158 (.ireturn) 159 0 1, mv_e 159 (.aload_n 0) 160 0 0, mv_e 160 (.getfield 28) 163 7 11, mv_e 163 (.iload_n 1) 164 1 0, mv_ev 164 (.iconst 0) 165 (0) 0, mv_e 165 (.iastore) 166 0 0, mv_e 166 (.iload 8) 168 8 0, mv_ev 168 (.bipush (-9)) 170 (-9) 0, mv_e 170 (.if_icmp .eq 57) 173 227 0, mv_e 173 (.aload_n 0) 174 0 0, mv_e 174 (.getfield 25) 177 7 10, mv_ev 177 (.iconst 5) 178 (5) 0, mv_e 178 (.iload_n 1) 179 1 0, mv_e 179 (.imul) 180 0 0, mv_e 180 (.aload_n 0) 181 0 0, mv_e 181 (.getfield 28) 184 7 11, mv_e 184 (.iload_n 1) 185 1 0, mv_e 185 (.iaload) 186 0 0, mv_e 186 (.iadd) 187 0 0, mv_e 187 (.iload 8) 189 8 0, mv_e 189 (.iastore) 190 0 0, mv_e 190 (.aload_n 0) 191 0 0, mv_e 191 (.getfield 28) 194 7 11, mv_e 194 (.iload_n 1) 195 1 0, mv_e 195 (.dup2) 196 0 0, mv_e 196 (.iaload) 197 0 0, mv_ev 197 (.iconst 1) 198 (1) 0, mv_e 198 (.iadd) 199 0 0, mv_e 199 (.iastore) 200 0 0, mv_e 200 (.aload_n 0) 201 0 0, mv_e 201 (.getfield 28) 204 7 11, mv_e 204 (.iload_n 1) 205 1 0, mv_e 205 (.iaload) 206 0 0, mv_ev 206 (.iconst 5) 207 (5) 0, mv_e 207 (.if_icmp .ge 13) 210 220 0, mv_e 210 (.aload_n 0) 211 0 0, mv_ev 211 (.iconst 0) 212 (0) 0]
def mv_t_X7_readSeries_1 : List mv_E := [mv_ev 212 (.bipush 9) 214 (9) 0, mv_e 214 (.invokevirtual 85) 217 104 3, mv_e 217 (.goto 5) 220 222 0, mv_ev 220 (.bipush (-9)) 222 (-9) 0, mv_e 222 (.istore 8) 224 8 0, mv_e 224 (.goto (-58)) 227 166 0, mv_e 227 (.aload_n 0) 228 0 0, mv_e 228 (.getfield 82) 231 7 3, mv_e 231 (.aload_n 0) 232 0 0, mv_e 232 (.getfield 79) 235 7 2, mv_e 235 (.if_icmp .eq 17) 238 252 0, mv_e 238 (.aload_n 0) 239 0 0, mv_e 239 (.getfield 7) 242 7 1, mv_e 242 (.aload_n 0) 243 0 0, mv_e 243 (.getfield 82) 246 7 3, mv_e 246 (.iaload) 247 0 0, mv_ev 247 (.bipush 46) 249 (46) 0, mv_e 249 (.if_icmp .eq 5) 252 254 0, mv_ev 252 (.iconst 0) 253 (0) 0, mv_e 253 (.ireturn) 254 0 1, mv_e 254 (.aload_n 0) 255 0 0, mv_e 255 (.dup) 256 0 0, mv_e 256 (.getfield 82) 259 7 3, mv_ev 259 (.iconst 1) 260 (1) 0, mv_e 260 (.iadd) 261 0 0, mv_e 261 (.putfield 82) 264 7 3, mv_e 264 (.aload_n 0) 265 0 0, mv_e 265 (.getfield 22) 268 7 9, mv_e 268 (.iload_n 1) 269 1 0, mv_e 269 (.iload_n 3) 270 3 0, mv_e 270 (.iastore) 271 0 0, mv_e 271 (.aload_n 0) 272 0 0, mv_e 272 (.getfield 31) 275 7 12, mv_e 275 (.iload_n 2) 276 2 0, mv_ev 276 (.iconst 0) 277 (0) 0, mv_e 277 (.iadd) 278 0 0, mv_e 278 (.iload 4) 280 4 0, mv_e 280 (.iastore) 281 0 0, mv_e 281 (.aload_n 0) 282 0 0, mv_e 282 (.getfield 31) 285 7 12, mv_e 285 (.iload_n 2) 286 2 0, mv_ev 286 (.iconst 1) 287 (1) 0, mv_e 287 (.iadd) 288 0 0, mv_e 288 (.iload 5) 290 5 0, mv_e 290 (.iastore) 291 0 0, mv_e 291 (.aload_n 0) 292 0 0, mv_e 292 (.getfield 31) 295 7 12, mv_e 295 (.iload_n 2) 296 2 0, mv_ev 296 (.iconst 2) 297 (2) 0, mv_e 297 (.iadd) 298 0 0, mv_e 298 (.iload 6) 300 6 0, mv_e 300 (.iastore) 301 0 0, mv_e 301 (.aload_n 0) 302 0 0, mv_e 302 (.getfield 31) 305 7 12, mv_e 305 (.iload_n 2) 306 2 0, mv_ev 306 (.iconst 3) 307 (3) 0, mv_e 307 (.iadd) 308 0 0, mv_e 308 (.iload 7) 310 7 0, mv_e 310 (.iastore) 311 0 0, mv_e 311 (.aload_n 0) 312 0 0, mv_e 312 (.getfield 31) 315 7 12, mv_e 315 (.iload_n 2) 316 2 0, mv_ev 316 (.bipush 9) 318 (9) 0, mv_e 318 (.iadd) 319 0 0, mv_ev 319 (.bipush (-9)) 321 (-9) 0, mv_e 321 (.iastore) 322 0 0, mv_e 322 (.aload_n 0) 323 0 0, mv_e 323 (.getfield 31) 326 7 12, mv_e 326 (.iload_n 2) 327 2 0, mv_ev 327 (.bipush 10) 329 (10) 0, mv_e 329 (.iadd) 330 0 0, mv_ev 330 (.bipush 16) 332 (16) 0, mv_e 332 (.iload_n 3) 333 3 0, mv_e 333 (.imul) 334 0 0, mv_e 334 (.iastore) 335 0 0, mv_e 335 (.aload_n 0) 336 0 0, mv_e 336 (.dup) 337 0 0, mv_e 337 (.getfield 89) 340 7 8, mv_ev 340 (.iconst 1) 341 (1) 0, mv_e 341 (.iadd) 342 0 0, mv_e 342 (.putfield 89) 345 7 8, mv_ev 345 (.iconst 1) 346 (1) 0, mv_e 346 (.ireturn) 347 0 1]
def mv_t_X7_readSeries : List mv_E := mv_t_X7_readSeries_0 ++ mv_t_X7_readSeries_1
def mv_t_X7_readWatch : List mv_E := [mv_e 0 (.aload_n 0) 1 0 0, mv_ev 1 (.iconst 0) 2 (0) 0, mv_e 2 (.putfield 89) 5 7 8, mv_e 5 (.aload_n 0) 6 0 0, mv_ev 6 (.iconst 0) 7 (0) 0, mv_e 7 (.putfield 82) 10 7 3, mv_ev 10 (.iconst 0) 11 (0) 0, mv_e 11 (.istore_n 1) 12 1 0, mv_e 12 (.iload_n 1) 13 1 0, mv_ev 13 (.bipush 121) 15 (121) 0, mv_e 15 (.if_icmp .ge 16) 18 31 0, mv_e 18 (.aload_n 0) 19 0 0, mv_e 19 (.getfield 31) 22 7 12, mv_e 22 (.iload_n 1) 23 1 0, mv_ev 23 (.iconst 0) 24 (0) 0, mv_e 24 (.iastore) 25 0 0, mv_ev 25 (.iinc 1 1) 28 (1) 1, mv_e 28 (.goto (-16)) 31 12 0, mv_e 31 (.aload_n 0) 32 0 0, mv_e 32 (.getfield 79) 35 7 2, mv_e 35 (.ifCond .eq 14) 38 49 0, mv_e 38 (.aload_n 0) 39 0 0, mv_e 39 (.getfield 7) 42 7 1, mv_ev 42 (.iconst 0) 43 (0) 0, mv_e 43 (.iaload) 44 0 0, mv_ev 44 (.bipush 87) 46 (87) 0, mv_e 46 (.if_icmp .eq 5) 49 51 0, mv_ev 49 (.iconst 0) 50 (0) 0, mv_e 50 (.ireturn) 51 0 0, mv_e 51 (.aload_n 0) 52 0 0, mv_ev 52 (.iconst 1) 53 (1) 0, mv_e 53 (.putfield 82) 56 7 3, mv_e 56 (.aload_n 0) 57 0 0, mv_e 57 (.getfield 82) 60 7 3, mv_e 60 (.aload_n 0) 61 0 0, mv_e 61 (.getfield 79) 64 7 2, mv_e 64 (.if_icmp .ge 15) 67 79 0, mv_e 67 (.aload_n 0) 68 0 0, mv_e 68 (.invokevirtual 96) 71 130 1, mv_e 71 (.ifCond .ne (-15)) 74 56 0, mv_e 74 (.aload_n 0) 75 0 0, mv_e 75 (.getfield 82) 78 7 3, mv_e 78 (.ireturn) 79 0 0, mv_ev 79 (.bipush (-9)) 81 (-9) 0, mv_e 81 (.ireturn) 82 0 0]
def mv_t_X7_rings : List mv_E := [mv_e 0 (.aload_n 0) 1 0 0, mv_ev 1 (.iconst 0) 2 (0) 0, mv_e 2 (.putfield 66) 5 7 0, mv_e 5 (.aload_n 0) 6 0 0, mv_e 6 (.iload_n 1) 7 1 0, mv_e 7 (.invokevirtual 124) 10 123 2, mv_e 10 (.ifCond .eq 5) 13 15 0, mv_ev 13 (.iconst (-1)) 14 (-1) 0, mv_e 14 (.ireturn) 15 0 0, mv_e 15 (.iload_n 2) 16 2 0, mv_e 16 (.i2l) 17 0 0, mv_ew 17 (.lconst 0) 18 (0), mv_ew 18 (.ldc2_w 134) 21 (99), mv_e 21 (.invokestatic 73) 24 109 3, mv_e 24 (.ifCond .eq 12) 27 36 0, mv_e 27 (.aload_n 0) 28 0 0, mv_e 28 (.iload_n 1) 29 1 0, mv_e 29 (.iload_n 2) 30 2 0, mv_e 30 (.invokevirtual 157) 33 133 3, mv_e 33 (.goto 5) 36 38 0, mv_ev 36 (.bipush (-2)) 38 (-2) 0, mv_e 38 (.ireturn) 39 0 0]
def mv_t_X7_ringsBy : List mv_E := [mv_e 0 (.aload_n 0) 1 0 0, mv_e 1 (.invokevirtual 154) 4 115 1, mv_ev 4 (.iconst 1) 5 (1) 0, mv_e 5 (.istore_n 3) 6 3 0, mv_e 6 (.iload_n 3) 7 3 0, mv_ev 7 (.bipush 60) 9 (60) 0, mv_e 9 (.if_icmp .gt 24) 12 33 0, mv_e 12 (.aload_n 0) 13 0 0, mv_e 13 (.aload_n 0) 14 0 0, mv_e 14 (.getfield 37) 17 7 14, mv_e 17 (.iload_n 1) 18 1 0, mv_e 18 (.iload_n 2) 19 2 0, mv_e 19 (.invokevirtual 139) 22 98 4, mv_e 22 (.ifCond .le 5) 25 27 0, mv_e 25 (.iload_n 3) 26 3 0, mv_e 26 (.ireturn) 27 0 0, mv_ev 27 (.iinc 3 1) 30 (1) 3, mv_e 30 (.goto (-24)) 33 6 0, mv_ev 33 (.bipush (-9)) 35 (-9) 0, mv_e 35 (.ireturn) 36 0 0]
def mv_t_X7_see : List mv_E := [mv_e 0 (.aload_n 0) 1 0 0, mv_ev 1 (.iconst 0) 2 (0) 0, mv_e 2 (.putfield 66) 5 7 0, mv_e 5 (.aload_n 0) 6 0 0, mv_e 6 (.iload_n 1) 7 1 0, mv_e 7 (.invokevirtual 124) 10 123 2, mv_e 10 (.ifCond .eq 5) 13 15 0, mv_ev 13 (.iconst (-1)) 14 (-1) 0, mv_e 14 (.ireturn) 15 0 0, mv_e 15 (.iload_n 2) 16 2 0, mv_e 16 (.i2l) 17 0 0, mv_ew 17 (.lconst 0) 18 (0), mv_ew 18 (.ldc2_w 144) 21 (9), mv_e 21 (.invokestatic 73) 24 109 3, mv_e 24 (.ifCond .eq 26) 27 50 0, mv_e 27 (.iload_n 3) 28 3 0, mv_e 28 (.i2l) 29 0 0, mv_ew 29 (.lconst 0) 30 (0), mv_ew 30 (.ldc2_w 144) 33 (9), mv_e 33 (.invokestatic 73) 36 109 3, mv_e 36 (.ifCond .eq 14) 39 50 0, mv_e 39 (.iload 4) 41 4 0, mv_e 41 (.i2l) 42 0 0, mv_ew 42 (.lconst 0) 43 (0), mv_ew 43 (.lconst 1) 44 (1), mv_e 44 (.invokestatic 73) 47 109 3, mv_e 47 (.ifCond .ne 6) 50 53 0, mv_ev 50 (.bipush (-2)) 52 (-2) 0, mv_e 52 (.ireturn) 53 0 0, mv_e 53 (.aload_n 0) 54 0 0, mv_e 54 (.getfield 204) 57 7 19, mv_ev 57 (.bipush 6) 59 (6) 0, mv_e 59 (.if_icmp .ne 6) 62 65 0, mv_ev 62 (.bipush (-4)) 64 (-4) 0, mv_e 64 (.ireturn) 65 0 0, mv_e 65 (.aload_n 0) 66 0 0, mv_e 66 (.getfield 50) 69 7 20, mv_e 69 (.aload_n 0) 70 0 0, mv_e 70 (.getfield 204) 73 7 19, mv_e 73 (.iload_n 1) 74 1 0, mv_e 74 (.iastore) 75 0 0, mv_e 75 (.aload_n 0) 76 0 0, mv_e 76 (.getfield 53) 79 7 21, mv_e 79 (.aload_n 0) 80 0 0, mv_e 80 (.getfield 204) 83 7 19, mv_e 83 (.iload_n 2) 84 2 0, mv_e 84 (.iastore) 85 0 0, mv_e 85 (.aload_n 0) 86 0 0, mv_e 86 (.getfield 56) 89 7 22, mv_e 89 (.aload_n 0) 90 0 0, mv_e 90 (.getfield 204) 93 7 19, mv_e 93 (.iload_n 3) 94 3 0, mv_e 94 (.iastore) 95 0 0, mv_e 95 (.aload_n 0) 96 0 0, mv_e 96 (.getfield 59) 99 7 23, mv_e 99 (.aload_n 0) 100 0 0, mv_e 100 (.getfield 204) 103 7 19, mv_e 103 (.iload 4) 105 4 0, mv_e 105 (.iastore) 106 0 0, mv_e 106 (.aload_n 0) 107 0 0, mv_e 107 (.dup) 108 0 0, mv_e 108 (.getfield 204) 111 7 19, mv_ev 111 (.iconst 1) 112 (1) 0, mv_e 112 (.iadd) 113 0 0, mv_e 113 (.putfield 204) 116 7 19, mv_e 116 (.aload_n 0) 117 0 0, mv_e 117 (.getfield 204) 120 7 19, mv_e 120 (.ireturn) 121 0 0]
def mv_t_X7_seed : List mv_E := [mv_e 0 (.aload_n 0) 1 0 0, mv_ev 1 (.iconst 0) 2 (0) 0, mv_e 2 (.putfield 66) 5 7 0, mv_e 5 (.aload_n 0) 6 0 0, mv_e 6 (.getfield 226) 9 7 24, mv_e 9 (.lstore_n 3) 10 3 0, mv_e 10 (.aload_n 0) 11 0 0, mv_e 11 (.lload_n 1) 12 1 0, mv_e 12 (.putfield 226) 15 7 24, mv_e 15 (.lload_n 3) 16 3 0, mv_e 16 (.lreturn) 17 0 0]
def mv_t_X7_series : List mv_E := [mv_e 0 (.aload_n 0) 1 0 0, mv_ev 1 (.iconst 0) 2 (0) 0, mv_e 2 (.putfield 66) 5 7 0, mv_e 5 (.aload_n 0) 6 0 0, mv_e 6 (.iload_n 1) 7 1 0, mv_e 7 (.invokevirtual 124) 10 123 2, mv_e 10 (.ifCond .eq 5) 13 15 0, mv_ev 13 (.iconst (-1)) 14 (-1) 0, mv_e 14 (.ireturn) 15 0 0, mv_e 15 (.iload_n 2) 16 2 0, mv_e 16 (.i2l) 17 0 0, mv_ew 17 (.lconst 0) 18 (0), mv_ew 18 (.ldc2_w 128) 21 (13), mv_e 21 (.invokestatic 73) 24 109 3, mv_e 24 (.ifCond .ne 6) 27 30 0, mv_ev 27 (.bipush (-2)) 29 (-2) 0, mv_e 29 (.ireturn) 30 0 0, mv_e 30 (.iload_n 2) 31 2 0, mv_e 31 (.ifCond .ne 12) 34 43 0, mv_e 34 (.aload_n 0) 35 0 0, mv_e 35 (.getfield 13) 38 7 5, mv_e 38 (.iload_n 1) 39 1 0, mv_e 39 (.iaload) 40 0 0, mv_e 40 (.goto 13) 43 53 0, mv_e 43 (.aload_n 0) 44 0 0, mv_e 44 (.aload_n 0) 45 0 0, mv_e 45 (.getfield 34) 48 7 13, mv_e 48 (.iload_n 1) 49 1 0, mv_e 49 (.iload_n 2) 50 2 0, mv_e 50 (.invokevirtual 130) 53 140 4, mv_e 53 (.ireturn) 54 0 0]
def mv_t_X7_set : List mv_E := [mv_e 0 (.aload_n 0) 1 0 0, mv_ev 1 (.iconst 0) 2 (0) 0, mv_e 2 (.putfield 66) 5 7 0, mv_e 5 (.aload_n 0) 6 0 0, mv_e 6 (.iload_n 1) 7 1 0, mv_e 7 (.invokevirtual 124) 10 123 2, mv_e 10 (.ifCond .eq 5) 13 15 0, mv_ev 13 (.iconst (-1)) 14 (-1) 0, mv_e 14 (.ireturn) 15 0 0, mv_e 15 (.iload_n 2) 16 2 0, mv_e 16 (.i2l) 17 0 0, mv_ew 17 (.lconst 0) 18 (0), mv_ew 18 (.ldc2_w 142) 21 (3), mv_e 21 (.invokestatic 73) 24 109 3, mv_e 24 (.ifCond .eq 54) 27 78 0, mv_e 27 (.iload_n 3) 28 3 0, mv_e 28 (.i2l) 29 0 0, mv_e 29 (.iload_n 2) 30 2 0, mv_ev 30 (.iconst 1) 31 (1) 0, mv_e 31 (.if_icmp .ne 7) 34 38 0, mv_ew 34 (.lconst 1) 35 (1), mv_e 35 (.goto 4) 38 39 0, mv_ew 38 (.lconst 0) 39 (0), mv_e 39 (.iload_n 2) 40 2 0, mv_e 40 (.ifCond .ne 9) 43 49 0, mv_ew 43 (.ldc2_w 144) 46 (9), mv_e 46 (.goto 26) 49 72 0, mv_e 49 (.iload_n 2) 50 2 0, mv_ev 50 (.iconst 1) 51 (1) 0, mv_e 51 (.if_icmp .ne 9) 54 60 0, mv_ew 54 (.ldc2_w 134) 57 (99), mv_e 57 (.goto 15) 60 72 0, mv_e 60 (.iload_n 2) 61 2 0, mv_ev 61 (.iconst 2) 62 (2) 0, mv_e 62 (.if_icmp .ne 9) 65 71 0, mv_ew 65 (.ldc2_w 146) 68 (4), mv_e 68 (.goto 4) 71 72 0, mv_ew 71 (.lconst 1) 72 (1), mv_e 72 (.invokestatic 73) 75 109 3, mv_e 75 (.ifCond .ne 6) 78 81 0, mv_ev 78 (.bipush (-2)) 80 (-2) 0, mv_e 80 (.ireturn) 81 0 0, mv_e 81 (.aload_n 0) 82 0 0, mv_e 82 (.invokevirtual 136) 85 124 1, mv_e 85 (.aload_n 0) 86 0 0, mv_e 86 (.getfield 34) 89 7 13, mv_ev 89 (.bipush 24) 91 (24) 0, mv_e 91 (.iload_n 1) 92 1 0, mv_e 92 (.imul) 93 0 0, mv_e 93 (.iload_n 2) 94 2 0, mv_e 94 (.iadd) 95 0 0, mv_e 95 (.iaload) 96 0 0, mv_e 96 (.istore 4) 98 4 0, mv_e 98 (.aload_n 0) 99 0 0, mv_e 99 (.getfield 34) 102 7 13, mv_ev 102 (.bipush 24) 104 (24) 0, mv_e 104 (.iload_n 1) 105 1 0, mv_e 105 (.imul) 106 0 0, mv_e 106 (.iload_n 2) 107 2 0, mv_e 107 (.iadd) 108 0 0, mv_e 108 (.iload_n 3) 109 3 0, mv_e 109 (.iastore) 110 0 0, mv_e 110 (.iload 4) 112 4 0, mv_e 112 (.ireturn) 113 0 0]
def mv_t_X7_share : List mv_E := [mv_e 0 (.aload_n 0) 1 0 0, mv_ev 1 (.iconst 0) 2 (0) 0, mv_e 2 (.putfield 66) 5 7 0, mv_e 5 (.aload_n 0) 6 0 0, mv_e 6 (.iload_n 1) 7 1 0, mv_e 7 (.invokevirtual 124) 10 123 2, mv_e 10 (.ifCond .eq 5) 13 15 0, mv_ev 13 (.iconst (-1)) 14 (-1) 0, mv_e 14 (.ireturn) 15 0 0, mv_e 15 (.iload_n 2) 16 2 0, mv_e 16 (.i2l) 17 0 0, mv_ew 17 (.lconst 1) 18 (1), mv_ew 18 (.ldc2_w 134) 21 (99), mv_e 21 (.invokestatic 73) 24 109 3, mv_e 24 (.ifCond .ne 6) 27 30 0, mv_ev 27 (.bipush (-2)) 29 (-2) 0, mv_e 29 (.ireturn) 30 0 0, mv_ev 30 (.iconst 0) 31 (0) 0, mv_e 31 (.istore 4) 33 4 0, mv_ev 33 (.iconst 0) 34 (0) 0, mv_e 34 (.istore 5) 36 5 0, mv_e 36 (.iload 5) 38 5 0, mv_ev 38 (.iconst 1) 39 (1) 0, mv_e 39 (.aload_n 0) 40 0 0, mv_e 40 (.getfield 70) 43 7 4, mv_e 43 (.ishl) 44 0 0, mv_e 44 (.if_icmp .ge 139) 47 183 0, mv_ev 47 (.iconst 0) 48 (0) 0, mv_e 48 (.istore 6) 50 6 0, mv_ev 50 (.iconst 0) 51 (0) 0, mv_e 51 (.istore 7) 53 7 0, mv_e 53 (.iload 7) 55 7 0, mv_e 55 (.aload_n 0) 56 0 0, mv_e 56 (.getfield 70) 59 7 4, mv_e 59 (.if_icmp .ge 40) 62 99 0, mv_e 62 (.iload 6) 64 6 0, mv_e 64 (.iload 5) 66 5 0, mv_e 66 (.iload 7) 68 7 0, mv_e 68 (.invokestatic 211) 71 108 2, mv_e 71 (.ifCond .eq 18) 74 89 0, mv_e 74 (.aload_n 0) 75 0 0, mv_e 75 (.getfield 34) 78 7 13, mv_ev 78 (.bipush 24) 80 (24) 0, mv_e 80 (.iload 7) 82 7 0, mv_e 82 (.imul) 83 0 0, mv_ev 83 (.iconst 5) 84 (5) 0, mv_e 84 (.iadd) 85 0 0, mv_e 85 (.iaload) 86 0 0, mv_e 86 (.goto 4) 89 90 0, mv_ev 89 (.iconst 0) 90 (0) 0, mv_e 90 (.iadd) 91 0 0, mv_e 91 (.istore 6) 93 6 0, mv_ev 93 (.iinc 7 1) 96 (1) 7, mv_e 96 (.goto (-43)) 99 53 0, mv_e 99 (.iload 5) 101 5 0, mv_e 101 (.iload_n 1) 102 1 0, mv_e 102 (.invokestatic 211) 105 108 2, mv_e 105 (.ifCond .ne 31) 108 136 0, mv_e 108 (.iload 6) 110 6 0, mv_e 110 (.iload_n 2) 111 2 0, mv_e 111 (.if_icmp .ge 25) 114 136 0, mv_e 114 (.iload 6) 116 6 0, mv_e 116 (.aload_n 0) 117 0 0, mv_e 117 (.getfield 34) 120 7 13, mv_ev 120 (.bipush 24) 122 (24) 0, mv_e 122 (.iload_n 1) 123 1 0, mv_e 123 (.imul) 124 0 0, mv_ev 124 (.iconst 5) 125 (5) 0, mv_e 125 (.iadd) 126 0 0, mv_e 126 (.iaload) 127 0 0, mv_e 127 (.iadd) 128 0 0, mv_e 128 (.iload_n 2) 129 2 0, mv_e 129 (.if_icmp .lt 7) 132 136 0, mv_ev 132 (.iconst 1) 133 (1) 0, mv_e 133 (.goto 4) 136 137 0, mv_ev 136 (.iconst 0) 137 (0) 0, mv_e 137 (.istore 7) 139 7 0, mv_e 139 (.iload 4) 141 4 0, mv_e 141 (.iload 7) 143 7 0, mv_e 143 (.ifCond .eq 30) 146 173 0, mv_e 146 (.iload 5) 148 5 0, mv_e 148 (.invokestatic 214) 151 125 1, mv_e 151 (.invokestatic 217) 154 102 1, mv_e 154 (.aload_n 0) 155 0 0, mv_e 155 (.getfield 70) 158 7 4, mv_ev 158 (.iconst 1) 159 (1) 0, mv_e 159 (.isub) 160 0 0, mv_e 160 (.iload 5) 162 5 0, mv_e 162 (.invokestatic 214) 165 125 1, mv_e 165 (.isub) 166 0 0, mv_e 166 (.invokestatic 217) 169 102 1, mv_e 169 (.imul) 170 0 0, mv_e 170 (.goto 4) 173 174 0, mv_ev 173 (.iconst 0) 174 (0) 0, mv_e 174 (.iadd) 175 0 0, mv_e 175 (.istore 4) 177 4 0, mv_ev 177 (.iinc 5 1) 180 (1) 5, mv_e 180 (.goto (-144)) 183 36 0, mv_e 183 (.iload 4) 185 4 0, mv_e 185 (.aload_n 0) 186 0 0, mv_e 186 (.getfield 70) 189 7 4, mv_e 189 (.invokestatic 217) 192 102 1, mv_e 192 (.iload_n 3) 193 3 0, mv_e 193 (.invokestatic 220) 196 106 3, mv_e 196 (.ireturn) 197 0 0]
def mv_t_X7_tell : List mv_E := [mv_e 0 (.aload_n 0) 1 0 0, mv_ev 1 (.iconst 0) 2 (0) 0, mv_e 2 (.putfield 66) 5 7 0, mv_e 5 (.aload_n 0) 6 0 0, mv_e 6 (.iload_n 1) 7 1 0, mv_e 7 (.invokevirtual 124) 10 123 2, mv_e 10 (.ifCond .eq 5) 13 15 0, mv_ev 13 (.iconst (-1)) 14 (-1) 0, mv_e 14 (.ireturn) 15 0 0, mv_e 15 (.iload_n 2) 16 2 0, mv_e 16 (.i2l) 17 0 0, mv_ew 17 (.lconst 0) 18 (0), mv_ew 18 (.ldc2_w 134) 21 (99), mv_e 21 (.invokestatic 73) 24 109 3, mv_e 24 (.ifCond .ne 6) 27 30 0, mv_ev 27 (.bipush (-2)) 29 (-2) 0, mv_e 29 (.ireturn) 30 0 0, mv_e 30 (.aload_n 0) 31 0 0, mv_e 31 (.invokevirtual 136) 34 124 1, mv_e 34 (.aload_n 0) 35 0 0, mv_e 35 (.aload_n 0) 36 0 0, mv_e 36 (.getfield 34) 39 7 13, mv_e 39 (.iload_n 1) 40 1 0, mv_e 40 (.iload_n 2) 41 2 0, mv_e 41 (.invokevirtual 139) 44 98 4, mv_e 44 (.ireturn) 45 0 0]
def mv_t_X7_tellOf : List mv_E := [mv_ev 0 (.bipush 24) 2 (24) 0, mv_e 2 (.iload_n 2) 3 2 0, mv_e 3 (.imul) 4 0 0, mv_e 4 (.istore 4) 6 4 0, mv_e 6 (.iload_n 3) 7 3 0, mv_e 7 (.lookupswitch 43 #[(12, 25), (13, 35)]) 32 50 9, mv_e 32 (.aload_n 0) 33 0 0, mv_e 33 (.aload_n 1) 34 1 0, mv_e 34 (.iload_n 2) 35 2 0, mv_e 35 (.invokevirtual 110) 38 101 3, mv_ev 38 (.bipush 100) 40 (100) 0, mv_e 40 (.iadd) 41 0 0, mv_e 41 (.ireturn) 42 0 0, mv_e 42 (.aload_n 1) 43 1 0, mv_e 43 (.iload 4) 45 4 0, mv_ev 45 (.bipush 11) 47 (11) 0, mv_e 47 (.iadd) 48 0 0, mv_e 48 (.iaload) 49 0 0, mv_e 49 (.ireturn) 50 0 0, mv_e 50 (.aload_n 1) 51 1 0, mv_e 51 (.iload 4) 53 4 0, mv_e 53 (.iload_n 3) 54 3 0, mv_e 54 (.iadd) 55 0 0, mv_ev 55 (.iconst 1) 56 (1) 0, mv_e 56 (.isub) 57 0 0, mv_e 57 (.iaload) 58 0 0, mv_e 58 (.ireturn) 59 0 0]
def mv_t_X7_two : List mv_E := [mv_e 0 (.aload_n 0) 1 0 0, mv_ev 1 (.iconst 0) 2 (0) 0, mv_ev 2 (.bipush 9) 4 (9) 0, mv_e 4 (.invokevirtual 85) 7 104 3, mv_e 7 (.istore_n 2) 8 2 0, mv_e 8 (.iload_n 2) 9 2 0, mv_ev 9 (.bipush (-9)) 11 (-9) 0, mv_e 11 (.if_icmp .ne 8) 14 19 0, mv_ev 14 (.bipush (-9)) 16 (-9) 0, mv_e 16 (.goto 18) 19 34 0, mv_e 19 (.aload_n 0) 20 0 0, mv_e 20 (.iload_n 2) 21 2 0, mv_e 21 (.ifCond .ne 7) 24 28 0, mv_e 24 (.iload_n 1) 25 1 0, mv_e 25 (.goto 4) 28 29 0, mv_ev 28 (.iconst 0) 29 (0) 0, mv_ev 29 (.bipush 9) 31 (9) 0, mv_e 31 (.invokevirtual 85) 34 104 3, mv_e 34 (.istore_n 3) 35 3 0, mv_e 35 (.iload_n 3) 36 3 0, mv_ev 36 (.bipush (-9)) 38 (-9) 0, mv_e 38 (.if_icmp .ne 8) 41 46 0, mv_ev 41 (.bipush (-9)) 43 (-9) 0, mv_e 43 (.goto 9) 46 52 0, mv_ev 46 (.bipush 10) 48 (10) 0, mv_e 48 (.iload_n 2) 49 2 0, mv_e 49 (.imul) 50 0 0, mv_e 50 (.iload_n 3) 51 3 0, mv_e 51 (.iadd) 52 0 0, mv_e 52 (.ireturn) 53 0 0]
def mv_t_X7_undo : List mv_E := [mv_e 0 (.aload_n 0) 1 0 0, mv_ev 1 (.iconst 0) 2 (0) 0, mv_e 2 (.putfield 66) 5 7 0, mv_e 5 (.aload_n 0) 6 0 0, mv_e 6 (.getfield 104) 9 7 16, mv_e 9 (.ifCond .ne 6) 12 15 0, mv_ev 12 (.bipush (-3)) 14 (-3) 0, mv_e 14 (.ireturn) 15 0 0, mv_e 15 (.aload_n 0) 16 0 0, mv_e 16 (.dup) 17 0 0, mv_e 17 (.getfield 104) 20 7 16, mv_ev 20 (.iconst 1) 21 (1) 0, mv_e 21 (.isub) 22 0 0, mv_e 22 (.putfield 104) 25 7 16, mv_ev 25 (.iconst 0) 26 (0) 0, mv_e 26 (.istore_n 1) 27 1 0, mv_e 27 (.iload_n 1) 28 1 0, mv_ev 28 (.bipush 121) 30 (121) 0, mv_e 30 (.if_icmp .ge 29) 33 59 0, mv_e 33 (.aload_n 0) 34 0 0, mv_e 34 (.getfield 34) 37 7 13, mv_e 37 (.iload_n 1) 38 1 0, mv_e 38 (.aload_n 0) 39 0 0, mv_e 39 (.getfield 40) 42 7 15, mv_ev 42 (.bipush 121) 44 (121) 0, mv_e 44 (.aload_n 0) 45 0 0, mv_e 45 (.getfield 104) 48 7 16, mv_e 48 (.imul) 49 0 0, mv_e 49 (.iload_n 1) 50 1 0, mv_e 50 (.iadd) 51 0 0, mv_e 51 (.iaload) 52 0 0, mv_e 52 (.iastore) 53 0 0, mv_ev 53 (.iinc 1 1) 56 (1) 1, mv_e 56 (.goto (-29)) 59 27 0, mv_e 59 (.aload_n 0) 60 0 0, mv_e 60 (.getfield 104) 63 7 16, mv_e 63 (.ireturn) 64 0 0]
def mv_t_X7_unsee : List mv_E := [mv_e 0 (.aload_n 0) 1 0 0, mv_ev 1 (.iconst 0) 2 (0) 0, mv_e 2 (.putfield 66) 5 7 0, mv_e 5 (.aload_n 0) 6 0 0, mv_e 6 (.getfield 204) 9 7 19, mv_e 9 (.istore_n 1) 10 1 0, mv_e 10 (.aload_n 0) 11 0 0, mv_ev 11 (.iconst 0) 12 (0) 0, mv_e 12 (.putfield 204) 15 7 19, mv_e 15 (.iload_n 1) 16 1 0, mv_e 16 (.ireturn) 17 0 0]
def mv_t_X7_watch : List mv_E := [mv_e 0 (.aload_n 0) 1 0 0, mv_ev 1 (.iconst 0) 2 (0) 0, mv_e 2 (.putfield 66) 5 7 0, mv_e 5 (.aload_n 0) 6 0 0, mv_e 6 (.invokevirtual 100) 9 131 1, mv_ev 9 (.bipush (-9)) 11 (-9) 0, mv_e 11 (.if_icmp .eq 6) 14 17 0, mv_ev 14 (.bipush (-3)) 16 (-3) 0, mv_e 16 (.ireturn) 17 0 0, mv_e 17 (.aload_n 0) 18 0 0, mv_e 18 (.aload_n 0) 19 0 0, mv_e 19 (.getfield 89) 22 7 8, mv_e 22 (.putfield 70) 25 7 4, mv_ev 25 (.iconst 0) 26 (0) 0, mv_e 26 (.istore_n 1) 27 1 0, mv_e 27 (.iload_n 1) 28 1 0, mv_ev 28 (.iconst 5) 29 (5) 0, mv_e 29 (.if_icmp .ge 33) 32 62 0, mv_e 32 (.aload_n 0) 33 0 0, mv_e 33 (.getfield 13) 36 7 5, mv_e 36 (.iload_n 1) 37 1 0, mv_e 37 (.aload_n 0) 38 0 0, mv_e 38 (.getfield 22) 41 7 9, mv_e 41 (.iload_n 1) 42 1 0, mv_e 42 (.iaload) 43 0 0, mv_e 43 (.iastore) 44 0 0, mv_e 44 (.aload_n 0) 45 0 0, mv_e 45 (.getfield 19) 48 7 7, mv_e 48 (.iload_n 1) 49 1 0, mv_e 49 (.aload_n 0) 50 0 0, mv_e 50 (.getfield 28) 53 7 11, mv_e 53 (.iload_n 1) 54 1 0, mv_e 54 (.iaload) 55 0 0, mv_e 55 (.iastore) 56 0 0, mv_ev 56 (.iinc 1 1) 59 (1) 1, mv_e 59 (.goto (-32)) 62 27 0, mv_ev 62 (.iconst 0) 63 (0) 0, mv_e 63 (.istore_n 1) 64 1 0, mv_e 64 (.iload_n 1) 65 1 0, mv_ev 65 (.bipush 25) 67 (25) 0, mv_e 67 (.if_icmp .ge 21) 70 88 0, mv_e 70 (.aload_n 0) 71 0 0, mv_e 71 (.getfield 16) 74 7 6, mv_e 74 (.iload_n 1) 75 1 0, mv_e 75 (.aload_n 0) 76 0 0, mv_e 76 (.getfield 25) 79 7 10, mv_e 79 (.iload_n 1) 80 1 0, mv_e 80 (.iaload) 81 0 0, mv_e 81 (.iastore) 82 0 0, mv_ev 82 (.iinc 1 1) 85 (1) 1, mv_e 85 (.goto (-21)) 88 64 0, mv_ev 88 (.iconst 0) 89 (0) 0, mv_e 89 (.istore_n 1) 90 1 0, mv_e 90 (.iload_n 1) 91 1 0, mv_ev 91 (.bipush 120) 93 (120) 0, mv_e 93 (.if_icmp .ge 21) 96 114 0, mv_e 96 (.aload_n 0) 97 0 0, mv_e 97 (.getfield 34) 100 7 13, mv_e 100 (.iload_n 1) 101 1 0, mv_e 101 (.aload_n 0) 102 0 0, mv_e 102 (.getfield 31) 105 7 12, mv_e 105 (.iload_n 1) 106 1 0, mv_e 106 (.iaload) 107 0 0, mv_e 107 (.iastore) 108 0 0, mv_ev 108 (.iinc 1 1) 111 (1) 1, mv_e 111 (.goto (-21)) 114 90 0, mv_e 114 (.aload_n 0) 115 0 0, mv_ev 115 (.iconst 0) 116 (0) 0, mv_e 116 (.putfield 104) 119 7 16, mv_e 119 (.aload_n 0) 120 0 0, mv_e 120 (.getfield 46) 123 7 18, mv_ev 123 (.iconst 0) 124 (0) 0, mv_ev 124 (.iconst 0) 125 (0) 0, mv_e 125 (.bastore) 126 0 0, mv_e 126 (.aload_n 0) 127 0 0, mv_e 127 (.getfield 46) 130 7 18, mv_ev 130 (.iconst 1) 131 (1) 0, mv_ev 131 (.iconst 0) 132 (0) 0, mv_e 132 (.bastore) 133 0 0, mv_e 133 (.aload_n 0) 134 0 0, mv_e 134 (.getfield 70) 137 7 4, mv_e 137 (.ireturn) 138 0 0]
def mv_t_X7_which : List mv_E := [mv_e 0 (.aload_n 0) 1 0 0, mv_ev 1 (.iconst 0) 2 (0) 0, mv_e 2 (.putfield 66) 5 7 0, mv_ev 5 (.iconst 0) 6 (0) 0, mv_e 6 (.istore_n 1) 7 1 0, mv_ev 7 (.iconst 0) 8 (0) 0, mv_e 8 (.istore_n 2) 9 2 0, mv_e 9 (.iload_n 2) 10 2 0, mv_ev 10 (.bipush 32) 12 (32) 0, mv_e 12 (.if_icmp .ge 63) 15 75 0, mv_ev 15 (.iconst 1) 16 (1) 0, mv_e 16 (.istore_n 3) 17 3 0, mv_ev 17 (.iconst 0) 18 (0) 0, mv_e 18 (.istore 4) 20 4 0, mv_e 20 (.iload 4) 22 4 0, mv_e 22 (.aload_n 0) 23 0 0, mv_e 23 (.getfield 204) 26 7 19, mv_e 26 (.if_icmp .ge 29) 29 55 0, mv_e 29 (.iload_n 3) 30 3 0, mv_e 30 (.ifCond .eq 17) 33 47 0, mv_e 33 (.aload_n 0) 34 0 0, mv_e 34 (.iload_n 2) 35 2 0, mv_e 35 (.iload 4) 37 4 0, mv_e 37 (.invokevirtual 207) 40 111 3, mv_e 40 (.ifCond .eq 7) 43 47 0, mv_ev 43 (.iconst 1) 44 (1) 0, mv_e 44 (.goto 4) 47 48 0, mv_ev 47 (.iconst 0) 48 (0) 0, mv_e 48 (.istore_n 3) 49 3 0, mv_ev 49 (.iinc 4 1) 52 (1) 4, mv_e 52 (.goto (-32)) 55 20 0, mv_e 55 (.iload_n 1) 56 1 0, mv_e 56 (.iload_n 3) 57 3 0, mv_e 57 (.ifCond .eq 9) 60 66 0, mv_ev 60 (.iconst 1) 61 (1) 0, mv_e 61 (.iload_n 2) 62 2 0, mv_e 62 (.ishl) 63 0 0, mv_e 63 (.goto 4) 66 67 0, mv_ev 66 (.iconst 0) 67 (0) 0, mv_e 67 (.ior) 68 0 0, mv_e 68 (.istore_n 1) 69 1 0, mv_ev 69 (.iinc 2 1) 72 (1) 2, mv_e 72 (.goto (-63)) 75 9 0, mv_e 75 (.iload_n 1) 76 1 0, mv_e 76 (.ireturn) 77 0 0]
def mv_t_X7_wipe : List mv_E := [mv_e 0 (.aload_n 0) 1 0 0, mv_ev 1 (.iconst 0) 2 (0) 0, mv_e 2 (.putfield 66) 5 7 0, mv_e 5 (.aload_n 0) 6 0 0, mv_e 6 (.getfield 79) 9 7 2, mv_e 9 (.istore_n 1) 10 1 0, mv_e 10 (.aload_n 0) 11 0 0, mv_ev 11 (.iconst 0) 12 (0) 0, mv_e 12 (.putfield 79) 15 7 2, mv_e 15 (.iload_n 1) 16 1 0, mv_e 16 (.ireturn) 17 0 0]
def mv_t_X7_would : List mv_E := [mv_e 0 (.aload_n 0) 1 0 0, mv_ev 1 (.iconst 0) 2 (0) 0, mv_e 2 (.putfield 66) 5 7 0, mv_e 5 (.aload_n 0) 6 0 0, mv_e 6 (.iload_n 1) 7 1 0, mv_e 7 (.invokevirtual 124) 10 123 2, mv_e 10 (.ifCond .eq 5) 13 15 0, mv_ev 13 (.iconst (-1)) 14 (-1) 0, mv_e 14 (.ireturn) 15 0 0, mv_e 15 (.iload_n 2) 16 2 0, mv_e 16 (.i2l) 17 0 0, mv_ew 17 (.lconst 0) 18 (0), mv_ew 18 (.ldc2_w 144) 21 (9), mv_e 21 (.invokestatic 73) 24 109 3, mv_e 24 (.ifCond .eq 15) 27 39 0, mv_e 27 (.iload_n 3) 28 3 0, mv_e 28 (.i2l) 29 0 0, mv_ew 29 (.lconst 1) 30 (1), mv_ew 30 (.ldc2_w 134) 33 (99), mv_e 33 (.invokestatic 73) 36 109 3, mv_e 36 (.ifCond .ne 6) 39 42 0, mv_ev 39 (.bipush (-2)) 41 (-2) 0, mv_e 41 (.ireturn) 42 0 0, mv_ev 42 (.bipush 24) 44 (24) 0, mv_e 44 (.iload_n 1) 45 1 0, mv_e 45 (.imul) 46 0 0, mv_e 46 (.istore 4) 48 4 0, mv_ev 48 (.iconst 0) 49 (0) 0, mv_e 49 (.istore 5) 51 5 0, mv_ev 51 (.iconst 0) 52 (0) 0, mv_e 52 (.istore 6) 54 6 0, mv_ev 54 (.iconst 0) 55 (0) 0, mv_e 55 (.istore 7) 57 7 0, mv_e 57 (.iload 7) 59 7 0, mv_e 59 (.aload_n 0) 60 0 0, mv_e 60 (.getfield 34) 63 7 13, mv_e 63 (.iload 4) 65 4 0, mv_ev 65 (.bipush 11) 67 (11) 0, mv_e 67 (.iadd) 68 0 0, mv_e 68 (.iaload) 69 0 0, mv_e 69 (.if_icmp .ge 121) 72 190 0, mv_e 72 (.aload_n 0) 73 0 0, mv_e 73 (.getfield 34) 76 7 13, mv_e 76 (.iload 4) 78 4 0, mv_ev 78 (.bipush 12) 80 (12) 0, mv_e 80 (.iadd) 81 0 0, mv_e 81 (.iload 7) 83 7 0, mv_e 83 (.iadd) 84 0 0, mv_e 84 (.iaload) 85 0 0, mv_e 85 (.istore 8) 87 8 0, mv_e 87 (.iload 8) 89 8 0, mv_ev 89 (.bipush (-9)) 91 (-9) 0, mv_e 91 (.if_icmp .eq 93) 94 184 0, mv_e 94 (.aload_n 0) 95 0 0, mv_e 95 (.getfield 34) 98 7 13, mv_e 98 (.iload 4) 100 4 0, mv_ev 100 (.bipush 10) 102 (10) 0, mv_e 102 (.iadd) 103 0 0, mv_e 103 (.iaload) 104 0 0, mv_ev 104 (.iconst 4) 105 (4) 0, mv_e 105 (.ishr) 106 0 0, mv_e 106 (.aload_n 0) 107 0 0, mv_e 107 (.iload_n 1) 108 1 0, mv_e 108 (.aload_n 0) 109 0 0, mv_e 109 (.getfield 34) 112 7 13, mv_e 112 (.iload 4) 114 4 0, mv_ev 114 (.iconst 4) 115 (4) 0, mv_e 115 (.iadd) 116 0 0, mv_e 116 (.iaload) 117 0 0, mv_e 117 (.aload_n 0) 118 0 0, mv_e 118 (.getfield 34) 121 7 13, mv_e 121 (.iload 4) 123 4 0, mv_ev 123 (.bipush 11) 125 (11) 0, mv_e 125 (.iadd) 126 0 0, mv_e 126 (.iaload) 127 0 0, mv_e 127 (.isub) 128 0 0, mv_e 128 (.iload 7) 130 7 0, mv_e 130 (.iadd) 131 0 0, mv_e 131 (.invokevirtual 107) 134 105 3, mv_e 134 (.iadd) 135 0 0, mv_ev 135 (.iconst 5) 136 (5) 0, mv_e 136 (.isub) 137 0 0, mv_e 137 (.istore 9) 139 9 0, mv_e 139 (.iload 5) 141 5 0, mv_e 141 (.iload 8) 143 8 0, mv_e 143 (.iadd) 144 0 0, mv_e 144 (.iload 9) 146 9 0, mv_e 146 (.isub) 147 0 0, mv_e 147 (.iload_n 2) 148 2 0, mv_e 148 (.isub) 149 0 0, mv_e 149 (.invokestatic 114) 152 126 1, mv_e 152 (.istore 5) 154 5 0, mv_e 154 (.iload 6) 156 6 0, mv_e 156 (.iload 9) 158 9 0, mv_e 158 (.iadd) 159 0 0, mv_e 159 (.iload 8) 161 8 0, mv_e 161 (.isub) 162 0 0, mv_e 162 (.iload_n 2) 163 2 0, mv_e 163 (.isub) 164 0 0, mv_e 164 (.invokestatic 114) 167 126 1, mv_e 167 (.istore 6) 169 6 0, mv_e 169 (.iload 5) 171 5 0, mv_e 171 (.iload_n 3) 172 3 0, mv_e 172 (.if_icmp .ge 9) 175 181 0, mv_e 175 (.iload 6) 177 6 0, mv_e 177 (.iload_n 3) 178 3 0, mv_e 178 (.if_icmp .lt 6) 181 184 0, mv_e 181 (.iload 7) 183 7 0, mv_e 183 (.ireturn) 184 0 0, mv_ev 184 (.iinc 7 1) 187 (1) 7, mv_e 187 (.goto (-130)) 190 57 0, mv_ev 190 (.bipush (-9)) 192 (-9) 0, mv_e 192 (.ireturn) 193 0 0]
def mv_t_X7_write : List mv_E := [mv_e 0 (.aload_n 0) 1 0 0, mv_ev 1 (.iconst 0) 2 (0) 0, mv_e 2 (.putfield 66) 5 7 0, mv_e 5 (.iload_n 1) 6 1 0, mv_e 6 (.i2l) 7 0 0, mv_ew 7 (.lconst 0) 8 (0), mv_ew 8 (.ldc2_w 77) 11 (255), mv_e 11 (.invokestatic 73) 14 109 3, mv_e 14 (.ifCond .ne 6) 17 20 0, mv_ev 17 (.bipush (-2)) 19 (-2) 0, mv_e 19 (.ireturn) 20 0 0, mv_e 20 (.aload_n 0) 21 0 0, mv_e 21 (.getfield 79) 24 7 2, mv_ev 24 (.bipush 80) 26 (80) 0, mv_e 26 (.if_icmp .ne 6) 29 32 0, mv_ev 29 (.bipush (-4)) 31 (-4) 0, mv_e 31 (.ireturn) 32 0 0, mv_e 32 (.aload_n 0) 33 0 0, mv_e 33 (.getfield 7) 36 7 1, mv_e 36 (.aload_n 0) 37 0 0, mv_e 37 (.getfield 79) 40 7 2, mv_e 40 (.iload_n 1) 41 1 0, mv_e 41 (.iastore) 42 0 0, mv_e 42 (.aload_n 0) 43 0 0, mv_e 43 (.dup) 44 0 0, mv_e 44 (.getfield 79) 47 7 2, mv_ev 47 (.iconst 1) 48 (1) 0, mv_e 48 (.iadd) 49 0 0, mv_e 49 (.putfield 79) 52 7 2, mv_e 52 (.aload_n 0) 53 0 0, mv_e 53 (.getfield 79) 56 7 2, mv_e 56 (.ireturn) 57 0 0]
def mv_t_J6_bitCount_0f7a4 : List mv_E := [mv_e 0 (.iload_n 0) 1 0 0, mv_e 1 (.iload_n 0) 2 0 0, mv_ev 2 (.iconst 1) 3 (1) 0, mv_e 3 (.iushr) 4 0 0, mv_ev 4 (.ldc_w 265) 7 (1431655765) 0, mv_e 7 (.iand) 8 0 0, mv_e 8 (.isub) 9 0 0, mv_e 9 (.istore_n 0) 10 0 0, mv_e 10 (.iload_n 0) 11 0 0, mv_ev 11 (.ldc_w 266) 14 (858993459) 0, mv_e 14 (.iand) 15 0 0, mv_e 15 (.iload_n 0) 16 0 0, mv_ev 16 (.iconst 2) 17 (2) 0, mv_e 17 (.iushr) 18 0 0, mv_ev 18 (.ldc_w 266) 21 (858993459) 0, mv_e 21 (.iand) 22 0 0, mv_e 22 (.iadd) 23 0 0, mv_e 23 (.istore_n 0) 24 0 0, mv_e 24 (.iload_n 0) 25 0 0, mv_e 25 (.iload_n 0) 26 0 0, mv_ev 26 (.iconst 4) 27 (4) 0, mv_e 27 (.iushr) 28 0 0, mv_e 28 (.iadd) 29 0 0, mv_ev 29 (.ldc_w 267) 32 (252645135) 0, mv_e 32 (.iand) 33 0 0, mv_e 33 (.istore_n 0) 34 0 0, mv_e 34 (.iload_n 0) 35 0 0, mv_e 35 (.iload_n 0) 36 0 0, mv_ev 36 (.bipush 8) 38 (8) 0, mv_e 38 (.iushr) 39 0 0, mv_e 39 (.iadd) 40 0 0, mv_e 40 (.istore_n 0) 41 0 0, mv_e 41 (.iload_n 0) 42 0 0, mv_e 42 (.iload_n 0) 43 0 0, mv_ev 43 (.bipush 16) 45 (16) 0, mv_e 45 (.iushr) 46 0 0, mv_e 46 (.iadd) 47 0 0, mv_e 47 (.istore_n 0) 48 0 0, mv_e 48 (.iload_n 0) 49 0 0, mv_ev 49 (.bipush 63) 51 (63) 0, mv_e 51 (.iand) 52 0 0, mv_e 52 (.ireturn) 53 0 0]
def mv_t_J9_max_7cf53 : List mv_E := [mv_e 0 (.iload_n 0) 1 0 0, mv_e 1 (.iload_n 1) 2 1 0, mv_e 2 (.if_icmp .lt 7) 5 9 0, mv_e 5 (.iload_n 0) 6 0 0, mv_e 6 (.goto 4) 9 10 0, mv_e 9 (.iload_n 1) 10 1 0, mv_e 10 (.ireturn) 11 0 0]
def mv_t_J9_min_7cf53 : List mv_E := [mv_e 0 (.iload_n 0) 1 0 0, mv_e 1 (.iload_n 1) 2 1 0, mv_e 2 (.if_icmp .gt 7) 5 9 0, mv_e 5 (.iload_n 0) 6 0 0, mv_e 6 (.goto 4) 9 10 0, mv_e 9 (.iload_n 1) 10 1 0, mv_e 10 (.ireturn) 11 0 0]
-- each row is what the bytes say
theorem mv_k_X0_forget : mv_t_X0_forget.all (mv_ok (mv_m 0)) = true := by decide +kernel
theorem mv_k_X0_remember : mv_t_X0_remember.all (mv_ok (mv_m 2)) = true := by decide +kernel
theorem mv_k_X0_takeBack : mv_t_X0_takeBack.all (mv_ok (mv_m 3)) = true := by decide +kernel
theorem mv_k_X1_adapt : mv_t_X1_adapt.all (mv_ok (mv_m 4)) = true := by decide +kernel
theorem mv_k_X1_addCount : mv_t_X1_addCount.all (mv_ok (mv_m 5)) = true := by decide +kernel
theorem mv_k_X1_addCounts : mv_t_X1_addCounts.all (mv_ok (mv_m 6)) = true := by decide +kernel
theorem mv_k_X1_addGap : mv_t_X1_addGap.all (mv_ok (mv_m 7)) = true := by decide +kernel
theorem mv_k_X1_allows : mv_t_X1_allows.all (mv_ok (mv_m 8)) = true := by decide +kernel
theorem mv_k_X1_append : mv_t_X1_append.all (mv_ok (mv_m 9)) = true := by decide +kernel
theorem mv_k_X1_begin : mv_t_X1_begin.all (mv_ok (mv_m 10)) = true := by decide +kernel
theorem mv_k_X1_change : mv_t_X1_change.all (mv_ok (mv_m 11)) = true := by decide +kernel
theorem mv_k_X1_copyFrom : mv_t_X1_copyFrom.all (mv_ok (mv_m 12)) = true := by decide +kernel
theorem mv_k_X1_dropSums : mv_t_X1_dropSums.all (mv_ok (mv_m 13)) = true := by decide +kernel
theorem mv_k_X1_expectation : mv_t_X1_expectation.all (mv_ok (mv_m 14)) = true := by decide +kernel
theorem mv_k_X1_expectationOn : mv_t_X1_expectationOn.all (mv_ok (mv_m 15)) = true := by decide +kernel
theorem mv_k_X1_parameter : mv_t_X1_parameter.all (mv_ok (mv_m 17)) = true := by decide +kernel
theorem mv_k_X1_property : mv_t_X1_property.all (mv_ok (mv_m 18)) = true := by decide +kernel
theorem mv_k_X1_remembers : mv_t_X1_remembers.all (mv_ok (mv_m 19)) = true := by decide +kernel
theorem mv_k_X1_replay : mv_t_X1_replay.all (mv_ok (mv_m 20)) = true := by decide +kernel
theorem mv_k_X1_ring : mv_t_X1_ring.all (mv_ok (mv_m 21)) = true := by decide +kernel
theorem mv_k_X1_seasonDigit : mv_t_X1_seasonDigit.all (mv_ok (mv_m 22)) = true := by decide +kernel
theorem mv_k_X1_thingAt : mv_t_X1_thingAt.all (mv_ok (mv_m 23)) = true := by decide +kernel
theorem mv_k_X2_alarmSum : mv_t_X2_alarmSum.all (mv_ok (mv_m 24)) = true := by decide +kernel
theorem mv_k_X2_at : mv_t_X2_at.all (mv_ok (mv_m 25)) = true := by decide +kernel
theorem mv_k_X2_copyFrom : mv_t_X2_copyFrom.all (mv_ok (mv_m 26)) = true := by decide +kernel
theorem mv_k_X2_precedes : mv_t_X2_precedes.all (mv_ok (mv_m 28)) = true := by decide +kernel
theorem mv_k_X2_rankOf : mv_t_X2_rankOf.all (mv_ok (mv_m 29)) = true := by decide +kernel
theorem mv_k_X2_sumOfUps : mv_t_X2_sumOfUps.all (mv_ok (mv_m 30)) = true := by decide +kernel
theorem mv_k_X3_chance : mv_t_X3_chance.all (mv_ok (mv_m 31)) = true := by decide +kernel
theorem mv_k_X3_climbs : mv_t_X3_climbs.all (mv_ok (mv_m 32)) = true := by decide +kernel
theorem mv_k_X3_eliminate : mv_t_X3_eliminate.all (mv_ok (mv_m 33)) = true := by decide +kernel
theorem mv_k_X3_putEquation : mv_t_X3_putEquation.all (mv_ok (mv_m 35)) = true := by decide +kernel
theorem mv_k_X3_solve : mv_t_X3_solve.all (mv_ok (mv_m 36)) = true := by decide +kernel
theorem mv_k_X5_append : mv_t_X5_append.all (mv_ok (mv_m 38)) = true := by decide +kernel
theorem mv_k_X5_digit : mv_t_X5_digit.all (mv_ok (mv_m 39)) = true := by decide +kernel
theorem mv_k_X5_findFault : mv_t_X5_findFault.all (mv_ok (mv_m 40)) = true := by decide +kernel
theorem mv_k_X5_fits : mv_t_X5_fits.all (mv_ok (mv_m 41)) = true := by decide +kernel
theorem mv_k_X5_readInto : mv_t_X5_readInto.all (mv_ok (mv_m 43)) = true := by decide +kernel
theorem mv_k_X5_readSeries : mv_t_X5_readSeries.all (mv_ok (mv_m 44)) = true := by decide +kernel
theorem mv_k_X5_stopsAt : mv_t_X5_stopsAt.all (mv_ok (mv_m 45)) = true := by decide +kernel
theorem mv_k_X6_again : mv_t_X6_again.all (mv_ok (mv_m 46)) = true := by decide +kernel
theorem mv_k_X6_agrees : mv_t_X6_agrees.all (mv_ok (mv_m 47)) = true := by decide +kernel
theorem mv_k_X6_agreesWithAll : mv_t_X6_agreesWithAll.all (mv_ok (mv_m 48)) = true := by decide +kernel
theorem mv_k_X6_ahead : mv_t_X6_ahead.all (mv_ok (mv_m 49)) = true := by decide +kernel
theorem mv_k_X6_alarmsWithGaps : mv_t_X6_alarmsWithGaps.all (mv_ok (mv_m 50)) = true := by decide +kernel
theorem mv_k_X6_chances : mv_t_X6_chances.all (mv_ok (mv_m 51)) = true := by decide +kernel
theorem mv_k_X6_clear : mv_t_X6_clear.all (mv_ok (mv_m 52)) = true := by decide +kernel
theorem mv_k_X6_commonDivisor : mv_t_X6_commonDivisor.all (mv_ok (mv_m 53)) = true := by decide +kernel
theorem mv_k_X6_count : mv_t_X6_count.all (mv_ok (mv_m 54)) = true := by decide +kernel
theorem mv_k_X6_digitSum : mv_t_X6_digitSum.all (mv_ok (mv_m 55)) = true := by decide +kernel
theorem mv_k_X6_drawn : mv_t_X6_drawn.all (mv_ok (mv_m 56)) = true := by decide +kernel
theorem mv_k_X6_factorial : mv_t_X6_factorial.all (mv_ok (mv_m 57)) = true := by decide +kernel
theorem mv_k_X6_fault : mv_t_X6_fault.all (mv_ok (mv_m 58)) = true := by decide +kernel
theorem mv_k_X6_firstAlarm : mv_t_X6_firstAlarm.all (mv_ok (mv_m 59)) = true := by decide +kernel
theorem mv_k_X6_gap : mv_t_X6_gap.all (mv_ok (mv_m 60)) = true := by decide +kernel
theorem mv_k_X6_judge : mv_t_X6_judge.all (mv_ok (mv_m 62)) = true := by decide +kernel
theorem mv_k_X6_keep : mv_t_X6_keep.all (mv_ok (mv_m 63)) = true := by decide +kernel
theorem mv_k_X6_least : mv_t_X6_least.all (mv_ok (mv_m 64)) = true := by decide +kernel
theorem mv_k_X6_length : mv_t_X6_length.all (mv_ok (mv_m 65)) = true := by decide +kernel
theorem mv_k_X6_lost : mv_t_X6_lost.all (mv_ok (mv_m 66)) = true := by decide +kernel
theorem mv_k_X6_lowest : mv_t_X6_lowest.all (mv_ok (mv_m 67)) = true := by decide +kernel
theorem mv_k_X6_past : mv_t_X6_past.all (mv_ok (mv_m 68)) = true := by decide +kernel
theorem mv_k_X6_ranked : mv_t_X6_ranked.all (mv_ok (mv_m 69)) = true := by decide +kernel
theorem mv_k_X6_rings : mv_t_X6_rings.all (mv_ok (mv_m 70)) = true := by decide +kernel
theorem mv_k_X6_see : mv_t_X6_see.all (mv_ok (mv_m 71)) = true := by decide +kernel
theorem mv_k_X6_seed : mv_t_X6_seed.all (mv_ok (mv_m 72)) = true := by decide +kernel
theorem mv_k_X6_series : mv_t_X6_series.all (mv_ok (mv_m 73)) = true := by decide +kernel
theorem mv_k_X6_set : mv_t_X6_set.all (mv_ok (mv_m 74)) = true := by decide +kernel
theorem mv_k_X6_share : mv_t_X6_share.all (mv_ok (mv_m 75)) = true := by decide +kernel
theorem mv_k_X6_stands : mv_t_X6_stands.all (mv_ok (mv_m 76)) = true := by decide +kernel
theorem mv_k_X6_tell : mv_t_X6_tell.all (mv_ok (mv_m 77)) = true := by decide +kernel
theorem mv_k_X6_undo : mv_t_X6_undo.all (mv_ok (mv_m 78)) = true := by decide +kernel
theorem mv_k_X6_unsee : mv_t_X6_unsee.all (mv_ok (mv_m 79)) = true := by decide +kernel
theorem mv_k_X6_watch : mv_t_X6_watch.all (mv_ok (mv_m 80)) = true := by decide +kernel
theorem mv_k_X6_weight : mv_t_X6_weight.all (mv_ok (mv_m 81)) = true := by decide +kernel
theorem mv_k_X6_which : mv_t_X6_which.all (mv_ok (mv_m 82)) = true := by decide +kernel
theorem mv_k_X6_wipe : mv_t_X6_wipe.all (mv_ok (mv_m 83)) = true := by decide +kernel
theorem mv_k_X6_within : mv_t_X6_within.all (mv_ok (mv_m 84)) = true := by decide +kernel
theorem mv_k_X6_withoutDoings : mv_t_X6_withoutDoings.all (mv_ok (mv_m 85)) = true := by decide +kernel
theorem mv_k_X6_would : mv_t_X6_would.all (mv_ok (mv_m 86)) = true := by decide +kernel
theorem mv_k_X6_write : mv_t_X6_write.all (mv_ok (mv_m 87)) = true := by decide +kernel
theorem mv_k_X7_again : mv_t_X7_again.all (mv_ok (mv_m 88)) = true := by decide +kernel
theorem mv_k_X7_ahead : mv_t_X7_ahead.all (mv_ok (mv_m 89)) = true := by decide +kernel
theorem mv_k_X7_allAlarms : mv_t_X7_allAlarms.all (mv_ok (mv_m 90)) = true := by decide +kernel
theorem mv_k_X7_chanceOf : mv_t_X7_chanceOf.all (mv_ok (mv_m 91)) = true := by decide +kernel
theorem mv_k_X7_chances : mv_t_X7_chances.all (mv_ok (mv_m 92)) = true := by decide +kernel
theorem mv_k_X7_changeRows : mv_t_X7_changeRows.all (mv_ok (mv_m 93)) = true := by decide +kernel
theorem mv_k_X7_clear : mv_t_X7_clear.all (mv_ok (mv_m 94)) = true := by decide +kernel
theorem mv_k_X7_clearSquare : mv_t_X7_clearSquare.all (mv_ok (mv_m 95)) = true := by decide +kernel
theorem mv_k_X7_comes : mv_t_X7_comes.all (mv_ok (mv_m 96)) = true := by decide +kernel
theorem mv_k_X7_count : mv_t_X7_count.all (mv_ok (mv_m 97)) = true := by decide +kernel
theorem mv_k_X7_countOn : mv_t_X7_countOn.all (mv_ok (mv_m 98)) = true := by decide +kernel
theorem mv_k_X7_does : mv_t_X7_does.all (mv_ok (mv_m 99)) = true := by decide +kernel
theorem mv_k_X7_drawn : mv_t_X7_drawn.all (mv_ok (mv_m 100)) = true := by decide +kernel
theorem mv_k_X7_expected : mv_t_X7_expected.all (mv_ok (mv_m 101)) = true := by decide +kernel
theorem mv_k_X7_factorial : mv_t_X7_factorial.all (mv_ok (mv_m 102)) = true := by decide +kernel
theorem mv_k_X7_fault : mv_t_X7_fault.all (mv_ok (mv_m 103)) = true := by decide +kernel
theorem mv_k_X7_figure : mv_t_X7_figure.all (mv_ok (mv_m 104)) = true := by decide +kernel
theorem mv_k_X7_figureOf : mv_t_X7_figureOf.all (mv_ok (mv_m 105)) = true := by decide +kernel
theorem mv_k_X7_fraction : mv_t_X7_fraction.all (mv_ok (mv_m 106)) = true := by decide +kernel
theorem mv_k_X7_gap : mv_t_X7_gap.all (mv_ok (mv_m 107)) = true := by decide +kernel
theorem mv_k_X7_has : mv_t_X7_has.all (mv_ok (mv_m 108)) = true := by decide +kernel
theorem mv_k_X7_in : mv_t_X7_in.all (mv_ok (mv_m 109)) = true := by decide +kernel
theorem mv_k_X7_isSo : mv_t_X7_isSo.all (mv_ok (mv_m 111)) = true := by decide +kernel
theorem mv_k_X7_judge : mv_t_X7_judge.all (mv_ok (mv_m 112)) = true := by decide +kernel
theorem mv_k_X7_keep : mv_t_X7_keep.all (mv_ok (mv_m 113)) = true := by decide +kernel
theorem mv_k_X7_laySquare : mv_t_X7_laySquare.all (mv_ok (mv_m 114)) = true := by decide +kernel
theorem mv_k_X7_layTrial : mv_t_X7_layTrial.all (mv_ok (mv_m 115)) = true := by decide +kernel
theorem mv_k_X7_least : mv_t_X7_least.all (mv_ok (mv_m 116)) = true := by decide +kernel
theorem mv_k_X7_length : mv_t_X7_length.all (mv_ok (mv_m 117)) = true := by decide +kernel
theorem mv_k_X7_longDivisor : mv_t_X7_longDivisor.all (mv_ok (mv_m 118)) = true := by decide +kernel
theorem mv_k_X7_longPower : mv_t_X7_longPower.all (mv_ok (mv_m 119)) = true := by decide +kernel
theorem mv_k_X7_lost : mv_t_X7_lost.all (mv_ok (mv_m 120)) = true := by decide +kernel
theorem mv_k_X7_moves : mv_t_X7_moves.all (mv_ok (mv_m 121)) = true := by decide +kernel
theorem mv_k_X7_nearOf : mv_t_X7_nearOf.all (mv_ok (mv_m 122)) = true := by decide +kernel
theorem mv_k_X7_noSeries : mv_t_X7_noSeries.all (mv_ok (mv_m 123)) = true := by decide +kernel
theorem mv_k_X7_note : mv_t_X7_note.all (mv_ok (mv_m 124)) = true := by decide +kernel
theorem mv_k_X7_ones : mv_t_X7_ones.all (mv_ok (mv_m 125)) = true := by decide +kernel
theorem mv_k_X7_over : mv_t_X7_over.all (mv_ok (mv_m 126)) = true := by decide +kernel
theorem mv_k_X7_past : mv_t_X7_past.all (mv_ok (mv_m 127)) = true := by decide +kernel
theorem mv_k_X7_power : mv_t_X7_power.all (mv_ok (mv_m 128)) = true := by decide +kernel
theorem mv_k_X7_ranked : mv_t_X7_ranked.all (mv_ok (mv_m 129)) = true := by decide +kernel
theorem mv_k_X7_readSeries : mv_t_X7_readSeries.all (mv_ok (mv_m 130)) = true := by decide +kernel
theorem mv_k_X7_readWatch : mv_t_X7_readWatch.all (mv_ok (mv_m 131)) = true := by decide +kernel
theorem mv_k_X7_rings : mv_t_X7_rings.all (mv_ok (mv_m 132)) = true := by decide +kernel
theorem mv_k_X7_ringsBy : mv_t_X7_ringsBy.all (mv_ok (mv_m 133)) = true := by decide +kernel
theorem mv_k_X7_see : mv_t_X7_see.all (mv_ok (mv_m 134)) = true := by decide +kernel
theorem mv_k_X7_seed : mv_t_X7_seed.all (mv_ok (mv_m 135)) = true := by decide +kernel
theorem mv_k_X7_series : mv_t_X7_series.all (mv_ok (mv_m 136)) = true := by decide +kernel
theorem mv_k_X7_set : mv_t_X7_set.all (mv_ok (mv_m 137)) = true := by decide +kernel
theorem mv_k_X7_share : mv_t_X7_share.all (mv_ok (mv_m 138)) = true := by decide +kernel
theorem mv_k_X7_tell : mv_t_X7_tell.all (mv_ok (mv_m 139)) = true := by decide +kernel
theorem mv_k_X7_tellOf : mv_t_X7_tellOf.all (mv_ok (mv_m 140)) = true := by decide +kernel
theorem mv_k_X7_two : mv_t_X7_two.all (mv_ok (mv_m 141)) = true := by decide +kernel
theorem mv_k_X7_undo : mv_t_X7_undo.all (mv_ok (mv_m 142)) = true := by decide +kernel
theorem mv_k_X7_unsee : mv_t_X7_unsee.all (mv_ok (mv_m 143)) = true := by decide +kernel
theorem mv_k_X7_watch : mv_t_X7_watch.all (mv_ok (mv_m 144)) = true := by decide +kernel
theorem mv_k_X7_which : mv_t_X7_which.all (mv_ok (mv_m 145)) = true := by decide +kernel
theorem mv_k_X7_wipe : mv_t_X7_wipe.all (mv_ok (mv_m 146)) = true := by decide +kernel
theorem mv_k_X7_would : mv_t_X7_would.all (mv_ok (mv_m 147)) = true := by decide +kernel
theorem mv_k_X7_write : mv_t_X7_write.all (mv_ok (mv_m 148)) = true := by decide +kernel
theorem mv_k_J6_bitCount_0f7a4 : mv_t_J6_bitCount_0f7a4.all (mv_ok (mv_m 149)) = true := by decide +kernel
theorem mv_k_J9_max_7cf53 : mv_t_J9_max_7cf53.all (mv_ok (mv_m 150)) = true := by decide +kernel
theorem mv_k_J9_min_7cf53 : mv_t_J9_min_7cf53.all (mv_ok (mv_m 151)) = true := by decide +kernel
end
section
def mv_t_L_law_0 : List mv_E := [mv_ev 16 (.iconst 0) 17 (0) 0, mv_e 17 (.istore_n 3) 18 3 0, mv_e 18 (.iload_n 3) 19 3 0, mv_e 19 (.aload_n 0) 20 0 0, mv_e 20 (.arraylength) 21 0 0, mv_ev 21 (.bipush 6) 23 (6) 0, mv_e 23 (.isub) 24 0 0, mv_e 24 (.if_icmp .gt 1093) 27 1117 0, mv_e 27 (.aload_n 0) 28 0 0, mv_e 28 (.iload_n 3) 29 3 0, mv_e 29 (.iaload) 30 1 0, mv_ev 30 (.bipush 31) 32 (31) 0, mv_e 32 (.iand) 33 0 0, mv_e 33 (.tableswitch 1078 0 28 #[131, 154, 167, 180, 193, 226, 259, 292, 315, 338, 381, 404, 417, 470, 503, 536, 586, 629, 652, 715, 768, 781, 794, 853, 932, 986, 1009, 1032, 1055]) 164 1111 10, mv_e 164 (.aload_n 1) 165 1 0, mv_e 165 (.aload_n 0) 166 0 0, mv_e 166 (.iload_n 3) 167 3 0, mv_ev 167 (.iconst 1) 168 (1) 0, mv_e 168 (.iadd) 169 0 0, mv_e 169 (.iaload) 170 1 0, mv_e 170 (.invokevirtual 13) 173 87 2, mv_e 173 (.aload_n 2) 174 2 0, mv_e 174 (.aload_n 0) 175 0 0, mv_e 175 (.iload_n 3) 176 3 0, mv_ev 176 (.iconst 1) 177 (1) 0, mv_e 177 (.iadd) 178 0 0, mv_e 178 (.iaload) 179 1 0, mv_e 179 (.invokevirtual 17) 182 148 2, mv_e 182 (.if_icmp .eq 929) 185 1111 0, mv_ev 185 (.iconst 0) 186 (0) 0, mv_e 186 (.ireturn) 187 0 1, mv_e 187 (.aload_n 1) 188 1 0, mv_e 188 (.invokevirtual 18) 191 83 1, mv_e 191 (.aload_n 2) 192 2 0, mv_e 192 (.invokevirtual 22) 195 146 1, mv_e 195 (.if_icmp .eq 916) 198 1111 0, mv_ev 198 (.iconst 0) 199 (0) 0, mv_e 199 (.ireturn) 200 0 1, mv_e 200 (.aload_n 1) 201 1 0, mv_e 201 (.invokevirtual 23) 204 58 1, mv_e 204 (.aload_n 2) 205 2 0, mv_e 205 (.invokevirtual 26) 208 103 1, mv_e 208 (.if_icmp .eq 903) 211 1111 0, mv_ev 211 (.iconst 0) 212 (0) 0, mv_e 212 (.ireturn) 213 0 1, mv_e 213 (.aload_n 1) 214 1 0, mv_e 214 (.invokevirtual 27) 217 80 1, mv_e 217 (.aload_n 2) 218 2 0]
def mv_t_L_law_1 : List mv_E := [mv_e 218 (.invokevirtual 30) 221 144 1, mv_e 221 (.if_icmp .eq 890) 224 1111 0, mv_ev 224 (.iconst 0) 225 (0) 0, mv_e 225 (.ireturn) 226 0 1, mv_e 226 (.aload_n 1) 227 1 0, mv_e 227 (.aload_n 0) 228 0 0, mv_e 228 (.iload_n 3) 229 3 0, mv_ev 229 (.iconst 1) 230 (1) 0, mv_e 230 (.iadd) 231 0 0, mv_e 231 (.iaload) 232 1 0, mv_e 232 (.aload_n 0) 233 0 0, mv_e 233 (.iload_n 3) 234 3 0, mv_ev 234 (.iconst 2) 235 (2) 0, mv_e 235 (.iadd) 236 0 0, mv_e 236 (.iaload) 237 1 0, mv_e 237 (.invokevirtual 31) 240 73 3, mv_e 240 (.aload_n 2) 241 2 0, mv_e 241 (.aload_n 0) 242 0 0, mv_e 242 (.iload_n 3) 243 3 0, mv_ev 243 (.iconst 1) 244 (1) 0, mv_e 244 (.iadd) 245 0 0, mv_e 245 (.iaload) 246 1 0, mv_e 246 (.aload_n 0) 247 0 0, mv_e 247 (.iload_n 3) 248 3 0, mv_ev 248 (.iconst 2) 249 (2) 0, mv_e 249 (.iadd) 250 0 0, mv_e 250 (.iaload) 251 1 0, mv_e 251 (.invokevirtual 35) 254 136 3, mv_e 254 (.if_icmp .eq 857) 257 1111 0, mv_ev 257 (.iconst 0) 258 (0) 0, mv_e 258 (.ireturn) 259 0 1, mv_e 259 (.aload_n 1) 260 1 0, mv_e 260 (.aload_n 0) 261 0 0, mv_e 261 (.iload_n 3) 262 3 0, mv_ev 262 (.iconst 1) 263 (1) 0, mv_e 263 (.iadd) 264 0 0, mv_e 264 (.iaload) 265 1 0, mv_e 265 (.aload_n 0) 266 0 0, mv_e 266 (.iload_n 3) 267 3 0, mv_ev 267 (.iconst 2) 268 (2) 0, mv_e 268 (.iadd) 269 0 0, mv_e 269 (.iaload) 270 1 0, mv_e 270 (.invokevirtual 36) 273 68 3, mv_e 273 (.aload_n 2) 274 2 0, mv_e 274 (.aload_n 0) 275 0 0, mv_e 275 (.iload_n 3) 276 3 0, mv_ev 276 (.iconst 1) 277 (1) 0, mv_e 277 (.iadd) 278 0 0]
def mv_t_L_law_2 : List mv_E := [mv_e 278 (.iaload) 279 1 0, mv_e 279 (.aload_n 0) 280 0 0, mv_e 280 (.iload_n 3) 281 3 0, mv_ev 281 (.iconst 2) 282 (2) 0, mv_e 282 (.iadd) 283 0 0, mv_e 283 (.iaload) 284 1 0, mv_e 284 (.invokevirtual 39) 287 127 3, mv_e 287 (.if_icmp .eq 824) 290 1111 0, mv_ev 290 (.iconst 0) 291 (0) 0, mv_e 291 (.ireturn) 292 0 1, mv_e 292 (.aload_n 1) 293 1 0, mv_e 293 (.aload_n 0) 294 0 0, mv_e 294 (.iload_n 3) 295 3 0, mv_ev 295 (.iconst 1) 296 (1) 0, mv_e 296 (.iadd) 297 0 0, mv_e 297 (.iaload) 298 1 0, mv_e 298 (.aload_n 0) 299 0 0, mv_e 299 (.iload_n 3) 300 3 0, mv_ev 300 (.iconst 2) 301 (2) 0, mv_e 301 (.iadd) 302 0 0, mv_e 302 (.iaload) 303 1 0, mv_e 303 (.invokevirtual 40) 306 77 3, mv_e 306 (.aload_n 2) 307 2 0, mv_e 307 (.aload_n 0) 308 0 0, mv_e 308 (.iload_n 3) 309 3 0, mv_ev 309 (.iconst 1) 310 (1) 0, mv_e 310 (.iadd) 311 0 0, mv_e 311 (.iaload) 312 1 0, mv_e 312 (.aload_n 0) 313 0 0, mv_e 313 (.iload_n 3) 314 3 0, mv_ev 314 (.iconst 2) 315 (2) 0, mv_e 315 (.iadd) 316 0 0, mv_e 316 (.iaload) 317 1 0, mv_e 317 (.invokevirtual 43) 320 139 3, mv_e 320 (.if_icmp .eq 791) 323 1111 0, mv_ev 323 (.iconst 0) 324 (0) 0, mv_e 324 (.ireturn) 325 0 1, mv_e 325 (.aload_n 1) 326 1 0, mv_e 326 (.aload_n 0) 327 0 0, mv_e 327 (.iload_n 3) 328 3 0, mv_ev 328 (.iconst 1) 329 (1) 0, mv_e 329 (.iadd) 330 0 0, mv_e 330 (.iaload) 331 1 0, mv_e 331 (.invokevirtual 44) 334 60 2, mv_e 334 (.aload_n 2) 335 2 0, mv_e 335 (.aload_n 0) 336 0 0, mv_e 336 (.iload_n 3) 337 3 0, mv_ev 337 (.iconst 1) 338 (1) 0]
def mv_t_L_law_3 : List mv_E := [mv_e 338 (.iadd) 339 0 0, mv_e 339 (.iaload) 340 1 0, mv_e 340 (.invokevirtual 47) 343 107 2, mv_e 343 (.if_icmp .eq 768) 346 1111 0, mv_ev 346 (.iconst 0) 347 (0) 0, mv_e 347 (.ireturn) 348 0 1, mv_e 348 (.aload_n 1) 349 1 0, mv_e 349 (.aload_n 0) 350 0 0, mv_e 350 (.iload_n 3) 351 3 0, mv_ev 351 (.iconst 1) 352 (1) 0, mv_e 352 (.iadd) 353 0 0, mv_e 353 (.iaload) 354 1 0, mv_e 354 (.invokevirtual 48) 357 52 2, mv_e 357 (.aload_n 2) 358 2 0, mv_e 358 (.aload_n 0) 359 0 0, mv_e 359 (.iload_n 3) 360 3 0, mv_ev 360 (.iconst 1) 361 (1) 0, mv_e 361 (.iadd) 362 0 0, mv_e 362 (.iaload) 363 1 0, mv_e 363 (.invokevirtual 51) 366 94 2, mv_e 366 (.if_icmp .eq 745) 369 1111 0, mv_ev 369 (.iconst 0) 370 (0) 0, mv_e 370 (.ireturn) 371 0 1, mv_e 371 (.aload_n 1) 372 1 0, mv_e 372 (.aload_n 0) 373 0 0, mv_e 373 (.iload_n 3) 374 3 0, mv_ev 374 (.iconst 1) 375 (1) 0, mv_e 375 (.iadd) 376 0 0, mv_e 376 (.iaload) 377 1 0, mv_e 377 (.aload_n 0) 378 0 0, mv_e 378 (.iload_n 3) 379 3 0, mv_ev 379 (.iconst 2) 380 (2) 0, mv_e 380 (.iadd) 381 0 0, mv_e 381 (.iaload) 382 1 0, mv_e 382 (.aload_n 0) 383 0 0, mv_e 383 (.iload_n 3) 384 3 0, mv_ev 384 (.iconst 3) 385 (3) 0, mv_e 385 (.iadd) 386 0 0, mv_e 386 (.iaload) 387 1 0, mv_e 387 (.invokevirtual 52) 390 74 4, mv_e 390 (.aload_n 2) 391 2 0, mv_e 391 (.aload_n 0) 392 0 0, mv_e 392 (.iload_n 3) 393 3 0, mv_ev 393 (.iconst 1) 394 (1) 0, mv_e 394 (.iadd) 395 0 0, mv_e 395 (.iaload) 396 1 0, mv_e 396 (.aload_n 0) 397 0 0, mv_e 397 (.iload_n 3) 398 3 0]
def mv_t_L_law_4 : List mv_E := [mv_ev 398 (.iconst 2) 399 (2) 0, mv_e 399 (.iadd) 400 0 0, mv_e 400 (.iaload) 401 1 0, mv_e 401 (.aload_n 0) 402 0 0, mv_e 402 (.iload_n 3) 403 3 0, mv_ev 403 (.iconst 3) 404 (3) 0, mv_e 404 (.iadd) 405 0 0, mv_e 405 (.iaload) 406 1 0, mv_e 406 (.invokevirtual 56) 409 137 4, mv_e 409 (.if_icmp .eq 702) 412 1111 0, mv_ev 412 (.iconst 0) 413 (0) 0, mv_e 413 (.ireturn) 414 0 1, mv_e 414 (.aload_n 1) 415 1 0, mv_e 415 (.aload_n 0) 416 0 0, mv_e 416 (.iload_n 3) 417 3 0, mv_ev 417 (.iconst 1) 418 (1) 0, mv_e 418 (.iadd) 419 0 0, mv_e 419 (.iaload) 420 1 0, mv_e 420 (.invokevirtual 57) 423 51 2, mv_e 423 (.aload_n 2) 424 2 0, mv_e 424 (.aload_n 0) 425 0 0, mv_e 425 (.iload_n 3) 426 3 0, mv_ev 426 (.iconst 1) 427 (1) 0, mv_e 427 (.iadd) 428 0 0, mv_e 428 (.iaload) 429 1 0, mv_e 429 (.invokevirtual 60) 432 92 2, mv_e 432 (.if_icmp .eq 679) 435 1111 0, mv_ev 435 (.iconst 0) 436 (0) 0, mv_e 436 (.ireturn) 437 0 1, mv_e 437 (.aload_n 1) 438 1 0, mv_e 438 (.invokevirtual 61) 441 78 1, mv_e 441 (.aload_n 2) 442 2 0, mv_e 442 (.invokevirtual 64) 445 142 1, mv_e 445 (.if_icmp .eq 666) 448 1111 0, mv_ev 448 (.iconst 0) 449 (0) 0, mv_e 449 (.ireturn) 450 0 1, mv_e 450 (.aload_n 1) 451 1 0, mv_e 451 (.aload_n 0) 452 0 0, mv_e 452 (.iload_n 3) 453 3 0, mv_ev 453 (.iconst 1) 454 (1) 0, mv_e 454 (.iadd) 455 0 0, mv_e 455 (.iaload) 456 1 0, mv_e 456 (.aload_n 0) 457 0 0, mv_e 457 (.iload_n 3) 458 3 0, mv_ev 458 (.iconst 2) 459 (2) 0, mv_e 459 (.iadd) 460 0 0, mv_e 460 (.iaload) 461 1 0, mv_e 461 (.aload_n 0) 462 0 0]
def mv_t_L_law_5 : List mv_E := [mv_e 462 (.iload_n 3) 463 3 0, mv_ev 463 (.iconst 3) 464 (3) 0, mv_e 464 (.iadd) 465 0 0, mv_e 465 (.iaload) 466 1 0, mv_e 466 (.aload_n 0) 467 0 0, mv_e 467 (.iload_n 3) 468 3 0, mv_ev 468 (.iconst 4) 469 (4) 0, mv_e 469 (.iadd) 470 0 0, mv_e 470 (.iaload) 471 1 0, mv_e 471 (.invokevirtual 65) 474 49 5, mv_e 474 (.aload_n 2) 475 2 0, mv_e 475 (.aload_n 0) 476 0 0, mv_e 476 (.iload_n 3) 477 3 0, mv_ev 477 (.iconst 1) 478 (1) 0, mv_e 478 (.iadd) 479 0 0, mv_e 479 (.iaload) 480 1 0, mv_e 480 (.aload_n 0) 481 0 0, mv_e 481 (.iload_n 3) 482 3 0, mv_ev 482 (.iconst 2) 483 (2) 0, mv_e 483 (.iadd) 484 0 0, mv_e 484 (.iaload) 485 1 0, mv_e 485 (.aload_n 0) 486 0 0, mv_e 486 (.iload_n 3) 487 3 0, mv_ev 487 (.iconst 3) 488 (3) 0, mv_e 488 (.iadd) 489 0 0, mv_e 489 (.iaload) 490 1 0, mv_e 490 (.aload_n 0) 491 0 0, mv_e 491 (.iload_n 3) 492 3 0, mv_ev 492 (.iconst 4) 493 (4) 0, mv_e 493 (.iadd) 494 0 0, mv_e 494 (.iaload) 495 1 0, mv_e 495 (.invokevirtual 69) 498 89 5, mv_e 498 (.if_icmp .eq 613) 501 1111 0, mv_ev 501 (.iconst 0) 502 (0) 0, mv_e 502 (.ireturn) 503 0 1, mv_e 503 (.aload_n 1) 504 1 0, mv_e 504 (.aload_n 0) 505 0 0, mv_e 505 (.iload_n 3) 506 3 0, mv_ev 506 (.iconst 1) 507 (1) 0, mv_e 507 (.iadd) 508 0 0, mv_e 508 (.iaload) 509 1 0, mv_e 509 (.aload_n 0) 510 0 0, mv_e 510 (.iload_n 3) 511 3 0, mv_ev 511 (.iconst 2) 512 (2) 0, mv_e 512 (.iadd) 513 0 0, mv_e 513 (.iaload) 514 1 0, mv_e 514 (.invokevirtual 70) 517 70 3, mv_e 517 (.aload_n 2) 518 2 0]
def mv_t_L_law_6 : List mv_E := [mv_e 518 (.aload_n 0) 519 0 0, mv_e 519 (.iload_n 3) 520 3 0, mv_ev 520 (.iconst 1) 521 (1) 0, mv_e 521 (.iadd) 522 0 0, mv_e 522 (.iaload) 523 1 0, mv_e 523 (.aload_n 0) 524 0 0, mv_e 524 (.iload_n 3) 525 3 0, mv_ev 525 (.iconst 2) 526 (2) 0, mv_e 526 (.iadd) 527 0 0, mv_e 527 (.iaload) 528 1 0, mv_e 528 (.invokevirtual 73) 531 132 3, mv_e 531 (.if_icmp .eq 580) 534 1111 0, mv_ev 534 (.iconst 0) 535 (0) 0, mv_e 535 (.ireturn) 536 0 1, mv_e 536 (.aload_n 1) 537 1 0, mv_e 537 (.aload_n 0) 538 0 0, mv_e 538 (.iload_n 3) 539 3 0, mv_ev 539 (.iconst 1) 540 (1) 0, mv_e 540 (.iadd) 541 0 0, mv_e 541 (.iaload) 542 1 0, mv_e 542 (.aload_n 0) 543 0 0, mv_e 543 (.iload_n 3) 544 3 0, mv_ev 544 (.iconst 2) 545 (2) 0, mv_e 545 (.iadd) 546 0 0, mv_e 546 (.iaload) 547 1 0, mv_e 547 (.invokevirtual 74) 550 64 3, mv_e 550 (.aload_n 2) 551 2 0, mv_e 551 (.aload_n 0) 552 0 0, mv_e 552 (.iload_n 3) 553 3 0, mv_ev 553 (.iconst 1) 554 (1) 0, mv_e 554 (.iadd) 555 0 0, mv_e 555 (.iaload) 556 1 0, mv_e 556 (.aload_n 0) 557 0 0, mv_e 557 (.iload_n 3) 558 3 0, mv_ev 558 (.iconst 2) 559 (2) 0, mv_e 559 (.iadd) 560 0 0, mv_e 560 (.iaload) 561 1 0, mv_e 561 (.invokevirtual 77) 564 116 3, mv_e 564 (.if_icmp .eq 547) 567 1111 0, mv_ev 567 (.iconst 0) 568 (0) 0, mv_e 568 (.ireturn) 569 0 1, mv_e 569 (.aload_n 1) 570 1 0, mv_e 570 (.aload_n 0) 571 0 0, mv_e 571 (.iload_n 3) 572 3 0, mv_ev 572 (.iconst 1) 573 (1) 0, mv_e 573 (.iadd) 574 0 0, mv_e 574 (.iaload) 575 1 0, mv_e 575 (.aload_n 0) 576 0 0]
def mv_t_L_law_7 : List mv_E := [mv_e 576 (.iload_n 3) 577 3 0, mv_ev 577 (.iconst 2) 578 (2) 0, mv_e 578 (.iadd) 579 0 0, mv_e 579 (.iaload) 580 1 0, mv_e 580 (.ifCond .eq 7) 583 587 0, mv_ev 583 (.iconst 1) 584 (1) 0, mv_e 584 (.goto 4) 587 588 0, mv_ev 587 (.iconst 0) 588 (0) 0, mv_e 588 (.invokevirtual 78) 591 65 3, mv_e 591 (.aload_n 2) 592 2 0, mv_e 592 (.aload_n 0) 593 0 0, mv_e 593 (.iload_n 3) 594 3 0, mv_ev 594 (.iconst 1) 595 (1) 0, mv_e 595 (.iadd) 596 0 0, mv_e 596 (.iaload) 597 1 0, mv_e 597 (.aload_n 0) 598 0 0, mv_e 598 (.iload_n 3) 599 3 0, mv_ev 599 (.iconst 2) 600 (2) 0, mv_e 600 (.iadd) 601 0 0, mv_e 601 (.iaload) 602 1 0, mv_e 602 (.ifCond .eq 7) 605 609 0, mv_ev 605 (.iconst 1) 606 (1) 0, mv_e 606 (.goto 4) 609 610 0, mv_ev 609 (.iconst 0) 610 (0) 0, mv_e 610 (.invokevirtual 82) 613 117 3, mv_e 613 (.lcmp) 614 0 0, mv_e 614 (.ifCond .eq 497) 617 1111 0, mv_ev 617 (.iconst 0) 618 (0) 0, mv_e 618 (.ireturn) 619 0 1, mv_e 619 (.aload_n 1) 620 1 0, mv_e 620 (.aload_n 0) 621 0 0, mv_e 621 (.iload_n 3) 622 3 0, mv_ev 622 (.iconst 1) 623 (1) 0, mv_e 623 (.iadd) 624 0 0, mv_e 624 (.iaload) 625 1 0, mv_e 625 (.aload_n 0) 626 0 0, mv_e 626 (.iload_n 3) 627 3 0, mv_ev 627 (.iconst 2) 628 (2) 0, mv_e 628 (.iadd) 629 0 0, mv_e 629 (.iaload) 630 1 0, mv_e 630 (.aload_n 0) 631 0 0, mv_e 631 (.iload_n 3) 632 3 0, mv_ev 632 (.iconst 3) 633 (3) 0, mv_e 633 (.iadd) 634 0 0, mv_e 634 (.iaload) 635 1 0, mv_e 635 (.invokevirtual 83) 638 86 4, mv_e 638 (.aload_n 2) 639 2 0, mv_e 639 (.aload_n 0) 640 0 0]
def mv_t_L_law_8 : List mv_E := [mv_e 640 (.iload_n 3) 641 3 0, mv_ev 641 (.iconst 1) 642 (1) 0, mv_e 642 (.iadd) 643 0 0, mv_e 643 (.iaload) 644 1 0, mv_e 644 (.aload_n 0) 645 0 0, mv_e 645 (.iload_n 3) 646 3 0, mv_ev 646 (.iconst 2) 647 (2) 0, mv_e 647 (.iadd) 648 0 0, mv_e 648 (.iaload) 649 1 0, mv_e 649 (.aload_n 0) 650 0 0, mv_e 650 (.iload_n 3) 651 3 0, mv_ev 651 (.iconst 3) 652 (3) 0, mv_e 652 (.iadd) 653 0 0, mv_e 653 (.iaload) 654 1 0, mv_e 654 (.invokevirtual 86) 657 147 4, mv_e 657 (.if_icmp .eq 454) 660 1111 0, mv_ev 660 (.iconst 0) 661 (0) 0, mv_e 661 (.ireturn) 662 0 1, mv_e 662 (.aload_n 1) 663 1 0, mv_e 663 (.aload_n 0) 664 0 0, mv_e 664 (.iload_n 3) 665 3 0, mv_ev 665 (.iconst 1) 666 (1) 0, mv_e 666 (.iadd) 667 0 0, mv_e 667 (.iaload) 668 1 0, mv_e 668 (.invokevirtual 87) 671 69 2, mv_e 671 (.aload_n 2) 672 2 0, mv_e 672 (.aload_n 0) 673 0 0, mv_e 673 (.iload_n 3) 674 3 0, mv_ev 674 (.iconst 1) 675 (1) 0, mv_e 675 (.iadd) 676 0 0, mv_e 676 (.iaload) 677 1 0, mv_e 677 (.invokevirtual 90) 680 129 2, mv_e 680 (.if_icmp .eq 431) 683 1111 0, mv_ev 683 (.iconst 0) 684 (0) 0, mv_e 684 (.ireturn) 685 0 1, mv_e 685 (.aload_n 1) 686 1 0, mv_e 686 (.aload_n 0) 687 0 0, mv_e 687 (.iload_n 3) 688 3 0, mv_ev 688 (.iconst 1) 689 (1) 0, mv_e 689 (.iadd) 690 0 0, mv_e 690 (.iaload) 691 1 0, mv_e 691 (.aload_n 0) 692 0 0, mv_e 692 (.iload_n 3) 693 3 0, mv_ev 693 (.iconst 2) 694 (2) 0, mv_e 694 (.iadd) 695 0 0, mv_e 695 (.iaload) 696 1 0, mv_e 696 (.i2l) 697 0 0, mv_ev 697 (.bipush 32) 699 (32) 0]
def mv_t_L_law_9 : List mv_E := [mv_e 699 (.lshl) 700 0 0, mv_e 700 (.aload_n 0) 701 0 0, mv_e 701 (.iload_n 3) 702 3 0, mv_ev 702 (.iconst 3) 703 (3) 0, mv_e 703 (.iadd) 704 0 0, mv_e 704 (.iaload) 705 1 0, mv_e 705 (.i2l) 706 0 0, mv_ew 706 (.ldc2_w 91) 709 (4294967295), mv_e 709 (.land) 710 0 0, mv_e 710 (.lor) 711 0 0, mv_e 711 (.invokevirtual 93) 714 62 3, mv_e 714 (.aload_n 2) 715 2 0, mv_e 715 (.aload_n 0) 716 0 0, mv_e 716 (.iload_n 3) 717 3 0, mv_ev 717 (.iconst 1) 718 (1) 0, mv_e 718 (.iadd) 719 0 0, mv_e 719 (.iaload) 720 1 0, mv_e 720 (.aload_n 0) 721 0 0, mv_e 721 (.iload_n 3) 722 3 0, mv_ev 722 (.iconst 2) 723 (2) 0, mv_e 723 (.iadd) 724 0 0, mv_e 724 (.iaload) 725 1 0, mv_e 725 (.i2l) 726 0 0, mv_ev 726 (.bipush 32) 728 (32) 0, mv_e 728 (.lshl) 729 0 0, mv_e 729 (.aload_n 0) 730 0 0, mv_e 730 (.iload_n 3) 731 3 0, mv_ev 731 (.iconst 3) 732 (3) 0, mv_e 732 (.iadd) 733 0 0, mv_e 733 (.iaload) 734 1 0, mv_e 734 (.i2l) 735 0 0, mv_ew 735 (.ldc2_w 91) 738 (4294967295), mv_e 738 (.land) 739 0 0, mv_e 739 (.lor) 740 0 0, mv_e 740 (.invokevirtual 97) 743 112 3, mv_e 743 (.if_icmp .eq 368) 746 1111 0, mv_ev 746 (.iconst 0) 747 (0) 0, mv_e 747 (.ireturn) 748 0 1, mv_e 748 (.aload_n 1) 749 1 0, mv_e 749 (.aload_n 0) 750 0 0, mv_e 750 (.iload_n 3) 751 3 0, mv_ev 751 (.iconst 1) 752 (1) 0, mv_e 752 (.iadd) 753 0 0, mv_e 753 (.iaload) 754 1 0, mv_e 754 (.aload_n 0) 755 0 0, mv_e 755 (.iload_n 3) 756 3 0, mv_ev 756 (.iconst 2) 757 (2) 0, mv_e 757 (.iadd) 758 0 0]
def mv_t_L_law_10 : List mv_E := [mv_e 758 (.iaload) 759 1 0, mv_e 759 (.aload_n 0) 760 0 0, mv_e 760 (.iload_n 3) 761 3 0, mv_ev 761 (.iconst 3) 762 (3) 0, mv_e 762 (.iadd) 763 0 0, mv_e 763 (.iaload) 764 1 0, mv_e 764 (.aload_n 0) 765 0 0, mv_e 765 (.iload_n 3) 766 3 0, mv_ev 766 (.iconst 4) 767 (4) 0, mv_e 767 (.iadd) 768 0 0, mv_e 768 (.iaload) 769 1 0, mv_e 769 (.invokevirtual 98) 772 71 5, mv_e 772 (.aload_n 2) 773 2 0, mv_e 773 (.aload_n 0) 774 0 0, mv_e 774 (.iload_n 3) 775 3 0, mv_ev 775 (.iconst 1) 776 (1) 0, mv_e 776 (.iadd) 777 0 0, mv_e 777 (.iaload) 778 1 0, mv_e 778 (.aload_n 0) 779 0 0, mv_e 779 (.iload_n 3) 780 3 0, mv_ev 780 (.iconst 2) 781 (2) 0, mv_e 781 (.iadd) 782 0 0, mv_e 782 (.iaload) 783 1 0, mv_e 783 (.aload_n 0) 784 0 0, mv_e 784 (.iload_n 3) 785 3 0, mv_ev 785 (.iconst 3) 786 (3) 0, mv_e 786 (.iadd) 787 0 0, mv_e 787 (.iaload) 788 1 0, mv_e 788 (.aload_n 0) 789 0 0, mv_e 789 (.iload_n 3) 790 3 0, mv_ev 790 (.iconst 4) 791 (4) 0, mv_e 791 (.iadd) 792 0 0, mv_e 792 (.iaload) 793 1 0, mv_e 793 (.invokevirtual 101) 796 134 5, mv_e 796 (.if_icmp .eq 315) 799 1111 0, mv_ev 799 (.iconst 0) 800 (0) 0, mv_e 800 (.ireturn) 801 0 1, mv_e 801 (.aload_n 1) 802 1 0, mv_e 802 (.invokevirtual 102) 805 79 1, mv_e 805 (.aload_n 2) 806 2 0, mv_e 806 (.invokevirtual 105) 809 143 1, mv_e 809 (.if_icmp .eq 302) 812 1111 0, mv_ev 812 (.iconst 0) 813 (0) 0, mv_e 813 (.ireturn) 814 0 1, mv_e 814 (.aload_n 1) 815 1 0, mv_e 815 (.invokevirtual 106) 818 82 1, mv_e 818 (.aload_n 2) 819 2 0, mv_e 819 (.invokevirtual 109) 822 145 1]
def mv_t_L_law_11 : List mv_E := [mv_e 822 (.if_icmp .eq 289) 825 1111 0, mv_ev 825 (.iconst 0) 826 (0) 0, mv_e 826 (.ireturn) 827 0 1, mv_e 827 (.aload_n 1) 828 1 0, mv_e 828 (.aload_n 0) 829 0 0, mv_e 829 (.iload_n 3) 830 3 0, mv_ev 830 (.iconst 1) 831 (1) 0, mv_e 831 (.iadd) 832 0 0, mv_e 832 (.iaload) 833 1 0, mv_e 833 (.aload_n 0) 834 0 0, mv_e 834 (.iload_n 3) 835 3 0, mv_ev 835 (.iconst 2) 836 (2) 0, mv_e 836 (.iadd) 837 0 0, mv_e 837 (.iaload) 838 1 0, mv_e 838 (.aload_n 0) 839 0 0, mv_e 839 (.iload_n 3) 840 3 0, mv_ev 840 (.iconst 3) 841 (3) 0, mv_e 841 (.iadd) 842 0 0, mv_e 842 (.iaload) 843 1 0, mv_e 843 (.ifCond .eq 7) 846 850 0, mv_ev 846 (.iconst 1) 847 (1) 0, mv_e 847 (.goto 4) 850 851 0, mv_ev 850 (.iconst 0) 851 (0) 0, mv_e 851 (.invokevirtual 110) 854 75 4, mv_e 854 (.aload_n 2) 855 2 0, mv_e 855 (.aload_n 0) 856 0 0, mv_e 856 (.iload_n 3) 857 3 0, mv_ev 857 (.iconst 1) 858 (1) 0, mv_e 858 (.iadd) 859 0 0, mv_e 859 (.iaload) 860 1 0, mv_e 860 (.aload_n 0) 861 0 0, mv_e 861 (.iload_n 3) 862 3 0, mv_ev 862 (.iconst 2) 863 (2) 0, mv_e 863 (.iadd) 864 0 0, mv_e 864 (.iaload) 865 1 0, mv_e 865 (.aload_n 0) 866 0 0, mv_e 866 (.iload_n 3) 867 3 0, mv_ev 867 (.iconst 3) 868 (3) 0, mv_e 868 (.iadd) 869 0 0, mv_e 869 (.iaload) 870 1 0, mv_e 870 (.ifCond .eq 7) 873 877 0, mv_ev 873 (.iconst 1) 874 (1) 0, mv_e 874 (.goto 4) 877 878 0, mv_ev 877 (.iconst 0) 878 (0) 0, mv_e 878 (.invokevirtual 114) 881 138 4, mv_e 881 (.if_icmp .eq 230) 884 1111 0, mv_ev 884 (.iconst 0) 885 (0) 0, mv_e 885 (.ireturn) 886 0 1]
def mv_t_L_law_12 : List mv_E := [mv_e 886 (.aload_n 1) 887 1 0, mv_e 887 (.aload_n 0) 888 0 0, mv_e 888 (.iload_n 3) 889 3 0, mv_ev 889 (.iconst 1) 890 (1) 0, mv_e 890 (.iadd) 891 0 0, mv_e 891 (.iaload) 892 1 0, mv_e 892 (.aload_n 0) 893 0 0, mv_e 893 (.iload_n 3) 894 3 0, mv_ev 894 (.iconst 2) 895 (2) 0, mv_e 895 (.iadd) 896 0 0, mv_e 896 (.iaload) 897 1 0, mv_e 897 (.aload_n 0) 898 0 0, mv_e 898 (.iload_n 3) 899 3 0, mv_ev 899 (.iconst 3) 900 (3) 0, mv_e 900 (.iadd) 901 0 0, mv_e 901 (.iaload) 902 1 0, mv_e 902 (.aload_n 0) 903 0 0, mv_e 903 (.iload_n 3) 904 3 0, mv_ev 904 (.iconst 4) 905 (4) 0, mv_e 905 (.iadd) 906 0 0, mv_e 906 (.iaload) 907 1 0, mv_e 907 (.aload_n 0) 908 0 0, mv_e 908 (.iload_n 3) 909 3 0, mv_ev 909 (.iconst 5) 910 (5) 0, mv_e 910 (.iadd) 911 0 0, mv_e 911 (.iaload) 912 1 0, mv_e 912 (.ifCond .eq 7) 915 919 0, mv_ev 915 (.iconst 1) 916 (1) 0, mv_e 916 (.goto 4) 919 920 0, mv_ev 919 (.iconst 0) 920 (0) 0, mv_e 920 (.invokevirtual 115) 923 66 6, mv_e 923 (.aload_n 2) 924 2 0, mv_e 924 (.aload_n 0) 925 0 0, mv_e 925 (.iload_n 3) 926 3 0, mv_ev 926 (.iconst 1) 927 (1) 0, mv_e 927 (.iadd) 928 0 0, mv_e 928 (.iaload) 929 1 0, mv_e 929 (.aload_n 0) 930 0 0, mv_e 930 (.iload_n 3) 931 3 0, mv_ev 931 (.iconst 2) 932 (2) 0, mv_e 932 (.iadd) 933 0 0, mv_e 933 (.iaload) 934 1 0, mv_e 934 (.aload_n 0) 935 0 0, mv_e 935 (.iload_n 3) 936 3 0, mv_ev 936 (.iconst 3) 937 (3) 0, mv_e 937 (.iadd) 938 0 0, mv_e 938 (.iaload) 939 1 0, mv_e 939 (.aload_n 0) 940 0 0]
def mv_t_L_law_13 : List mv_E := [mv_e 940 (.iload_n 3) 941 3 0, mv_ev 941 (.iconst 4) 942 (4) 0, mv_e 942 (.iadd) 943 0 0, mv_e 943 (.iaload) 944 1 0, mv_e 944 (.aload_n 0) 945 0 0, mv_e 945 (.iload_n 3) 946 3 0, mv_ev 946 (.iconst 5) 947 (5) 0, mv_e 947 (.iadd) 948 0 0, mv_e 948 (.iaload) 949 1 0, mv_e 949 (.ifCond .eq 7) 952 956 0, mv_ev 952 (.iconst 1) 953 (1) 0, mv_e 953 (.goto 4) 956 957 0, mv_ev 956 (.iconst 0) 957 (0) 0, mv_e 957 (.invokevirtual 119) 960 120 6, mv_e 960 (.if_icmp .eq 151) 963 1111 0, mv_ev 963 (.iconst 0) 964 (0) 0, mv_e 964 (.ireturn) 965 0 1, mv_e 965 (.aload_n 1) 966 1 0, mv_e 966 (.aload_n 0) 967 0 0, mv_e 967 (.iload_n 3) 968 3 0, mv_ev 968 (.iconst 1) 969 (1) 0, mv_e 969 (.iadd) 970 0 0, mv_e 970 (.iaload) 971 1 0, mv_e 971 (.i2l) 972 0 0, mv_ev 972 (.bipush 32) 974 (32) 0, mv_e 974 (.lshl) 975 0 0, mv_e 975 (.aload_n 0) 976 0 0, mv_e 976 (.iload_n 3) 977 3 0, mv_ev 977 (.iconst 2) 978 (2) 0, mv_e 978 (.iadd) 979 0 0, mv_e 979 (.iaload) 980 1 0, mv_e 980 (.i2l) 981 0 0, mv_ew 981 (.ldc2_w 91) 984 (4294967295), mv_e 984 (.land) 985 0 0, mv_e 985 (.lor) 986 0 0, mv_e 986 (.invokevirtual 120) 989 72 2, mv_e 989 (.aload_n 2) 990 2 0, mv_e 990 (.aload_n 0) 991 0 0, mv_e 991 (.iload_n 3) 992 3 0, mv_ev 992 (.iconst 1) 993 (1) 0, mv_e 993 (.iadd) 994 0 0, mv_e 994 (.iaload) 995 1 0, mv_e 995 (.i2l) 996 0 0, mv_ev 996 (.bipush 32) 998 (32) 0, mv_e 998 (.lshl) 999 0 0, mv_e 999 (.aload_n 0) 1000 0 0, mv_e 1000 (.iload_n 3) 1001 3 0, mv_ev 1001 (.iconst 2) 1002 (2) 0]
def mv_t_L_law_14 : List mv_E := [mv_e 1002 (.iadd) 1003 0 0, mv_e 1003 (.iaload) 1004 1 0, mv_e 1004 (.i2l) 1005 0 0, mv_ew 1005 (.ldc2_w 91) 1008 (4294967295), mv_e 1008 (.land) 1009 0 0, mv_e 1009 (.lor) 1010 0 0, mv_e 1010 (.invokevirtual 124) 1013 135 2, mv_e 1013 (.lcmp) 1014 0 0, mv_e 1014 (.ifCond .eq 97) 1017 1111 0, mv_ev 1017 (.iconst 0) 1018 (0) 0, mv_e 1018 (.ireturn) 1019 0 1, mv_e 1019 (.aload_n 1) 1020 1 0, mv_e 1020 (.aload_n 0) 1021 0 0, mv_e 1021 (.iload_n 3) 1022 3 0, mv_ev 1022 (.iconst 1) 1023 (1) 0, mv_e 1023 (.iadd) 1024 0 0, mv_e 1024 (.iaload) 1025 1 0, mv_e 1025 (.invokevirtual 125) 1028 56 2, mv_e 1028 (.aload_n 2) 1029 2 0, mv_e 1029 (.aload_n 0) 1030 0 0, mv_e 1030 (.iload_n 3) 1031 3 0, mv_ev 1031 (.iconst 1) 1032 (1) 0, mv_e 1032 (.iadd) 1033 0 0, mv_e 1033 (.iaload) 1034 1 0, mv_e 1034 (.invokevirtual 128) 1037 100 2, mv_e 1037 (.if_icmp .eq 74) 1040 1111 0, mv_ev 1040 (.iconst 0) 1041 (0) 0, mv_e 1041 (.ireturn) 1042 0 1, mv_e 1042 (.aload_n 1) 1043 1 0, mv_e 1043 (.aload_n 0) 1044 0 0, mv_e 1044 (.iload_n 3) 1045 3 0, mv_ev 1045 (.iconst 1) 1046 (1) 0, mv_e 1046 (.iadd) 1047 0 0, mv_e 1047 (.iaload) 1048 1 0, mv_e 1048 (.invokevirtual 129) 1051 63 2, mv_e 1051 (.aload_n 2) 1052 2 0, mv_e 1052 (.aload_n 0) 1053 0 0, mv_e 1053 (.iload_n 3) 1054 3 0, mv_ev 1054 (.iconst 1) 1055 (1) 0, mv_e 1055 (.iadd) 1056 0 0, mv_e 1056 (.iaload) 1057 1 0, mv_e 1057 (.invokevirtual 132) 1060 113 2, mv_e 1060 (.if_icmp .eq 51) 1063 1111 0, mv_ev 1063 (.iconst 0) 1064 (0) 0, mv_e 1064 (.ireturn) 1065 0 1, mv_e 1065 (.aload_n 1) 1066 1 0, mv_e 1066 (.aload_n 0) 1067 0 0, mv_e 1067 (.iload_n 3) 1068 3 0]
def mv_t_L_law_15 : List mv_E := [mv_ev 1068 (.iconst 1) 1069 (1) 0, mv_e 1069 (.iadd) 1070 0 0, mv_e 1070 (.iaload) 1071 1 0, mv_e 1071 (.invokevirtual 133) 1074 46 2, mv_e 1074 (.aload_n 2) 1075 2 0, mv_e 1075 (.aload_n 0) 1076 0 0, mv_e 1076 (.iload_n 3) 1077 3 0, mv_ev 1077 (.iconst 1) 1078 (1) 0, mv_e 1078 (.iadd) 1079 0 0, mv_e 1079 (.iaload) 1080 1 0, mv_e 1080 (.invokevirtual 136) 1083 88 2, mv_e 1083 (.if_icmp .eq 28) 1086 1111 0, mv_ev 1086 (.iconst 0) 1087 (0) 0, mv_e 1087 (.ireturn) 1088 0 1, mv_e 1088 (.aload_n 1) 1089 1 0, mv_e 1089 (.aload_n 0) 1090 0 0, mv_e 1090 (.iload_n 3) 1091 3 0, mv_ev 1091 (.iconst 1) 1092 (1) 0, mv_e 1092 (.iadd) 1093 0 0, mv_e 1093 (.iaload) 1094 1 0, mv_e 1094 (.invokevirtual 137) 1097 54 2, mv_e 1097 (.aload_n 2) 1098 2 0, mv_e 1098 (.aload_n 0) 1099 0 0, mv_e 1099 (.iload_n 3) 1100 3 0, mv_ev 1100 (.iconst 1) 1101 (1) 0, mv_e 1101 (.iadd) 1102 0 0, mv_e 1102 (.iaload) 1103 1 0, mv_e 1103 (.invokevirtual 140) 1106 97 2, mv_e 1106 (.if_icmp .eq 5) 1109 1111 0, mv_ev 1109 (.iconst 0) 1110 (0) 0, mv_e 1110 (.ireturn) 1111 0 1, mv_ev 1111 (.iinc 3 6) 1114 (6) 3, mv_e 1114 (.goto (-1096)) 1117 18 0, mv_ev 1117 (.iconst 1) 1118 (1) 0, mv_e 1118 (.ireturn) 1119 0 1]
def mv_t_L_law : List mv_E := mv_t_L_law_0 ++ (mv_t_L_law_1 ++ (mv_t_L_law_2 ++ (mv_t_L_law_3 ++ (mv_t_L_law_4 ++ (mv_t_L_law_5 ++ (mv_t_L_law_6 ++ (mv_t_L_law_7 ++ (mv_t_L_law_8 ++ (mv_t_L_law_9 ++ (mv_t_L_law_10 ++ (mv_t_L_law_11 ++ (mv_t_L_law_12 ++ (mv_t_L_law_13 ++ (mv_t_L_law_14 ++ (mv_t_L_law_15)))))))))))))))
theorem mv_k_L_law_0 : mv_t_L_law_0.all (mv_ok (mv_m 152)) = true := by decide +kernel
theorem mv_k_L_law_1 : mv_t_L_law_1.all (mv_ok (mv_m 152)) = true := by decide +kernel
theorem mv_k_L_law_2 : mv_t_L_law_2.all (mv_ok (mv_m 152)) = true := by decide +kernel
theorem mv_k_L_law_3 : mv_t_L_law_3.all (mv_ok (mv_m 152)) = true := by decide +kernel
theorem mv_k_L_law_4 : mv_t_L_law_4.all (mv_ok (mv_m 152)) = true := by decide +kernel
theorem mv_k_L_law_5 : mv_t_L_law_5.all (mv_ok (mv_m 152)) = true := by decide +kernel
theorem mv_k_L_law_6 : mv_t_L_law_6.all (mv_ok (mv_m 152)) = true := by decide +kernel
theorem mv_k_L_law_7 : mv_t_L_law_7.all (mv_ok (mv_m 152)) = true := by decide +kernel
theorem mv_k_L_law_8 : mv_t_L_law_8.all (mv_ok (mv_m 152)) = true := by decide +kernel
theorem mv_k_L_law_9 : mv_t_L_law_9.all (mv_ok (mv_m 152)) = true := by decide +kernel
theorem mv_k_L_law_10 : mv_t_L_law_10.all (mv_ok (mv_m 152)) = true := by decide +kernel
theorem mv_k_L_law_11 : mv_t_L_law_11.all (mv_ok (mv_m 152)) = true := by decide +kernel
theorem mv_k_L_law_12 : mv_t_L_law_12.all (mv_ok (mv_m 152)) = true := by decide +kernel
theorem mv_k_L_law_13 : mv_t_L_law_13.all (mv_ok (mv_m 152)) = true := by decide +kernel
theorem mv_k_L_law_14 : mv_t_L_law_14.all (mv_ok (mv_m 152)) = true := by decide +kernel
theorem mv_k_L_law_15 : mv_t_L_law_15.all (mv_ok (mv_m 152)) = true := by decide +kernel
theorem mv_kapp {M : mv_M} {a b : List mv_E} (ha : a.all (mv_ok M) = true) (hb : b.all (mv_ok M) = true) : (a ++ b).all (mv_ok M) = true := by rw [List.all_append, ha, hb]; rfl
theorem mv_k_L_law : mv_t_L_law.all (mv_ok (mv_m 152)) = true := mv_kapp mv_k_L_law_0 (mv_kapp mv_k_L_law_1 (mv_kapp mv_k_L_law_2 (mv_kapp mv_k_L_law_3 (mv_kapp mv_k_L_law_4 (mv_kapp mv_k_L_law_5 (mv_kapp mv_k_L_law_6 (mv_kapp mv_k_L_law_7 (mv_kapp mv_k_L_law_8 (mv_kapp mv_k_L_law_9 (mv_kapp mv_k_L_law_10 (mv_kapp mv_k_L_law_11 (mv_kapp mv_k_L_law_12 (mv_kapp mv_k_L_law_13 (mv_kapp mv_k_L_law_14 (mv_k_L_law_15)))))))))))))))
end
section
/-! The words that the instructions need, by their places in lw_tbl. -/
def mv_T : List Cond := lw_tbl.filter goodWord
theorem mv_T_good : GoodIn mv_T mv_T := fun w h => ⟨h, good_of_word (List.mem_filter.mp h).2⟩
def mv_ck {α : Type} (f : α → List Cond) (q : α × List Nat) : Bool := decide (f q.1 = q.2.filterMap (fun i => lw_tbl[i]?)) && (f q.1).all goodWord
theorem mv_ck_ok {α : Type} {f : α → List Cond} {l : List (α × List Nat)} (h : l.all (mv_ck f) = true) : ∀ q ∈ l.map Prod.fst, ∀ w ∈ f q, w ∈ mv_T := by
  intro q hq w hw
  obtain ⟨⟨q', ps⟩, h1, rfl⟩ := List.mem_map.mp hq
  have h2 := List.all_eq_true.mp h _ h1
  simp only [mv_ck, Bool.and_eq_true, decide_eq_true_eq] at h2
  refine List.mem_filter.mpr ⟨?_, List.all_eq_true.mp h2.2 w hw⟩
  have hw2 : w ∈ f q' := hw
  rw [h2.1] at hw2
  obtain ⟨i, -, hi⟩ := List.mem_filterMap.mp hw2
  exact List.mem_of_getElem? hi
def mv_fTs : List u_T := [TX0, TX1, TX2, TX3, TX4, TX5, TX6, TX7]
def mv_fT (c : Nat) : u_T := mv_fTs.getD c TX0
theorem mv_kap {α : Type} {p : α → Bool} {a b : List α} (ha : a.all p = true) (hb : b.all p = true) : (a ++ b).all p = true := by rw [List.all_append, ha, hb]; rfl
def mv_wV (q : Nat × Nat × Nat) : List Cond := [.methodLink (mv_cn q.1) q.2.1 (mv_m q.2.2).1, .instanceMethod (mv_m q.2.2).1, .selects (mv_m q.2.2).1.cls (mv_m q.2.2).1 (mv_m q.2.2).1, .initialized (mv_m q.2.2).1.cls]
def mv_qV_0 : List ((Nat × Nat × Nat) × List Nat) := [((0, 23, 26), [355, 356, 357, 29]), ((1, 67, 22), [329, 330, 331, 30]), ((1, 71, 15), [325, 326, 327, 30]), ((1, 80, 21), [376, 377, 378, 30]), ((1, 84, 4), [380, 381, 382, 30]), ((1, 87, 9), [385, 386, 387, 30]), ((1, 93, 5), [448, 370, 371, 30]), ((1, 100, 19), [346, 338, 339, 30]), ((1, 104, 14), [321, 322, 323, 30]), ((2, 25, 12), [359, 360, 361, 30]), ((2, 39, 28), [509, 510, 511, 29]), ((2, 43, 25), [513, 313, 314, 29]), ((3, 31, 35), [476, 477, 478, 32]), ((3, 35, 33), [482, 483, 484, 32]), ((5, 32, 44), [288, 289, 290, 28]), ((5, 37, 39), [292, 293, 294, 28]), ((5, 58, 45), [296, 297, 298, 28]), ((5, 68, 10), [300, 301, 302, 30]), ((6, 74, 38), [260, 261, 262, 28]), ((6, 81, 40), [272, 273, 274, 28]), ((6, 85, 43), [284, 285, 286, 28]), ((6, 89, 0), [304, 305, 306, 31]), ((6, 93, 25), [312, 313, 314, 29]), ((6, 97, 18), [317, 318, 319, 30]), ((6, 101, 19), [337, 338, 339, 30]), ((6, 104, 23), [342, 343, 344, 30]), ((6, 107, 2), [351, 352, 353, 31]), ((6, 110, 5), [369, 370, 371, 30]), ((6, 113, 7), [393, 394, 395, 30]), ((6, 125, 13), [401, 402, 403, 30])]
theorem mv_qV_k0 : mv_qV_0.all (mv_ck mv_wV) = true := by decide +kernel
def mv_qV_1 : List ((Nat × Nat × Nat) × List Nat) := [((6, 132, 17), [412, 413, 414, 30]), ((6, 135, 11), [416, 417, 418, 30]), ((6, 147, 3), [435, 436, 437, 31]), ((6, 150, 12), [443, 360, 361, 30]), ((6, 154, 6), [444, 445, 446, 30]), ((6, 157, 59), [453, 455, 0, 27]), ((6, 171, 36), [467, 468, 469, 32]), ((6, 186, 20), [497, 498, 499, 30]), ((6, 190, 29), [505, 506, 507, 29]), ((6, 197, 26), [523, 356, 357, 29]), ((6, 201, 76), [524, 526, 1, 27]), ((6, 207, 14), [528, 322, 323, 30]), ((6, 223, 48), [541, 543, 2, 27]), ((6, 226, 47), [545, 547, 3, 27]), ((6, 233, 30), [553, 554, 555, 29]), ((6, 245, 50), [570, 572, 4, 27]), ((6, 257, 24), [591, 592, 593, 29]), ((7, 85, 104), [716, 718, 8, 34]), ((7, 92, 141), [712, 714, 7, 34]), ((7, 96, 130), [708, 710, 6, 34]), ((7, 100, 131), [704, 706, 5, 34]), ((7, 107, 105), [741, 743, 12, 34]), ((7, 110, 101), [737, 739, 11, 34]), ((7, 117, 121), [765, 767, 15, 34]), ((7, 124, 123), [728, 730, 9, 34]), ((7, 130, 140), [733, 735, 10, 34]), ((7, 136, 124), [754, 756, 13, 34]), ((7, 139, 98), [758, 760, 14, 34]), ((7, 154, 115), [802, 804, 16, 34]), ((7, 157, 133), [810, 812, 17, 34])]
theorem mv_qV_k1 : mv_qV_1.all (mv_ck mv_wV) = true := by decide +kernel
def mv_qV_2 : List ((Nat × Nat × Nat) × List Nat) := [((7, 167, 91), [825, 827, 18, 34]), ((7, 170, 93), [842, 844, 21, 34]), ((7, 180, 114), [833, 835, 19, 34]), ((7, 183, 95), [838, 840, 20, 34]), ((7, 191, 122), [857, 859, 22, 34]), ((7, 200, 99), [869, 871, 23, 34]), ((7, 207, 111), [885, 887, 24, 34]), ((7, 236, 90), [925, 927, 25, 34]), ((8, 13, 87), [253, 254, 255, 27]), ((8, 17, 148), [688, 689, 690, 34]), ((8, 18, 83), [264, 265, 266, 27]), ((8, 22, 146), [696, 697, 698, 34]), ((8, 23, 58), [268, 269, 270, 27]), ((8, 26, 103), [700, 701, 702, 34]), ((8, 27, 80), [280, 281, 282, 27]), ((8, 30, 144), [720, 721, 722, 34]), ((8, 31, 73), [308, 309, 310, 27]), ((8, 35, 136), [724, 725, 726, 34]), ((8, 36, 68), [333, 334, 335, 27]), ((8, 39, 127), [745, 746, 747, 34]), ((8, 40, 77), [347, 348, 349, 27]), ((8, 43, 139), [749, 750, 751, 34]), ((8, 44, 60), [389, 390, 391, 27]), ((8, 47, 107), [772, 773, 774, 34]), ((8, 48, 52), [397, 398, 399, 27]), ((8, 51, 94), [776, 777, 778, 34]), ((8, 52, 74), [405, 406, 407, 27]), ((8, 56, 137), [780, 781, 782, 34]), ((8, 57, 51), [420, 421, 422, 27]), ((8, 60, 92), [787, 788, 789, 34])]
theorem mv_qV_k2 : mv_qV_2.all (mv_ck mv_wV) = true := by decide +kernel
def mv_qV_3 : List ((Nat × Nat × Nat) × List Nat) := [((8, 61, 78), [431, 432, 433, 27]), ((8, 64, 142), [792, 793, 794, 34]), ((8, 65, 49), [439, 440, 441, 27]), ((8, 69, 89), [796, 797, 798, 34]), ((8, 70, 70), [449, 450, 451, 27]), ((8, 73, 132), [806, 807, 808, 34]), ((8, 74, 64), [457, 458, 459, 27]), ((8, 77, 116), [814, 815, 816, 34]), ((8, 78, 65), [461, 462, 463, 27]), ((8, 82, 117), [819, 820, 821, 34]), ((8, 83, 86), [493, 494, 495, 27]), ((8, 86, 147), [849, 850, 851, 34]), ((8, 87, 69), [501, 502, 503, 27]), ((8, 90, 129), [853, 854, 855, 34]), ((8, 93, 62), [515, 516, 517, 27]), ((8, 97, 112), [861, 862, 863, 34]), ((8, 98, 71), [529, 530, 531, 27]), ((8, 101, 134), [873, 874, 875, 34]), ((8, 102, 79), [533, 534, 535, 27]), ((8, 105, 143), [877, 878, 879, 34]), ((8, 106, 82), [537, 538, 539, 27]), ((8, 109, 145), [881, 882, 883, 34]), ((8, 110, 75), [549, 550, 551, 27]), ((8, 114, 138), [889, 890, 891, 34]), ((8, 115, 66), [566, 567, 568, 27]), ((8, 119, 120), [905, 906, 907, 34]), ((8, 120, 72), [577, 578, 579, 27]), ((8, 124, 135), [910, 911, 912, 34]), ((8, 125, 56), [581, 582, 583, 27]), ((8, 128, 100), [914, 915, 916, 34])]
theorem mv_qV_k3 : mv_qV_3.all (mv_ck mv_wV) = true := by decide +kernel
def mv_qV_4 : List ((Nat × Nat × Nat) × List Nat) := [((8, 129, 63), [587, 588, 589, 27]), ((8, 132, 113), [921, 922, 923, 34]), ((8, 133, 46), [595, 596, 597, 27]), ((8, 136, 88), [929, 930, 931, 34]), ((8, 137, 54), [599, 600, 601, 27]), ((8, 140, 97), [933, 934, 935, 34])]
theorem mv_qV_k4 : mv_qV_4.all (mv_ck mv_wV) = true := by decide +kernel
theorem mv_qV_ok : ∀ q ∈ (mv_qV_0 ++ (mv_qV_1 ++ (mv_qV_2 ++ (mv_qV_3 ++ (mv_qV_4))))).map Prod.fst, ∀ w ∈ mv_wV q, w ∈ mv_T := mv_ck_ok (mv_kap mv_qV_k0 (mv_kap mv_qV_k1 (mv_kap mv_qV_k2 (mv_kap mv_qV_k3 (mv_qV_k4)))))
theorem mv_pV_eq : mv_pV = (mv_qV_0 ++ (mv_qV_1 ++ (mv_qV_2 ++ (mv_qV_3 ++ (mv_qV_4))))).map Prod.fst := by decide +kernel
def mv_wS (q : Nat × Nat × Nat × Nat) : List Cond := (if q.2.2.2 = 0 then [.methodLink (mv_cn q.1) q.2.1 (mv_m q.2.2.1).1] else []) ++ [.static (mv_m q.2.2.1).1, .initialized (mv_m q.2.2.1).1.cls]
def mv_qS_0 : List ((Nat × Nat × Nat × Nat) × List Nat) := [((0, 27, 151, 0), [366, 367, 36]), ((1, 74, 150, 0), [373, 374, 36]), ((1, 90, 151, 0), [384, 367, 36]), ((1, 96, 84, 1), [258, 27]), ((2, 29, 84, 1), [258, 27]), ((2, 50, 150, 0), [514, 374, 36]), ((3, 23, 84, 1), [258, 27]), ((3, 27, 32, 0), [472, 473, 32]), ((3, 39, 31, 0), [475, 429, 32]), ((3, 45, 150, 0), [481, 374, 36]), ((5, 19, 41, 0), [276, 277, 28]), ((5, 23, 84, 1), [258, 27]), ((6, 70, 84, 0), [257, 258, 27]), ((6, 128, 8, 0), [409, 410, 30]), ((6, 140, 55, 0), [425, 426, 27]), ((6, 182, 67, 0), [487, 488, 27]), ((6, 193, 85, 0), [519, 520, 27]), ((6, 236, 149, 0), [557, 558, 37]), ((6, 241, 57, 0), [563, 564, 27]), ((6, 249, 81, 0), [574, 575, 27]), ((6, 260, 31, 0), [428, 429, 32]), ((6, 263, 53, 0), [490, 491, 27]), ((7, 73, 109, 0), [693, 694, 34]), ((7, 114, 126, 0), [762, 763, 34]), ((7, 121, 96, 0), [769, 770, 34]), ((7, 162, 128, 0), [829, 830, 34]), ((7, 187, 118, 0), [846, 847, 34]), ((7, 196, 119, 0), [866, 867, 34]), ((7, 211, 108, 0), [893, 894, 34]), ((7, 214, 125, 0), [896, 897, 34])]
theorem mv_qS_k0 : mv_qS_0.all (mv_ck mv_wS) = true := by decide +kernel
def mv_qS_1 : List ((Nat × Nat × Nat × Nat) × List Nat) := [((7, 217, 102, 0), [899, 900, 34]), ((7, 220, 106, 0), [902, 903, 34])]
theorem mv_qS_k1 : mv_qS_1.all (mv_ck mv_wS) = true := by decide +kernel
theorem mv_qS_ok : ∀ q ∈ (mv_qS_0 ++ (mv_qS_1)).map Prod.fst, ∀ w ∈ mv_wS q, w ∈ mv_T := mv_ck_ok (mv_kap mv_qS_k0 (mv_qS_k1))
theorem mv_pS_eq : mv_pS = (mv_qS_0 ++ (mv_qS_1)).map Prod.fst := by decide +kernel
def mv_wF (q : Nat × Nat × Nat × Nat) : List Cond := [.fieldLink (mv_cn q.1) q.2.1 ((mv_fT q.2.2.1) q.2.2.2).1 ((mv_fT q.2.2.1) q.2.2.2).2.1 ((mv_fT q.2.2.1) q.2.2.2).2.2.1]
def mv_qF_0 : List ((Nat × Nat × Nat × Nat) × List Nat) := [((0, 11, 0, 0), [164]), ((0, 15, 0, 1), [165]), ((0, 19, 0, 2), [166]), ((1, 11, 1, 5), [87]), ((1, 15, 1, 14), [106]), ((1, 18, 1, 7), [91]), ((1, 22, 1, 8), [93]), ((1, 25, 1, 9), [96]), ((1, 28, 1, 10), [99]), ((1, 31, 1, 11), [102]), ((1, 34, 1, 12), [104]), ((1, 37, 1, 0), [74]), ((1, 40, 1, 13), [105]), ((1, 43, 1, 15), [107]), ((1, 46, 1, 1), [76]), ((1, 49, 1, 2), [79]), ((1, 52, 1, 3), [83]), ((1, 55, 1, 4), [85]), ((1, 64, 1, 6), [89]), ((2, 11, 2, 0), [141]), ((2, 17, 2, 1), [143]), ((2, 21, 2, 2), [146]), ((2, 33, 1, 10), [100]), ((2, 36, 1, 8), [94]), ((2, 47, 1, 9), [97]), ((2, 56, 1, 2), [81]), ((3, 13, 3, 0), [187]), ((3, 16, 3, 1), [188]), ((3, 20, 3, 2), [190]), ((5, 11, 5, 0), [52]), ((5, 15, 5, 1), [53]), ((5, 26, 2, 0), [142]), ((5, 36, 2, 1), [144]), ((5, 41, 1, 0), [75]), ((5, 46, 1, 1), [77]), ((5, 49, 1, 2), [80]), ((5, 52, 1, 3), [84]), ((5, 55, 1, 4), [86]), ((5, 62, 1, 5), [88]), ((5, 65, 1, 6), [90]), ((6, 10, 6, 0), [219]), ((6, 19, 6, 1), [220]), ((6, 26, 6, 2), [221]), ((6, 30, 6, 3), [222]), ((6, 34, 6, 4), [223]), ((6, 40, 6, 5), [224]), ((6, 44, 6, 6), [225]), ((6, 48, 6, 7), [226]), ((6, 55, 6, 8), [227]), ((6, 59, 6, 9), [228]), ((6, 65, 6, 10), [229]), ((6, 78, 5, 1), [54]), ((6, 92, 2, 1), [145]), ((6, 116, 1, 7), [92]), ((6, 119, 1, 8), [95]), ((6, 122, 1, 9), [98]), ((6, 143, 2, 2), [147]), ((6, 146, 0, 2), [167]), ((6, 163, 1, 2), [82]), ((6, 168, 1, 1), [78])]
theorem mv_qF_k0 : mv_qF_0.all (mv_ck mv_wF) = true := by decide +kernel
def mv_qF_1 : List ((Nat × Nat × Nat × Nat) × List Nat) := [((6, 176, 3, 1), [189]), ((6, 179, 3, 2), [191]), ((6, 204, 1, 11), [103]), ((6, 210, 4, 0), [206]), ((6, 213, 4, 1), [207]), ((6, 216, 4, 2), [208]), ((6, 219, 4, 3), [209]), ((6, 230, 1, 10), [101]), ((7, 7, 7, 1), [610]), ((7, 13, 7, 5), [614]), ((7, 16, 7, 6), [615]), ((7, 19, 7, 7), [616]), ((7, 22, 7, 9), [618]), ((7, 25, 7, 10), [619]), ((7, 28, 7, 11), [620]), ((7, 31, 7, 12), [621]), ((7, 34, 7, 13), [622]), ((7, 37, 7, 14), [623]), ((7, 40, 7, 15), [624]), ((7, 43, 7, 17), [626]), ((7, 46, 7, 18), [627]), ((7, 50, 7, 20), [629]), ((7, 53, 7, 21), [630]), ((7, 56, 7, 22), [631]), ((7, 59, 7, 23), [632]), ((7, 62, 7, 25), [634]), ((7, 66, 7, 0), [609]), ((7, 70, 7, 4), [613]), ((7, 79, 7, 2), [611]), ((7, 82, 7, 3), [612]), ((7, 89, 7, 8), [617]), ((7, 104, 7, 16), [625]), ((7, 204, 7, 19), [628]), ((7, 226, 7, 24), [633])]
theorem mv_qF_k1 : mv_qF_1.all (mv_ck mv_wF) = true := by decide +kernel
theorem mv_qF_ok : ∀ q ∈ (mv_qF_0 ++ (mv_qF_1)).map Prod.fst, ∀ w ∈ mv_wF q, w ∈ mv_T := mv_ck_ok (mv_kap mv_qF_k0 (mv_qF_k1))
theorem mv_pF_eq : mv_pF = (mv_qF_0 ++ (mv_qF_1)).map Prod.fst := by decide +kernel
def mv_wC (q : Nat × Nat × Int32) : List Cond := [.constant (mv_cn q.1) q.2.1 q.2.2]
def mv_qC_0 : List ((Nat × Nat × Int32) × List Nat) := [((6, 139, 99999), [424]), ((9, 265, 1431655765), [560]), ((9, 266, 858993459), [561]), ((9, 267, 252645135), [562])]
theorem mv_qC_k0 : mv_qC_0.all (mv_ck mv_wC) = true := by decide +kernel
theorem mv_qC_ok : ∀ q ∈ (mv_qC_0).map Prod.fst, ∀ w ∈ mv_wC q, w ∈ mv_T := mv_ck_ok (mv_qC_k0)
theorem mv_pC_eq : mv_pC = (mv_qC_0).map Prod.fst := by decide +kernel
def mv_wL (q : Nat × Nat × Int64) : List Cond := [.constantLong (mv_cn q.1) q.2.1 q.2.2]
def mv_qL_0 : List ((Nat × Nat × Int64) × List Nat) := [((3, 43, 10), [480]), ((6, 161, -1), [465]), ((6, 166, -3), [466]), ((6, 174, -9), [486]), ((6, 199, 10000), [522]), ((6, 253, 6364136223846793005), [585]), ((6, 255, 1442695040888963407), [586]), ((7, 77, 255), [692]), ((7, 128, 13), [732]), ((7, 134, 99), [753]), ((7, 142, 3), [784]), ((7, 144, 9), [785]), ((7, 146, 4), [786]), ((7, 148, 99999), [791]), ((7, 150, 60), [800]), ((7, 152, 5), [801]), ((7, 160, 30), [818]), ((7, 165, 10), [837]), ((7, 174, -1), [823]), ((7, 176, -3), [824]), ((7, 178, -9), [832]), ((7, 194, 10000), [865]), ((7, 224, 6), [909]), ((7, 230, 20), [918]), ((7, 232, 6364136223846793005), [919]), ((7, 234, 1442695040888963407), [920]), ((8, 91, 4294967295), [937])]
theorem mv_qL_k0 : mv_qL_0.all (mv_ck mv_wL) = true := by decide +kernel
theorem mv_qL_ok : ∀ q ∈ (mv_qL_0).map Prod.fst, ∀ w ∈ mv_wL q, w ∈ mv_T := mv_ck_ok (mv_qL_k0)
theorem mv_pL_eq : mv_pL = (mv_qL_0).map Prod.fst := by decide +kernel
def mv_cW (k : Nat) : Cond := .code (mv_m k).1 (mv_m k).2.1 (mv_m k).2.2.1 (mv_m k).2.2.2.1
theorem mv_cW_in {k i : Nat} (h : lw_tbl[i]? = some (mv_cW k)) (hg : goodWord (mv_cW k) = true) : mv_cW k ∈ mv_T := List.mem_filter.mpr ⟨List.mem_of_getElem? h, hg⟩
set_option maxRecDepth 20000 in
theorem mv_cW_0 : mv_cW 0 ∈ mv_T := mv_cW_in (i := 307) rfl rfl
set_option maxRecDepth 20000 in
theorem mv_cW_2 : mv_cW 2 ∈ mv_T := mv_cW_in (i := 354) rfl rfl
set_option maxRecDepth 20000 in
theorem mv_cW_3 : mv_cW 3 ∈ mv_T := mv_cW_in (i := 438) rfl rfl
set_option maxRecDepth 20000 in
theorem mv_cW_4 : mv_cW 4 ∈ mv_T := mv_cW_in (i := 383) rfl rfl
set_option maxRecDepth 20000 in
theorem mv_cW_5 : mv_cW 5 ∈ mv_T := mv_cW_in (i := 372) rfl rfl
set_option maxRecDepth 20000 in
theorem mv_cW_6 : mv_cW 6 ∈ mv_T := mv_cW_in (i := 447) rfl rfl
set_option maxRecDepth 20000 in
theorem mv_cW_7 : mv_cW 7 ∈ mv_T := mv_cW_in (i := 396) rfl rfl
set_option maxRecDepth 20000 in
theorem mv_cW_8 : mv_cW 8 ∈ mv_T := mv_cW_in (i := 411) rfl rfl
set_option maxRecDepth 20000 in
theorem mv_cW_9 : mv_cW 9 ∈ mv_T := mv_cW_in (i := 388) rfl rfl
set_option maxRecDepth 20000 in
theorem mv_cW_10 : mv_cW 10 ∈ mv_T := mv_cW_in (i := 303) rfl rfl
set_option maxRecDepth 20000 in
theorem mv_cW_11 : mv_cW 11 ∈ mv_T := mv_cW_in (i := 419) rfl rfl
set_option maxRecDepth 20000 in
theorem mv_cW_12 : mv_cW 12 ∈ mv_T := mv_cW_in (i := 362) rfl rfl
set_option maxRecDepth 20000 in
theorem mv_cW_13 : mv_cW 13 ∈ mv_T := mv_cW_in (i := 404) rfl rfl
set_option maxRecDepth 20000 in
theorem mv_cW_14 : mv_cW 14 ∈ mv_T := mv_cW_in (i := 324) rfl rfl
set_option maxRecDepth 20000 in
theorem mv_cW_15 : mv_cW 15 ∈ mv_T := mv_cW_in (i := 328) rfl rfl
set_option maxRecDepth 20000 in
theorem mv_cW_17 : mv_cW 17 ∈ mv_T := mv_cW_in (i := 415) rfl rfl
set_option maxRecDepth 20000 in
theorem mv_cW_18 : mv_cW 18 ∈ mv_T := mv_cW_in (i := 320) rfl rfl
set_option maxRecDepth 20000 in
theorem mv_cW_19 : mv_cW 19 ∈ mv_T := mv_cW_in (i := 340) rfl rfl
set_option maxRecDepth 20000 in
theorem mv_cW_20 : mv_cW 20 ∈ mv_T := mv_cW_in (i := 500) rfl rfl
set_option maxRecDepth 20000 in
theorem mv_cW_21 : mv_cW 21 ∈ mv_T := mv_cW_in (i := 379) rfl rfl
set_option maxRecDepth 20000 in
theorem mv_cW_22 : mv_cW 22 ∈ mv_T := mv_cW_in (i := 332) rfl rfl
set_option maxRecDepth 20000 in
theorem mv_cW_23 : mv_cW 23 ∈ mv_T := mv_cW_in (i := 345) rfl rfl
set_option maxRecDepth 20000 in
theorem mv_cW_24 : mv_cW 24 ∈ mv_T := mv_cW_in (i := 594) rfl rfl
set_option maxRecDepth 20000 in
theorem mv_cW_25 : mv_cW 25 ∈ mv_T := mv_cW_in (i := 315) rfl rfl
set_option maxRecDepth 20000 in
theorem mv_cW_26 : mv_cW 26 ∈ mv_T := mv_cW_in (i := 358) rfl rfl
set_option maxRecDepth 20000 in
theorem mv_cW_28 : mv_cW 28 ∈ mv_T := mv_cW_in (i := 512) rfl rfl
set_option maxRecDepth 20000 in
theorem mv_cW_29 : mv_cW 29 ∈ mv_T := mv_cW_in (i := 508) rfl rfl
set_option maxRecDepth 20000 in
theorem mv_cW_30 : mv_cW 30 ∈ mv_T := mv_cW_in (i := 556) rfl rfl
set_option maxRecDepth 20000 in
theorem mv_cW_31 : mv_cW 31 ∈ mv_T := mv_cW_in (i := 430) rfl rfl
set_option maxRecDepth 20000 in
theorem mv_cW_32 : mv_cW 32 ∈ mv_T := mv_cW_in (i := 474) rfl rfl
set_option maxRecDepth 20000 in
theorem mv_cW_33 : mv_cW 33 ∈ mv_T := mv_cW_in (i := 485) rfl rfl
set_option maxRecDepth 20000 in
theorem mv_cW_35 : mv_cW 35 ∈ mv_T := mv_cW_in (i := 479) rfl rfl
set_option maxRecDepth 20000 in
theorem mv_cW_36 : mv_cW 36 ∈ mv_T := mv_cW_in (i := 470) rfl rfl
set_option maxRecDepth 20000 in
theorem mv_cW_38 : mv_cW 38 ∈ mv_T := mv_cW_in (i := 263) rfl rfl
set_option maxRecDepth 20000 in
theorem mv_cW_39 : mv_cW 39 ∈ mv_T := mv_cW_in (i := 295) rfl rfl
set_option maxRecDepth 20000 in
theorem mv_cW_40 : mv_cW 40 ∈ mv_T := mv_cW_in (i := 275) rfl rfl
set_option maxRecDepth 20000 in
theorem mv_cW_41 : mv_cW 41 ∈ mv_T := mv_cW_in (i := 278) rfl rfl
set_option maxRecDepth 20000 in
theorem mv_cW_43 : mv_cW 43 ∈ mv_T := mv_cW_in (i := 287) rfl rfl
set_option maxRecDepth 20000 in
theorem mv_cW_44 : mv_cW 44 ∈ mv_T := mv_cW_in (i := 291) rfl rfl
set_option maxRecDepth 20000 in
theorem mv_cW_45 : mv_cW 45 ∈ mv_T := mv_cW_in (i := 299) rfl rfl
set_option maxRecDepth 20000 in
theorem mv_cW_46 : mv_cW 46 ∈ mv_T := mv_cW_in (i := 598) rfl rfl
set_option maxRecDepth 20000 in
theorem mv_cW_47 : mv_cW 47 ∈ mv_T := mv_cW_in (i := 548) rfl rfl
set_option maxRecDepth 20000 in
theorem mv_cW_48 : mv_cW 48 ∈ mv_T := mv_cW_in (i := 544) rfl rfl
set_option maxRecDepth 20000 in
theorem mv_cW_49 : mv_cW 49 ∈ mv_T := mv_cW_in (i := 442) rfl rfl
set_option maxRecDepth 20000 in
theorem mv_cW_50 : mv_cW 50 ∈ mv_T := mv_cW_in (i := 573) rfl rfl
set_option maxRecDepth 20000 in
theorem mv_cW_51 : mv_cW 51 ∈ mv_T := mv_cW_in (i := 423) rfl rfl
set_option maxRecDepth 20000 in
theorem mv_cW_52 : mv_cW 52 ∈ mv_T := mv_cW_in (i := 400) rfl rfl
set_option maxRecDepth 20000 in
theorem mv_cW_53 : mv_cW 53 ∈ mv_T := mv_cW_in (i := 492) rfl rfl
set_option maxRecDepth 20000 in
theorem mv_cW_54 : mv_cW 54 ∈ mv_T := mv_cW_in (i := 602) rfl rfl
set_option maxRecDepth 20000 in
theorem mv_cW_55 : mv_cW 55 ∈ mv_T := mv_cW_in (i := 427) rfl rfl
set_option maxRecDepth 20000 in
theorem mv_cW_56 : mv_cW 56 ∈ mv_T := mv_cW_in (i := 584) rfl rfl
set_option maxRecDepth 20000 in
theorem mv_cW_57 : mv_cW 57 ∈ mv_T := mv_cW_in (i := 565) rfl rfl
set_option maxRecDepth 20000 in
theorem mv_cW_58 : mv_cW 58 ∈ mv_T := mv_cW_in (i := 271) rfl rfl
set_option maxRecDepth 20000 in
theorem mv_cW_59 : mv_cW 59 ∈ mv_T := mv_cW_in (i := 456) rfl rfl
set_option maxRecDepth 20000 in
theorem mv_cW_60 : mv_cW 60 ∈ mv_T := mv_cW_in (i := 392) rfl rfl
set_option maxRecDepth 20000 in
theorem mv_cW_62 : mv_cW 62 ∈ mv_T := mv_cW_in (i := 518) rfl rfl
set_option maxRecDepth 20000 in
theorem mv_cW_63 : mv_cW 63 ∈ mv_T := mv_cW_in (i := 590) rfl rfl
set_option maxRecDepth 20000 in
theorem mv_cW_64 : mv_cW 64 ∈ mv_T := mv_cW_in (i := 460) rfl rfl
set_option maxRecDepth 20000 in
theorem mv_cW_65 : mv_cW 65 ∈ mv_T := mv_cW_in (i := 464) rfl rfl
set_option maxRecDepth 20000 in
theorem mv_cW_66 : mv_cW 66 ∈ mv_T := mv_cW_in (i := 569) rfl rfl
set_option maxRecDepth 20000 in
theorem mv_cW_67 : mv_cW 67 ∈ mv_T := mv_cW_in (i := 489) rfl rfl
set_option maxRecDepth 20000 in
theorem mv_cW_68 : mv_cW 68 ∈ mv_T := mv_cW_in (i := 336) rfl rfl
set_option maxRecDepth 20000 in
theorem mv_cW_69 : mv_cW 69 ∈ mv_T := mv_cW_in (i := 504) rfl rfl
set_option maxRecDepth 20000 in
theorem mv_cW_70 : mv_cW 70 ∈ mv_T := mv_cW_in (i := 452) rfl rfl
set_option maxRecDepth 20000 in
theorem mv_cW_71 : mv_cW 71 ∈ mv_T := mv_cW_in (i := 532) rfl rfl
set_option maxRecDepth 20000 in
theorem mv_cW_72 : mv_cW 72 ∈ mv_T := mv_cW_in (i := 580) rfl rfl
set_option maxRecDepth 20000 in
theorem mv_cW_73 : mv_cW 73 ∈ mv_T := mv_cW_in (i := 311) rfl rfl
set_option maxRecDepth 20000 in
theorem mv_cW_74 : mv_cW 74 ∈ mv_T := mv_cW_in (i := 408) rfl rfl
set_option maxRecDepth 20000 in
theorem mv_cW_75 : mv_cW 75 ∈ mv_T := mv_cW_in (i := 552) rfl rfl
set_option maxRecDepth 20000 in
theorem mv_cW_76 : mv_cW 76 ∈ mv_T := mv_cW_in (i := 527) rfl rfl
set_option maxRecDepth 20000 in
theorem mv_cW_77 : mv_cW 77 ∈ mv_T := mv_cW_in (i := 350) rfl rfl
set_option maxRecDepth 20000 in
theorem mv_cW_78 : mv_cW 78 ∈ mv_T := mv_cW_in (i := 434) rfl rfl
set_option maxRecDepth 20000 in
theorem mv_cW_79 : mv_cW 79 ∈ mv_T := mv_cW_in (i := 536) rfl rfl
set_option maxRecDepth 20000 in
theorem mv_cW_80 : mv_cW 80 ∈ mv_T := mv_cW_in (i := 283) rfl rfl
set_option maxRecDepth 20000 in
theorem mv_cW_81 : mv_cW 81 ∈ mv_T := mv_cW_in (i := 576) rfl rfl
set_option maxRecDepth 20000 in
theorem mv_cW_82 : mv_cW 82 ∈ mv_T := mv_cW_in (i := 540) rfl rfl
set_option maxRecDepth 20000 in
theorem mv_cW_83 : mv_cW 83 ∈ mv_T := mv_cW_in (i := 267) rfl rfl
set_option maxRecDepth 20000 in
theorem mv_cW_84 : mv_cW 84 ∈ mv_T := mv_cW_in (i := 259) rfl rfl
set_option maxRecDepth 20000 in
theorem mv_cW_85 : mv_cW 85 ∈ mv_T := mv_cW_in (i := 521) rfl rfl
set_option maxRecDepth 20000 in
theorem mv_cW_86 : mv_cW 86 ∈ mv_T := mv_cW_in (i := 496) rfl rfl
set_option maxRecDepth 20000 in
theorem mv_cW_87 : mv_cW 87 ∈ mv_T := mv_cW_in (i := 256) rfl rfl
set_option maxRecDepth 20000 in
theorem mv_cW_88 : mv_cW 88 ∈ mv_T := mv_cW_in (i := 932) rfl rfl
set_option maxRecDepth 20000 in
theorem mv_cW_89 : mv_cW 89 ∈ mv_T := mv_cW_in (i := 799) rfl rfl
set_option maxRecDepth 20000 in
theorem mv_cW_90 : mv_cW 90 ∈ mv_T := mv_cW_in (i := 928) rfl rfl
set_option maxRecDepth 20000 in
theorem mv_cW_91 : mv_cW 91 ∈ mv_T := mv_cW_in (i := 828) rfl rfl
set_option maxRecDepth 20000 in
theorem mv_cW_92 : mv_cW 92 ∈ mv_T := mv_cW_in (i := 790) rfl rfl
set_option maxRecDepth 20000 in
theorem mv_cW_93 : mv_cW 93 ∈ mv_T := mv_cW_in (i := 845) rfl rfl
set_option maxRecDepth 20000 in
theorem mv_cW_94 : mv_cW 94 ∈ mv_T := mv_cW_in (i := 779) rfl rfl
set_option maxRecDepth 20000 in
theorem mv_cW_95 : mv_cW 95 ∈ mv_T := mv_cW_in (i := 841) rfl rfl
set_option maxRecDepth 20000 in
theorem mv_cW_96 : mv_cW 96 ∈ mv_T := mv_cW_in (i := 771) rfl rfl
set_option maxRecDepth 20000 in
theorem mv_cW_97 : mv_cW 97 ∈ mv_T := mv_cW_in (i := 936) rfl rfl
set_option maxRecDepth 20000 in
theorem mv_cW_98 : mv_cW 98 ∈ mv_T := mv_cW_in (i := 761) rfl rfl
set_option maxRecDepth 20000 in
theorem mv_cW_99 : mv_cW 99 ∈ mv_T := mv_cW_in (i := 872) rfl rfl
set_option maxRecDepth 20000 in
theorem mv_cW_100 : mv_cW 100 ∈ mv_T := mv_cW_in (i := 917) rfl rfl
set_option maxRecDepth 20000 in
theorem mv_cW_101 : mv_cW 101 ∈ mv_T := mv_cW_in (i := 740) rfl rfl
set_option maxRecDepth 20000 in
theorem mv_cW_102 : mv_cW 102 ∈ mv_T := mv_cW_in (i := 901) rfl rfl
set_option maxRecDepth 20000 in
theorem mv_cW_103 : mv_cW 103 ∈ mv_T := mv_cW_in (i := 703) rfl rfl
set_option maxRecDepth 20000 in
theorem mv_cW_104 : mv_cW 104 ∈ mv_T := mv_cW_in (i := 719) rfl rfl
set_option maxRecDepth 20000 in
theorem mv_cW_105 : mv_cW 105 ∈ mv_T := mv_cW_in (i := 744) rfl rfl
set_option maxRecDepth 20000 in
theorem mv_cW_106 : mv_cW 106 ∈ mv_T := mv_cW_in (i := 904) rfl rfl
set_option maxRecDepth 20000 in
theorem mv_cW_107 : mv_cW 107 ∈ mv_T := mv_cW_in (i := 775) rfl rfl
set_option maxRecDepth 20000 in
theorem mv_cW_108 : mv_cW 108 ∈ mv_T := mv_cW_in (i := 895) rfl rfl
set_option maxRecDepth 20000 in
theorem mv_cW_109 : mv_cW 109 ∈ mv_T := mv_cW_in (i := 695) rfl rfl
set_option maxRecDepth 20000 in
theorem mv_cW_111 : mv_cW 111 ∈ mv_T := mv_cW_in (i := 888) rfl rfl
set_option maxRecDepth 20000 in
theorem mv_cW_112 : mv_cW 112 ∈ mv_T := mv_cW_in (i := 864) rfl rfl
set_option maxRecDepth 20000 in
theorem mv_cW_113 : mv_cW 113 ∈ mv_T := mv_cW_in (i := 924) rfl rfl
set_option maxRecDepth 20000 in
theorem mv_cW_114 : mv_cW 114 ∈ mv_T := mv_cW_in (i := 836) rfl rfl
set_option maxRecDepth 20000 in
theorem mv_cW_115 : mv_cW 115 ∈ mv_T := mv_cW_in (i := 805) rfl rfl
set_option maxRecDepth 20000 in
theorem mv_cW_116 : mv_cW 116 ∈ mv_T := mv_cW_in (i := 817) rfl rfl
set_option maxRecDepth 20000 in
theorem mv_cW_117 : mv_cW 117 ∈ mv_T := mv_cW_in (i := 822) rfl rfl
set_option maxRecDepth 20000 in
theorem mv_cW_118 : mv_cW 118 ∈ mv_T := mv_cW_in (i := 848) rfl rfl
set_option maxRecDepth 20000 in
theorem mv_cW_119 : mv_cW 119 ∈ mv_T := mv_cW_in (i := 868) rfl rfl
set_option maxRecDepth 20000 in
theorem mv_cW_120 : mv_cW 120 ∈ mv_T := mv_cW_in (i := 908) rfl rfl
set_option maxRecDepth 20000 in
theorem mv_cW_121 : mv_cW 121 ∈ mv_T := mv_cW_in (i := 768) rfl rfl
set_option maxRecDepth 20000 in
theorem mv_cW_122 : mv_cW 122 ∈ mv_T := mv_cW_in (i := 860) rfl rfl
set_option maxRecDepth 20000 in
theorem mv_cW_123 : mv_cW 123 ∈ mv_T := mv_cW_in (i := 731) rfl rfl
set_option maxRecDepth 20000 in
theorem mv_cW_124 : mv_cW 124 ∈ mv_T := mv_cW_in (i := 757) rfl rfl
set_option maxRecDepth 20000 in
theorem mv_cW_125 : mv_cW 125 ∈ mv_T := mv_cW_in (i := 898) rfl rfl
set_option maxRecDepth 20000 in
theorem mv_cW_126 : mv_cW 126 ∈ mv_T := mv_cW_in (i := 764) rfl rfl
set_option maxRecDepth 20000 in
theorem mv_cW_127 : mv_cW 127 ∈ mv_T := mv_cW_in (i := 748) rfl rfl
set_option maxRecDepth 20000 in
theorem mv_cW_128 : mv_cW 128 ∈ mv_T := mv_cW_in (i := 831) rfl rfl
set_option maxRecDepth 20000 in
theorem mv_cW_129 : mv_cW 129 ∈ mv_T := mv_cW_in (i := 856) rfl rfl
set_option maxRecDepth 20000 in
theorem mv_cW_130 : mv_cW 130 ∈ mv_T := mv_cW_in (i := 711) rfl rfl
set_option maxRecDepth 20000 in
theorem mv_cW_131 : mv_cW 131 ∈ mv_T := mv_cW_in (i := 707) rfl rfl
set_option maxRecDepth 20000 in
theorem mv_cW_132 : mv_cW 132 ∈ mv_T := mv_cW_in (i := 809) rfl rfl
set_option maxRecDepth 20000 in
theorem mv_cW_133 : mv_cW 133 ∈ mv_T := mv_cW_in (i := 813) rfl rfl
set_option maxRecDepth 20000 in
theorem mv_cW_134 : mv_cW 134 ∈ mv_T := mv_cW_in (i := 876) rfl rfl
set_option maxRecDepth 20000 in
theorem mv_cW_135 : mv_cW 135 ∈ mv_T := mv_cW_in (i := 913) rfl rfl
set_option maxRecDepth 20000 in
theorem mv_cW_136 : mv_cW 136 ∈ mv_T := mv_cW_in (i := 727) rfl rfl
set_option maxRecDepth 20000 in
theorem mv_cW_137 : mv_cW 137 ∈ mv_T := mv_cW_in (i := 783) rfl rfl
set_option maxRecDepth 20000 in
theorem mv_cW_138 : mv_cW 138 ∈ mv_T := mv_cW_in (i := 892) rfl rfl
set_option maxRecDepth 20000 in
theorem mv_cW_139 : mv_cW 139 ∈ mv_T := mv_cW_in (i := 752) rfl rfl
set_option maxRecDepth 20000 in
theorem mv_cW_140 : mv_cW 140 ∈ mv_T := mv_cW_in (i := 736) rfl rfl
set_option maxRecDepth 20000 in
theorem mv_cW_141 : mv_cW 141 ∈ mv_T := mv_cW_in (i := 715) rfl rfl
set_option maxRecDepth 20000 in
theorem mv_cW_142 : mv_cW 142 ∈ mv_T := mv_cW_in (i := 795) rfl rfl
set_option maxRecDepth 20000 in
theorem mv_cW_143 : mv_cW 143 ∈ mv_T := mv_cW_in (i := 880) rfl rfl
set_option maxRecDepth 20000 in
theorem mv_cW_144 : mv_cW 144 ∈ mv_T := mv_cW_in (i := 723) rfl rfl
set_option maxRecDepth 20000 in
theorem mv_cW_145 : mv_cW 145 ∈ mv_T := mv_cW_in (i := 884) rfl rfl
set_option maxRecDepth 20000 in
theorem mv_cW_146 : mv_cW 146 ∈ mv_T := mv_cW_in (i := 699) rfl rfl
set_option maxRecDepth 20000 in
theorem mv_cW_147 : mv_cW 147 ∈ mv_T := mv_cW_in (i := 852) rfl rfl
set_option maxRecDepth 20000 in
theorem mv_cW_148 : mv_cW 148 ∈ mv_T := mv_cW_in (i := 691) rfl rfl
set_option maxRecDepth 20000 in
theorem mv_cW_149 : mv_cW 149 ∈ mv_T := mv_cW_in (i := 559) rfl rfl
set_option maxRecDepth 20000 in
theorem mv_cW_150 : mv_cW 150 ∈ mv_T := mv_cW_in (i := 375) rfl rfl
set_option maxRecDepth 20000 in
theorem mv_cW_151 : mv_cW 151 ∈ mv_T := mv_cW_in (i := 368) rfl rfl
def mv_cLs : List Nat := [0, 2, 3, 4, 5, 6, 7, 8, 9, 10, 11, 12, 13, 14, 15, 17, 18, 19, 20, 21, 22, 23, 24, 25, 26, 28, 29, 30, 31, 32, 33, 35, 36, 38, 39, 40, 41, 43, 44, 45, 46, 47, 48, 49, 50, 51, 52, 53, 54, 55, 56, 57, 58, 59, 60, 62, 63, 64, 65, 66, 67, 68, 69, 70, 71, 72, 73, 74, 75, 76, 77, 78, 79, 80, 81, 82, 83, 84, 85, 86, 87, 88, 89, 90, 91, 92, 93, 94, 95, 96, 97, 98, 99, 100, 101, 102, 103, 104, 105, 106, 107, 108, 109, 111, 112, 113, 114, 115, 116, 117, 118, 119, 120, 121, 122, 123, 124, 125, 126, 127, 128, 129, 130, 131, 132, 133, 134, 135, 136, 137, 138, 139, 140, 141, 142, 143, 144, 145, 146, 147, 148, 149, 150, 151]
set_option maxRecDepth 20000 in
theorem mv_cW_ok : ∀ k ∈ mv_cLs, mv_cW k ∈ mv_T := List.forall_mem_cons.mpr ⟨mv_cW_0, List.forall_mem_cons.mpr ⟨mv_cW_2, List.forall_mem_cons.mpr ⟨mv_cW_3, List.forall_mem_cons.mpr ⟨mv_cW_4, List.forall_mem_cons.mpr ⟨mv_cW_5, List.forall_mem_cons.mpr ⟨mv_cW_6, List.forall_mem_cons.mpr ⟨mv_cW_7, List.forall_mem_cons.mpr ⟨mv_cW_8, List.forall_mem_cons.mpr ⟨mv_cW_9, List.forall_mem_cons.mpr ⟨mv_cW_10, List.forall_mem_cons.mpr ⟨mv_cW_11, List.forall_mem_cons.mpr ⟨mv_cW_12, List.forall_mem_cons.mpr ⟨mv_cW_13, List.forall_mem_cons.mpr ⟨mv_cW_14, List.forall_mem_cons.mpr ⟨mv_cW_15, List.forall_mem_cons.mpr ⟨mv_cW_17, List.forall_mem_cons.mpr ⟨mv_cW_18, List.forall_mem_cons.mpr ⟨mv_cW_19, List.forall_mem_cons.mpr ⟨mv_cW_20, List.forall_mem_cons.mpr ⟨mv_cW_21, List.forall_mem_cons.mpr ⟨mv_cW_22, List.forall_mem_cons.mpr ⟨mv_cW_23, List.forall_mem_cons.mpr ⟨mv_cW_24, List.forall_mem_cons.mpr ⟨mv_cW_25, List.forall_mem_cons.mpr ⟨mv_cW_26, List.forall_mem_cons.mpr ⟨mv_cW_28, List.forall_mem_cons.mpr ⟨mv_cW_29, List.forall_mem_cons.mpr ⟨mv_cW_30, List.forall_mem_cons.mpr ⟨mv_cW_31, List.forall_mem_cons.mpr ⟨mv_cW_32, List.forall_mem_cons.mpr ⟨mv_cW_33, List.forall_mem_cons.mpr ⟨mv_cW_35, List.forall_mem_cons.mpr ⟨mv_cW_36, List.forall_mem_cons.mpr ⟨mv_cW_38, List.forall_mem_cons.mpr ⟨mv_cW_39, List.forall_mem_cons.mpr ⟨mv_cW_40, List.forall_mem_cons.mpr ⟨mv_cW_41, List.forall_mem_cons.mpr ⟨mv_cW_43, List.forall_mem_cons.mpr ⟨mv_cW_44, List.forall_mem_cons.mpr ⟨mv_cW_45, List.forall_mem_cons.mpr ⟨mv_cW_46, List.forall_mem_cons.mpr ⟨mv_cW_47, List.forall_mem_cons.mpr ⟨mv_cW_48, List.forall_mem_cons.mpr ⟨mv_cW_49, List.forall_mem_cons.mpr ⟨mv_cW_50, List.forall_mem_cons.mpr ⟨mv_cW_51, List.forall_mem_cons.mpr ⟨mv_cW_52, List.forall_mem_cons.mpr ⟨mv_cW_53, List.forall_mem_cons.mpr ⟨mv_cW_54, List.forall_mem_cons.mpr ⟨mv_cW_55, List.forall_mem_cons.mpr ⟨mv_cW_56, List.forall_mem_cons.mpr ⟨mv_cW_57, List.forall_mem_cons.mpr ⟨mv_cW_58, List.forall_mem_cons.mpr ⟨mv_cW_59, List.forall_mem_cons.mpr ⟨mv_cW_60, List.forall_mem_cons.mpr ⟨mv_cW_62, List.forall_mem_cons.mpr ⟨mv_cW_63, List.forall_mem_cons.mpr ⟨mv_cW_64, List.forall_mem_cons.mpr ⟨mv_cW_65, List.forall_mem_cons.mpr ⟨mv_cW_66, List.forall_mem_cons.mpr ⟨mv_cW_67, List.forall_mem_cons.mpr ⟨mv_cW_68, List.forall_mem_cons.mpr ⟨mv_cW_69, List.forall_mem_cons.mpr ⟨mv_cW_70, List.forall_mem_cons.mpr ⟨mv_cW_71, List.forall_mem_cons.mpr ⟨mv_cW_72, List.forall_mem_cons.mpr ⟨mv_cW_73, List.forall_mem_cons.mpr ⟨mv_cW_74, List.forall_mem_cons.mpr ⟨mv_cW_75, List.forall_mem_cons.mpr ⟨mv_cW_76, List.forall_mem_cons.mpr ⟨mv_cW_77, List.forall_mem_cons.mpr ⟨mv_cW_78, List.forall_mem_cons.mpr ⟨mv_cW_79, List.forall_mem_cons.mpr ⟨mv_cW_80, List.forall_mem_cons.mpr ⟨mv_cW_81, List.forall_mem_cons.mpr ⟨mv_cW_82, List.forall_mem_cons.mpr ⟨mv_cW_83, List.forall_mem_cons.mpr ⟨mv_cW_84, List.forall_mem_cons.mpr ⟨mv_cW_85, List.forall_mem_cons.mpr ⟨mv_cW_86, List.forall_mem_cons.mpr ⟨mv_cW_87, List.forall_mem_cons.mpr ⟨mv_cW_88, List.forall_mem_cons.mpr ⟨mv_cW_89, List.forall_mem_cons.mpr ⟨mv_cW_90, List.forall_mem_cons.mpr ⟨mv_cW_91, List.forall_mem_cons.mpr ⟨mv_cW_92, List.forall_mem_cons.mpr ⟨mv_cW_93, List.forall_mem_cons.mpr ⟨mv_cW_94, List.forall_mem_cons.mpr ⟨mv_cW_95, List.forall_mem_cons.mpr ⟨mv_cW_96, List.forall_mem_cons.mpr ⟨mv_cW_97, List.forall_mem_cons.mpr ⟨mv_cW_98, List.forall_mem_cons.mpr ⟨mv_cW_99, List.forall_mem_cons.mpr ⟨mv_cW_100, List.forall_mem_cons.mpr ⟨mv_cW_101, List.forall_mem_cons.mpr ⟨mv_cW_102, List.forall_mem_cons.mpr ⟨mv_cW_103, List.forall_mem_cons.mpr ⟨mv_cW_104, List.forall_mem_cons.mpr ⟨mv_cW_105, List.forall_mem_cons.mpr ⟨mv_cW_106, List.forall_mem_cons.mpr ⟨mv_cW_107, List.forall_mem_cons.mpr ⟨mv_cW_108, List.forall_mem_cons.mpr ⟨mv_cW_109, List.forall_mem_cons.mpr ⟨mv_cW_111, List.forall_mem_cons.mpr ⟨mv_cW_112, List.forall_mem_cons.mpr ⟨mv_cW_113, List.forall_mem_cons.mpr ⟨mv_cW_114, List.forall_mem_cons.mpr ⟨mv_cW_115, List.forall_mem_cons.mpr ⟨mv_cW_116, List.forall_mem_cons.mpr ⟨mv_cW_117, List.forall_mem_cons.mpr ⟨mv_cW_118, List.forall_mem_cons.mpr ⟨mv_cW_119, List.forall_mem_cons.mpr ⟨mv_cW_120, List.forall_mem_cons.mpr ⟨mv_cW_121, List.forall_mem_cons.mpr ⟨mv_cW_122, List.forall_mem_cons.mpr ⟨mv_cW_123, List.forall_mem_cons.mpr ⟨mv_cW_124, List.forall_mem_cons.mpr ⟨mv_cW_125, List.forall_mem_cons.mpr ⟨mv_cW_126, List.forall_mem_cons.mpr ⟨mv_cW_127, List.forall_mem_cons.mpr ⟨mv_cW_128, List.forall_mem_cons.mpr ⟨mv_cW_129, List.forall_mem_cons.mpr ⟨mv_cW_130, List.forall_mem_cons.mpr ⟨mv_cW_131, List.forall_mem_cons.mpr ⟨mv_cW_132, List.forall_mem_cons.mpr ⟨mv_cW_133, List.forall_mem_cons.mpr ⟨mv_cW_134, List.forall_mem_cons.mpr ⟨mv_cW_135, List.forall_mem_cons.mpr ⟨mv_cW_136, List.forall_mem_cons.mpr ⟨mv_cW_137, List.forall_mem_cons.mpr ⟨mv_cW_138, List.forall_mem_cons.mpr ⟨mv_cW_139, List.forall_mem_cons.mpr ⟨mv_cW_140, List.forall_mem_cons.mpr ⟨mv_cW_141, List.forall_mem_cons.mpr ⟨mv_cW_142, List.forall_mem_cons.mpr ⟨mv_cW_143, List.forall_mem_cons.mpr ⟨mv_cW_144, List.forall_mem_cons.mpr ⟨mv_cW_145, List.forall_mem_cons.mpr ⟨mv_cW_146, List.forall_mem_cons.mpr ⟨mv_cW_147, List.forall_mem_cons.mpr ⟨mv_cW_148, List.forall_mem_cons.mpr ⟨mv_cW_149, List.forall_mem_cons.mpr ⟨mv_cW_150, List.forall_mem_cons.mpr ⟨mv_cW_151, fun _ h => absurd h List.not_mem_nil⟩⟩⟩⟩⟩⟩⟩⟩⟩⟩⟩⟩⟩⟩⟩⟩⟩⟩⟩⟩⟩⟩⟩⟩⟩⟩⟩⟩⟩⟩⟩⟩⟩⟩⟩⟩⟩⟩⟩⟩⟩⟩⟩⟩⟩⟩⟩⟩⟩⟩⟩⟩⟩⟩⟩⟩⟩⟩⟩⟩⟩⟩⟩⟩⟩⟩⟩⟩⟩⟩⟩⟩⟩⟩⟩⟩⟩⟩⟩⟩⟩⟩⟩⟩⟩⟩⟩⟩⟩⟩⟩⟩⟩⟩⟩⟩⟩⟩⟩⟩⟩⟩⟩⟩⟩⟩⟩⟩⟩⟩⟩⟩⟩⟩⟩⟩⟩⟩⟩⟩⟩⟩⟩⟩⟩⟩⟩⟩⟩⟩⟩⟩⟩⟩⟩⟩⟩⟩⟩⟩⟩⟩⟩⟩
theorem mv_cV_in : mv_pV.all (fun q => decide (q.2.2 ∈ mv_cLs)) = true := by decide +kernel
theorem mv_cS_in : mv_pS.all (fun q => decide (q.2.2.1 ∈ mv_cLs)) = true := by decide +kernel
def mv_wK (c : Nat) : List Cond := u_ws (mv_cn c) (mv_fT c) (mv_nf c)
def mv_qK_0 : List (Nat × List Nat) := [(0, [168, 170, 172]), (1, [108, 110, 112, 114, 116, 118, 120, 122, 124, 126, 128, 130, 132, 134, 136, 138]), (2, [148, 150, 152]), (3, [192, 194, 196]), (4, [210, 212, 214, 216]), (5, [55, 57]), (6, [230, 232, 234, 236, 238, 240, 242, 244, 246, 248, 250]), (7, [635, 637, 639, 641, 643, 645, 647, 649, 651, 653, 655, 657, 659, 661, 663, 665, 667, 669, 671, 673, 675, 677, 679, 681, 683, 685])]
theorem mv_qK_k0 : mv_qK_0.all (mv_ck mv_wK) = true := by decide +kernel
theorem mv_qK_ok : ∀ q ∈ (mv_qK_0).map Prod.fst, ∀ w ∈ mv_wK q, w ∈ mv_T := mv_ck_ok (mv_qK_k0)
def mv_wA (_ : Nat) : List Cond := [.methodLink RX1 58 arraycopyName, .native arraycopyName, .static arraycopyName, .initialized "java/lang/System"]
def mv_qA_0 : List (Nat × List Nat) := [(0, [363, 365, 364, 35])]
theorem mv_qA_k0 : mv_qA_0.all (mv_ck mv_wA) = true := by decide +kernel
theorem mv_qA_ok : ∀ q ∈ (mv_qA_0).map Prod.fst, ∀ w ∈ mv_wA q, w ∈ mv_T := mv_ck_ok (mv_qA_k0)
def mv_pN : List (Nat × Nat × Nat × Nat) := [(1, 96, 84, 1), (2, 29, 84, 1), (3, 23, 84, 1), (5, 23, 84, 1)]
theorem mv_pN_eq : mv_pN = mv_pS.filter (fun q => decide (q.2.2.2 = 1)) := by decide +kernel
def mv_wN (q : Nat × Nat × Nat × Nat) : Cond := .methodLinkNest (mv_cn q.1) q.2.1 (mv_m q.2.2.1).1 RX6
theorem mv_pN_in : mv_pN.map mv_wN = ([341, 316, 471, 279] : List Nat).filterMap (fun i => lw_tbl[i]?) := by decide +kernel
theorem mv_pN_tbl : ∀ q ∈ mv_pN, mv_wN q ∈ lw_tbl := by
  intro q hq
  have h : mv_wN q ∈ mv_pN.map mv_wN := List.mem_map.mpr ⟨q, hq, rfl⟩
  rw [mv_pN_in] at h
  obtain ⟨i, -, hi⟩ := List.mem_filterMap.mp h
  exact List.mem_of_getElem? hi
def mv_N (U : State) : Prop := ∀ q ∈ mv_pN, va_Nw (mv_wN q) U
end
section
/-! Walks. -/
/-- from this state the method comes to its end, with K; locals may be forgotten -/
def mv_V (ow : Nat → Nat) (sw : Nat → List (Int32 × Nat)) (tab : List mv_E) (cs : Nat → mv_SP) (K : mv_K) : mv_X := fun pc lv st I J =>
  ∀ X : mv_X, (∀ pc lv st I J, (∃ Y : mv_X, (∀ pc lv st I J, Y pc lv st I J → X pc lv st I J) ∧ mv_at ow sw tab cs K Y pc lv st I J) → X pc lv st I J) → (∀ (ks : List Nat) pc lv st I J, X pc (lv.filter (fun q => mv_mem ks q.1)) st I J → X pc lv st I J) → X pc lv st I J
/-- a walk of at most n instructions, that ends at the end or at a place in stop, where S holds -/
def mv_run (ow : Nat → Nat) (sw : Nat → List (Int32 × Nat)) (tab : List mv_E) (cs : Nat → mv_SP) (K : mv_K) (stop : List Nat) (S : mv_X) : Nat → mv_X
  | 0 => S
  | n + 1 => mv_at ow sw tab cs K (fun pc lv st I J => match mv_mem stop pc with
    | true => S pc lv st I J
    | false => mv_run ow sw tab cs K stop S n pc lv st I J)
theorem mv_V_of {ow : Nat → Nat} {sw : Nat → List (Int32 × Nat)} {tab : List mv_E} {cs : Nat → mv_SP} {K : mv_K} {Y : mv_X} (hY : ∀ pc lv st I J, Y pc lv st I J → mv_V ow sw tab cs K pc lv st I J) {pc : Nat} {lv : mv_L} {st : List Value} {I : mv_I} {J : mv_J} (h : mv_at ow sw tab cs K Y pc lv st I J) : mv_V ow sw tab cs K pc lv st I J :=
  fun X hX hZ => hX pc lv st I J ⟨Y, fun pc lv st I J hy => hY pc lv st I J hy X hX hZ, h⟩
theorem mv_keep {ow : Nat → Nat} {sw : Nat → List (Int32 × Nat)} {tab : List mv_E} {cs : Nat → mv_SP} {K : mv_K} (ks : List Nat) {pc : Nat} {lv : mv_L} {st : List Value} {I : mv_I} {J : mv_J} (h : mv_V ow sw tab cs K pc (lv.filter (fun q => mv_mem ks q.1)) st I J) : mv_V ow sw tab cs K pc lv st I J :=
  fun X hX hZ => hZ ks pc lv st I J (h X hX hZ)
theorem mv_run_V {ow : Nat → Nat} {sw : Nat → List (Int32 × Nat)} {tab : List mv_E} {cs : Nat → mv_SP} {K : mv_K} {stop : List Nat} : ∀ (n : Nat) (pc : Nat) (lv : mv_L) (st : List Value) (I : mv_I) (J : mv_J), mv_run ow sw tab cs K stop (mv_V ow sw tab cs K) n pc lv st I J → mv_V ow sw tab cs K pc lv st I J
  | 0, _, _, _, _, _, h => h
  | n + 1, pc, lv, st, I, J, h => by
    refine mv_V_of (Y := fun pc lv st I J => match mv_mem stop pc with
      | true => mv_V ow sw tab cs K pc lv st I J
      | false => mv_run ow sw tab cs K stop (mv_V ow sw tab cs K) n pc lv st I J) (fun pc lv st I J hy => ?_) h
    cases hm : mv_mem stop pc with
    | true => simp only [hm] at hy; exact hy
    | false => simp only [hm] at hy; exact mv_run_V n pc lv st I J hy
end
section
/-! The world of logical cells, seen by the kit's rows. -/
theorem mv_ids_lt {k : Nat} (h : (mv_lay k).1 ≠ 0) : k ∈ mv_ids := by
  have hk : k < 440 := by
    refine Nat.lt_of_not_le fun q => h ?_
    have h1 : Nat.blt k 49 = false := by rw [Bool.eq_false_iff]; intro z; have := Nat.blt_eq.mp z; omega
    have h2 : (Nat.ble 100 k && Nat.blt k 373) = false := by
      have : Nat.blt k 373 = false := by rw [Bool.eq_false_iff]; intro z; have := Nat.blt_eq.mp z; omega
      rw [this, Bool.and_false]
    have h3 : (Nat.ble 400 k && Nat.blt k 436) = false := by
      have : Nat.blt k 436 = false := by rw [Bool.eq_false_iff]; intro z; have := Nat.blt_eq.mp z; omega
      rw [this, Bool.and_false]
    simp only [mv_lay, h1, h2, h3]
  refine List.mem_filter.mpr ⟨List.mem_range.mpr hk, ?_⟩
  simpa using h
theorem mv_ids_nd : mv_ids.Nodup := List.Nodup.sublist List.filter_sublist List.nodup_range
theorem mv_ids_998 : 998 ∉ mv_ids := fun h => by
  have := List.mem_range.mp (List.mem_filter.mp h).1
  omega
theorem mv_ids_999 : 999 ∉ mv_ids := fun h => by
  have := List.mem_range.mp (List.mem_filter.mp h).1
  omega
def mv_adk (G : mv_G) (A : Nat → Prop) : Prop := (∀ i ∈ mv_ids, ∀ j ∈ mv_ids, G.2.1 i = G.2.1 j → i = j) ∧ ∀ i ∈ mv_ids, A (G.2.1 i)
def mv_scr (I0 I : mv_I) : Prop := I 999 = I0 999 ∧ I 998 = I0 998
theorem mv_ws_at {k q0 : Nat} (G : mv_G) (I : mv_I) (J : mv_J) (h : mv_ids[q0]? = some k) : (mv_ws G I J)[q0]? = some (G.2.1 k, mv_cell G I J k) := by
  unfold mv_ws
  rw [List.getElem?_map, h]
  rfl
theorem mv_ws_inv {G : mv_G} {I : mv_I} {J : mv_J} {i : Nat} {q : Nat × va_E} (h : (mv_ws G I J)[i]? = some q) : ∃ k, mv_ids[i]? = some k ∧ q = (G.2.1 k, mv_cell G I J k) := by
  unfold mv_ws at h
  rw [List.getElem?_map] at h
  cases hk : mv_ids[i]? with
  | none => rw [hk] at h; cases h
  | some k => rw [hk] at h; cases h; exact ⟨k, rfl, rfl⟩
theorem mv_nd_ix {i j k : Nat} (h1 : mv_ids[i]? = some k) (h2 : mv_ids[j]? = some k) : i = j :=
  (List.getElem?_inj (List.getElem?_eq_some_iff.mp h1).1 mv_ids_nd).mp (h1.trans h2.symm)
theorem mv_ws_D {G : mv_G} {A : Nat → Prop} (hk : mv_adk G A) (I : mv_I) (J : mv_J) : va_D A (mv_ws G I J) := by
  refine ⟨fun i j p q hi hj e => ?_, fun i q hi => ?_⟩
  · obtain ⟨k1, a1, rfl⟩ := mv_ws_inv hi
    obtain ⟨k2, a2, rfl⟩ := mv_ws_inv hj
    have := hk.1 k1 (List.mem_of_getElem? a1) k2 (List.mem_of_getElem? a2) e
    subst this
    exact mv_nd_ix a1 a2
  · obtain ⟨k1, a1, rfl⟩ := mv_ws_inv hi
    exact hk.2 k1 (List.mem_of_getElem? a1)
theorem mv_fv_congr {ad : Nat → Nat} {I I' : mv_I} {J J' : mv_J} {k : Nat} (c : Nat) (h1 : I' k = I k) (h2 : J' k = J k) : mv_fv ad I' J' k c = mv_fv ad I J k c := by
  funext j
  unfold mv_fv
  rw [h1, h2]
theorem mv_cell_congr {G : mv_G} {I I' : mv_I} {J J' : mv_J} {k : Nat} (h1 : I' k = I k) (h2 : J' k = J k) : mv_cell G I' J' k = mv_cell G I J k := by
  unfold mv_cell
  rw [h1, h2]
  split <;> first | rfl | rw [mv_fv_congr _ h1 h2]
theorem mv_ws_set {G : mv_G} {I I' : mv_I} {J J' : mv_J} {k q0 : Nat} {x : va_E} (h : mv_ids[q0]? = some k) (hx : x = mv_cell G I' J' k) (hI : ∀ k', k' ≠ k → I' k' = I k') (hJ : ∀ k', k' ≠ k → J' k' = J k') : (mv_ws G I J).set q0 (G.2.1 k, x) = mv_ws G I' J' := by
  apply List.ext_getElem?
  intro i
  rw [List.getElem?_set]
  by_cases hi : q0 = i
  · subst hi
    rw [if_pos rfl, mv_ws_at G I' J' h, if_pos, hx]
    have := (List.getElem?_eq_some_iff.mp h).1
    unfold mv_ws
    rw [List.length_map]
    exact this
  · rw [if_neg hi]
    unfold mv_ws
    rw [List.getElem?_map, List.getElem?_map]
    cases hk : mv_ids[i]? with
    | none => rfl
    | some k' =>
      have hne : k' ≠ k := fun e => hi (mv_nd_ix h (e ▸ hk))
      simp only [Option.map_some]
      rw [mv_cell_congr (hI k' hne) (hJ k' hne)]
theorem mv_si_ne {I : mv_I} {k j k' : Nat} {x : Int32} (h : k' ≠ k) : mv_si I k j x k' = I k' := by
  funext b
  simp [mv_si, h]
theorem mv_si_eq {I : mv_I} {k j : Nat} {x : Int32} : mv_si I k j x k = upd (I k) j x := by
  funext b
  simp [mv_si, upd]
theorem mv_sj_ne {J : mv_J} {k j k' : Nat} {x : Int64} (h : k' ≠ k) : mv_sj J k j x k' = J k' := by
  funext b
  simp [mv_sj, h]
theorem mv_sj_eq {J : mv_J} {k j : Nat} {x : Int64} : mv_sj J k j x k = vp_updL (J k) j x := by
  funext b
  simp [mv_sj, vp_updL]
theorem mv_sr_ne {I : mv_I} {k k' : Nat} {f : Nat → Int32} (h : k' ≠ k) : mv_sr I k f k' = I k' := by
  simp [mv_sr, h]
theorem mv_sr_eq {I : mv_I} {k : Nat} {f : Nat → Int32} : mv_sr I k f k = f := by
  simp [mv_sr]
theorem mv_range_set {α : Type} (n j : Nat) (g g' : Nat → α) (h : ∀ i, i ≠ j → g' i = g i) (x : α) (hx : x = g' j) : ((List.range n).map g).set j x = (List.range n).map g' := by
  apply List.ext_getElem?
  intro i
  rw [List.getElem?_set, List.getElem?_map, List.getElem?_map]
  by_cases hi : j = i
  · subst hi
    rw [if_pos rfl]
    by_cases hl : j < n
    · rw [if_pos (by simpa using hl), List.getElem?_range hl, hx]
      rfl
    · rw [if_neg (by simpa using hl), List.getElem?_eq_none (by simpa using hl)]
      rfl
  · rw [if_neg hi]
    by_cases hl : i < n
    · rw [List.getElem?_range hl]
      exact congrArg some (h i (fun e => hi e.symm)).symm
    · rw [List.getElem?_eq_none (by simpa using hl)]
      rfl
theorem mv_range_get {α : Type} {n j : Nat} (g : Nat → α) (h : j < n) : ((List.range n).map g)[j]? = some (g j) := by
  rw [List.getElem?_map, List.getElem?_range h]
  rfl
theorem mv_cell1 {G : mv_G} {I : mv_I} {J : mv_J} {k c : Nat} (h : mv_lay k = (1, c, 0)) : mv_cell G I J k = .inr (c, (List.range (mv_nf c)).map (mv_fv G.2.1 I J k c)) := by
  unfold mv_cell
  rw [h]
  rfl
theorem mv_cell2 {G : mv_G} {I : mv_I} {J : mv_J} {k n : Nat} (h : mv_lay k = (2, n, 0)) : mv_cell G I J k = .inl (G.2.2 0, (n, .inl (I k))) := by
  unfold mv_cell
  rw [h]
  rfl
theorem mv_cell3 {G : mv_G} {I : mv_I} {J : mv_J} {k n : Nat} (h : mv_lay k = (3, n, 0)) : mv_cell G I J k = .inl (G.2.2 1, (n, .inl (I k))) := by
  unfold mv_cell
  rw [h]
  rfl
theorem mv_cell4 {G : mv_G} {I : mv_I} {J : mv_J} {k n : Nat} (h : mv_lay k = (4, n, 0)) : mv_cell G I J k = .inl (G.2.2 2, (n, .inr (.inl (J k)))) := by
  unfold mv_cell
  rw [h]
  rfl
theorem mv_cell5 {G : mv_G} {I : mv_I} {J : mv_J} {k n t : Nat} (h : mv_lay k = (5, n, t)) : mv_cell G I J k = .inl (G.2.2 (10 + t), (n, .inr (.inr (.inr (.inr (fun i => (mv_rf k i).map G.2.1)))))) := by
  unfold mv_cell
  rw [h]
  rfl
theorem mv_cell6 {G : mv_G} {I : mv_I} {J : mv_J} {k n : Nat} (h : mv_lay k = (6, n, 0)) : mv_cell G I J k = .inl (G.2.2 3, (n, .inr (.inr (.inr (.inr (fun i => (mv_rf k i).map G.2.1)))))) := by
  unfold mv_cell
  rw [h]
  rfl
theorem mv_id_of {k a b c : Nat} (h : mv_lay k = (a + 1, b, c)) : ∃ q0 : Nat, mv_ids[q0]? = some k := List.getElem?_of_mem (mv_ids_lt (by rw [h]; exact Nat.succ_ne_zero a))
theorem mv_not998 {k a b c : Nat} (h : mv_lay k = (a + 1, b, c)) : 999 ≠ k ∧ 998 ≠ k := by
  have hm := mv_ids_lt (k := k) (by rw [h]; exact Nat.succ_ne_zero a)
  exact ⟨fun e => mv_ids_999 (e ▸ hm), fun e => mv_ids_998 (e ▸ hm)⟩
theorem mv_scr_si {I0 I : mv_I} {k j a b c : Nat} {x : Int32} (hs : mv_scr I0 I) (h : mv_lay k = (a + 1, b, c)) : mv_scr I0 (mv_si I k j x) := by
  obtain ⟨h1, h2⟩ := mv_not998 h
  exact ⟨(mv_si_ne h1).trans hs.1, (mv_si_ne h2).trans hs.2⟩
theorem mv_scr_sr {I0 I : mv_I} {k a b c : Nat} {f : Nat → Int32} (hs : mv_scr I0 I) (h : mv_lay k = (a + 1, b, c)) : mv_scr I0 (mv_sr I k f) := by
  obtain ⟨h1, h2⟩ := mv_not998 h
  exact ⟨(mv_sr_ne h1).trans hs.1, (mv_sr_ne h2).trans hs.2⟩
-- the classes' tables
theorem mv_cl_at {c : Nat} (h : c < 8) : mv_cl[c]? = some (mv_cn c, mv_fT c, mv_nf c) := by
  match c, h with
  | 0, _ => rfl
  | 1, _ => rfl
  | 2, _ => rfl
  | 3, _ => rfl
  | 4, _ => rfl
  | 5, _ => rfl
  | 6, _ => rfl
  | 7, _ => rfl
def mv_tyl : List (Nat → FieldType) := [tyX0, tyX1, tyX2, tyX3, tyX4, tyX5, tyX6, tyX7]
def mv_tyf (c : Nat) : Nat → FieldType := mv_tyl.getD c tyX0
theorem mv_tyf_ok {c : Nat} (h : c < 8) : ∀ k, k < mv_nf c → parseFieldDescriptor ((mv_fT c) k).2.2.1 = some (mv_tyf c k) := by
  match c, h with
  | 0, _ => exact tyX0_ok
  | 1, _ => exact tyX1_ok
  | 2, _ => exact tyX2_ok
  | 3, _ => exact tyX3_ok
  | 4, _ => exact tyX4_ok
  | 5, _ => exact tyX5_ok
  | 6, _ => exact tyX6_ok
  | 7, _ => exact tyX7_ok
theorem mv_nm_ok {c : Nat} (h : c < 8) : ∀ a, a < mv_nf c → ∀ b, b < mv_nf c → a ≠ b → ((mv_fT c) a).2.1 ≠ ((mv_fT c) b).2.1 := by
  match c, h with
  | 0, _ => exact nmX0
  | 1, _ => exact nmX1
  | 2, _ => exact nmX2
  | 3, _ => exact nmX3
  | 4, _ => exact nmX4
  | 5, _ => exact nmX5
  | 6, _ => exact nmX6
  | 7, _ => exact nmX7
def mv_fto0 (c j : Nat) : Bool := decide (mv_ft c j ≠ 0) || (decide (parseFieldDescriptor ((mv_fT c) j).2.2.1 = some .int) && decide (((mv_fT c) j).2.2.2 = false))
theorem mv_fta0 : (List.range 8).all (fun c => (List.range (mv_nf c)).all (mv_fto0 c)) = true := by decide +kernel
theorem mv_ftk0 {c j : Nat} (hc : c < 8) (hj : j < mv_nf c) (h : mv_ft c j = 0) : parseFieldDescriptor ((mv_fT c) j).2.2.1 = some .int ∧ ((mv_fT c) j).2.2.2 = false := by
  have h1 := List.all_eq_true.mp (List.all_eq_true.mp mv_fta0 c (List.mem_range.mpr hc)) j (List.mem_range.mpr hj)
  simp only [mv_fto0, h, ne_eq, not_true_eq_false, decide_false, Bool.false_or, Bool.and_eq_true, decide_eq_true_eq] at h1
  exact h1
def mv_fto1 (c j : Nat) : Bool := decide (mv_ft c j ≠ 1) || (decide (parseFieldDescriptor ((mv_fT c) j).2.2.1 = some .boolean) && decide (((mv_fT c) j).2.2.2 = false))
theorem mv_fta1 : (List.range 8).all (fun c => (List.range (mv_nf c)).all (mv_fto1 c)) = true := by decide +kernel
theorem mv_ftk1 {c j : Nat} (hc : c < 8) (hj : j < mv_nf c) (h : mv_ft c j = 1) : parseFieldDescriptor ((mv_fT c) j).2.2.1 = some .boolean ∧ ((mv_fT c) j).2.2.2 = false := by
  have h1 := List.all_eq_true.mp (List.all_eq_true.mp mv_fta1 c (List.mem_range.mpr hc)) j (List.mem_range.mpr hj)
  simp only [mv_fto1, h, ne_eq, not_true_eq_false, decide_false, Bool.false_or, Bool.and_eq_true, decide_eq_true_eq] at h1
  exact h1
def mv_fto2 (c j : Nat) : Bool := decide (mv_ft c j ≠ 2) || (decide (parseFieldDescriptor ((mv_fT c) j).2.2.1 = some .long) && decide (((mv_fT c) j).2.2.2 = false))
theorem mv_fta2 : (List.range 8).all (fun c => (List.range (mv_nf c)).all (mv_fto2 c)) = true := by decide +kernel
theorem mv_ftk2 {c j : Nat} (hc : c < 8) (hj : j < mv_nf c) (h : mv_ft c j = 2) : parseFieldDescriptor ((mv_fT c) j).2.2.1 = some .long ∧ ((mv_fT c) j).2.2.2 = false := by
  have h1 := List.all_eq_true.mp (List.all_eq_true.mp mv_fta2 c (List.mem_range.mpr hc)) j (List.mem_range.mpr hj)
  simp only [mv_fto2, h, ne_eq, not_true_eq_false, decide_false, Bool.false_or, Bool.and_eq_true, decide_eq_true_eq] at h1
  exact h1
theorem mv_wK_ok {c : Nat} (h : c < 8) : ∀ w ∈ u_ws (mv_cn c) (mv_fT c) (mv_nf c), w ∈ mv_T := by
  match c, h with
  | 0, _ => exact mv_qK_ok 0 (by decide +kernel)
  | 1, _ => exact mv_qK_ok 1 (by decide +kernel)
  | 2, _ => exact mv_qK_ok 2 (by decide +kernel)
  | 3, _ => exact mv_qK_ok 3 (by decide +kernel)
  | 4, _ => exact mv_qK_ok 4 (by decide +kernel)
  | 5, _ => exact mv_qK_ok 5 (by decide +kernel)
  | 6, _ => exact mv_qK_ok 6 (by decide +kernel)
  | 7, _ => exact mv_qK_ok 7 (by decide +kernel)
-- locals
theorem mv_cat (ad : Nat → Nat) (v : Value) : (mv_z ad v).category = v.category := by cases v <;> rfl
theorem mv_lget_mem {l : mv_L} {i : Nat} {v : Value} (h : mv_lget l i = some v) : (i, v) ∈ l := by
  induction l with
  | nil => cases h
  | cons q r ih =>
    obtain ⟨j, w⟩ := q
    unfold mv_lget at h
    cases hb : Nat.beq i j with
    | true =>
      rw [hb] at h
      cases h
      have : i = j := Nat.eq_of_beq_eq_true hb
      subst this
      exact List.mem_cons_self
    | false =>
      rw [hb] at h
      exact List.mem_cons_of_mem _ (ih h)
theorem mv_lget_has {ls : Array Slot} {n : Nat} {l : mv_L} {ad : Nat → Nat} {i : Nat} {v : Value} (hl : lv_has ls n (l.map (fun q => (q.1, mv_z ad q.2)))) (h : mv_lget l i = some v) : ls[i]? = some (.val (mv_z ad v)) :=
  hl.2.2 (i, mv_z ad v) (List.mem_map.mpr ⟨(i, v), mv_lget_mem h, rfl⟩)
theorem mv_ins_mem {l : mv_L} {i : Nat} {v : Value} {q : Nat × Value} (h : q ∈ mv_ins l i v) : q = (i, v) ∨ q ∈ l := by
  induction l with
  | nil => exact Or.inl (List.mem_singleton.mp h)
  | cons p r ih =>
    obtain ⟨j, w⟩ := p
    unfold mv_ins at h
    cases hb : Nat.blt j i with
    | true =>
      rw [hb] at h
      rcases List.mem_cons.mp h with rfl | h
      · exact Or.inr List.mem_cons_self
      · rcases ih h with h | h
        · exact Or.inl h
        · exact Or.inr (List.mem_cons_of_mem _ h)
    | false =>
      rw [hb] at h
      rcases List.mem_cons.mp h with rfl | h
      · exact Or.inl rfl
      · exact Or.inr h
theorem mv_set1_has {ls : Array Slot} {n : Nat} {l : mv_L} {ad : Nat → Nat} {i : Nat} {v : Value} (h : lv_has ls n ((i, mv_z ad v) :: (l.map (fun q => (q.1, mv_z ad q.2))).filter (fun q => !(q.1 == i) && !(q.1 + 1 == i && q.2.category == 2)))) : lv_has ls n ((mv_set1 l i v).map (fun q => (q.1, mv_z ad q.2))) := by
  refine ⟨h.1, h.2.1, fun q hq => h.2.2 q ?_⟩
  obtain ⟨q', h1, rfl⟩ := List.mem_map.mp hq
  rcases mv_ins_mem h1 with rfl | h1
  · exact List.mem_cons_self
  · obtain ⟨h2, h3⟩ := List.mem_filter.mp h1
    refine List.mem_cons_of_mem _ (List.mem_filter.mpr ⟨List.mem_map.mpr ⟨q', h2, rfl⟩, ?_⟩)
    dsimp only
    rw [mv_cat]
    exact h3
theorem mv_set2_has {ls : Array Slot} {n : Nat} {l : mv_L} {ad : Nat → Nat} {i : Nat} {v : Value} (h : lv_has ls n ((i, mv_z ad v) :: (l.map (fun q => (q.1, mv_z ad q.2))).filter (fun q => !(q.1 == i) && (!(q.1 == i + 1) && !(q.1 + 1 == i && q.2.category == 2))))) : lv_has ls n ((mv_set2 l i v).map (fun q => (q.1, mv_z ad q.2))) := by
  refine ⟨h.1, h.2.1, fun q hq => h.2.2 q ?_⟩
  obtain ⟨q', h1, rfl⟩ := List.mem_map.mp hq
  rcases mv_ins_mem h1 with rfl | h1
  · exact List.mem_cons_self
  · obtain ⟨h2, h3⟩ := List.mem_filter.mp h1
    refine List.mem_cons_of_mem _ (List.mem_filter.mpr ⟨List.mem_map.mpr ⟨q', h2, rfl⟩, ?_⟩)
    dsimp only
    rw [mv_cat]
    exact h3
-- what a step says of the stack
theorem mv_i1e {st : List Value} {k : Int32 → List Value → Prop} (h : mv_i1 st k) : ∃ x r, st = .int x :: r ∧ k x r := by
  unfold mv_i1 at h
  split at h
  · exact ⟨_, _, rfl, h⟩
  · exact h.elim
theorem mv_i2e {st : List Value} {k : Int32 → Int32 → List Value → Prop} (h : mv_i2 st k) : ∃ x y r, st = .int y :: .int x :: r ∧ k x y r := by
  unfold mv_i2 at h
  split at h
  · exact ⟨_, _, _, rfl, h⟩
  · exact h.elim
theorem mv_l1e {st : List Value} {k : Int64 → List Value → Prop} (h : mv_l1 st k) : ∃ x r, st = .long x :: r ∧ k x r := by
  unfold mv_l1 at h
  split at h
  · exact ⟨_, _, rfl, h⟩
  · exact h.elim
theorem mv_l2e {st : List Value} {k : Int64 → Int64 → List Value → Prop} (h : mv_l2 st k) : ∃ x y r, st = .long y :: .long x :: r ∧ k x y r := by
  unfold mv_l2 at h
  split at h
  · exact ⟨_, _, _, rfl, h⟩
  · exact h.elim
theorem mv_lie {st : List Value} {k : Int64 → Int32 → List Value → Prop} (h : mv_li st k) : ∃ x y r, st = .int y :: .long x :: r ∧ k x y r := by
  unfold mv_li at h
  split at h
  · exact ⟨_, _, _, rfl, h⟩
  · exact h.elim
theorem mv_a1e {st : List Value} {k : Nat → List Value → Prop} (h : mv_a1 st k) : ∃ x r, st = .ref x :: r ∧ k x r := by
  unfold mv_a1 at h
  split at h
  · exact ⟨_, _, rfl, h⟩
  · exact h.elim
theorem mv_aie {st : List Value} {k : Nat → Int32 → List Value → Prop} (h : mv_ai st k) : ∃ o i r, st = .int i :: .ref o :: r ∧ k o i r := by
  unfold mv_ai at h
  split at h
  · exact ⟨_, _, _, rfl, h⟩
  · exact h.elim
theorem mv_aiie {st : List Value} {k : Nat → Int32 → Int32 → List Value → Prop} (h : mv_aii st k) : ∃ o i x r, st = .int x :: .int i :: .ref o :: r ∧ k o i x r := by
  unfold mv_aii at h
  split at h
  · exact ⟨_, _, _, _, rfl, h⟩
  · exact h.elim
theorem mv_aile {st : List Value} {k : Nat → Int32 → Int64 → List Value → Prop} (h : mv_ail st k) : ∃ o i x r, st = .long x :: .int i :: .ref o :: r ∧ k o i x r := by
  unfold mv_ail at h
  split at h
  · exact ⟨_, _, _, _, rfl, h⟩
  · exact h.elim
theorem mv_pie {st : List Value} {k : Nat → Int32 → List Value → Prop} (h : mv_pi st k) : ∃ o x r, st = .int x :: .ref o :: r ∧ k o x r := by
  unfold mv_pi at h
  split at h
  · exact ⟨_, _, _, rfl, h⟩
  · exact h.elim
theorem mv_ple {st : List Value} {k : Nat → Int64 → List Value → Prop} (h : mv_pl st k) : ∃ o x r, st = .long x :: .ref o :: r ∧ k o x r := by
  unfold mv_pl at h
  split at h
  · exact ⟨_, _, _, rfl, h⟩
  · exact h.elim
theorem mv_cpye {st : List Value} {k : Nat → Int32 → Nat → Int32 → Int32 → List Value → Prop} (h : mv_cpy st k) : ∃ o sp d dp n r, st = .int n :: .int dp :: .ref d :: .int sp :: .ref o :: r ∧ k o sp d dp n r := by
  unfold mv_cpy at h
  split at h
  · exact ⟨_, _, _, _, _, _, rfl, h⟩
  · exact h.elim
theorem mv_gie {l : mv_L} {i : Nat} {k : Int32 → Prop} (h : mv_gi l i k) : ∃ x, mv_lget l i = some (.int x) ∧ k x := by
  unfold mv_gi at h
  split at h
  · exact ⟨_, by assumption, h⟩
  · exact h.elim
theorem mv_gle {l : mv_L} {i : Nat} {k : Int64 → Prop} (h : mv_gl l i k) : ∃ x, mv_lget l i = some (.long x) ∧ k x := by
  unfold mv_gl at h
  split at h
  · exact ⟨_, by assumption, h⟩
  · exact h.elim
theorem mv_gae {l : mv_L} {i : Nat} {k : Value → Prop} (h : mv_ga l i k) : (∃ x, mv_lget l i = some (.ref x) ∧ k (.ref x)) ∨ (mv_lget l i = some .null ∧ k .null) := by
  unfold mv_ga at h
  split at h
  · exact Or.inl ⟨_, by assumption, h⟩
  · exact Or.inr ⟨by assumption, h⟩
  · exact h.elim
theorem mv_len {b : ByteArray} {pc nx k : Nat} {i : Instr} (h : nx = pc + k) (hd : decode b pc = .ok (i, nx - pc)) : decode b pc = .ok (i, k) := by
  subst h
  rw [hd, Nat.add_sub_cancel_left]
-- switches
theorem mv_sw_ok : ∀ {l : List (Int32 × Nat)} {x : Int32} {k : Nat → Prop} {d : Prop}, mv_sw l x k d → (∃ (i t : Nat), l[i]? = some (x, t) ∧ k t) ∨ ((∀ (i : Nat) (q : Int32 × Nat), l[i]? = some q → x ≠ q.1) ∧ d)
  | [], _, _, _, h => Or.inr ⟨fun i q hq => by simp at hq, h⟩
  | (c, t) :: l, x, k, d, h => by
    by_cases hx : x = c
    · exact Or.inl ⟨0, t, by rw [hx]; rfl, h.1 hx⟩
    · rcases mv_sw_ok (h.2 hx) with ⟨i, t', h1, h2⟩ | ⟨h1, h2⟩
      · exact Or.inl ⟨i + 1, t', h1, h2⟩
      · refine Or.inr ⟨fun i q hq => ?_, h2⟩
        cases i with
        | zero => cases hq; exact hx
        | succ i => exact h1 i q hq
theorem mv_csOf_at (pc : Nat) : ∀ (os : List Int) (lo : Int) (i : Nat), (mv_csOf pc lo os)[i]? = os[i]?.map (fun o => (Int32.ofInt (lo + i), ((pc : Int) + o).toNat))
  | [], lo, i => by simp [mv_csOf]
  | o :: r, lo, 0 => by simp [mv_csOf]
  | o :: r, lo, i + 1 => by
    have h := mv_csOf_at pc r (lo + 1) i
    simp only [mv_csOf, List.getElem?_cons_succ, h]
    congr 1
    funext o
    congr 2
    push_cast
    omega
end
section
/-! The JDK's max and min: no method of theirs is walked, the kit's rows say what they answer. -/
def mv_mx (x y : Int32) : Int32 := if x < y then y else x
def mv_mn (x y : Int32) : Int32 := if y < x then y else x
def mv_none : mv_SP := (fun _ _ _ => False, fun _ _ _ _ _ _ => False)
def sp_max : mv_SP := (fun as _ _ => match as with
    | [.int _, .int _] => True
    | _ => False,
  fun as I J r I' J' => match as with
    | [.int x, .int y] => r = some (.int (mv_mx x y)) ∧ I = I' ∧ J = J'
    | _ => True)
def sp_min : mv_SP := (fun as _ _ => match as with
    | [.int _, .int _] => True
    | _ => False,
  fun as I J r I' J' => match as with
    | [.int x, .int y] => r = some (.int (mv_mn x y)) ∧ I = I' ∧ J = J'
    | _ => True)
theorem mv_ii {as : List Value} (h : match as with | [.int _, .int _] => True | _ => False) : ∃ x y : Int32, as = [.int x, .int y] := by
  split at h
  · exact ⟨_, _, rfl⟩
  · exact h.elim
end
section
/-! One step of the machine: what mv_step asks is enough. -/
section MVS
variable {p : Program} {l : Launch} {e : Env} {R : Room} {s : State} {m : MethodId} {args : Array Value} {below : List Frame} {meth : Method} {c : Code} {cells slots : Nat} {Q : State → Prop}
/-- a method's frame: the machine, the code, the words, the classes, the room -/
def mv_ctx (p : Program) (R : Room) (s : State) (m : MethodId) (args : Array Value) (c : Code) (cells slots : Nat) (G : mv_G) (A : Nat → Prop) (M : mv_M) : Prop :=
  p.tables.exec = Jvm.exec ∧ c.code = M.2.1 ∧ c.maxLocals = M.2.2.1 ∧ s.vm.findClass (mv_cn M.2.2.2.2.1) = some m.cls ∧ (∀ w ∈ mv_T, w.before args s = true) ∧ mv_N s ∧ va_K G.1 mv_cl (mv_tys G) s ∧ mv_adk G A ∧ M.2.2.2.2.2.2.1 ≤ R.frames ∧ M.2.2.2.2.2.2.2 ≤ R.locals ∧ cells ≤ R.cells ∧ slots ≤ R.slots
/-- the same of a place in the method -/
def mv_W (p : Program) (l : Launch) (e : Env) (R : Room) (s : State) (m : MethodId) (args : Array Value) (below : List Frame) (meth : Method) (c : Code) (cells slots : Nat) (Q : State → Prop) (G : mv_G) (A : Nat → Prop) (H0 : Heap) (I0 : mv_I) (nL : Nat) : mv_X := fun pc lv st I J =>
  ∀ (H : Heap) (locs : List Loc) (ls : Array Slot), mv_scr I0 I → va_P G.1 mv_cl (mv_ws G I J) H → va_S A H0 H locs → lv_has ls nL (lv.map (fun q => (q.1, mv_z G.2.1 q.2))) → W p l e R s m args below meth c H locs cells slots Q (F0 m pc ls (st.map (mv_z G.2.1)))
def mv_fin : Instr → Option Value → Prop
  | .ireturn, some (.int _) => True
  | .lreturn, some (.long _) => True
  | .areturn, some (.ref _) => True
  | .areturn, some .null => True
  | .return_, none => True
  | _, _ => False
/-- a method's words -/
def mv_WS (k : Nat) : List Cond := .code (mv_m k).1 (mv_m k).2.1 (mv_m k).2.2.1 (mv_m k).2.2.2.1 :: mv_T
def mv_rm (M : mv_M) : Room := { frames := M.2.2.2.2.2.2.1, cells := 0, slots := 0, locals := M.2.2.2.2.2.2.2 }
def mv_Pc (G : mv_G) (as : List Value) (I : mv_I) (J : mv_J) : Array Value → State → Prop := fun v U => v = (as.map (mv_z G.2.1)).toArray ∧ va_P G.1 mv_cl (mv_ws G I J) U.heap ∧ va_K G.1 mv_cl (mv_tys G) U ∧ mv_N U
def mv_Qc (G : mv_G) (A : Nat → Prop) (I : mv_I) (post : Option Value → mv_I → mv_J → Prop) : Array Value → State → Outcome → State → Prop := fun _ st oc t => (∃ r I' J', oc = .returned (r.map (mv_z G.2.1)) ∧ post r I' J' ∧ mv_scr I I' ∧ va_P G.1 mv_cl (mv_ws G I' J') t.heap) ∧ va_F A st t
/-- the method k keeps its word -/
def mv_Con (l : Launch) (G : mv_G) (A : Nat → Prop) (k : Nat) (sp : mv_SP) : Prop := ∀ (as : List Value) (I : mv_I) (J : mv_J), sp.1 as I J → Met l (mv_m k).1 (mv_WS k) (mv_rm (mv_m k)) (mv_Pc G as I J) (mv_Qc G A I (sp.2 as I J)) 0 0 A
/-- the callees of a method -/
def mv_CsOk (l : Launch) (G : mv_G) (A : Nat → Prop) (cs : Nat → mv_SP) : Prop := (∀ k, k ≠ 150 → k ≠ 151 → mv_Con l G A k (cs k)) ∧ (cs 150 = sp_max ∨ cs 150 = mv_none) ∧ (cs 151 = sp_min ∨ cs 151 = mv_none)
theorem mv_Pc_blind (G : mv_G) (as : List Value) (I : mv_I) (J : mv_J) : FrameBlind (mv_Pc G as I J) := by
  intro a U g mk h
  obtain ⟨h1, h2, h3, h4⟩ := h
  exact ⟨h1, h2, va_K.moved (u := U) (U := U.calling g mk a) (Vm.Alike.refl U.vm) h3, fun q hq => va_Nw.same (u := U) (by simp [mv_wN, Cond.onTables]) rfl (h4 q hq)⟩
theorem mv_N_warm {U : State} (hW : s.WarmedH U.vm) (h : mv_N s) : mv_N U := fun q hq => va_Nw.warmM hW (h q hq)
theorem mv_goes {G : mv_G} {A : Nat → Prop} {H0 H : Heap} {locs : List Loc} {pc : Nat} {ls : Array Slot} {rest st0 : List Value} {a : Array Value} {I : mv_I} {post : Option Value → mv_I → mv_J → Prop}
    (hr : va_Run p l e R s m args below meth c H locs cells slots 0 0 (F0 m pc ls st0) rest (mv_Qc G A I post a) A) (hS : va_S A H0 H locs)
    (kk : ∀ (r : Option Value) (I' : mv_I) (J' : mv_J) (H1 : Heap) (locs1 : List Loc), post r I' J' → mv_scr I I' → va_P G.1 mv_cl (mv_ws G I' J') H1 → va_S A H0 H1 locs1 → W p l e R s m args below meth c H1 locs1 cells slots Q (F0 m (pc + 3) ls ((r.map (mv_z G.2.1)).toList ++ rest))) : W p l e R s m args below meth c H locs cells slots Q (F0 m pc ls st0) := by
  intro T hT X
  obtain ⟨v, st₀, t, T', L, h0, X', hL, e1, e2, ⟨⟨r, I', J', hv, hp, hsc, hb⟩, hz, hk⟩, st⟩ := hr T hT X
  cases hv
  rw [h0] at hz hk
  obtain ⟨t2, a1, b1⟩ := kk r I' J' T'.heap (locs ++ L) hp hsc (by rw [e1]; exact hb)
    ⟨Nat.le_trans hS.1 (by rw [e1]; exact hz), fun q h1 h2 => by rw [e1, hk q (Nat.lt_of_lt_of_le h1 hS.1) h2]; exact hS.2.1 q h1 h2, fun q hq => by
      rcases List.mem_append.mp hq with h | h
      · exact hS.2.2 q h
      · exact hL q h⟩ T' rfl X'
  exact ⟨t2, st t2 a1, b1⟩
theorem mv_narb {x : Int32} (h : x = 0 ∨ x = 1) : narrow .boolean (.int x) = .int x := by
  rcases h with rfl | rfl <;> decide
theorem mv_nar1 {x : Int32} (h : x = 0 ∨ x = 1) : vp_nar .boolean x = x := by
  rcases h with rfl | rfl <;> decide
theorem mv_fitb {x : Int32} (h : x = 0 ∨ x = 1) : fits .boolean (.int x) = true := by
  rcases h with rfl | rfl <;> decide
theorem mv_tset_i {G : mv_G} {I : mv_I} {J : mv_J} {k q0 n a : Nat} {j : Nat} {x : Int32} {cA : ClassId} (hq : mv_ids[q0]? = some k) (hl : ∀ I' : mv_I, mv_cell G I' J k = .inl (cA, (n, .inl (I' k)))) : (mv_ws G I J).set q0 (G.2.1 k, .inl (cA, n, .inl (upd (I k) j x))) = mv_ws G (mv_si I k j x) J :=
  mv_ws_set hq (by rw [hl, mv_si_eq]) (fun _ h => mv_si_ne h) (fun _ _ => rfl)
theorem mv_look {pc : Nat} {d : Int} : ∀ {l : List (Int × Int)} {x : Int32} {k : Nat → Prop} {dd : Prop}, (∀ q ∈ l, 0 ≤ (pc : Int) + q.2 ∧ -1000 ≤ q.1 ∧ q.1 ≤ 1000) → mv_sw (mv_csL pc l) x k dd → (∃ (o : Int) (t : Nat), Op.lookupswitch.offset l d x.toInt = o ∧ (pc : Int) + o = (t : Int) ∧ k t) ∨ (Op.lookupswitch.offset l d x.toInt = d ∧ dd)
  | [], _, _, _, _, h => Or.inr ⟨rfl, h⟩
  | (c, o) :: l, x, k, dd, hall, h => by
    obtain ⟨g1, g2, g3⟩ := hall (c, o) List.mem_cons_self
    dsimp only at g1 g2 g3
    have hc : (Int32.ofInt c).toInt = c := Int32.toInt_ofInt_of_le (by omega) (by omega)
    by_cases hx : x = Int32.ofInt c
    · refine Or.inl ⟨o, ((pc : Int) + o).toNat, ?_, by omega, h.1 hx⟩
      rw [Op.lookupswitch.offset_cons, if_pos (by rw [hx, hc])]
    · have h2 := h.2 hx
      rw [lv_osw hx hc]
      exact mv_look (fun q hq => hall q (List.mem_cons_of_mem _ hq)) h2
theorem mv_good_of {ws : List Cond} (h : ∀ w ∈ ws, w ∈ mv_T) : GoodIn mv_T ws := fun w hw => mv_T_good w (h w hw)
def mv_mck (k n : Nat) : Bool := decide ((mv_m k).1.cls ≠ "java/lang/invoke/MethodHandle") && decide ((mv_m k).1.cls ≠ "java/lang/invoke/VarHandle") && decide ((parseMethodDescriptor (mv_m k).1.desc).map (fun d => d.parameters.length) = some n)
theorem mv_mV_ok : mv_pV.all (fun q => mv_mck q.2.2 ((mv_m q.2.2).2.2.2.2.2.1 - 1) && decide (1 ≤ (mv_m q.2.2).2.2.2.2.2.1) && decide ((mv_m q.2.2).1.cls = mv_cn (mv_ow q.2.2)) && decide (mv_ow q.2.2 < 8) && decide (q.2.2 ≠ 150) && decide (q.2.2 ≠ 151)) = true := by decide +kernel
theorem mv_mS_ok : mv_pS.all (fun q => mv_mck q.2.2.1 ((mv_m q.2.2.1).2.2.2.2.2.1) && (decide (q.2.2.2 = 0) || decide (q.2.2.2 = 1))) = true := by decide +kernel
theorem mv_noN {o i : Nat} (k : Nat) (hk : (mv_pS.all (fun q => decide (q.2.2.1 ≠ k) || decide (q.2.2.2 = 0))) = true) : (o, i, k, 1) ∉ mv_pS := fun h => by
  have := List.all_eq_true.mp hk _ h
  simp at this
theorem mv_sum_z (ad : Nat → Nat) (r : List Value) : ((r.map (mv_z ad)).map fun v => v.category).sum = mv_sum r := by
  unfold mv_sum
  rw [List.map_map]
  exact congrArg List.sum (List.map_congr_left (fun v _ => mv_cat ad v))
theorem mv_back (ad : Nat → Nat) (r : Option Value) (st : List Value) : (r.map (mv_z ad)).toList ++ st.map (mv_z ad) = (r.toList ++ st).map (mv_z ad) := by
  cases r <;> rfl
set_option maxHeartbeats 4000000 in
set_option maxRecDepth 100000 in
theorem mv_sound1 {G : mv_G} {A : Nat → Prop} {H0 : Heap} {I0 : mv_I} {M : mv_M} {cs : Nat → mv_SP} {K : mv_K} (C : mv_ctx p R s m args c cells slots G A M)
    (hret : ∀ (pc : Nat) (ls : Array Slot) (H : Heap) (locs : List Loc) (ins : Instr) (r : Option Value) (I : mv_I) (J : mv_J), decode M.2.1 pc = .ok (ins, 1) → mv_fin ins r → (∀ x, r = some (.int x) → M.2.2.2.1 = some .int ∨ (M.2.2.2.1 = some .boolean ∧ (x = 0 ∨ x = 1))) → (∀ x, r = some (.long x) → M.2.2.2.1 = some .long) → (ins = .areturn → M.2.2.2.1 = some (.object RX1)) → (r = none → M.2.2.2.1 = none) → K r I J → mv_scr I0 I → va_P G.1 mv_cl (mv_ws G I J) H → va_S A H0 H locs → W p l e R s m args below meth c H locs cells slots Q (F0 m pc ls (r.toList.map (mv_z G.2.1))))
    (hcs : mv_CsOk l G A cs)
    (hscr : M.2.2.2.2.1 = 8 → I0 998 0 = Int32.ofNat (I0 998 0).toNatClampNeg ∧ va_X (G.2.1 999) (I0 998 0).toNatClampNeg (I0 999) s H0 ∧ G.2.1 999 < H0.size ∧ ¬ A (G.2.1 999))
    {Y : mv_X} (hY : ∀ pc lv st I J, Y pc lv st I J → mv_W p l e R s m args below meth c cells slots Q G A H0 I0 M.2.2.1 pc lv st I J)
    {e0 : mv_E} (hok : mv_ok M e0 = true) {lv : mv_L} {st : List Value} {I : mv_I} {J : mv_J} (h : mv_step mv_ow mv_swf cs K Y e0 lv st I J) : mv_W p l e R s m args below meth c cells slots Q G A H0 I0 M.2.2.1 e0.1 lv st I J := by
  obtain ⟨pc, ins, nx, v, w, a, b⟩ := e0
  simp only [mv_ok, Bool.and_eq_true, decide_eq_true_eq] at hok
  obtain ⟨⟨hd, hlt⟩, hok⟩ := hok
  intro H locs ls hsc hP hS hl
  obtain ⟨hx, hb, hml, hown, hts, hN, hK, hA, hfr, hlo, hce, hsl⟩ := C
  have hD : va_D A (mv_ws G I J) := mv_ws_D hA I J
  cases ins
  case iconst n =>
    simp only [Bool.and_eq_true, decide_eq_true_eq] at hok
    obtain ⟨h1, rfl⟩ := hok
    exact lv_iconst hx hb (mv_len rfl hd) h1 (hY _ _ _ _ _ h H locs ls hsc hP hS hl)
  case bipush n =>
    simp only [Bool.and_eq_true, decide_eq_true_eq] at hok
    obtain ⟨h1, rfl⟩ := hok
    exact lv_bipush hx hb (mv_len rfl hd) h1 (hY _ _ _ _ _ h H locs ls hsc hP hS hl)
  case sipush n =>
    simp only [Bool.and_eq_true, decide_eq_true_eq] at hok
    obtain ⟨h1, rfl⟩ := hok
    exact lv_sipush hx hb (mv_len rfl hd) h1 (hY _ _ _ _ _ h H locs ls hsc hP hS hl)
  case lconst n =>
    simp only [Bool.and_eq_true, decide_eq_true_eq] at hok
    obtain ⟨h1, rfl⟩ := hok
    exact lv_lconst hx hb (mv_len rfl hd) h1 (hY _ _ _ _ _ h H locs ls hsc hP hS hl)
  case ldc i =>
    simp only [Bool.and_eq_true, decide_eq_true_eq] at hok
    obtain ⟨h1, rfl⟩ := hok
    rw [mv_pC_eq] at h1
    exact lv_ldc hx hb hown (hts _ (mv_qC_ok _ h1 _ List.mem_cons_self)) (mv_len rfl hd) (hY _ _ _ _ _ h H locs ls hsc hP hS hl)
  case ldc_w i =>
    simp only [Bool.and_eq_true, decide_eq_true_eq] at hok
    obtain ⟨h1, rfl⟩ := hok
    rw [mv_pC_eq] at h1
    exact lv_ldcw hx hb hown (hts _ (mv_qC_ok _ h1 _ List.mem_cons_self)) (mv_len rfl hd) (hY _ _ _ _ _ h H locs ls hsc hP hS hl)
  case ldc2_w i =>
    simp only [Bool.and_eq_true, decide_eq_true_eq] at hok
    obtain ⟨h1, rfl⟩ := hok
    rw [mv_pL_eq] at h1
    exact lv_ldc2 hx hb hown (hts _ (mv_qL_ok _ h1 _ List.mem_cons_self)) (mv_len rfl hd) (hY _ _ _ _ _ h H locs ls hsc hP hS hl)
  case aconst_null =>
    simp only [decide_eq_true_eq] at hok
    subst hok
    exact lv_null hx hb (mv_len rfl hd) (hY _ _ _ _ _ h H locs ls hsc hP hS hl)
  case iload n =>
    simp only [Bool.and_eq_true, decide_eq_true_eq] at hok
    obtain ⟨rfl, rfl⟩ := hok
    obtain ⟨x, h1, h⟩ := mv_gie h
    exact lv_iload hx hb (mv_len rfl hd) (mv_lget_has hl h1) (hY _ _ _ _ _ h H locs ls hsc hP hS hl)
  case iload_n n =>
    simp only [Bool.and_eq_true, decide_eq_true_eq] at hok
    obtain ⟨h0, rfl⟩ := hok
    obtain ⟨x, h1, h⟩ := mv_gie h
    exact lv_iload_n hx hb (mv_len rfl hd) h0 (mv_lget_has hl h1) (hY _ _ _ _ _ h H locs ls hsc hP hS hl)
  case lload n =>
    simp only [Bool.and_eq_true, decide_eq_true_eq] at hok
    obtain ⟨rfl, rfl⟩ := hok
    obtain ⟨x, h1, h⟩ := mv_gle h
    exact lv_lload hx hb (mv_len rfl hd) (mv_lget_has hl h1) (hY _ _ _ _ _ h H locs ls hsc hP hS hl)
  case lload_n n =>
    simp only [Bool.and_eq_true, decide_eq_true_eq] at hok
    obtain ⟨h0, rfl⟩ := hok
    obtain ⟨x, h1, h⟩ := mv_gle h
    exact lv_lload_n hx hb (mv_len rfl hd) h0 (mv_lget_has hl h1) (hY _ _ _ _ _ h H locs ls hsc hP hS hl)
  case aload n =>
    simp only [Bool.and_eq_true, decide_eq_true_eq] at hok
    obtain ⟨rfl, rfl⟩ := hok
    have h : mv_ga lv n (fun x => Y (pc + 2) lv (x :: st) I J) := h
    rcases mv_gae h with ⟨x, h1, h⟩ | ⟨h1, h⟩
    · exact lv_aload hx hb (mv_len rfl hd) (mv_lget_has hl h1) (hY _ _ _ _ _ h H locs ls hsc hP hS hl)
    · exact lv_aloadN hx hb (mv_len rfl hd) (mv_lget_has hl h1) (hY _ _ _ _ _ h H locs ls hsc hP hS hl)
  case aload_n n =>
    simp only [Bool.and_eq_true, decide_eq_true_eq] at hok
    obtain ⟨h0, rfl⟩ := hok
    have h : mv_ga lv a (fun x => Y (pc + 1) lv (x :: st) I J) := h
    rcases mv_gae h with ⟨x, h1, h⟩ | ⟨h1, h⟩
    · exact lv_aload_n hx hb (mv_len rfl hd) h0 (mv_lget_has hl h1) (hY _ _ _ _ _ h H locs ls hsc hP hS hl)
    · exact lv_aload_nN hx hb (mv_len rfl hd) h0 (mv_lget_has hl h1) (hY _ _ _ _ _ h H locs ls hsc hP hS hl)
  case istore n =>
    simp only [Bool.and_eq_true, decide_eq_true_eq] at hok
    obtain ⟨⟨rfl, rfl⟩, h0⟩ := hok
    obtain ⟨x, r, rfl, h⟩ := mv_i1e h
    exact lv_istore hx hb (mv_len rfl hd) hl h0 rfl (fun ls' hl' => hY _ _ _ _ _ h H locs ls' hsc hP hS (mv_set1_has (v := .int x) hl'))
  case istore_n n =>
    simp only [Bool.and_eq_true, decide_eq_true_eq] at hok
    obtain ⟨⟨hn, rfl⟩, h0⟩ := hok
    obtain ⟨x, r, rfl, h⟩ := mv_i1e h
    exact lv_istore_n hx hb (mv_len rfl hd) hn hl h0 rfl (fun ls' hl' => hY _ _ _ _ _ h H locs ls' hsc hP hS (mv_set1_has (v := .int x) hl'))
  case lstore n =>
    simp only [Bool.and_eq_true, decide_eq_true_eq] at hok
    obtain ⟨⟨rfl, rfl⟩, h0⟩ := hok
    obtain ⟨x, r, rfl, h⟩ := mv_l1e h
    exact lv_lstore hx hb (mv_len rfl hd) hl h0 rfl (fun ls' hl' => hY _ _ _ _ _ h H locs ls' hsc hP hS (mv_set2_has (v := .long x) hl'))
  case lstore_n n =>
    simp only [Bool.and_eq_true, decide_eq_true_eq] at hok
    obtain ⟨⟨hn, rfl⟩, h0⟩ := hok
    obtain ⟨x, r, rfl, h⟩ := mv_l1e h
    exact lv_lstore_n hx hb (mv_len rfl hd) hn hl h0 rfl (fun ls' hl' => hY _ _ _ _ _ h H locs ls' hsc hP hS (mv_set2_has (v := .long x) hl'))
  case astore n =>
    simp only [Bool.and_eq_true, decide_eq_true_eq] at hok
    obtain ⟨⟨rfl, rfl⟩, h0⟩ := hok
    simp only [mv_step] at h
    split at h
    · exact lv_astore hx hb (mv_len rfl hd) hl h0 rfl (fun ls' hl' => hY _ _ _ _ _ h H locs ls' hsc hP hS (mv_set1_has (v := .ref _) hl'))
    · exact lv_astoreN hx hb (mv_len rfl hd) hl h0 rfl (fun ls' hl' => hY _ _ _ _ _ h H locs ls' hsc hP hS (mv_set1_has (v := .null) hl'))
    · exact h.elim
  case astore_n n =>
    simp only [Bool.and_eq_true, decide_eq_true_eq] at hok
    obtain ⟨⟨hn, rfl⟩, h0⟩ := hok
    simp only [mv_step] at h
    split at h
    · exact lv_astore_n hx hb (mv_len rfl hd) hn hl h0 rfl (fun ls' hl' => hY _ _ _ _ _ h H locs ls' hsc hP hS (mv_set1_has (v := .ref _) hl'))
    · exact lv_astore_nN hx hb (mv_len rfl hd) hn hl h0 rfl (fun ls' hl' => hY _ _ _ _ _ h H locs ls' hsc hP hS (mv_set1_has (v := .null) hl'))
    · exact h.elim
  case iinc i n =>
    simp only [Bool.and_eq_true, decide_eq_true_eq] at hok
    obtain ⟨⟨⟨rfl, rfl⟩, h0⟩, hv⟩ := hok
    obtain ⟨x, h1, h⟩ := mv_gie h
    obtain ⟨q, hq⟩ := List.getElem?_of_mem (List.mem_map.mpr ⟨_, mv_lget_mem h1, rfl⟩ : (i, mv_z G.2.1 (.int x)) ∈ lv.map (fun q => (q.1, mv_z G.2.1 q.2)))
    exact lv_iinc (v := x + v) hx hb (mv_len rfl hd) hl hq (by rw [hv]) h0 rfl (fun ls' hl' => hY _ _ _ _ _ h H locs ls' hsc hP hS (mv_set1_has (v := .int (x + v)) hl'))
  case iadd =>
    simp only [decide_eq_true_eq] at hok
    subst hok
    obtain ⟨x, y, r, rfl, h⟩ := mv_i2e h
    exact lv_iadd hx hb (mv_len rfl hd) (hY _ _ _ _ _ h H locs ls hsc hP hS hl)
  case isub =>
    simp only [decide_eq_true_eq] at hok
    subst hok
    obtain ⟨x, y, r, rfl, h⟩ := mv_i2e h
    exact lv_isub hx hb (mv_len rfl hd) (hY _ _ _ _ _ h H locs ls hsc hP hS hl)
  case imul =>
    simp only [decide_eq_true_eq] at hok
    subst hok
    obtain ⟨x, y, r, rfl, h⟩ := mv_i2e h
    exact lv_imul hx hb (mv_len rfl hd) (hY _ _ _ _ _ h H locs ls hsc hP hS hl)
  case iand =>
    simp only [decide_eq_true_eq] at hok
    subst hok
    obtain ⟨x, y, r, rfl, h⟩ := mv_i2e h
    exact lv_iand hx hb (mv_len rfl hd) (hY _ _ _ _ _ h H locs ls hsc hP hS hl)
  case ior =>
    simp only [decide_eq_true_eq] at hok
    subst hok
    obtain ⟨x, y, r, rfl, h⟩ := mv_i2e h
    exact lv_ior hx hb (mv_len rfl hd) (hY _ _ _ _ _ h H locs ls hsc hP hS hl)
  case ishl =>
    simp only [decide_eq_true_eq] at hok
    subst hok
    obtain ⟨x, y, r, rfl, h⟩ := mv_i2e h
    exact lv_ishl hx hb (mv_len rfl hd) (hY _ _ _ _ _ h H locs ls hsc hP hS hl)
  case ishr =>
    simp only [decide_eq_true_eq] at hok
    subst hok
    obtain ⟨x, y, r, rfl, h⟩ := mv_i2e h
    exact lv_ishr hx hb (mv_len rfl hd) (hY _ _ _ _ _ h H locs ls hsc hP hS hl)
  case iushr =>
    simp only [decide_eq_true_eq] at hok
    subst hok
    obtain ⟨x, y, r, rfl, h⟩ := mv_i2e h
    exact lv_iushr hx hb (mv_len rfl hd) rfl (hY _ _ _ _ _ h H locs ls hsc hP hS hl)
  case idiv =>
    simp only [decide_eq_true_eq] at hok
    subst hok
    obtain ⟨x, y, r, rfl, h0, h⟩ := mv_i2e h
    exact lv_idiv hx hb (mv_len rfl hd) h0 (hY _ _ _ _ _ h H locs ls hsc hP hS hl)
  case irem =>
    simp only [decide_eq_true_eq] at hok
    subst hok
    obtain ⟨x, y, r, rfl, h0, h⟩ := mv_i2e h
    exact lv_irem hx hb (mv_len rfl hd) h0 (hY _ _ _ _ _ h H locs ls hsc hP hS hl)
  case ladd =>
    simp only [decide_eq_true_eq] at hok
    subst hok
    obtain ⟨x, y, r, rfl, h⟩ := mv_l2e h
    exact lv_ladd hx hb (mv_len rfl hd) (hY _ _ _ _ _ h H locs ls hsc hP hS hl)
  case lsub =>
    simp only [decide_eq_true_eq] at hok
    subst hok
    obtain ⟨x, y, r, rfl, h⟩ := mv_l2e h
    exact lv_lsub hx hb (mv_len rfl hd) (hY _ _ _ _ _ h H locs ls hsc hP hS hl)
  case lmul =>
    simp only [decide_eq_true_eq] at hok
    subst hok
    obtain ⟨x, y, r, rfl, h⟩ := mv_l2e h
    exact lv_lmul hx hb (mv_len rfl hd) (hY _ _ _ _ _ h H locs ls hsc hP hS hl)
  case land =>
    simp only [decide_eq_true_eq] at hok
    subst hok
    obtain ⟨x, y, r, rfl, h⟩ := mv_l2e h
    exact lv_land hx hb (mv_len rfl hd) (hY _ _ _ _ _ h H locs ls hsc hP hS hl)
  case lor =>
    simp only [decide_eq_true_eq] at hok
    subst hok
    obtain ⟨x, y, r, rfl, h⟩ := mv_l2e h
    exact lv_lor hx hb (mv_len rfl hd) (hY _ _ _ _ _ h H locs ls hsc hP hS hl)
  case ldiv =>
    simp only [decide_eq_true_eq] at hok
    subst hok
    obtain ⟨x, y, r, rfl, h0, h⟩ := mv_l2e h
    exact lv_ldiv hx hb (mv_len rfl hd) h0 (hY _ _ _ _ _ h H locs ls hsc hP hS hl)
  case lrem =>
    simp only [decide_eq_true_eq] at hok
    subst hok
    obtain ⟨x, y, r, rfl, h0, h⟩ := mv_l2e h
    exact lv_lrem hx hb (mv_len rfl hd) h0 (hY _ _ _ _ _ h H locs ls hsc hP hS hl)
  case lneg =>
    simp only [decide_eq_true_eq] at hok
    subst hok
    obtain ⟨x, r, rfl, h⟩ := mv_l1e h
    exact lv_lneg hx hb (mv_len rfl hd) (hY _ _ _ _ _ h H locs ls hsc hP hS hl)
  case lcmp =>
    simp only [decide_eq_true_eq] at hok
    subst hok
    obtain ⟨x, y, r, rfl, h⟩ := mv_l2e h
    exact W.lcmp hx hb (mv_len rfl hd) (hY _ _ _ _ _ h H locs ls hsc hP hS hl)
  case lshl =>
    simp only [decide_eq_true_eq] at hok
    subst hok
    obtain ⟨x, y, r, rfl, h⟩ := mv_lie h
    exact lv_lshl hx hb (mv_len rfl hd) rfl (hY _ _ _ _ _ h H locs ls hsc hP hS hl)
  case lushr =>
    simp only [decide_eq_true_eq] at hok
    subst hok
    obtain ⟨x, y, r, rfl, h⟩ := mv_lie h
    exact lv_lushr hx hb (mv_len rfl hd) rfl (hY _ _ _ _ _ h H locs ls hsc hP hS hl)
  case i2l =>
    simp only [decide_eq_true_eq] at hok
    subst hok
    obtain ⟨x, r, rfl, h⟩ := mv_i1e h
    exact lv_i2l hx hb (mv_len rfl hd) rfl (hY _ _ _ _ _ h H locs ls hsc hP hS hl)
  case l2i =>
    simp only [decide_eq_true_eq] at hok
    subst hok
    obtain ⟨x, r, rfl, h⟩ := mv_l1e h
    exact lv_l2i hx hb (mv_len rfl hd) rfl (hY _ _ _ _ _ h H locs ls hsc hP hS hl)
  case dup =>
    simp only [decide_eq_true_eq] at hok
    subst hok
    simp only [mv_step] at h
    split at h
    · obtain ⟨h0, h⟩ := h
      exact lv_dup hx hb (mv_len rfl hd) (by rw [mv_cat]; revert h0; rename_i x r; cases x <;> simp [mv_cat1, Value.category]) (hY _ _ _ _ _ h H locs ls hsc hP hS hl)
    · exact h.elim
  case dup2 =>
    simp only [decide_eq_true_eq] at hok
    subst hok
    simp only [mv_step] at h
    split at h
    · exact lv_dup2_2 hx hb (mv_len rfl hd) rfl (hY _ _ _ _ _ h H locs ls hsc hP hS hl)
    · exact lv_dup2_11 hx hb (mv_len rfl hd) rfl rfl (hY _ _ _ _ _ h H locs ls hsc hP hS hl)
    · exact h.elim
  case pop =>
    simp only [decide_eq_true_eq] at hok
    subst hok
    simp only [mv_step] at h
    split at h
    · obtain ⟨h0, h⟩ := h
      exact lv_pop hx hb (mv_len rfl hd) (by rw [mv_cat]; revert h0; rename_i x r; cases x <;> simp [mv_cat1, Value.category]) (hY _ _ _ _ _ h H locs ls hsc hP hS hl)
    · exact h.elim
  case ifCond cd off =>
    simp only [Bool.and_eq_true, decide_eq_true_eq] at hok
    obtain ⟨h0, rfl⟩ := hok
    cases cd
    case eq =>
      obtain ⟨x, r, rfl, h1, h2⟩ := mv_i1e h
      exact lv_if_eq hx hb (mv_len rfl hd) h0 (fun z => hY _ _ _ _ _ (h1 z) H locs ls hsc hP hS hl) (fun z => hY _ _ _ _ _ (h2 z) H locs ls hsc hP hS hl)
    case ne =>
      obtain ⟨x, r, rfl, h1, h2⟩ := mv_i1e h
      exact lv_if_ne hx hb (mv_len rfl hd) h0 (fun z => hY _ _ _ _ _ (h1 z) H locs ls hsc hP hS hl) (fun z => hY _ _ _ _ _ (h2 z) H locs ls hsc hP hS hl)
    case lt =>
      obtain ⟨x, r, rfl, h1, h2⟩ := mv_i1e h
      exact lv_if_lt hx hb (mv_len rfl hd) h0 (fun z => hY _ _ _ _ _ (h1 z) H locs ls hsc hP hS hl) (fun z => hY _ _ _ _ _ (h2 z) H locs ls hsc hP hS hl)
    case ge =>
      obtain ⟨x, r, rfl, h1, h2⟩ := mv_i1e h
      exact lv_if_ge hx hb (mv_len rfl hd) h0 (fun z => hY _ _ _ _ _ (h1 (Int32.not_lt.mpr z)) H locs ls hsc hP hS hl) (fun z => hY _ _ _ _ _ (h2 (Int32.not_le.mp z)) H locs ls hsc hP hS hl)
    case gt =>
      obtain ⟨x, r, rfl, h1, h2⟩ := mv_i1e h
      exact lv_if_gt hx hb (mv_len rfl hd) h0 (fun z => hY _ _ _ _ _ (h1 z) H locs ls hsc hP hS hl) (fun z => hY _ _ _ _ _ (h2 z) H locs ls hsc hP hS hl)
    case le =>
      obtain ⟨x, r, rfl, h1, h2⟩ := mv_i1e h
      exact lv_if_le hx hb (mv_len rfl hd) h0 (fun z => hY _ _ _ _ _ (h1 (Int32.not_lt.mpr z)) H locs ls hsc hP hS hl) (fun z => hY _ _ _ _ _ (h2 (Int32.not_le.mp z)) H locs ls hsc hP hS hl)
  case if_icmp cd off =>
    simp only [Bool.and_eq_true, decide_eq_true_eq] at hok
    obtain ⟨h0, rfl⟩ := hok
    cases cd
    case eq =>
      obtain ⟨x, y, r, rfl, h1, h2⟩ := mv_i2e h
      exact lv_icmp_eq hx hb (mv_len rfl hd) h0 (fun z => hY _ _ _ _ _ (h1 z) H locs ls hsc hP hS hl) (fun z => hY _ _ _ _ _ (h2 z) H locs ls hsc hP hS hl)
    case ne =>
      obtain ⟨x, y, r, rfl, h1, h2⟩ := mv_i2e h
      exact lv_icmp_ne hx hb (mv_len rfl hd) h0 (fun z => hY _ _ _ _ _ (h1 z) H locs ls hsc hP hS hl) (fun z => hY _ _ _ _ _ (h2 z) H locs ls hsc hP hS hl)
    case lt =>
      obtain ⟨x, y, r, rfl, h1, h2⟩ := mv_i2e h
      exact lv_icmp_lt hx hb (mv_len rfl hd) h0 (fun z => hY _ _ _ _ _ (h1 z) H locs ls hsc hP hS hl) (fun z => hY _ _ _ _ _ (h2 z) H locs ls hsc hP hS hl)
    case ge =>
      obtain ⟨x, y, r, rfl, h1, h2⟩ := mv_i2e h
      exact lv_icmp_ge hx hb (mv_len rfl hd) h0 (fun z => hY _ _ _ _ _ (h1 (Int32.not_lt.mpr z)) H locs ls hsc hP hS hl) (fun z => hY _ _ _ _ _ (h2 (Int32.not_le.mp z)) H locs ls hsc hP hS hl)
    case gt =>
      obtain ⟨x, y, r, rfl, h1, h2⟩ := mv_i2e h
      exact lv_icmp_gt hx hb (mv_len rfl hd) h0 (fun z => hY _ _ _ _ _ (h1 z) H locs ls hsc hP hS hl) (fun z => hY _ _ _ _ _ (h2 z) H locs ls hsc hP hS hl)
    case le =>
      obtain ⟨x, y, r, rfl, h1, h2⟩ := mv_i2e h
      exact lv_icmp_le hx hb (mv_len rfl hd) h0 (fun z => hY _ _ _ _ _ (h1 (Int32.not_lt.mpr z)) H locs ls hsc hP hS hl) (fun z => hY _ _ _ _ _ (h2 (Int32.not_le.mp z)) H locs ls hsc hP hS hl)
  case goto off =>
    simp only [Bool.and_eq_true, decide_eq_true_eq] at hok
    obtain ⟨h0, rfl⟩ := hok
    exact lv_goto hx hb (mv_len rfl hd) h0 (hY _ _ _ _ _ h H locs ls hsc hP hS hl)
  case ifnull off =>
    simp only [Bool.and_eq_true, decide_eq_true_eq] at hok
    obtain ⟨h0, rfl⟩ := hok
    simp only [mv_step] at h
    split at h
    · exact lv_ifnull hx hb (mv_len rfl hd) (hY _ _ _ _ _ h H locs ls hsc hP hS hl)
    · exact lv_ifnullN hx hb (mv_len rfl hd) h0 (hY _ _ _ _ _ h H locs ls hsc hP hS hl)
    · exact h.elim
  case ifnonnull off =>
    simp only [Bool.and_eq_true, decide_eq_true_eq] at hok
    obtain ⟨h0, rfl⟩ := hok
    simp only [mv_step] at h
    split at h
    · exact lv_ifnonnull hx hb (mv_len rfl hd) h0 (hY _ _ _ _ _ h H locs ls hsc hP hS hl)
    · exact lv_ifnonnullN hx hb (mv_len rfl hd) (hY _ _ _ _ _ h H locs ls hsc hP hS hl)
    · exact h.elim
  case tableswitch d lo hi os =>
    simp only [Bool.and_eq_true, decide_eq_true_eq, List.all_eq_true] at hok
    obtain ⟨⟨⟨⟨⟨hsw, hdf⟩, hhi⟩, hlo1⟩, hhi1⟩, hall⟩ := hok
    obtain ⟨x, r, rfl, h0⟩ := mv_i1e h
    rw [hsw] at h0
    rcases mv_sw_ok h0 with ⟨i, t, h1, h2⟩ | ⟨h1, h2⟩
    · rw [mv_csOf_at] at h1
      cases ho : os.toList[i]? with
      | none => rw [ho] at h1; cases h1
      | some o =>
        rw [ho] at h1
        obtain ⟨rfl, rfl⟩ := Prod.mk.inj (Option.some.inj h1)
        have hi1 : i < os.size := by
          have := (List.getElem?_eq_some_iff.mp ho).1
          simpa using this
        have hv : (Int32.ofInt (lo + (i : Int))).toInt = lo + i := Int32.toInt_ofInt_of_le (by omega) (by omega)
        have ht : (pc : Int) + o = ((((pc : Int) + o).toNat : Nat) : Int) := by
          have := hall o (List.mem_of_getElem? ho)
          omega
        refine lv_tableIn hx hb hd (off := o) (by rw [hv]; omega) (by rw [hv]; omega) ?_ ht (hY _ _ _ _ _ h2 H locs ls hsc hP hS hl)
        rw [hv, ← Array.getElem?_toList, show (lo + (i : Int) - lo).toNat = i by omega]
        exact ho
    · refine lv_tableOut hx hb hd ?_ hdf (hY _ _ _ _ _ h2 H locs ls hsc hP hS hl)
      refine Decidable.byContradiction fun hn => ?_
      have hn1 : ¬ x.toInt < lo := fun z => hn (Or.inl z)
      have hn2 : ¬ hi < x.toInt := fun z => hn (Or.inr z)
      have hi1 : (x.toInt - lo).toNat < os.toList.length := by
        rw [Array.length_toList]
        omega
      refine h1 (x.toInt - lo).toNat (Int32.ofInt (lo + ((x.toInt - lo).toNat : Nat)), ((pc : Int) + os.toList[(x.toInt - lo).toNat]).toNat) ?_ ?_
      · rw [mv_csOf_at, List.getElem?_eq_getElem hi1]
        rfl
      · rw [show lo + (((x.toInt - lo).toNat : Nat) : Int) = x.toInt by omega]
        exact (Int32.ofInt_toInt x).symm
  case lookupswitch d os =>
    simp only [Bool.and_eq_true, decide_eq_true_eq] at hok
    obtain ⟨⟨⟨hsw, hdf⟩, hall⟩, hsrt⟩ := hok
    obtain ⟨x, r, rfl, h0⟩ := mv_i1e h
    rw [hsw] at h0
    rcases mv_look (fun q hq => by
      have h9 := List.all_eq_true.mp hall q hq
      simp only [Bool.and_eq_true, decide_eq_true_eq] at h9
      exact ⟨h9.1.1, h9.1.2, h9.2⟩) h0 with ⟨o, t, h1, h2, h3⟩ | ⟨h1, h2⟩
    · exact lv_lookup hx hb hd hsrt h1 h2 (hY _ _ _ _ _ h3 H locs ls hsc hP hS hl)
    · exact lv_lookup hx hb hd hsrt h1 hdf (hY _ _ _ _ _ h2 H locs ls hsc hP hS hl)
  case getfield i =>
    simp only [Bool.and_eq_true, decide_eq_true_eq] at hok
    obtain ⟨⟨⟨h1, rfl⟩, ha⟩, hbn⟩ := hok
    rw [mv_pF_eq] at h1
    have hlk := hts _ (mv_qF_ok _ h1 _ List.mem_cons_self)
    obtain ⟨o, r, rfl, hlay, h⟩ := mv_a1e h
    obtain ⟨q0, hq⟩ := mv_id_of hlay
    have hcell := mv_ws_at G I J hq
    rw [mv_cell1 hlay] at hcell
    have key : ∀ v : Value, mv_fv G.2.1 I J o a b = v → W p l e R s m args below meth c H locs cells slots Q (F0 m (pc + 3) ls (v :: r.map (mv_z G.2.1))) → W p l e R s m args below meth c H locs cells slots Q (F0 m pc ls (.ref (G.2.1 o) :: r.map (mv_z G.2.1))) := fun v hv k =>
      va_get hx hb hts (mv_wK_ok ha) hown hK hP q0 hcell (mv_cl_at ha) b hbn hlk (fun x hx => hx) (by rw [mv_range_get _ hbn, hv]) (mv_len rfl hd) k
    split at h
    · rename_i hft
      exact key (.long (J o b)) (by unfold mv_fv; rw [hft]; rfl) (hY _ _ _ _ _ h H locs ls hsc hP hS hl)
    · rename_i hft
      obtain ⟨q, hrf, h⟩ := h
      exact key (.ref (G.2.1 q)) (by unfold mv_fv; rw [hft, hrf]; rfl) (hY _ _ _ _ _ h H locs ls hsc hP hS hl)
    · rename_i hf2 hf3
      refine key (.int (I o b)) ?_ (hY _ _ _ _ _ h H locs ls hsc hP hS hl)
      unfold mv_fv
      split
      · rename_i z; exact absurd z hf2
      · rename_i z; exact absurd z hf3
      · rfl
  case putfield i =>
    simp only [Bool.and_eq_true, decide_eq_true_eq] at hok
    obtain ⟨⟨⟨h1, rfl⟩, ha⟩, hbn⟩ := hok
    rw [mv_pF_eq] at h1
    have hlk := hts _ (mv_qF_ok _ h1 _ List.mem_cons_self)
    simp only [mv_step] at h
    split at h
    · rename_i hft
      obtain ⟨o, x, r, rfl, hlay, h⟩ := mv_pie h
      obtain ⟨q0, hq⟩ := mv_id_of hlay
      have hcell := mv_ws_at G I J hq
      rw [mv_cell1 hlay] at hcell
      obtain ⟨hpd, hfi⟩ := mv_ftk0 ha hbn hft
      refine va_put hx hb hts (mv_wK_ok ha) (mv_tyf a) (mv_tyf_ok ha) (mv_nm_ok ha) hown hK hP hD hS q0 hcell (mv_cl_at ha) b hbn hlk (fun x hx => hx) hfi hpd (v := .int x) rfl rfl (by simpa using hbn) (mv_len rfl hd) (fun H1 locs1 hP1 hD1 hS1 => ?_)
      rw [mv_ws_set (I' := mv_si I o b x) (J' := J) hq (by
        rw [mv_cell1 hlay]
        refine congrArg Sum.inr (congrArg (Prod.mk a) (mv_range_set _ _ _ _ (fun i hi => ?_) _ ?_))
        · unfold mv_fv; simp [mv_si, hi]
        · unfold mv_fv; rw [hft]; simp [mv_si]) (fun _ h => mv_si_ne h) (fun _ _ => rfl)] at hP1
      exact hY _ _ _ _ _ h H1 locs1 ls (mv_scr_si hsc hlay) hP1 hS1 hl
    · rename_i hft
      obtain ⟨o, x, r, rfl, hlay, hx01, h⟩ := mv_pie h
      obtain ⟨q0, hq⟩ := mv_id_of hlay
      have hcell := mv_ws_at G I J hq
      rw [mv_cell1 hlay] at hcell
      obtain ⟨hpd, hfi⟩ := mv_ftk1 ha hbn hft
      refine va_put hx hb hts (mv_wK_ok ha) (mv_tyf a) (mv_tyf_ok ha) (mv_nm_ok ha) hown hK hP hD hS q0 hcell (mv_cl_at ha) b hbn hlk (fun x hx => hx) hfi hpd (v := .int x) (mv_narb hx01) (mv_fitb hx01) (by simpa using hbn) (mv_len rfl hd) (fun H1 locs1 hP1 hD1 hS1 => ?_)
      rw [mv_ws_set (I' := mv_si I o b x) (J' := J) hq (by
        rw [mv_cell1 hlay]
        refine congrArg Sum.inr (congrArg (Prod.mk a) (mv_range_set _ _ _ _ (fun i hi => ?_) _ ?_))
        · unfold mv_fv; simp [mv_si, hi]
        · unfold mv_fv; rw [hft]; simp [mv_si]) (fun _ h => mv_si_ne h) (fun _ _ => rfl)] at hP1
      exact hY _ _ _ _ _ h H1 locs1 ls (mv_scr_si hsc hlay) hP1 hS1 hl
    · rename_i hft
      obtain ⟨o, x, r, rfl, hlay, h⟩ := mv_ple h
      obtain ⟨q0, hq⟩ := mv_id_of hlay
      have hcell := mv_ws_at G I J hq
      rw [mv_cell1 hlay] at hcell
      obtain ⟨hpd, hfi⟩ := mv_ftk2 ha hbn hft
      refine va_put hx hb hts (mv_wK_ok ha) (mv_tyf a) (mv_tyf_ok ha) (mv_nm_ok ha) hown hK hP hD hS q0 hcell (mv_cl_at ha) b hbn hlk (fun x hx => hx) hfi hpd (v := .long x) rfl rfl (by simpa using hbn) (mv_len rfl hd) (fun H1 locs1 hP1 hD1 hS1 => ?_)
      rw [mv_ws_set (I' := I) (J' := mv_sj J o b x) hq (by
        rw [mv_cell1 hlay]
        refine congrArg Sum.inr (congrArg (Prod.mk a) (mv_range_set _ _ _ _ (fun i hi => ?_) _ ?_))
        · unfold mv_fv; simp [mv_sj, hi]
        · unfold mv_fv; rw [hft]; simp [mv_sj]) (fun _ _ => rfl) (fun _ h => mv_sj_ne h)] at hP1
      exact hY _ _ _ _ _ h H1 locs1 ls hsc hP1 hS1 hl
    · exact h.elim
  case arraylength =>
    simp only [Bool.and_eq_true, decide_eq_true_eq] at hok
    obtain ⟨rfl, h8⟩ := hok
    obtain ⟨o, r, rfl, rfl, h0⟩ := mv_a1e h
    obtain ⟨e1, e2, e3, e4⟩ := hscr h8
    have h2 := hY _ _ _ _ _ h0 H locs ls hsc hP hS hl
    rw [show I 998 0 = Int32.ofNat (I0 998 0).toNatClampNeg from (congrFun hsc.2 0).trans e1] at h2
    exact va_slen hx hb e2 e3 e4 hS (mv_len rfl hd) h2
  case iaload =>
    simp only [Bool.and_eq_true, Bool.or_eq_true, decide_eq_true_eq] at hok
    obtain ⟨rfl, hor⟩ := hok
    simp only [mv_step] at h
    split at h
    · obtain ⟨o, i, r, rfl, n, hlay, hin, h⟩ := mv_aie h
      obtain ⟨q0, hq⟩ := mv_id_of hlay
      have hcell := mv_ws_at G I J hq
      rw [mv_cell2 hlay] at hcell
      exact va_iald hx hb hK hP q0 0 hcell rfl hin (mv_len rfl hd) (hY _ _ _ _ _ h H locs ls hsc hP hS hl)
    · rename_i hna
      obtain ⟨o, i, r, rfl, rfl, hin, h⟩ := mv_aie h
      obtain ⟨e1, e2, e3, e4⟩ := hscr (hor.resolve_left hna)
      rw [show I 998 0 = I0 998 0 from congrFun hsc.2 0] at hin
      have h2 := hY _ _ _ _ _ h H locs ls hsc hP hS hl
      rw [hsc.1] at h2
      exact va_sld hx hb e2 e3 e4 hS hin (mv_len rfl hd) h2
  case iastore =>
    simp only [decide_eq_true_eq] at hok
    subst hok
    obtain ⟨o, i, x, r, rfl, n, hlay, hin, h⟩ := mv_aiie h
    obtain ⟨q0, hq⟩ := mv_id_of hlay
    have hcell := mv_ws_at G I J hq
    rw [mv_cell2 hlay] at hcell
    refine va_iast hx hb hK hP hD hS q0 0 hcell rfl hin (mv_len rfl hd) (fun H1 locs1 hP1 hD1 hS1 => ?_)
    rw [mv_ws_set (I' := mv_si I o i.toNatClampNeg x) (J' := J) hq (by rw [mv_cell2 hlay, mv_si_eq]) (fun _ h => mv_si_ne h) (fun _ _ => rfl)] at hP1
    exact hY _ _ _ _ _ h H1 locs1 ls (mv_scr_si hsc hlay) hP1 hS1 hl
  case baload =>
    simp only [decide_eq_true_eq] at hok
    subst hok
    obtain ⟨o, i, r, rfl, n, hlay, hin, h⟩ := mv_aie h
    obtain ⟨q0, hq⟩ := mv_id_of hlay
    have hcell := mv_ws_at G I J hq
    rw [mv_cell3 hlay] at hcell
    exact va_zald hx hb hK hP q0 1 hcell rfl hin (mv_len rfl hd) (hY _ _ _ _ _ h H locs ls hsc hP hS hl)
  case bastore =>
    simp only [decide_eq_true_eq] at hok
    subst hok
    obtain ⟨o, i, x, r, rfl, n, hlay, hin, hx01, h⟩ := mv_aiie h
    obtain ⟨q0, hq⟩ := mv_id_of hlay
    have hcell := mv_ws_at G I J hq
    rw [mv_cell3 hlay] at hcell
    refine va_zast hx hb hK hP hD hS q0 1 hcell rfl hin (mv_len rfl hd) (fun H1 locs1 hP1 hD1 hS1 => ?_)
    rw [mv_nar1 hx01, mv_ws_set (I' := mv_si I o i.toNatClampNeg x) (J' := J) hq (by rw [mv_cell3 hlay, mv_si_eq]) (fun _ h => mv_si_ne h) (fun _ _ => rfl)] at hP1
    exact hY _ _ _ _ _ h H1 locs1 ls (mv_scr_si hsc hlay) hP1 hS1 hl
  case laload =>
    simp only [decide_eq_true_eq] at hok
    subst hok
    obtain ⟨o, i, r, rfl, n, hlay, hin, h⟩ := mv_aie h
    obtain ⟨q0, hq⟩ := mv_id_of hlay
    have hcell := mv_ws_at G I J hq
    rw [mv_cell4 hlay] at hcell
    exact va_lald hx hb hK hP q0 2 hcell rfl hin (mv_len rfl hd) (hY _ _ _ _ _ h H locs ls hsc hP hS hl)
  case lastore =>
    simp only [decide_eq_true_eq] at hok
    subst hok
    obtain ⟨o, i, x, r, rfl, n, hlay, hin, h⟩ := mv_aile h
    obtain ⟨q0, hq⟩ := mv_id_of hlay
    have hcell := mv_ws_at G I J hq
    rw [mv_cell4 hlay] at hcell
    refine va_last hx hb hK hP hD hS q0 2 hcell rfl hin (mv_len rfl hd) (fun H1 locs1 hP1 hD1 hS1 => ?_)
    rw [mv_ws_set (I' := I) (J' := mv_sj J o i.toNatClampNeg x) hq (by rw [mv_cell4 hlay, mv_sj_eq]) (fun _ _ => rfl) (fun _ h => mv_sj_ne h)] at hP1
    exact hY _ _ _ _ _ h H1 locs1 ls hsc hP1 hS1 hl
  case aaload =>
    simp only [Bool.and_eq_true, Bool.or_eq_true, decide_eq_true_eq] at hok
    obtain ⟨rfl, hor⟩ := hok
    simp only [mv_step] at h
    split at h
    · obtain ⟨o, i, r, rfl, n, hlay, hin, q, hrf, h⟩ := mv_aie h
      obtain ⟨q0, hq⟩ := mv_id_of hlay
      have hcell := mv_ws_at G I J hq
      rw [mv_cell5 hlay] at hcell
      have h2 := hY _ _ _ _ _ h H locs ls hsc hP hS hl
      have e2 : mv_z G.2.1 (.ref q) = va_rf ((fun i => (mv_rf o i).map G.2.1) i.toNatClampNeg) := by
        dsimp only
        rw [hrf]
        rfl
      rw [List.map_cons, e2] at h2
      have hb3 : b = 1 ∨ b = 2 ∨ b = 4 := by
        rcases hor with ⟨-, h3⟩ | h3
        · rcases h3 with (h3 | h3) | h3
          · exact Or.inl h3
          · exact Or.inr (Or.inl h3)
          · exact Or.inr (Or.inr h3)
        · exact absurd h3 (by decide)
      rcases hb3 with rfl | rfl | rfl
      · exact va_aldq hx hb hK hP q0 3 hcell rfl hin (mv_len rfl hd) h2
      · exact va_aldq hx hb hK hP q0 4 hcell rfl hin (mv_len rfl hd) h2
      · exact va_aldq hx hb hK hP q0 5 hcell rfl hin (mv_len rfl hd) h2
    · obtain ⟨o, i, r, rfl, n, hlay, hin, q, hrf, h⟩ := mv_aie h
      obtain ⟨q0, hq⟩ := mv_id_of hlay
      have hcell := mv_ws_at G I J hq
      rw [mv_cell6 hlay] at hcell
      have h2 := hY _ _ _ _ _ h H locs ls hsc hP hS hl
      have e2 : mv_z G.2.1 (.ref q) = va_rf ((fun i => (mv_rf o i).map G.2.1) i.toNatClampNeg) := by
        dsimp only
        rw [hrf]
        rfl
      rw [List.map_cons, e2] at h2
      have hlt2 : i.toNatClampNeg < n := Nat.not_le.mp fun q => hin (Or.inr q)
      exact W.aald (v := va_rf ((fun i => (mv_rf o i).map G.2.1) i.toNatClampNeg)) (ty := .array .long) hx hb (hP q0 _ hcell) ((hK.2 6 _ rfl).1 n (fun j => va_rf ((fun i => (mv_rf o i).map G.2.1) j))) rfl (fun q => by cases q) (by show ¬ (i < 0 ∨ (arrV _ _ _).slots.size ≤ _); rw [arrV_size]; exact hin) (by show (arrV _ _ _).slots[_]? = _; rw [arrV_read _ _ hlt2]) rfl rfl (mv_len rfl hd) h2
  case invokevirtual i =>
    simp only [Bool.and_eq_true, decide_eq_true_eq] at hok
    obtain ⟨⟨⟨⟨h1, rfl⟩, hb1⟩, hfr1⟩, hlo1⟩ := hok
    have hmm := List.all_eq_true.mp mv_mV_ok _ h1
    simp only [Bool.and_eq_true, decide_eq_true_eq, mv_mck] at hmm
    obtain ⟨⟨⟨⟨⟨⟨⟨hc1, hc2⟩, hdn⟩, hn1⟩, hcn⟩, ho8⟩, hn150⟩, hn151⟩ := hmm
    have hcw := mv_cW_ok a (by simpa using List.all_eq_true.mp mv_cV_in _ h1)
    rw [mv_pV_eq] at h1
    have hwd := mv_qV_ok _ h1
    simp only [mv_step] at h
    split at h
    · rename_i o as hargs
      obtain ⟨hokc, hlay, hpre, h⟩ := h
      simp only [mv_okc, Bool.and_eq_true] at hokc
      have hb2 : b ≤ st.length := Nat.le_of_ble_eq_true hokc.1
      have hlen : as.length + 1 = b := by
        have := congrArg List.length hargs
        rw [List.length_reverse, List.length_take, List.length_cons] at this
        omega
      have hst : st = as.reverse ++ .ref o :: st.drop b := by
        have e1 : st.take b = as.reverse ++ [.ref o] := by
          have := congrArg List.reverse hargs
          rw [List.reverse_reverse, List.reverse_cons] at this
          exact this
        have e2 := (List.take_append_drop b st).symm
        rw [e1, List.append_assoc] at e2
        exact e2
      obtain ⟨q0, hq⟩ := mv_id_of hlay
      have hcell := mv_ws_at G I J hq
      rw [mv_cell1 hlay] at hcell
      have hgd : GoodIn mv_T (wsV (mv_cn M.2.2.2.2.1) i (mv_m a).1.cls (mv_m a).1 (mv_WS a)) := by
        refine mv_good_of fun w hw => ?_
        unfold wsV at hw
        rcases List.mem_append.mp hw with hw | hw
        · simp only [List.mem_cons, List.not_mem_nil, or_false] at hw
          rcases hw with rfl | rfl | rfl | rfl
          · exact hwd _ (by simp [mv_wV])
          · exact hwd _ (by simp [mv_wV])
          · exact hwd _ (by simp [mv_wV])
          · exact hwd _ (by simp [mv_wV])
        · rcases List.mem_cons.mp hw with rfl | hw
          · exact hcw
          · exact hw
      refine mv_goes (I := I) (post := (cs a).2 (.ref o :: as) I J) (rest := (st.drop b).map (mv_z G.2.1)) (a := (Value.ref (G.2.1 o) :: as.map (mv_z G.2.1)).toArray) (va_runV (As := as.map (mv_z G.2.1)) ⟨hx, hb, hml, hown, hts⟩ (hcs.1 a hn150 hn151 _ I J hpre) (cwV (((mv_m a).2.2.2.2.2.1) - 1) hts hgd rfl rfl rfl ⟨rfl, hc1, hc2, hdn⟩ ⟨Nat.le_trans hfr1 hfr, Nat.le_trans hlo1 hlo⟩) ⟨mv_Pc_blind _ _ _ _, ?_, fun U hU hW => ⟨rfl, by rw [hU]; exact hP, va_K.moved hW.alike hK, mv_N_warm hW hN⟩⟩ rfl (by rw [List.length_map]; omega) hl.1 ?_ (lv_room (by rw [mv_sum_z]; exact Nat.le_of_ble_eq_true hokc.2)) (mv_len rfl hd) ⟨hce, hsl⟩) hS (fun r I' J' H1 locs1 hp hsc' hP1 hS1 => ?_)
      · rw [hcn]
        exact va_recv hK hP (mv_cl_at ho8) hcell
      · show st.map (mv_z G.2.1) = _
        rw [← List.map_reverse, show Value.ref (G.2.1 o) :: (st.drop b).map (mv_z G.2.1) = (Value.ref o :: st.drop b).map (mv_z G.2.1) from rfl, ← List.map_append, ← hst]
      · rw [mv_back]
        exact hY _ _ _ _ _ (h r I' J' hp) H1 locs1 ls ⟨hsc'.1.trans hsc.1, hsc'.2.trans hsc.2⟩ hP1 hS1 hl
    · exact h.elim
  case invokestatic i =>
    simp only [Bool.and_eq_true, decide_eq_true_eq] at hok
    obtain ⟨rfl, hok⟩ := hok
    simp only [mv_step] at h
    split at h
    · rename_i h900
      have h900 : a = 900 := Nat.eq_of_beq_eq_true h900
      rw [if_pos h900] at hok
      simp only [Bool.and_eq_true, decide_eq_true_eq] at hok
      obtain ⟨⟨⟨ho1, rfl⟩, hfr1⟩, hlo1⟩ := hok
      obtain ⟨o, sp, d, dp, n, r, rfl, rfl, n0, n1, hlay0, hlay1, g1, g2, g3, g4, g5, h⟩ := mv_cpye h
      obtain ⟨q0, hq0⟩ := mv_id_of hlay0
      obtain ⟨q1, hq1⟩ := mv_id_of hlay1
      have hcell0 := mv_ws_at G I J hq0
      rw [mv_cell2 hlay0] at hcell0
      have hcell1 := mv_ws_at G I J hq1
      rw [mv_cell2 hlay1] at hcell1
      have hwd := mv_qA_ok 0 (by decide +kernel)
      have hown2 : s.vm.findClass RX1 = some m.cls := by rw [ho1] at hown; exact hown
      refine va_copyi hx hb (hml.trans hl.1.symm) hown2 (hts _ (hwd _ (by simp [mv_wA]))) (hts _ (hwd _ (by simp [mv_wA]))) (hts _ (hwd _ (by simp [mv_wA]))) (hts _ (hwd _ (by simp [mv_wA]))) hK hP hD hS q0 q1 0 0 hcell0 hcell1 rfl rfl rfl g1 g2 g3 g4 g5 (fun _ _ => rfl) (Nat.le_trans hfr1 hfr) (Nat.le_trans hlo1 hlo) (mv_len rfl hd) (fun H1 locs1 hP1 hD1 hS1 => ?_)
      rw [mv_ws_set (I' := mv_sr I d (va_cpy (I o) (I d) sp.toNatClampNeg dp.toNatClampNeg n.toNatClampNeg)) (J' := J) hq1 (by rw [mv_cell2 hlay1, mv_sr_eq]) (fun _ h => mv_sr_ne h) (fun _ _ => rfl)] at hP1
      exact hY _ _ _ _ _ h H1 locs1 ls (mv_scr_sr hsc hlay1) hP1 hS1 hl
    · rename_i h900
      have h900 : ¬ a = 900 := fun z => by rw [z] at h900; exact absurd h900 (by decide)
      rw [if_neg h900] at hok
      simp only [Bool.and_eq_true, Bool.or_eq_true, decide_eq_true_eq] at hok
      obtain ⟨⟨⟨h1, hb1⟩, hfr1⟩, hlo1⟩ := hok
      obtain ⟨hokc, hpre, h⟩ := h
      simp only [mv_okc, Bool.and_eq_true] at hokc
      have hb2 : b ≤ st.length := Nat.le_of_ble_eq_true hokc.1
      have fin : ∀ (r : Option Value) (I' : mv_I) (J' : mv_J) (H1 : Heap) (locs1 : List Loc), (cs a).2 (st.take b).reverse I J r I' J' → mv_scr I I' → va_P G.1 mv_cl (mv_ws G I' J') H1 → va_S A H0 H1 locs1 → W p l e R s m args below meth c H1 locs1 cells slots Q (F0 m (pc + 3) ls ((r.map (mv_z G.2.1)).toList ++ (st.drop b).map (mv_z G.2.1))) := by
        intro r I' J' H1 locs1 hp hsc' hP1 hS1
        rw [mv_back]
        exact hY _ _ _ _ _ (h r I' J' hp) H1 locs1 ls ⟨hsc'.1.trans hsc.1, hsc'.2.trans hsc.2⟩ hP1 hS1 hl
      have hstk : st.map (mv_z G.2.1) = ((st.take b).reverse.map (mv_z G.2.1)).reverse ++ (st.drop b).map (mv_z G.2.1) := by
        rw [← List.map_reverse, List.reverse_reverse, ← List.map_append, List.take_append_drop]
      have hpS : PreS s H (mv_Pc G (st.take b).reverse I J) ((st.take b).reverse.map (mv_z G.2.1)) := ⟨mv_Pc_blind _ _ _ _, fun U hU hW => ⟨rfl, by rw [hU]; exact hP, va_K.moved hW.alike hK, mv_N_warm hW hN⟩⟩
      have hln : ((st.take b).reverse.map (mv_z G.2.1)).length = b := by
        rw [List.length_map, List.length_reverse, List.length_take]
        omega
      by_cases hMx : a = 150
      · subst hMx
        have hcx : cs 150 = sp_max := hcs.2.1.resolve_right (fun z => by rw [z] at hpre; exact hpre)
        have h10 : (M.2.2.2.2.1, i, 150, 0) ∈ mv_pS := h1.resolve_right (fun z => absurd z (mv_noN 150 (by decide +kernel)))
        have hcw := mv_cW_ok _ (by simpa using List.all_eq_true.mp mv_cS_in _ h10)
        rw [mv_pS_eq] at h10
        have hwd := mv_qS_ok _ h10
        rw [hcx] at hpre
        obtain ⟨x, y, hxy⟩ := mv_ii hpre
        have hst : st = .int y :: .int x :: st.drop b := by
          have e1 := congrArg List.reverse hxy
          rw [List.reverse_reverse] at e1
          have e2 := (List.take_append_drop b st).symm
          rw [e1] at e2
          exact e2
        have hsum : (((st.drop b).map (mv_z G.2.1)).map (fun v => v.category)).sum ≤ 8 := by rw [mv_sum_z]; exact Nat.le_of_ble_eq_true hokc.2
        have hk := hY _ _ _ _ _ (h (some (.int (mv_mx x y))) I J (by rw [hcx, hxy]; exact ⟨rfl, rfl, rfl⟩)) H locs ls hsc hP hS hl
        have h13 : (21 : Nat) ≤ M.2.2.2.2.2.2.2 := hlo1
        have h1f : (1 : Nat) ≤ M.2.2.2.2.2.2.1 := hfr1
        rw [hst]
        exact va_mmax hx hb (hml.trans hl.1.symm) hown (hts _ (hwd _ (List.mem_of_getElem? (i := 0) rfl))) (hts _ (hwd _ (List.mem_of_getElem? (i := 1) rfl))) (hts _ (hwd _ (List.mem_of_getElem? (i := 2) rfl))) (hts _ hcw) (Nat.le_trans h1f hfr) (by omega) hce hsl (x := x) (y := y) (rest := (st.drop b).map (mv_z G.2.1)) (mv_len rfl hd) hk
      by_cases hMn : a = 151
      · subst hMn
        have hcx : cs 151 = sp_min := hcs.2.2.resolve_right (fun z => by rw [z] at hpre; exact hpre)
        have h10 : (M.2.2.2.2.1, i, 151, 0) ∈ mv_pS := h1.resolve_right (fun z => absurd z (mv_noN 151 (by decide +kernel)))
        have hcw := mv_cW_ok _ (by simpa using List.all_eq_true.mp mv_cS_in _ h10)
        rw [mv_pS_eq] at h10
        have hwd := mv_qS_ok _ h10
        rw [hcx] at hpre
        obtain ⟨x, y, hxy⟩ := mv_ii hpre
        have hst : st = .int y :: .int x :: st.drop b := by
          have e1 := congrArg List.reverse hxy
          rw [List.reverse_reverse] at e1
          have e2 := (List.take_append_drop b st).symm
          rw [e1] at e2
          exact e2
        have hsum : (((st.drop b).map (mv_z G.2.1)).map (fun v => v.category)).sum ≤ 8 := by rw [mv_sum_z]; exact Nat.le_of_ble_eq_true hokc.2
        have hk := hY _ _ _ _ _ (h (some (.int (mv_mn x y))) I J (by rw [hcx, hxy]; exact ⟨rfl, rfl, rfl⟩)) H locs ls hsc hP hS hl
        have h13 : (21 : Nat) ≤ M.2.2.2.2.2.2.2 := hlo1
        have h1f : (1 : Nat) ≤ M.2.2.2.2.2.2.1 := hfr1
        rw [hst]
        exact va_mmin hx hb (hml.trans hl.1.symm) hown (hts _ (hwd _ (List.mem_of_getElem? (i := 0) rfl))) (hts _ (hwd _ (List.mem_of_getElem? (i := 1) rfl))) (hts _ (hwd _ (List.mem_of_getElem? (i := 2) rfl))) (hts _ hcw) (Nat.le_trans h1f hfr) (by omega) hce hsl (x := x) (y := y) (rest := (st.drop b).map (mv_z G.2.1)) (mv_len rfl hd) hk
      have hcsa := hcs.1 a hMx hMn
      rcases h1 with h1 | h1
      · have hmm := List.all_eq_true.mp mv_mS_ok _ h1
        have hcw := mv_cW_ok a (by simpa using List.all_eq_true.mp mv_cS_in _ h1)
        simp only [Bool.and_eq_true, decide_eq_true_eq, mv_mck] at hmm
        obtain ⟨⟨⟨hc1, hc2⟩, hdn⟩, -⟩ := hmm
        rw [mv_pS_eq] at h1
        have hwd := mv_qS_ok _ h1
        have hgd : GoodIn mv_T (va_wsS (mv_cn M.2.2.2.2.1) i (mv_m a).1 (mv_WS a)) := by
          refine mv_good_of fun w hw => ?_
          unfold va_wsS at hw
          rcases List.mem_append.mp hw with hw | hw
          · simp only [List.mem_cons, List.not_mem_nil, or_false] at hw
            rcases hw with rfl | rfl | rfl
            · exact hwd _ (by simp [mv_wS])
            · exact hwd _ (by simp [mv_wS])
            · exact hwd _ (by simp [mv_wS])
          · rcases List.mem_cons.mp hw with rfl | hw
            · exact hcw
            · exact hw
        exact mv_goes (I := I) (post := (cs a).2 (st.take b).reverse I J) (rest := (st.drop b).map (mv_z G.2.1)) (va_runS (As := (st.take b).reverse.map (mv_z G.2.1)) ⟨hx, hb, hml, hown, hts⟩ (hcsa _ I J hpre) (va_cwS b hts hgd rfl rfl rfl ⟨hc1, hc2, by rw [hb1]; exact hdn⟩ ⟨Nat.le_trans hfr1 hfr, Nat.le_trans hlo1 hlo⟩) hpS rfl hln hl.1 hstk (lv_room (by rw [mv_sum_z]; exact Nat.le_of_ble_eq_true hokc.2)) (mv_len rfl hd) ⟨hce, hsl⟩) hS fin
      · have hmm := List.all_eq_true.mp mv_mS_ok _ h1
        have hcw := mv_cW_ok a (by simpa using List.all_eq_true.mp mv_cS_in _ h1)
        simp only [Bool.and_eq_true, decide_eq_true_eq, mv_mck] at hmm
        obtain ⟨⟨⟨hc1, hc2⟩, hdn⟩, -⟩ := hmm
        have hnl : (mv_cn M.2.2.2.2.1, i) = (mv_cn M.2.2.2.2.1, i) := rfl
        have hn := hN _ (by rw [mv_pN_eq]; exact List.mem_filter.mpr ⟨h1, rfl⟩)
        rw [mv_pS_eq] at h1
        have hwd := mv_qS_ok _ h1
        have hgd : GoodIn mv_T (mv_WS a) := by
          refine mv_good_of fun w hw => ?_
          rcases List.mem_cons.mp hw with rfl | hw
          · exact hcw
          · exact hw
        exact mv_goes (I := I) (post := (cs a).2 (st.take b).reverse I J) (rest := (st.drop b).map (mv_z G.2.1)) (va_runSN (As := (st.take b).reverse.map (mv_z G.2.1)) ⟨hx, hb, hml, hown, hts⟩ (hcsa _ I J hpre) ⟨va_cnB b hts hgd rfl rfl rfl hn (hts _ (hwd _ (by simp [mv_wS]))) ⟨hc1, hc2, by rw [hb1]; exact hdn⟩ ⟨Nat.le_trans hfr1 hfr, Nat.le_trans hlo1 hlo⟩, hts _ (hwd _ (by simp [mv_wS])), trivial⟩ hpS rfl hln hl.1 hstk (lv_room (by rw [mv_sum_z]; exact Nat.le_of_ble_eq_true hokc.2)) (mv_len rfl hd) ⟨hce, hsl⟩) hS fin
  case ireturn =>
    simp only [Bool.and_eq_true, Bool.or_eq_true, decide_eq_true_eq] at hok
    obtain ⟨rfl, hor⟩ := hok
    simp only [mv_step] at h
    split at h
    · rename_i hb0
      split at h
      · refine hret pc ls H locs .ireturn (some (.int _)) I J (mv_len rfl hd) trivial (fun x hx => ?_) (fun x hx => by cases hx) (fun hx => by cases hx) (fun hx => by cases hx) h hsc hP hS
        rcases hor with ⟨-, h3⟩ | ⟨h3, -⟩
        · exact Or.inl h3
        · exact absurd h3 (by decide)
      · exact h.elim
    · rename_i hb0
      split at h
      · obtain ⟨hx01, h⟩ := h
        refine hret pc ls H locs .ireturn (some (.int _)) I J (mv_len rfl hd) trivial (fun x hx => ?_) (fun x hx => by cases hx) (fun hx => by cases hx) (fun hx => by cases hx) h hsc hP hS
        cases hx
        rcases hor with ⟨h3, -⟩ | ⟨-, h3⟩
        · exact absurd h3 hb0
        · exact Or.inr ⟨h3, hx01⟩
      · exact h.elim
  case lreturn =>
    simp only [Bool.and_eq_true, decide_eq_true_eq] at hok
    obtain ⟨rfl, hor⟩ := hok
    simp only [mv_step] at h
    split at h
    · exact hret pc ls H locs .lreturn (some (.long _)) I J (mv_len rfl hd) trivial (fun x hx => by cases hx) (fun x hx => hor) (fun hx => by cases hx) (fun hx => by cases hx) h hsc hP hS
    · exact h.elim
  case areturn =>
    simp only [Bool.and_eq_true, decide_eq_true_eq] at hok
    obtain ⟨rfl, hor⟩ := hok
    simp only [mv_step] at h
    split at h
    · exact hret pc ls H locs .areturn (some (.ref _)) I J (mv_len rfl hd) trivial (fun x hx => by cases hx) (fun x hx => by cases hx) (fun _ => hor) (fun hx => by cases hx) h hsc hP hS
    · exact hret pc ls H locs .areturn (some .null) I J (mv_len rfl hd) trivial (fun x hx => by cases hx) (fun x hx => by cases hx) (fun _ => hor) (fun hx => by cases hx) h hsc hP hS
    · exact h.elim
  case return_ =>
    simp only [Bool.and_eq_true, decide_eq_true_eq] at hok
    obtain ⟨rfl, hor⟩ := hok
    simp only [mv_step] at h
    split at h
    · exact hret pc ls H locs .return_ none I J (mv_len rfl hd) trivial (fun x hx => by cases hx) (fun x hx => by cases hx) (fun hx => by cases hx) (fun _ => hor) h hsc hP hS
    · exact h.elim
  all_goals exact False.elim h
end MVS
end
section
/-! From walks to contracts. -/
def mv_cs : List (Nat × mv_SP) → Nat → mv_SP
  | [], _ => mv_none
  | (j, x) :: r, k => match Nat.beq j k with
    | true => x
    | false => mv_cs r k
theorem mv_cs_nil {l : Launch} {G : mv_G} {A : Nat → Prop} : mv_CsOk l G A (mv_cs []) := ⟨fun _ _ _ _ _ _ h => h.elim, Or.inr rfl, Or.inr rfl⟩
theorem mv_cs_cons {l : Launch} {G : mv_G} {A : Nat → Prop} {j : Nat} {x : mv_SP} {r : List (Nat × mv_SP)} (h : mv_Con l G A j x) (hr : mv_CsOk l G A (mv_cs r)) (h1 : Nat.beq j 150 = false := by rfl) (h2 : Nat.beq j 151 = false := by rfl) : mv_CsOk l G A (mv_cs ((j, x) :: r)) := by
  refine ⟨fun k n1 n2 => ?_, ?_, ?_⟩
  · unfold mv_cs
    cases hb : Nat.beq j k with
    | true =>
      have : j = k := Nat.eq_of_beq_eq_true hb
      subst this
      exact h
    | false => exact hr.1 k n1 n2
  · unfold mv_cs
    rw [h1]
    exact hr.2.1
  · unfold mv_cs
    rw [h2]
    exact hr.2.2
theorem mv_cs_max {l : Launch} {G : mv_G} {A : Nat → Prop} {r : List (Nat × mv_SP)} (hr : mv_CsOk l G A (mv_cs r)) : mv_CsOk l G A (mv_cs ((150, sp_max) :: r)) := by
  refine ⟨fun k n1 n2 => ?_, Or.inl rfl, hr.2.2⟩
  unfold mv_cs
  cases hb : Nat.beq 150 k with
  | true => exact absurd (Nat.eq_of_beq_eq_true hb).symm n1
  | false => exact hr.1 k n1 n2
theorem mv_cs_min {l : Launch} {G : mv_G} {A : Nat → Prop} {r : List (Nat × mv_SP)} (hr : mv_CsOk l G A (mv_cs r)) : mv_CsOk l G A (mv_cs ((151, sp_min) :: r)) := by
  refine ⟨fun k n1 n2 => ?_, hr.2.1, Or.inl rfl⟩
  unfold mv_cs
  cases hb : Nat.beq 151 k with
  | true => exact absurd (Nat.eq_of_beq_eq_true hb).symm n2
  | false => exact hr.1 k n1 n2
def mv_as : Nat → List Value → mv_L
  | _, [] => []
  | i, v :: vs => (i, v) :: mv_as (match Nat.beq v.category 2 with | true => i + 2 | false => i + 1) vs
theorem mv_as_z (ad : Nat → Nat) : ∀ (vs : List Value) (i : Nat), lv_args i (vs.map (mv_z ad)) = (mv_as i vs).map (fun q => (q.1, mv_z ad q.2))
  | [], _ => rfl
  | v :: vs, i => by
    have h := mv_as_z ad vs
    simp only [List.map_cons, lv_args, mv_as, mv_cat]
    cases hb : Nat.beq v.category 2 with
    | true =>
      rw [if_pos (Nat.eq_of_beq_eq_true hb)]
      dsimp only
      rw [h]
    | false =>
      rw [if_neg (Nat.ne_of_beq_eq_false hb)]
      dsimp only
      rw [h]
theorem mv_sl_len (ad : Nat → Nat) : ∀ vs : List Value, (lg_sl (vs.map (mv_z ad))).length = mv_sum vs
  | [] => rfl
  | v :: vs => by
    have h := mv_sl_len ad vs
    unfold lg_sl at h ⊢
    unfold mv_sum at h ⊢
    rw [List.map_cons, List.flatMap_cons, List.length_append, h, List.map_cons, List.sum_cons, mv_cat]
    congr 1
    rcases lv_cat v with e | e <;> simp [e]
theorem mv_find_mem : ∀ {tab : List mv_E} {pc : Nat} {e : mv_E}, mv_find tab pc = some e → e ∈ tab ∧ e.1 = pc
  | [], _, _, h => by cases h
  | e0 :: r, pc, e, h => by
    unfold mv_find at h
    cases hb : Nat.beq e0.1 pc with
    | true =>
      rw [hb] at h
      cases h
      exact ⟨List.mem_cons_self, Nat.eq_of_beq_eq_true hb⟩
    | false =>
      rw [hb] at h
      obtain ⟨h1, h2⟩ := mv_find_mem h
      exact ⟨List.mem_cons_of_mem _ h1, h2⟩
theorem mv_V_W {p : Program} {l : Launch} {e : Env} {R : Room} {s : State} {m : MethodId} {args : Array Value} {below : List Frame} {meth : Method} {c : Code} {cells slots : Nat} {Q : State → Prop} {G : mv_G} {A : Nat → Prop} {H0 : Heap} {I0 : mv_I} {M : mv_M} {cs : Nat → mv_SP} {K : mv_K} {tab : List mv_E} (C : mv_ctx p R s m args c cells slots G A M) (htab : tab.all (mv_ok M) = true)
    (hret : ∀ (pc : Nat) (ls : Array Slot) (H : Heap) (locs : List Loc) (ins : Instr) (r : Option Value) (I : mv_I) (J : mv_J), decode M.2.1 pc = .ok (ins, 1) → mv_fin ins r → (∀ x, r = some (.int x) → M.2.2.2.1 = some .int ∨ (M.2.2.2.1 = some .boolean ∧ (x = 0 ∨ x = 1))) → (∀ x, r = some (.long x) → M.2.2.2.1 = some .long) → (ins = .areturn → M.2.2.2.1 = some (.object RX1)) → (r = none → M.2.2.2.1 = none) → K r I J → mv_scr I0 I → va_P G.1 mv_cl (mv_ws G I J) H → va_S A H0 H locs → W p l e R s m args below meth c H locs cells slots Q (F0 m pc ls (r.toList.map (mv_z G.2.1))))
    (hcs : mv_CsOk l G A cs)
    (hscr : M.2.2.2.2.1 = 8 → I0 998 0 = Int32.ofNat (I0 998 0).toNatClampNeg ∧ va_X (G.2.1 999) (I0 998 0).toNatClampNeg (I0 999) s H0 ∧ G.2.1 999 < H0.size ∧ ¬ A (G.2.1 999))
    {pc : Nat} {lv : mv_L} {st : List Value} {I : mv_I} {J : mv_J} (h : mv_V mv_ow mv_swf tab cs K pc lv st I J) : mv_W p l e R s m args below meth c cells slots Q G A H0 I0 M.2.2.1 pc lv st I J := by
  refine h _ (fun pc lv st I J hy => ?_) (fun ks pc lv st I J hy H locs ls hsc hP hS hl => hy H locs ls hsc hP hS ⟨hl.1, hl.2.1, fun q hq => by
    obtain ⟨q', h1, rfl⟩ := List.mem_map.mp hq
    exact hl.2.2 _ (List.mem_map.mpr ⟨q', (List.mem_filter.mp h1).1, rfl⟩)⟩)
  obtain ⟨Y, hY, hat⟩ := hy
  unfold mv_at at hat
  split at hat
  · rename_i e0 hf
    obtain ⟨h1, h2⟩ := mv_find_mem hf
    have h3 := mv_sound1 C hret hcs hscr hY (List.all_eq_true.mp htab _ h1) hat
    rw [h2] at h3
    exact h3
  · exact hat.elim
/-- a method that has a walk keeps its word -/
def mv_body (k : Nat) (tab : List mv_E) (cs : Nat → mv_SP) (sp : mv_SP) : Prop := ∀ (as : List Value) (I : mv_I) (J : mv_J), sp.1 as I J → Nat.ble (mv_sum as) (mv_m k).2.2.1 = true ∧ mv_V mv_ow mv_swf tab cs (sp.2 as I J) 0 (mv_as 0 as) [] I J
def mv_good (k : Nat) : Bool := plainName (mv_m k).1.cls && decide (mv_cn (mv_ow k) = (mv_m k).1.cls) && decide (mv_ow k ≠ 8)
set_option maxHeartbeats 1000000 in
theorem mv_con {l : Launch} {G : mv_G} {A : Nat → Prop} (hG : mv_adk G A) (k : Nat) {tab : List mv_E} (htab : tab.all (mv_ok (mv_m k)) = true) (hk : mv_good k = true) {cs : Nat → mv_SP} (hcs : mv_CsOk l G A cs) {sp : mv_SP} (hb : mv_body k tab cs sp) : mv_Con l G A k sp := by
  simp only [mv_good, Bool.and_eq_true, decide_eq_true_eq] at hk
  obtain ⟨⟨hpl, hcn⟩, h8⟩ := hk
  intro as I J hpre
  obtain ⟨hsum, hV⟩ := hb as I J hpre
  refine Met.ofW (cc := (mv_m k).2.1) (maxL := (mv_m k).2.2.1) (ret := (mv_m k).2.2.2.1) hpl rfl ?_
  intro p e s m args below meth c s₁ B hml hv
  obtain ⟨rfl, hP, hK, hN⟩ := hv
  have hx := B.exec
  have hb := B.bytes
  have hr := B.returns
  have hts := atoms_spec (ws := mv_WS k) B.pre
  have hown : s.vm.findClass (mv_m k).1.cls = some m.cls := findClass_of_methodNamed B.named
  have hlocks := B.notSynchronized
  have hl := lv_entry (as.map (mv_z G.2.1)) (n := (mv_m k).2.2.1) (by rw [mv_sl_len]; exact Nat.le_of_ble_eq_true hsum)
  rw [mv_as_z] at hl
  rw [lg_entry_eq]
  refine mv_V_W (I0 := I) (H0 := s.heap) (M := mv_m k) ⟨hx, hb, hml, by rw [show (mv_m k).2.2.2.2.1 = mv_ow k from rfl, hcn]; exact hown, fun w hw => hts w (List.mem_cons_of_mem _ hw), hN, hK, hG, Nat.le_refl _, Nat.le_refl _, Nat.le_refl _, Nat.le_refl _⟩ htab ?_ hcs (fun q => absurd q h8) hV s.heap [] _ ⟨rfl, rfl⟩ hP va_S.rf hl
  intro pc ls H locs ins r I' J' hdd hfin hi hlg har hn hK' hsc hP' hS'
  have post : ∀ t : State, t.heap = H → s.WarmedH t.vm → mv_Qc G A I (sp.2 as I J) (as.map (mv_z G.2.1)).toArray s (.returned (r.map (mv_z G.2.1))) t := fun t ht _ => ⟨⟨r, I', J', rfl, hK', hsc, by rw [ht]; exact hP'⟩, hS'.F ht⟩
  unfold mv_fin at hfin
  split at hfin
  · rcases hi _ rfl with h1 | ⟨h1, h2⟩
    · exact W.iret hx hb (hr.trans h1) post hS'.2.2 hdd hlocks
    · exact W.zret hx hb (hr.trans h1) (mv_narb h2) post hS'.2.2 hdd hlocks
  · exact W.lret hx hb (hr.trans (hlg _ rfl)) post hS'.2.2 hdd hlocks
  · exact W.aret hx hb (hr.trans (har rfl)) (Or.inl ⟨_, rfl⟩) (Or.inr ⟨_, rfl⟩) post hS'.2.2 hdd hlocks
  · exact W.aret hx hb (hr.trans (har rfl)) (Or.inl ⟨_, rfl⟩) (Or.inl rfl) post hS'.2.2 hdd hlocks
  · exact W.vret hx hb (hr.trans (hn rfl)) post hS'.2.2 hdd hlocks
  · exact hfin.elim
end
section
/-! plain facts on numbers and arrays, to paste: each family by itself; over the kit's rows on nI and upd -/
/-! ===== order of ints, in all its forms, and through longs ===== -/
theorem fa_lt (a b : Int32) : a < b ↔ a.toInt < b.toInt := Int32.lt_iff_toInt_lt
theorem fa_le (a b : Int32) : a ≤ b ↔ a.toInt ≤ b.toInt := Int32.le_iff_toInt_le
theorem fa_eq (a b : Int32) : a = b ↔ a.toInt = b.toInt := Int32.toInt_inj.symm
theorem fa_lt64 (a b : Int64) : a < b ↔ a.toInt < b.toInt := Int64.lt_iff_toInt_lt
theorem fa_le64 (a b : Int64) : a ≤ b ↔ a.toInt ≤ b.toInt := Int64.le_iff_toInt_le
theorem fa_eq64 (a b : Int64) : a = b ↔ a.toInt = b.toInt := Int64.toInt_inj.symm
/-- a comparison of two ints taken as longs -/
theorem fa_wide_lt (a b : Int32) : a.toInt64 < b.toInt64 ↔ a < b := by rw [fa_lt64, fa_lt, Int32.toInt_toInt64, Int32.toInt_toInt64]
theorem fa_wide_le (a b : Int32) : a.toInt64 ≤ b.toInt64 ↔ a ≤ b := by rw [fa_le64, fa_le, Int32.toInt_toInt64, Int32.toInt_toInt64]
theorem fa_wide_eq (a b : Int32) : a.toInt64 = b.toInt64 ↔ a = b := by rw [fa_eq64, fa_eq, Int32.toInt_toInt64, Int32.toInt_toInt64]
/-- one strict comparison gives all the others -/
theorem fa_of_lt {a b : Int32} (h : a < b) : a ≤ b ∧ ¬ b ≤ a ∧ ¬ b < a ∧ a ≠ b ∧ b ≠ a := by
  rw [fa_lt] at h
  refine ⟨?_, ?_, ?_, ?_, ?_⟩
  · rw [fa_le]; omega
  · rw [fa_le]; omega
  · rw [fa_lt]; omega
  · intro e; rw [fa_eq] at e; omega
  · intro e; rw [fa_eq] at e; omega
theorem fa_of_nlt {a b : Int32} (h : ¬ a < b) : b ≤ a := by
  rw [fa_lt] at h
  rw [fa_le]
  omega
theorem fa_of_nle {a b : Int32} (h : ¬ a ≤ b) : b < a := by
  rw [fa_le] at h
  rw [fa_lt]
  omega
theorem fa_le_ne {a b : Int32} (h : a ≤ b) (h2 : a ≠ b) : a < b := by
  rw [fa_le] at h
  rw [fa_lt]
  have h3 : a.toInt ≠ b.toInt := fun e => h2 ((fa_eq a b).mpr e)
  omega
theorem fa_three (a b : Int32) : a < b ∨ a = b ∨ b < a := by
  rw [fa_lt, fa_lt, fa_eq]
  omega
theorem fa_trans {a b c : Int32} (h : a < b) (h2 : b ≤ c) : a < c := by
  rw [fa_lt] at *
  rw [fa_le] at h2
  omega
/-! ===== small literals as numbers ===== -/
theorem fa_lit (n : Nat) : (OfNat.ofNat n : Int32) = nI n := rfl
theorem fa_litL (n : Nat) : (OfNat.ofNat n : Int64) = lN n := rfl
/-! ===== bits of a number: 'or', masks, one bit ===== -/
theorem fa_and (a b : Nat) : nI a &&& nI b = nI (a &&& b) := by
  apply Int32.toBitVec_inj.1
  show BitVec.ofNat 32 a &&& BitVec.ofNat 32 b = BitVec.ofNat 32 (a &&& b)
  apply BitVec.eq_of_getLsbD_eq
  intro i hi
  simp [hi]
theorem fa_or (a b : Nat) : nI a ||| nI b = nI (a ||| b) := by
  apply Int32.toBitVec_inj.1
  show BitVec.ofNat 32 a ||| BitVec.ofNat 32 b = BitVec.ofNat 32 (a ||| b)
  apply BitVec.eq_of_getLsbD_eq
  intro i hi
  simp [hi]
/-- a remainder by a power of two, as a mask -/
theorem fa_mask (n k : Nat) : nI n &&& nI (2 ^ k - 1) = nI (n % 2 ^ k) := by rw [fa_and, Nat.and_two_pow_sub_one_eq_mod]
/-- 'or' of a high part and a low one that don't meet is their sum -/
theorem fa_or_sum {a k : Nat} (b : Nat) (h : a < 2 ^ k) : nI (2 ^ k * b) ||| nI a = nI (2 ^ k * b + a) := by rw [fa_or, Nat.two_pow_add_eq_or_of_lt h]
/-- one bit, by 'and' with a power of two -/
theorem fa_bit {n j : Nat} (hj : j < 31) : nI n &&& nI (2 ^ j) = 0 ↔ n.testBit j = false := by
  have h2 : (2 : Nat) ^ j < 2 ^ 31 := Nat.pow_lt_pow_right (by decide) hj
  have hle : n &&& 2 ^ j ≤ 2 ^ j := Nat.and_le_right
  have e : n &&& 2 ^ j = 0 ↔ n.testBit j = false := by
    constructor
    · intro h
      have h1 : (n &&& 2 ^ j).testBit j = false := by rw [h]; simp
      rw [Nat.testBit_and] at h1
      first | simpa using h1 | simpa [Nat.testBit_two_pow_self] using h1 | simpa [Nat.testBit_two_pow] using h1
    · intro h
      apply Nat.eq_of_testBit_eq
      intro i
      rw [Nat.testBit_and]
      by_cases hi : j = i
      · subst hi; simp [h]
      · first | (simp [Nat.testBit_two_pow, hi]; done) | (simp [Nat.testBit_two_pow_of_ne hi]; done)
  rw [fa_and]
  constructor
  · intro h
    apply e.mp
    rcases Nat.eq_zero_or_pos (n &&& 2 ^ j) with z | z
    · exact z
    · exact absurd h (nI_ne0 z (Nat.lt_of_le_of_lt hle h2))
  · intro h
    rw [e.mpr h]; exact nI_0
/-- a remainder by a power of two of a number that isn't negative, as Java divides -/
theorem fa_rem {a k : Nat} (ha : a < 2 ^ 31) (hk : k < 31) : nI a - nI a / nI (2 ^ k) * nI (2 ^ k) = nI (a % 2 ^ k) := pk_rem ha (Nat.two_pow_pos k) (Nat.pow_lt_pow_right (by decide) hk)
/-! ===== cuts to a byte, a short ===== -/
theorem fa_byte_xor (x y : Int32) : (x ^^^ y).toInt8 = x.toInt8 ^^^ y.toInt8 := by
  apply Int8.toBitVec_inj.1
  apply BitVec.eq_of_getLsbD_eq
  intro i hi
  first | (simp [hi]; done) | (simp [hi, BitVec.getLsbD_setWidth, BitVec.getLsbD_signExtend]; done)
theorem fa_short_xor (x y : Int32) : (x ^^^ y).toInt16 = x.toInt16 ^^^ y.toInt16 := by
  apply Int16.toBitVec_inj.1
  apply BitVec.eq_of_getLsbD_eq
  intro i hi
  first | (simp [hi]; done) | (simp [hi, BitVec.getLsbD_setWidth, BitVec.getLsbD_signExtend]; done)
/-- the cut to a byte sees the low byte alone -/
theorem fa_byte_low (x : Int32) : (x &&& 255).toInt8 = x.toInt8 := by
  apply Int8.toBitVec_inj.1
  apply BitVec.eq_of_getLsbD_eq
  intro i hi
  have h2 : (255 : Int32).toBitVec.getLsbD i = true := by
    have : ∀ j : Fin 8, (255 : Int32).toBitVec.getLsbD j.val = true := by decide +kernel
    exact this ⟨i, hi⟩
  have h4 : (x &&& 255).toBitVec.getLsbD i = x.toBitVec.getLsbD i := by
    show (x.toBitVec &&& (255 : Int32).toBitVec).getLsbD i = _
    rw [BitVec.getLsbD_and, h2, Bool.and_true]
  have h3 : i < 32 := by omega
  first
    | (show (((x &&& 255).toBitVec).signExtend 8).getLsbD i = (x.toBitVec.signExtend 8).getLsbD i; rw [BitVec.getLsbD_signExtend, BitVec.getLsbD_signExtend, if_pos h3, if_pos h3, h4])
    | (show (((x &&& 255).toBitVec).setWidth 8).getLsbD i = (x.toBitVec.setWidth 8).getLsbD i; rw [BitVec.getLsbD_setWidth, BitVec.getLsbD_setWidth, h4])
    | (simp [hi, h3, h4]; done)
theorem fa_short_low (x : Int32) : (x &&& 65535).toInt16 = x.toInt16 := by
  apply Int16.toBitVec_inj.1
  apply BitVec.eq_of_getLsbD_eq
  intro i hi
  have h2 : (65535 : Int32).toBitVec.getLsbD i = true := by
    have : ∀ j : Fin 16, (65535 : Int32).toBitVec.getLsbD j.val = true := by decide +kernel
    exact this ⟨i, hi⟩
  have h4 : (x &&& 65535).toBitVec.getLsbD i = x.toBitVec.getLsbD i := by
    show (x.toBitVec &&& (65535 : Int32).toBitVec).getLsbD i = _
    rw [BitVec.getLsbD_and, h2, Bool.and_true]
  have h3 : i < 32 := by omega
  first
    | (show (((x &&& 65535).toBitVec).signExtend 16).getLsbD i = (x.toBitVec.signExtend 16).getLsbD i; rw [BitVec.getLsbD_signExtend, BitVec.getLsbD_signExtend, if_pos h3, if_pos h3, h4])
    | (show (((x &&& 65535).toBitVec).setWidth 16).getLsbD i = (x.toBitVec.setWidth 16).getLsbD i; rw [BitVec.getLsbD_setWidth, BitVec.getLsbD_setWidth, h4])
    | (simp [hi, h3, h4]; done)
/-- a small number is its own byte, its own short -/
theorem fa_byte_small {n : Nat} (h : n < 128) : (nI n).toInt8.toInt32 = nI n := by
  have : ∀ j : Fin 128, (nI j.val).toInt8.toInt32 = nI j.val := by decide +kernel
  exact this ⟨n, h⟩
/-! ===== absolute difference ===== -/
theorem fa_absdiff {a b : Nat} (ha : a < 2 ^ 31) (hb : b < 2 ^ 31) : (if nI a < nI b then nI b - nI a else nI a - nI b) = nI (if a < b then b - a else a - b) := by
  by_cases h : a < b
  · rw [if_pos (nI_lt h hb), if_pos h]
    exact pk_sub (Nat.le_of_lt h)
  · rw [if_neg (nI_nlt (Nat.le_of_not_lt h) ha), if_neg h]
    exact pk_sub (Nat.le_of_not_lt h)
/-! ===== an array behind i stores, a conditional store, a row copied ===== -/
/-- f where k < i, what stood there else -/
def fa_fill {α : Type} (f g : Nat → α) (i : Nat) : Nat → α := fun k => if k < i then f k else g k
theorem fa_fill_0 {α : Type} (f g : Nat → α) : fa_fill f g 0 = g := funext fun k => if_neg (Nat.not_lt_zero k)
theorem fa_fill_in {α : Type} {f g : Nat → α} {i k : Nat} (h : k < i) : fa_fill f g i k = f k := if_pos h
theorem fa_fill_out {α : Type} {f g : Nat → α} {i k : Nat} (h : i ≤ k) : fa_fill f g i k = g k := if_neg (Nat.not_lt.mpr h)
theorem fa_fill_succ (f g : Nat → Int32) (i : Nat) : upd (fa_fill f g i) i (f i) = fa_fill f g (i + 1) := by
  funext k
  by_cases e : k = i
  · subst e
    rw [pk_us]
    exact (if_pos (Nat.lt_succ_self k)).symm
  · rw [pk_un e]
    by_cases h : k < i
    · rw [fa_fill_in h, fa_fill_in (Nat.lt_succ_of_lt h)]
    · rw [fa_fill_out (Nat.le_of_not_lt h), fa_fill_out (by omega)]
/-- a store that changes nothing -/
theorem fa_upd_same {f : Nat → Int32} {i : Nat} {x : Int32} (h : f i = x) : upd f i x = f := by
  funext k
  by_cases e : k = i
  · subst e
    rw [pk_us, h]
  · rw [pk_un e]
/-- a store under a condition, told as one -/
theorem fa_upd_if (c : Prop) [Decidable c] (f : Nat → Int32) (i : Nat) (x : Int32) : (if c then upd f i x else f) = upd f i (if c then x else f i) := by
  by_cases h : c
  · rw [if_pos h, if_pos h]
  · rw [if_neg h, if_neg h, fa_upd_same rfl]
/-- two stores at one place, at two -/
theorem fa_upd_twice (f : Nat → Int32) (i : Nat) (x y : Int32) : upd (upd f i x) i y = upd f i y := by
  funext k
  by_cases e : k = i
  · subst e
    rw [pk_us, pk_us]
  · rw [pk_un e, pk_un e, pk_un e]
theorem fa_upd_swap (f : Nat → Int32) {i j : Nat} (h : i ≠ j) (x y : Int32) : upd (upd f i x) j y = upd (upd f j y) i x := by
  funext k
  by_cases e : k = i
  · subst e
    rw [pk_un h, pk_us, pk_us]
  · by_cases e2 : k = j
    · subst e2
      rw [pk_us, pk_un e, pk_us]
    · rw [pk_un e2, pk_un e, pk_un e, pk_un e2]
/-! ===== the first index with a property; a count ===== -/
/-- the first k < n with p k, n if there is none -/
def fa_first (p : Nat → Bool) : Nat → Nat
  | 0 => 0
  | n + 1 => if fa_first p n < n then fa_first p n else if p n then n else n + 1
theorem fa_first_le (p : Nat → Bool) : ∀ n, fa_first p n ≤ n
  | 0 => Nat.le_refl 0
  | n + 1 => by
    have ih := fa_first_le p n
    unfold fa_first
    split
    · omega
    · split
      · omega
      · omega
theorem fa_first_no (p : Nat → Bool) : ∀ n k, k < fa_first p n → p k = false
  | 0, k, h => absurd h (Nat.not_lt_zero k)
  | n + 1, k, h => by
    have ih := fa_first_no p n
    have hl := fa_first_le p n
    unfold fa_first at h
    split at h
    · exact ih k h
    · rename_i h1
      split at h
      · exact ih k (by omega)
      · rename_i h2
        by_cases e : k = n
        · subst e
          exact Bool.eq_false_iff.mpr h2
        · exact ih k (by omega)
theorem fa_first_yes (p : Nat → Bool) : ∀ n, fa_first p n < n → p (fa_first p n) = true
  | 0, h => absurd h (Nat.not_lt_zero _)
  | n + 1, h => by
    have ih := fa_first_yes p n
    have hl := fa_first_le p n
    unfold fa_first at h ⊢
    split at h
    · rename_i h1
      rw [if_pos h1]
      exact ih h1
    · rename_i h1
      rw [if_neg h1]
      split at h
      · rename_i h2
        rw [if_pos h2]
        exact h2
      · omega
/-- how many k < n have p k -/
def fa_cnt (p : Nat → Bool) : Nat → Nat
  | 0 => 0
  | n + 1 => fa_cnt p n + if p n then 1 else 0
theorem fa_cnt_le (p : Nat → Bool) : ∀ n, fa_cnt p n ≤ n
  | 0 => Nat.le_refl 0
  | n + 1 => by
    have ih := fa_cnt_le p n
    unfold fa_cnt
    split
    · omega
    · omega
theorem fa_cnt_yes {p : Nat → Bool} {n : Nat} (h : p n = true) : fa_cnt p (n + 1) = fa_cnt p n + 1 := by rw [fa_cnt, if_pos h]
theorem fa_cnt_no {p : Nat → Bool} {n : Nat} (h : p n = false) : fa_cnt p (n + 1) = fa_cnt p n := by rw [fa_cnt, if_neg (by rw [h]; decide)]; rfl
theorem fa_cnt_cong {p q : Nat → Bool} : ∀ {n : Nat}, (∀ k, k < n → p k = q k) → fa_cnt p n = fa_cnt q n
  | 0, _ => rfl
  | n + 1, h => by rw [fa_cnt, fa_cnt, fa_cnt_cong (fun k hk => h k (Nat.lt_succ_of_lt hk)), h n (Nat.lt_succ_self n)]
/-! ===== an answer carried into a post; a branch on a boolean answer ===== -/
theorem fa_post {α : Type} {P : α → Prop} {x y : α} (h : x = y) (hp : P y) : P x := h ▸ hp
theorem fa_post2 {α β : Type} {P : α → β → Prop} {x y : α} {u v : β} (h : x = y) (h2 : u = v) (hp : P y v) : P x u := h ▸ h2 ▸ hp
theorem fa_bool {r : Int32} {b : Bool} (h : r = if b then 1 else 0) : (r = 0 ↔ b = false) ∧ (¬ r = 0 ↔ b = true) := by
  subst h
  cases b
  · exact ⟨⟨fun _ => rfl, fun _ => rfl⟩, ⟨fun h => absurd rfl h, fun h => absurd h (by decide)⟩⟩
  · exact ⟨⟨fun h => absurd h (by decide), fun h => absurd h (by decide)⟩, ⟨fun _ => rfl, fun _ => by decide⟩⟩
/-- a boolean's narrowing changes nothing -/
theorem fa_bool_and {r : Int32} (h : r = 0 ∨ r = 1) : r &&& 1 = r := by
  rcases h with rfl | rfl
  · decide
  · decide
theorem fa_bool_prop {c : Prop} [Decidable c] {r : Int32} (h : r = if c then 1 else 0) : (r = 0 ↔ ¬ c) ∧ (¬ r = 0 ↔ c) := by
  subst h
  by_cases hc : c
  · rw [if_pos hc]
    exact ⟨⟨fun h => absurd h (by decide), fun h => absurd hc h⟩, ⟨fun _ => hc, fun _ => by decide⟩⟩
  · rw [if_neg hc]
    exact ⟨⟨fun _ => hc, fun _ => rfl⟩, ⟨fun h => absurd rfl h, fun h => absurd h hc⟩⟩
end
section
/-! plain facts to paste, each family by itself; over the kit's nI, lN and upd -/
/-! ===== drawers: more things than places ===== -/
theorem fb_holes : ∀ (m n : Nat) (f : Nat → Nat), (∀ i, i < n → f i < m) → (∀ i j, i < j → j < n → f i ≠ f j) → n ≤ m := by
  intro m
  induction m with
  | zero =>
    intro n f h1 _
    rcases Nat.eq_zero_or_pos n with h | h
    · omega
    · exact absurd (h1 0 h) (Nat.not_lt_zero _)
  | succ m ih =>
    intro n f h1 h2
    by_cases hx : ∃ i, i < n ∧ f i = m
    · obtain ⟨a, ha, hfa⟩ := hx
      have hg := ih (n - 1) (fun i => if i < a then f i else f (i + 1)) (by
        intro i hi
        by_cases q : i < a
        · simp only [if_pos q]
          have b1 := h1 i (by omega)
          have b2 := h2 i a q ha
          omega
        · simp only [if_neg q]
          have b1 := h1 (i + 1) (by omega)
          have b2 := h2 a (i + 1) (by omega) (by omega)
          omega) (by
        intro i j hij hj
        by_cases q : i < a
        · by_cases r : j < a
          · simp only [if_pos q, if_pos r]
            exact h2 i j hij (by omega)
          · simp only [if_pos q, if_neg r]
            exact h2 i (j + 1) (by omega) (by omega)
        · have r : ¬ j < a := by omega
          simp only [if_neg q, if_neg r]
          exact h2 (i + 1) (j + 1) (by omega) (by omega))
      omega
    · have hg := ih n f (fun i hi => by
        have b1 := h1 i hi
        have b2 : f i ≠ m := fun e => hx ⟨i, hi, e⟩
        omega) h2
      omega
/-- two of them in one place -/
theorem fb_twice {m n : Nat} {f : Nat → Nat} (h : ∀ i, i < n → f i < m) (hm : m < n) : ∃ i j, i < j ∧ j < n ∧ f i = f j := by
  refine Classical.byContradiction fun hx => ?_
  have := fb_holes m n f h (fun i j hij hj e => hx ⟨i, j, hij, hj, e⟩)
  omega
/-- as many as places, none twice: each place is taken -/
theorem fb_onto {n : Nat} {f : Nat → Nat} (h : ∀ i, i < n → f i < n) (h2 : ∀ i j, i < j → j < n → f i ≠ f j) {y : Nat} (hy : y < n) : ∃ i, i < n ∧ f i = y := by
  refine Classical.byContradiction fun hx => ?_
  have hne : ∀ i, i < n → f i ≠ y := fun i hi e => hx ⟨i, hi, e⟩
  have := fb_holes (n - 1) n (fun i => if f i < y then f i else f i - 1) (by
    intro i hi
    have b1 := h i hi
    have b2 := hne i hi
    by_cases q : f i < y
    · simp only [if_pos q]; omega
    · simp only [if_neg q]; omega) (by
    intro i j hij hj
    have b1 := hne i (by omega)
    have b2 := hne j hj
    have b3 := h2 i j hij hj
    by_cases q : f i < y
    · by_cases r : f j < y
      · simp only [if_pos q, if_pos r]; exact b3
      · simp only [if_pos q, if_neg r]; omega
    · by_cases r : f j < y
      · simp only [if_neg q, if_pos r]; omega
      · simp only [if_neg q, if_neg r]; omega)
  omega
/-! ===== how many places have a property ===== -/
def fb_ct (p : Nat → Bool) : Nat → Nat
  | 0 => 0
  | n + 1 => fb_ct p n + (if p n then 1 else 0)
theorem fb_ct_succ (p : Nat → Bool) (n : Nat) : fb_ct p (n + 1) = fb_ct p n + (if p n then 1 else 0) := rfl
theorem fb_ct_le (p : Nat → Bool) : ∀ n, fb_ct p n ≤ n
  | 0 => Nat.le_refl _
  | n + 1 => by
    have h := fb_ct_le p n
    rw [fb_ct_succ]
    split <;> omega
theorem fb_ct_step (p : Nat → Bool) (m : Nat) : ∀ n, fb_ct p m ≤ fb_ct p (m + n)
  | 0 => Nat.le_refl _
  | n + 1 => by
    have h := fb_ct_step p m n
    show fb_ct p m ≤ fb_ct p (m + n + 1)
    rw [fb_ct_succ]
    omega
theorem fb_ct_mono (p : Nat → Bool) {m n : Nat} (h : m ≤ n) : fb_ct p m ≤ fb_ct p n := by
  have := fb_ct_step p m (n - m)
  rwa [Nat.add_sub_cancel' h] at this
theorem fb_ct_cong {p q : Nat → Bool} : ∀ {n : Nat}, (∀ k, k < n → p k = q k) → fb_ct p n = fb_ct q n
  | 0, _ => rfl
  | n + 1, h => by
    rw [fb_ct_succ, fb_ct_succ, fb_ct_cong (fun k hk => h k (by omega)), h n (by omega)]
/-- one place changed -/
theorem fb_ct_out (p : Nat → Bool) (b : Bool) {i n : Nat} (h : n ≤ i) : fb_ct (fun k => if k = i then b else p k) n = fb_ct p n :=
  fb_ct_cong fun k hk => if_neg (by omega)
theorem fb_ct_upd (p : Nat → Bool) (b : Bool) {i : Nat} : ∀ {n : Nat}, i < n → fb_ct (fun k => if k = i then b else p k) n + (if p i then 1 else 0) = fb_ct p n + (if b then 1 else 0)
  | 0, h => absurd h (Nat.not_lt_zero i)
  | n + 1, h => by
    rw [fb_ct_succ, fb_ct_succ]
    rcases Nat.lt_or_ge i n with q | q
    · have := fb_ct_upd p b q
      have e : (if n = i then b else p n) = p n := if_neg (by omega)
      rw [e]
      omega
    · have e : i = n := by omega
      subst e
      rw [fb_ct_out p b (Nat.le_refl _)]
      simp only [if_true]
      omega
theorem fb_ct_sub {p q : Nat → Bool} : ∀ {n : Nat}, (∀ k, k < n → p k = true → q k = true) → fb_ct p n ≤ fb_ct q n
  | 0, _ => Nat.le_refl _
  | n + 1, h => by
    have h1 := fb_ct_sub (n := n) (p := p) (q := q) (fun k hk => h k (by omega))
    have h2 := h n (by omega)
    rw [fb_ct_succ, fb_ct_succ]
    cases hp : p n <;> cases hq : q n <;> simp_all <;> omega
theorem fb_ct_or {p q : Nat → Bool} : ∀ {n : Nat}, (∀ k, k < n → ¬ (p k = true ∧ q k = true)) → fb_ct (fun k => p k || q k) n = fb_ct p n + fb_ct q n
  | 0, _ => rfl
  | n + 1, h => by
    have h1 := fb_ct_or (n := n) (p := p) (q := q) (fun k hk => h k (by omega))
    have h2 := h n (by omega)
    rw [fb_ct_succ, fb_ct_succ, fb_ct_succ, h1]
    cases hp : p n <;> cases hq : q n <;> simp_all <;> omega
theorem fb_ct_not (p : Nat → Bool) : ∀ n, fb_ct p n + fb_ct (fun k => !p k) n = n
  | 0 => rfl
  | n + 1 => by
    have h := fb_ct_not p n
    rw [fb_ct_succ, fb_ct_succ]
    cases p n <;> simp <;> omega
theorem fb_ct_split (p : Nat → Bool) (m : Nat) : ∀ n, fb_ct p (m + n) = fb_ct p m + fb_ct (fun k => p (m + k)) n
  | 0 => rfl
  | n + 1 => by
    have h := fb_ct_split p m n
    show fb_ct p (m + n + 1) = _
    rw [fb_ct_succ, fb_ct_succ, h, Nat.add_assoc]
theorem fb_ct_zero {p : Nat → Bool} : ∀ {n : Nat}, fb_ct p n = 0 ↔ ∀ k, k < n → p k = false
  | 0 => ⟨fun _ k hk => absurd hk (Nat.not_lt_zero k), fun _ => rfl⟩
  | n + 1 => by
    have h := fb_ct_zero (p := p) (n := n)
    rw [fb_ct_succ]
    constructor
    · intro e k hk
      have e1 : fb_ct p n = 0 := by omega
      rcases Nat.lt_or_ge k n with q | q
      · exact h.mp e1 k q
      · have ek : k = n := by omega
        subst ek
        cases hp : p k
        · rfl
        · simp [hp] at e
    · intro a
      rw [h.mpr (fun k hk => a k (by omega)), a n (by omega)]
      rfl
theorem fb_ct_pos {p : Nat → Bool} {n : Nat} : 0 < fb_ct p n ↔ ∃ k, k < n ∧ p k = true := by
  constructor
  · intro h
    refine Classical.byContradiction fun hx => ?_
    have := fb_ct_zero.mpr (fun k hk => by
      cases hp : p k
      · rfl
      · exact absurd ⟨k, hk, hp⟩ hx : ∀ k, k < n → p k = false)
    omega
  · rintro ⟨k, hk, hp⟩
    rcases Nat.eq_zero_or_pos (fb_ct p n) with e | e
    · have := fb_ct_zero.mp e k hk
      rw [this] at hp
      cases hp
    · exact e
theorem fb_ct_all {p : Nat → Bool} {n : Nat} : fb_ct p n = n ↔ ∀ k, k < n → p k = true := by
  have h := fb_ct_not p n
  constructor
  · intro e k hk
    have z : fb_ct (fun k => !p k) n = 0 := by omega
    have := fb_ct_zero.mp z k hk
    cases hp : p k
    · simp [hp] at this
    · rfl
  · intro a
    have z : fb_ct (fun k => !p k) n = 0 := fb_ct_zero.mpr (fun k hk => by simp [a k hk])
    omega
/-- the k-th place with the property -/
theorem fb_ct_kth {p : Nat → Bool} {k : Nat} : ∀ {n : Nat}, k < fb_ct p n → ∃ i, i < n ∧ p i = true ∧ fb_ct p i = k
  | 0, h => absurd h (Nat.not_lt_zero k)
  | n + 1, h => by
    rcases Nat.lt_or_ge k (fb_ct p n) with q | q
    · obtain ⟨i, h1, h2⟩ := fb_ct_kth q
      exact ⟨i, by omega, h2⟩
    · rw [fb_ct_succ] at h
      cases hp : p n
      · simp [hp] at h; omega
      · simp [hp] at h
        exact ⟨n, by omega, hp, by omega⟩
theorem fb_ct_kth_one {p : Nat → Bool} {i j : Nat} (hi : p i = true) (hj : p j = true) (e : fb_ct p i = fb_ct p j) : i = j := by
  have key : ∀ a b : Nat, a < b → p a = true → fb_ct p a < fb_ct p b := by
    intro a b hab ha
    have h := fb_ct_mono p (show a + 1 ≤ b from hab)
    rw [fb_ct_succ, ha] at h
    simp at h
    omega
  rcases Nat.lt_trichotomy i j with q | q | q
  · have := key i j q hi; omega
  · exact q
  · have := key j i q hj; omega
/-! ===== sums over a range: one place changed, parts, bounds ===== -/
def fb_sm (f : Nat → Nat) : Nat → Nat
  | 0 => 0
  | n + 1 => fb_sm f n + f n
theorem fb_sm_succ (f : Nat → Nat) (n : Nat) : fb_sm f (n + 1) = fb_sm f n + f n := rfl
theorem fb_sm_cong {f g : Nat → Nat} : ∀ {n : Nat}, (∀ k, k < n → f k = g k) → fb_sm f n = fb_sm g n
  | 0, _ => rfl
  | n + 1, h => by rw [fb_sm_succ, fb_sm_succ, fb_sm_cong (fun k hk => h k (by omega)), h n (by omega)]
theorem fb_sm_out (f : Nat → Nat) (v : Nat) {i n : Nat} (h : n ≤ i) : fb_sm (fun k => if k = i then v else f k) n = fb_sm f n :=
  fb_sm_cong fun k hk => if_neg (by omega)
theorem fb_sm_upd (f : Nat → Nat) (v : Nat) {i : Nat} : ∀ {n : Nat}, i < n → fb_sm (fun k => if k = i then v else f k) n + f i = fb_sm f n + v
  | 0, h => absurd h (Nat.not_lt_zero i)
  | n + 1, h => by
    rw [fb_sm_succ, fb_sm_succ]
    rcases Nat.lt_or_ge i n with q | q
    · have := fb_sm_upd f v q
      have e : (if n = i then v else f n) = f n := if_neg (by omega)
      rw [e]
      omega
    · have e : i = n := by omega
      subst e
      rw [fb_sm_out f v (Nat.le_refl _)]
      simp only [if_true]
      omega
theorem fb_sm_add (f g : Nat → Nat) : ∀ n, fb_sm (fun k => f k + g k) n = fb_sm f n + fb_sm g n
  | 0 => rfl
  | n + 1 => by
    have h := fb_sm_add f g n
    rw [fb_sm_succ, fb_sm_succ, fb_sm_succ, h]
    omega
theorem fb_sm_le {f g : Nat → Nat} : ∀ {n : Nat}, (∀ k, k < n → f k ≤ g k) → fb_sm f n ≤ fb_sm g n
  | 0, _ => Nat.le_refl _
  | n + 1, h => by
    have h1 := fb_sm_le (n := n) (f := f) (g := g) (fun k hk => h k (by omega))
    have h2 := h n (by omega)
    rw [fb_sm_succ, fb_sm_succ]
    omega
theorem fb_sm_const (c : Nat) : ∀ n, fb_sm (fun _ => c) n = n * c
  | 0 => by rw [Nat.zero_mul]; rfl
  | n + 1 => by rw [fb_sm_succ, fb_sm_const c n, Nat.succ_mul]
theorem fb_sm_bound {f : Nat → Nat} {c n : Nat} (h : ∀ k, k < n → f k ≤ c) : fb_sm f n ≤ n * c := by
  rw [← fb_sm_const c n]
  exact fb_sm_le h
theorem fb_sm_mono (f : Nat → Nat) (m : Nat) : ∀ n, fb_sm f m ≤ fb_sm f (m + n)
  | 0 => Nat.le_refl _
  | n + 1 => by
    have h := fb_sm_mono f m n
    show fb_sm f m ≤ fb_sm f (m + n + 1)
    rw [fb_sm_succ]
    omega
theorem fb_sm_part (f : Nat → Nat) {i n : Nat} (h : i < n) : fb_sm f i + f i ≤ fb_sm f n := by
  have := fb_sm_mono f (i + 1) (n - (i + 1))
  rw [fb_sm_succ, show i + 1 + (n - (i + 1)) = n by omega] at this
  exact this
theorem fb_sm_split (f : Nat → Nat) (m : Nat) : ∀ n, fb_sm f (m + n) = fb_sm f m + fb_sm (fun k => f (m + k)) n
  | 0 => rfl
  | n + 1 => by
    have h := fb_sm_split f m n
    show fb_sm f (m + n + 1) = _
    rw [fb_sm_succ, fb_sm_succ, h, Nat.add_assoc]
theorem fb_sm_zero {f : Nat → Nat} {n : Nat} (h : fb_sm f n = 0) : ∀ k, k < n → f k = 0 := fun k hk => by
  have := fb_sm_part f hk
  omega
/-- the same over whole numbers -/
def fb_si (f : Nat → Int) : Nat → Int
  | 0 => 0
  | n + 1 => fb_si f n + f n
theorem fb_si_succ (f : Nat → Int) (n : Nat) : fb_si f (n + 1) = fb_si f n + f n := rfl
theorem fb_si_cong {f g : Nat → Int} : ∀ {n : Nat}, (∀ k, k < n → f k = g k) → fb_si f n = fb_si g n
  | 0, _ => rfl
  | n + 1, h => by rw [fb_si_succ, fb_si_succ, fb_si_cong (fun k hk => h k (by omega)), h n (by omega)]
theorem fb_si_out (f : Nat → Int) (v : Int) {i n : Nat} (h : n ≤ i) : fb_si (fun k => if k = i then v else f k) n = fb_si f n :=
  fb_si_cong fun k hk => if_neg (by omega)
theorem fb_si_upd (f : Nat → Int) (v : Int) {i : Nat} : ∀ {n : Nat}, i < n → fb_si (fun k => if k = i then v else f k) n = fb_si f n - f i + v
  | 0, h => absurd h (Nat.not_lt_zero i)
  | n + 1, h => by
    rw [fb_si_succ, fb_si_succ]
    rcases Nat.lt_or_ge i n with q | q
    · have := fb_si_upd f v q
      have e : (if n = i then v else f n) = f n := if_neg (by omega)
      rw [e]
      omega
    · have e : i = n := by omega
      subst e
      rw [fb_si_out f v (Nat.le_refl _)]
      simp only [if_true]
      omega
theorem fb_si_add (f g : Nat → Int) : ∀ n, fb_si (fun k => f k + g k) n = fb_si f n + fb_si g n
  | 0 => rfl
  | n + 1 => by
    have h := fb_si_add f g n
    rw [fb_si_succ, fb_si_succ, fb_si_succ, h]
    omega
theorem fb_si_sub (f g : Nat → Int) : ∀ n, fb_si (fun k => f k - g k) n = fb_si f n - fb_si g n
  | 0 => rfl
  | n + 1 => by
    have h := fb_si_sub f g n
    rw [fb_si_succ, fb_si_succ, fb_si_succ, h]
    omega
theorem fb_si_mul (c : Int) (f : Nat → Int) : ∀ n, fb_si (fun k => c * f k) n = c * fb_si f n
  | 0 => (Int.mul_zero c).symm
  | n + 1 => by
    have h := fb_si_mul c f n
    rw [fb_si_succ, fb_si_succ, h, Int.mul_add]
theorem fb_si_split (f : Nat → Int) (m : Nat) : ∀ n, fb_si f (m + n) = fb_si f m + fb_si (fun k => f (m + k)) n
  | 0 => (Int.add_zero _).symm
  | n + 1 => by
    have h := fb_si_split f m n
    show fb_si f (m + n + 1) = _
    rw [fb_si_succ, fb_si_succ, h, Int.add_assoc]
theorem fb_si_nat (f : Nat → Nat) : ∀ n, fb_si (fun k => (f k : Int)) n = (fb_sm f n : Int)
  | 0 => rfl
  | n + 1 => by
    have h := fb_si_nat f n
    rw [fb_si_succ, fb_sm_succ, h]
    omega
theorem fb_si_bound {f : Nat → Int} {c : Int} (hc : 0 ≤ c) : ∀ {n : Nat}, (∀ k, k < n → -c ≤ f k ∧ f k ≤ c) → -(n * c) ≤ fb_si f n ∧ fb_si f n ≤ n * c
  | 0, _ => by simp [fb_si]
  | n + 1, h => by
    have h1 := fb_si_bound (n := n) (f := f) hc (fun k hk => h k (by omega))
    have h2 := h n (by omega)
    have e : ((n + 1 : Nat) : Int) * c = n * c + c := by rw [Int.natCast_add, Int.add_mul]; simp
    rw [fb_si_succ, e]
    omega
/-! ===== bits of a long that isn't negative ===== -/
theorem fb_andL (a b : Nat) : lN a &&& lN b = lN (a &&& b) := by
  apply Int64.toBitVec_inj.1
  show BitVec.ofNat 64 a &&& BitVec.ofNat 64 b = BitVec.ofNat 64 (a &&& b)
  apply BitVec.eq_of_getLsbD_eq
  intro i hi
  simp [hi]
theorem fb_orL (a b : Nat) : lN a ||| lN b = lN (a ||| b) := by
  apply Int64.toBitVec_inj.1
  show BitVec.ofNat 64 a ||| BitVec.ofNat 64 b = BitVec.ofNat 64 (a ||| b)
  apply BitVec.eq_of_getLsbD_eq
  intro i hi
  simp [hi]
theorem fb_xorL (a b : Nat) : lN a ^^^ lN b = lN (a ^^^ b) := by
  apply Int64.toBitVec_inj.1
  show BitVec.ofNat 64 a ^^^ BitVec.ofNat 64 b = BitVec.ofNat 64 (a ^^^ b)
  apply BitVec.eq_of_getLsbD_eq
  intro i hi
  simp [hi]
theorem fb_xorI (a b : Nat) : nI a ^^^ nI b = nI (a ^^^ b) := by
  apply Int32.toBitVec_inj.1
  show BitVec.ofNat 32 a ^^^ BitVec.ofNat 32 b = BitVec.ofNat 32 (a ^^^ b)
  apply BitVec.eq_of_getLsbD_eq
  intro i hi
  simp [hi]
theorem fb_maskL (n k : Nat) : lN n &&& lN (2 ^ k - 1) = lN (n % 2 ^ k) := by rw [fb_andL, Nat.and_two_pow_sub_one_eq_mod]
theorem fb_or_sumL {a k : Nat} (b : Nat) (h : a < 2 ^ k) : lN (2 ^ k * b) ||| lN a = lN (2 ^ k * b + a) := by rw [fb_orL, Nat.two_pow_add_eq_or_of_lt h]
theorem fb_lN_inj {a b : Nat} (ha : a < 2 ^ 63) (hb : b < 2 ^ 63) : lN a = lN b ↔ a = b := by
  constructor
  · intro h
    have h1 : (BitVec.ofNat 64 a).toNat = (BitVec.ofNat 64 b).toNat := congrArg (fun x : Int64 => x.toBitVec.toNat) h
    rw [BitVec.toNat_ofNat, BitVec.toNat_ofNat, Nat.mod_eq_of_lt (by omega), Nat.mod_eq_of_lt (by omega)] at h1
    exact h1
  · rintro rfl; rfl
theorem fb_bit_nat (n j : Nat) : n &&& 2 ^ j = 0 ↔ n.testBit j = false := by
  constructor
  · intro h
    have h1 : (n &&& 2 ^ j).testBit j = false := by rw [h]; simp
    rw [Nat.testBit_and] at h1
    simpa using h1
  · intro h
    apply Nat.eq_of_testBit_eq
    intro i
    rw [Nat.testBit_and]
    by_cases hi : j = i
    · subst hi; simp [h]
    · first | (simp [Nat.testBit_two_pow, hi]; done) | (simp [Nat.testBit_two_pow_of_ne hi]; done)
/-- one bit of a long -/
theorem fb_bitL {n j : Nat} (hj : j < 63) : lN n &&& lN (2 ^ j) = 0 ↔ n.testBit j = false := by
  have h2 : (2 : Nat) ^ j < 2 ^ 63 := Nat.pow_lt_pow_right (by decide) hj
  have hle : n &&& 2 ^ j ≤ 2 ^ j := Nat.and_le_right
  rw [fb_andL, ← fb_bit_nat, show (0 : Int64) = lN 0 from rfl]
  exact fb_lN_inj (by omega) (by decide)
/-- a bit set, a bit taken off -/
theorem fb_bit_set (n j i : Nat) : (n ||| 2 ^ j).testBit i = (n.testBit i || decide (i = j)) := by
  rw [Nat.testBit_or]
  by_cases h : j = i
  · subst h; simp
  · have h2 : ¬ i = j := fun e => h e.symm
    first | (simp [Nat.testBit_two_pow, h, h2]; done) | (simp [Nat.testBit_two_pow_of_ne h, h2]; done)
theorem fb_bit_flip (n j i : Nat) : (n ^^^ 2 ^ j).testBit i = (n.testBit i ^^ decide (i = j)) := by
  rw [Nat.testBit_xor]
  by_cases h : j = i
  · subst h; simp
  · have h2 : ¬ i = j := fun e => h e.symm
    first | (simp [Nat.testBit_two_pow, h, h2]; done) | (simp [Nat.testBit_two_pow_of_ne h, h2]; done)
/-! ===== a stretch of an array written over by a function ===== -/
def fb_put {α : Type} (f g : Nat → α) (a n : Nat) : Nat → α := fun k => if a ≤ k ∧ k < a + n then g (k - a) else f k
theorem fb_put_0 {α : Type} (f g : Nat → α) (a : Nat) : fb_put f g a 0 = f := funext fun k => if_neg (by omega)
theorem fb_put_in {α : Type} {f g : Nat → α} {a n k : Nat} (h1 : a ≤ k) (h2 : k < a + n) : fb_put f g a n k = g (k - a) := if_pos ⟨h1, h2⟩
theorem fb_put_out {α : Type} {f g : Nat → α} {a n k : Nat} (h : k < a ∨ a + n ≤ k) : fb_put f g a n k = f k := if_neg (by omega)
theorem fb_put_succ (f g : Nat → Int32) (a n : Nat) : upd (fb_put f g a n) (a + n) (g n) = fb_put f g a (n + 1) := by
  funext k
  by_cases h : k = a + n
  · subst h
    simp [upd, fb_put]
  · by_cases h1 : a ≤ k ∧ k < a + n
    · have h2 : a ≤ k ∧ k < a + (n + 1) := by omega
      simp only [upd, fb_put, if_neg h, if_pos h1, if_pos h2]
    · have h2 : ¬ (a ≤ k ∧ k < a + (n + 1)) := by omega
      simp only [upd, fb_put, if_neg h, if_neg h1, if_neg h2]
/-- .. from the far end down -/
theorem fb_put_down (f g : Nat → Int32) {a n m : Nat} (h : m < n) : upd (fb_put f (fun k => g (k + (m + 1))) (a + (m + 1)) (n - (m + 1))) (a + m) (g m) = fb_put f (fun k => g (k + m)) (a + m) (n - m) := by
  funext k
  by_cases h0 : k = a + m
  · subst h0
    simp only [upd, if_true]
    rw [fb_put_in (by omega) (by omega)]
    exact congrArg g (by omega)
  · simp only [upd, if_neg h0]
    by_cases h1 : a + (m + 1) ≤ k ∧ k < a + (m + 1) + (n - (m + 1))
    · rw [fb_put_in h1.1 h1.2, fb_put_in (by omega) (by omega)]
      exact congrArg g (by omega)
    · rw [fb_put_out (by omega), fb_put_out (by omega)]
theorem fb_put_cong {α : Type} {f f2 g g2 : Nat → α} {a n : Nat} (hf : ∀ k, (k < a ∨ a + n ≤ k) → f k = f2 k) (hg : ∀ k, k < n → g k = g2 k) : fb_put f g a n = fb_put f2 g2 a n := by
  funext k
  by_cases h : a ≤ k ∧ k < a + n
  · rw [fb_put_in h.1 h.2, fb_put_in h.1 h.2, hg _ (by omega)]
  · rw [fb_put_out (by omega), fb_put_out (by omega), hf _ (by omega)]
/-! ===== the least, the first, the best so far; that there is one alone ===== -/
theorem fb_first {p : Nat → Prop} [DecidablePred p] : ∀ {n : Nat}, (∃ i, i < n ∧ p i) → ∃ i, i < n ∧ p i ∧ ∀ j, j < i → ¬ p j
  | 0, h => by obtain ⟨i, hi, -⟩ := h; exact absurd hi (Nat.not_lt_zero i)
  | n + 1, h => by
    by_cases q : ∃ i, i < n ∧ p i
    · obtain ⟨i, h1, h2⟩ := fb_first q
      exact ⟨i, by omega, h2⟩
    · obtain ⟨i, h1, h2⟩ := h
      have e : i = n := by
        rcases Nat.lt_or_ge i n with r | r
        · exact absurd ⟨i, r, h2⟩ q
        · omega
      subst e
      exact ⟨i, by omega, h2, fun j hj hp => q ⟨j, hj, hp⟩⟩
theorem fb_first_one {p : Nat → Prop} {i j : Nat} (hi : p i) (hi2 : ∀ k, k < i → ¬ p k) (hj : p j) (hj2 : ∀ k, k < j → ¬ p k) : i = j := by
  rcases Nat.lt_trichotomy i j with q | q | q
  · exact absurd hi (hj2 i q)
  · exact q
  · exact absurd hj (hi2 j q)
theorem fb_last {p : Nat → Prop} [DecidablePred p] : ∀ {n : Nat}, (∃ i, i < n ∧ p i) → ∃ i, i < n ∧ p i ∧ ∀ j, i < j → j < n → ¬ p j
  | 0, h => by obtain ⟨i, hi, -⟩ := h; exact absurd hi (Nat.not_lt_zero i)
  | n + 1, h => by
    by_cases q : p n
    · exact ⟨n, by omega, q, fun j h1 h2 => by omega⟩
    · obtain ⟨i, h1, h2⟩ := h
      have hi : i < n := by
        rcases Nat.lt_or_ge i n with r | r
        · exact r
        · have e : i = n := by omega
          subst e
          exact absurd h2 q
      obtain ⟨i2, a1, a2, a3⟩ := fb_last (n := n) ⟨i, hi, h2⟩
      refine ⟨i2, by omega, a2, fun j b1 b2 => ?_⟩
      rcases Nat.lt_or_ge j n with r | r
      · exact a3 j b1 r
      · have e : j = n := by omega
        subst e
        exact q
/-- the first greatest -/
theorem fb_best (f : Nat → Int) : ∀ {n : Nat}, 0 < n → ∃ i, i < n ∧ (∀ j, j < n → f j ≤ f i) ∧ ∀ j, j < i → f j < f i
  | 0, h => absurd h (Nat.lt_irrefl 0)
  | 1, _ => ⟨0, by omega, fun j hj => by have e : j = 0 := by omega
                                         subst e; exact Int.le_refl _, fun j hj => absurd hj (Nat.not_lt_zero j)⟩
  | n + 2, _ => by
    obtain ⟨i, h1, h2, h3⟩ := fb_best f (n := n + 1) (by omega)
    by_cases q : f i < f (n + 1)
    · refine ⟨n + 1, by omega, fun j hj => ?_, fun j hj => ?_⟩
      · rcases Nat.lt_or_ge j (n + 1) with r | r
        · have := h2 j r; omega
        · have e : j = n + 1 := by omega
          subst e; exact Int.le_refl _
      · have := h2 j hj; omega
    · refine ⟨i, by omega, fun j hj => ?_, h3⟩
      rcases Nat.lt_or_ge j (n + 1) with r | r
      · exact h2 j r
      · have e : j = n + 1 := by omega
        subst e; omega
theorem fb_best_one {f : Nat → Int} {n i j : Nat} (hi : i < n) (hi2 : ∀ k, k < n → f k ≤ f i) (hi3 : ∀ k, k < i → f k < f i) (hj : j < n) (hj2 : ∀ k, k < n → f k ≤ f j) (hj3 : ∀ k, k < j → f k < f j) : i = j := by
  rcases Nat.lt_trichotomy i j with q | q | q
  · have a := hj3 i q
    have b := hi2 j hj
    omega
  · exact q
  · have a := hi3 j q
    have b := hj2 i hi
    omega
/-- the first least -/
theorem fb_low (f : Nat → Int) {n : Nat} (h : 0 < n) : ∃ i, i < n ∧ (∀ j, j < n → f i ≤ f j) ∧ ∀ j, j < i → f i < f j := by
  obtain ⟨i, h1, h2, h3⟩ := fb_best (fun k => -f k) h
  exact ⟨i, h1, fun j hj => by have := h2 j hj; omega, fun j hj => by have := h3 j hj; omega⟩
/-! ===== signed ints as whole numbers, within bounds ===== -/
theorem fb_rng (x : Int32) : -2147483648 ≤ x.toInt ∧ x.toInt < 2147483648 := by
  have h1 := Int32.le_toInt x
  have h2 := Int32.toInt_lt x
  omega
theorem fb_bmod {z : Int} (h1 : -2147483648 ≤ z) (h2 : z < 2147483648) : z.bmod (2 ^ 32) = z := by
  rw [Int.bmod_eq_of_le (by omega) (by omega)]
theorem fb_addI {x y : Int32} (h1 : -2147483648 ≤ x.toInt + y.toInt) (h2 : x.toInt + y.toInt < 2147483648) : (x + y).toInt = x.toInt + y.toInt := by
  rw [Int32.toInt_add, fb_bmod h1 h2]
theorem fb_subI {x y : Int32} (h1 : -2147483648 ≤ x.toInt - y.toInt) (h2 : x.toInt - y.toInt < 2147483648) : (x - y).toInt = x.toInt - y.toInt := by
  rw [Int32.toInt_sub, fb_bmod h1 h2]
theorem fb_mulI {x y : Int32} (h1 : -2147483648 ≤ x.toInt * y.toInt) (h2 : x.toInt * y.toInt < 2147483648) : (x * y).toInt = x.toInt * y.toInt := by
  rw [Int32.toInt_mul, fb_bmod h1 h2]
theorem fb_negI {x : Int32} (h : x.toInt ≠ -2147483648) : (-x).toInt = -x.toInt := by
  have := fb_rng x
  rw [Int32.toInt_neg, fb_bmod (by omega) (by omega)]
theorem fb_ofI {z : Int} (h1 : -2147483648 ≤ z) (h2 : z < 2147483648) : (Int32.ofInt z).toInt = z := by
  rw [Int32.toInt_ofInt, fb_bmod h1 h2]
theorem fb_asI (x : Int32) : Int32.ofInt x.toInt = x := Int32.ofInt_toInt x
theorem fb_rngL (x : Int64) : -9223372036854775808 ≤ x.toInt ∧ x.toInt < 9223372036854775808 := by
  have h1 := Int64.le_toInt x
  have h2 := Int64.toInt_lt x
  omega
theorem fb_bmodL {z : Int} (h1 : -9223372036854775808 ≤ z) (h2 : z < 9223372036854775808) : z.bmod (2 ^ 64) = z := by
  rw [Int.bmod_eq_of_le (by omega) (by omega)]
theorem fb_addL {x y : Int64} (h1 : -9223372036854775808 ≤ x.toInt + y.toInt) (h2 : x.toInt + y.toInt < 9223372036854775808) : (x + y).toInt = x.toInt + y.toInt := by
  rw [Int64.toInt_add, fb_bmodL h1 h2]
theorem fb_subL {x y : Int64} (h1 : -9223372036854775808 ≤ x.toInt - y.toInt) (h2 : x.toInt - y.toInt < 9223372036854775808) : (x - y).toInt = x.toInt - y.toInt := by
  rw [Int64.toInt_sub, fb_bmodL h1 h2]
theorem fb_mulL {x y : Int64} (h1 : -9223372036854775808 ≤ x.toInt * y.toInt) (h2 : x.toInt * y.toInt < 9223372036854775808) : (x * y).toInt = x.toInt * y.toInt := by
  rw [Int64.toInt_mul, fb_bmodL h1 h2]
/-! ===== cuts of what is narrow already ===== -/
theorem fb_byte {x : Int32} (h1 : -128 ≤ x.toInt) (h2 : x.toInt < 128) : x.toInt8.toInt32 = x := by
  apply Int32.toInt_inj.1
  rw [Int8.toInt_toInt32, Int32.toInt_toInt8, Int.bmod_eq_of_le (by omega) (by omega)]
theorem fb_short {x : Int32} (h1 : -32768 ≤ x.toInt) (h2 : x.toInt < 32768) : x.toInt16.toInt32 = x := by
  apply Int32.toInt_inj.1
  rw [Int16.toInt_toInt32, Int32.toInt_toInt16, Int.bmod_eq_of_le (by omega) (by omega)]
theorem fb_byte_rng (x : Int32) : -128 ≤ x.toInt8.toInt32.toInt ∧ x.toInt8.toInt32.toInt < 128 := by
  rw [Int8.toInt_toInt32]
  have h1 := Int8.le_toInt x.toInt8
  have h2 := Int8.toInt_lt x.toInt8
  omega
theorem fb_short_rng (x : Int32) : -32768 ≤ x.toInt16.toInt32.toInt ∧ x.toInt16.toInt32.toInt < 32768 := by
  rw [Int16.toInt_toInt32]
  have h1 := Int16.le_toInt x.toInt16
  have h2 := Int16.toInt_lt x.toInt16
  omega
theorem fb_byte_twice (x : Int32) : x.toInt8.toInt32.toInt8.toInt32 = x.toInt8.toInt32 := fb_byte (fb_byte_rng x).1 (fb_byte_rng x).2
theorem fb_short_twice (x : Int32) : x.toInt16.toInt32.toInt16.toInt32 = x.toInt16.toInt32 := fb_short (fb_short_rng x).1 (fb_short_rng x).2
theorem fb_char {n : Nat} (h : n < 65536) : (nI n).toUInt32.toUInt16.toUInt32.toInt32 = nI n := by
  apply Int32.toBitVec_inj.1
  apply BitVec.eq_of_toNat_eq
  have e1 : (nI n).toBitVec.toNat = n := by
    show (BitVec.ofNat 32 n).toNat = n
    rw [BitVec.toNat_ofNat, Nat.mod_eq_of_lt (by omega)]
  have e2 : ((nI n).toUInt32.toUInt16.toUInt32).toNat = n := by
    rw [UInt16.toNat_toUInt32, UInt32.toNat_toUInt16]
    show (nI n).toBitVec.toNat % 2 ^ 16 = n
    rw [e1, Nat.mod_eq_of_lt (by omega)]
  rw [e1]
  exact e2
end
section
/-! Small methods. -/
def mv_b (c : Prop) [Decidable c] : Int32 := if c then 1 else 0
theorem mv_b01 (c : Prop) [Decidable c] : mv_b c = 0 ∨ mv_b c = 1 := by
  unfold mv_b
  split
  · exact Or.inr rfl
  · exact Or.inl rfl
theorem mv_b0 {c : Prop} [Decidable c] : mv_b c = 0 ↔ ¬ c := by
  unfold mv_b
  split
  · rename_i h; exact ⟨fun z => absurd z (by decide), fun z => absurd h z⟩
  · rename_i h; exact ⟨fun _ => h, fun _ => rfl⟩
theorem mv_bt {c : Prop} [Decidable c] (h : c) : mv_b c = 1 := if_pos h
theorem mv_bf {c : Prop} [Decidable c] (h : ¬ c) : mv_b c = 0 := if_neg h
def sp_within : mv_SP := (fun as _ _ => match as with
    | [.int _, .int _, .int _] => True
    | _ => False,
  fun as I J r I' J' => match as with
    | [.int v, .int lo, .int hi] => r = some (.int (mv_b (lo ≤ v ∧ v ≤ hi))) ∧ I = I' ∧ J = J'
    | _ => True)
theorem cb_within : mv_body 84 mv_t_X6_within (mv_cs []) sp_within := by
  intro as I J h
  match as, h with
  | [.int v, .int lo, .int hi], _ =>
    refine ⟨rfl, mv_run_V (stop := []) 20 _ _ _ _ _ ?_⟩
    refine ⟨fun h1 => ?_, fun h1 => ?_⟩
    · refine ⟨Or.inl rfl, ?_⟩
      refine ⟨?_, rfl, rfl⟩
      rw [mv_bf (fun z => absurd h1 (Int32.not_lt.mpr z.1))]
    · refine ⟨fun h2 => ?_, fun h2 => ?_⟩
      · refine ⟨Or.inl rfl, ?_⟩
        refine ⟨?_, rfl, rfl⟩
        rw [mv_bf (fun z => absurd h2 (Int32.not_lt.mpr z.2))]
      · refine ⟨Or.inr rfl, ?_⟩
        refine ⟨?_, rfl, rfl⟩
        rw [mv_bt ⟨Int32.not_lt.mp h1, Int32.not_lt.mp h2⟩]
theorem c_within {l : Launch} {G : mv_G} {A : Nat → Prop} (hG : mv_adk G A) : mv_Con l G A 84 sp_within := mv_con hG 84 mv_k_X6_within (by decide +kernel) mv_cs_nil cb_within
end
section
/-! Series: the methods of Chart, as functions on I. -/
theorem mv_lay_ch {c : Nat} (h : c < 91) : mv_lay (100 + 3 * c) = (1, 1, 0) := by
  have : ∀ c, c < 91 → mv_lay (100 + 3 * c) = (1, 1, 0) := by decide +kernel
  exact this c h
theorem mv_lay_cs {c : Nat} (h : c < 91) : mv_lay (101 + 3 * c) = (2, 5, 0) := by
  have : ∀ c, c < 91 → mv_lay (101 + 3 * c) = (2, 5, 0) := by decide +kernel
  exact this c h
theorem mv_lay_ct {c : Nat} (h : c < 91) : mv_lay (102 + 3 * c) = (2, 12, 0) := by
  have : ∀ c, c < 91 → mv_lay (102 + 3 * c) = (2, 12, 0) := by decide +kernel
  exact this c h
theorem mv_rf_cs {c : Nat} (h : c < 91) : mv_rf (100 + 3 * c) 5 = some (101 + 3 * c) := by
  have : ∀ c, c < 91 → mv_rf (100 + 3 * c) 5 = some (101 + 3 * c) := by decide +kernel
  exact this c h
theorem mv_rf_ct {c : Nat} (h : c < 91) : mv_rf (100 + 3 * c) 14 = some (102 + 3 * c) := by
  have : ∀ c, c < 91 → mv_rf (100 + 3 * c) 14 = some (102 + 3 * c) := by decide +kernel
  exact this c h
theorem mv_sr_ap {I : mv_I} {k a b : Nat} {f : Nat → Int32} : mv_sr I k f a b = if a = k then f b else I a b := by
  unfold mv_sr
  split <;> rfl
theorem mv_si_ap {I : mv_I} {k j a b : Nat} {x : Int32} : mv_si I k j x a b = if a = k ∧ b = j then x else I a b := rfl
theorem mv_ext1 {I I' : mv_I} {o : Nat} {f : Nat → Int32} (h : ∀ b, I' o b = f b) (h2 : ∀ a, a ≠ o → ∀ b, I' a b = I a b) : I' = mv_sr I o f := by
  funext a b
  rw [mv_sr_ap]
  by_cases ha : a = o
  · rw [if_pos ha, ha, h]
  · rw [if_neg ha, h2 a ha]
theorem vp_in_of5 {p : Int32} (h1 : ¬ p < 0) (h2 : p < 5) : vp_in p 5 := by
  rw [vp_in_iff]
  rw [Int32.lt_iff_toInt_lt] at h1 h2
  have e : (0 : Int32).toInt = 0 := rfl
  have e5 : (5 : Int32).toInt = 5 := rfl
  omega
theorem vp_in_12 {p : Int32} (h1 : ¬ p < 0) (h2 : p < 12) : vp_in p 12 := by
  rw [vp_in_iff]
  rw [Int32.lt_iff_toInt_lt] at h1 h2
  have e : (0 : Int32).toInt = 0 := rfl
  have e5 : (12 : Int32).toInt = 12 := rfl
  omega
theorem vp_in_11 : vp_in 11 12 := by
  rw [vp_in_iff]
  decide
theorem mv_nz2 : ¬ (2 : Int32) = 0 := by decide
theorem mv_nz10 : ¬ (10 : Int32) = 0 := by decide
theorem mv_nz14 : ¬ (14 : Int32) = 0 := by decide
def ringF (f : Nat → Int32) (al : Int32) : Nat → Int32 := fun b =>
  if b = 10 then f 10 + 1 else if b = 11 then al else if b = 12 then f 7
  else if b = 8 then (if al &&& 1 = 0 then 0 else if f 4 = 1 then f 2 / 2 else 0)
  else if b = 9 then (if al &&& 2 = 0 then 0 else if f 4 = 1 then f 2 / 2 else 0) else f b
def sp_ring : mv_SP := (fun as _ _ => match as with
    | [.ref o, .int _] => ∃ c : Nat, c < 91 ∧ o = 100 + 3 * c
    | _ => False,
  fun as I J r I' J' => match as with
    | [.ref o, .int al] => r = none ∧ I' = mv_sr I o (ringF (I o) al) ∧ J = J'
    | _ => True)
theorem cb_ring : mv_body 21 mv_t_X1_ring (mv_cs []) sp_ring := by
  intro as I J h
  match as, h with
  | [.ref _, .int al], ⟨c, hc, rfl⟩ =>
    refine ⟨rfl, mv_run_V (stop := []) 60 _ _ _ _ _ ?_⟩
    repeat' (first | (refine ⟨rfl, ?_⟩) | (refine ⟨mv_nz2, ?_⟩) | (refine ⟨mv_lay_ch hc, ?_⟩) | (refine ⟨fun _ => ?_, fun _ => ?_⟩) | fail)
    all_goals (refine ⟨mv_ext1 (fun b => ?_) (fun a ha b => ?_), rfl⟩)
    all_goals (first | (simp [mv_si_ap, ha]; done) | (simp [mv_si_ap, ringF] at *; grind))
theorem c_ring {l : Launch} {G : mv_G} {A : Nat → Prop} (hG : mv_adk G A) : mv_Con l G A 21 sp_ring := mv_con hG 21 mv_k_X1_ring (by decide +kernel) (mv_cs_nil) cb_ring
/-- the digit of the season for a day -/
def sdF (L : Int32) (sd : Nat → Int32) (d : Int32) : Int32 :=
  if ¬ (if 0 < L then d - d / L * L else 0) < 0 ∧ (if 0 < L then d - d / L * L else 0) < 5 then sd (if 0 < L then d - d / L * L else 0).toNatClampNeg else 0
def sp_seasonDigit : mv_SP := (fun as _ _ => match as with
    | [.ref o, .int _] => ∃ c : Nat, c < 91 ∧ o = 100 + 3 * c
    | _ => False,
  fun as I J r I' J' => match as with
    | [.ref o, .int d] => r = some (.int (sdF (I o 6) (I (o + 1)) d)) ∧ I = I' ∧ J = J'
    | _ => True)
theorem cb_seasonDigit : mv_body 22 mv_t_X1_seasonDigit (mv_cs []) sp_seasonDigit := by
  intro as I J h
  match as, h with
  | [.ref _, .int d], ⟨c, hc, rfl⟩ =>
    have e1 : 100 + 3 * c + 1 = 101 + 3 * c := by omega
    have key : ∀ p : Int32, sdF (I (100 + 3 * c) 6) (I (101 + 3 * c)) d = (if ¬ p < 0 ∧ p < 5 then I (101 + 3 * c) p.toNatClampNeg else 0) → mv_V mv_ow mv_swf mv_t_X1_seasonDigit (mv_cs []) (sp_seasonDigit.2 [.ref (100 + 3 * c), .int d] I J) 17 [(0, .ref (100 + 3 * c)), (1, .int d)] [.int p] I J := by
      intro p hp
      refine mv_run_V (stop := []) 60 _ _ _ _ _ ?_
      repeat' (first | (refine ⟨rfl, ?_⟩) | (refine ⟨mv_lay_ch hc, _, mv_rf_cs hc, ?_⟩) | (refine ⟨_, mv_lay_cs hc, vp_in_of5 (by assumption) (by assumption), ?_⟩) | (refine ⟨fun _ => ?_, fun _ => ?_⟩) | fail)
      all_goals (refine ⟨?_, rfl, rfl⟩; rw [e1, hp])
      · rename_i h1; rw [if_neg (fun z => z.1 h1)]
      · rename_i h1 h2; rw [if_neg (fun z => h2 z.2)]
      · rename_i h1 h2; rw [if_pos ⟨h1, h2⟩]
    refine ⟨rfl, mv_run_V (stop := [17]) 60 _ _ _ _ _ ?_⟩
    repeat' (first | (refine ⟨rfl, ?_⟩) | (refine ⟨mv_lay_ch hc, ?_⟩) | (refine ⟨(fun z => by rename_i h1; rw [z] at h1; exact absurd h1 (by decide)), ?_⟩) | (refine ⟨fun _ => ?_, fun _ => ?_⟩) | fail)
    · rename_i h1
      refine key 0 ?_
      unfold sdF
      rw [if_neg h1]
    · rename_i h1
      refine key _ ?_
      unfold sdF
      rw [if_pos h1]
theorem c_seasonDigit {l : Launch} {G : mv_G} {A : Nat → Prop} (hG : mv_adk G A) : mv_Con l G A 22 sp_seasonDigit := mv_con hG 22 mv_k_X1_seasonDigit (by decide +kernel) (mv_cs_nil) cb_seasonDigit
def exF (I : mv_I) (o : Nat) (d : Int32) : Int32 := (I o 13 >>> ((4 : Int32) &&& 31)) + sdF (I o 6) (I (o + 1)) d - 5
def sp_expectationOn : mv_SP := (fun as _ _ => match as with
    | [.ref o, .int _] => ∃ c : Nat, c < 91 ∧ o = 100 + 3 * c
    | _ => False,
  fun as I J r I' J' => match as with
    | [.ref o, .int d] => r = some (.int (exF I o d)) ∧ I = I' ∧ J = J'
    | _ => True)
theorem cb_expectationOn : mv_body 15 mv_t_X1_expectationOn (mv_cs [(22, sp_seasonDigit)]) sp_expectationOn := by
  intro as I J h
  match as, h with
  | [.ref _, .int d], ⟨c, hc, rfl⟩ =>
    refine ⟨rfl, mv_run_V (stop := []) 60 _ _ _ _ _ ?_⟩
    repeat' (first | (refine ⟨rfl, ?_⟩) | (refine ⟨mv_lay_ch hc, ?_⟩) | (refine ⟨⟨c, hc, rfl⟩, fun r I' J' hp => ?_⟩; obtain ⟨rfl, rfl, rfl⟩ := hp) | (refine ⟨fun _ => ?_, fun _ => ?_⟩) | fail)
    exact rfl
theorem c_expectationOn {l : Launch} {G : mv_G} {A : Nat → Prop} (hG : mv_adk G A) : mv_Con l G A 15 sp_expectationOn := mv_con hG 15 mv_k_X1_expectationOn (by decide +kernel) (mv_cs_cons (c_seasonDigit hG) (mv_cs_nil)) cb_expectationOn
def sp_expectation : mv_SP := (fun as _ _ => match as with
    | [.ref o] => ∃ c : Nat, c < 91 ∧ o = 100 + 3 * c
    | _ => False,
  fun as I J r I' J' => match as with
    | [.ref o] => r = some (.int (exF I o (I o 7))) ∧ I = I' ∧ J = J'
    | _ => True)
theorem cb_expectation : mv_body 14 mv_t_X1_expectation (mv_cs [(15, sp_expectationOn)]) sp_expectation := by
  intro as I J h
  match as, h with
  | [.ref _], ⟨c, hc, rfl⟩ =>
    refine ⟨rfl, mv_run_V (stop := []) 60 _ _ _ _ _ ?_⟩
    repeat' (first | (refine ⟨rfl, ?_⟩) | (refine ⟨mv_lay_ch hc, ?_⟩) | (refine ⟨⟨c, hc, rfl⟩, fun r I' J' hp => ?_⟩; obtain ⟨rfl, rfl, rfl⟩ := hp) | (refine ⟨fun _ => ?_, fun _ => ?_⟩) | fail)
    exact rfl
theorem c_expectation {l : Launch} {G : mv_G} {A : Nat → Prop} (hG : mv_adk G A) : mv_Con l G A 14 sp_expectation := mv_con hG 14 mv_k_X1_expectation (by decide +kernel) (mv_cs_cons (c_expectationOn hG) (mv_cs_nil)) cb_expectation
def adaptI (I : mv_I) (o : Nat) (v : Int32) : mv_I := mv_si I o 13 (mv_mx 0 (mv_mn 1584 (I o 13 + ((16 * (v - sdF (I o 6) (I (o + 1)) (I o 7) + 5) - I o 13) >>> (I o 3 &&& 31)))))
def sp_adapt : mv_SP := (fun as _ _ => match as with
    | [.ref o, .int _] => ∃ c : Nat, c < 91 ∧ o = 100 + 3 * c
    | _ => False,
  fun as I J r I' J' => match as with
    | [.ref o, .int v] => r = none ∧ I' = adaptI I o v ∧ J = J'
    | _ => True)
theorem cb_adapt : mv_body 4 mv_t_X1_adapt (mv_cs [(22, sp_seasonDigit), (150, sp_max), (151, sp_min)]) sp_adapt := by
  intro as I J h
  match as, h with
  | [.ref _, .int v], ⟨c, hc, rfl⟩ =>
    refine ⟨rfl, mv_run_V (stop := []) 60 _ _ _ _ _ ?_⟩
    repeat' (first | (refine ⟨rfl, ?_⟩) | (refine ⟨mv_lay_ch hc, ?_⟩) | (refine ⟨⟨c, hc, rfl⟩, fun r I' J' hp => ?_⟩; obtain ⟨rfl, rfl, rfl⟩ := hp) | (refine ⟨trivial, fun r I' J' hp => ?_⟩; obtain ⟨rfl, rfl, rfl⟩ := hp) | (refine ⟨fun _ => ?_, fun _ => ?_⟩) | fail)
    exact rfl
theorem c_adapt {l : Launch} {G : mv_G} {A : Nat → Prop} (hG : mv_adk G A) : mv_Con l G A 4 sp_adapt := mv_con hG 4 mv_k_X1_adapt (by decide +kernel) (mv_cs_cons (c_seasonDigit hG) (mv_cs_max (mv_cs_min (mv_cs_nil)))) cb_adapt
/-- a thing appended -/
def appI (I : mv_I) (o : Nat) (v : Int32) : mv_I :=
  mv_sr (mv_sr I (o + 2) (if I o 15 < 12 then upd (I (o + 2)) (I o 15).toNatClampNeg v else upd (va_cpy (I (o + 2)) (I (o + 2)) 1 0 11) 11 v)) o
    (fun b => if b = 15 then (if I o 15 < 12 then I o 15 + 1 else 12) else if b = 7 then I o 7 + 1 else I o b)
def sp_append : mv_SP := (fun as I _ => match as with
    | [.ref o, .int _] => ∃ c : Nat, c < 91 ∧ o = 100 + 3 * c ∧ ¬ I o 15 < 0
    | _ => False,
  fun as I J r I' J' => match as with
    | [.ref o, .int v] => r = none ∧ I' = appI I o v ∧ J = J'
    | _ => True)
theorem cb_append : mv_body 9 mv_t_X1_append (mv_cs []) sp_append := by
  intro as I J h
  match as, h with
  | [.ref _, .int v], ⟨c, hc, rfl, hn⟩ =>
    have e1 : 100 + 3 * c + 2 = 102 + 3 * c := by omega
    have e2 : ¬ 100 + 3 * c = 102 + 3 * c := by omega
    have e3 : ¬ 102 + 3 * c = 100 + 3 * c := by omega
    refine ⟨rfl, mv_run_V (stop := []) 60 _ _ _ _ _ ?_⟩
    repeat' (first | (refine ⟨rfl, ?_⟩) | (refine ⟨mv_lay_ch hc, _, mv_rf_ct hc, ?_⟩) | (refine ⟨mv_lay_ch hc, ?_⟩) | (refine ⟨_, _, mv_lay_ct hc, mv_lay_ct hc, by decide, by decide, by decide, by decide, by decide, ?_⟩) | (refine ⟨_, mv_lay_ct hc, vp_in_12 hn (by assumption), ?_⟩) | (refine ⟨_, mv_lay_ct hc, (by simp only [mv_si_ap, mv_sr_ap, e2, e3, and_self, if_true]; exact vp_in_11), ?_⟩) | (refine ⟨fun _ => ?_, fun _ => ?_⟩) | fail)
    · rename_i h1
      refine ⟨?_, rfl⟩
      unfold appI
      rw [e1]
      funext a b
      simp only [mv_si_ap, mv_sr_ap, upd, if_pos h1, e2, e3]
      grind
    · rename_i h1
      refine ⟨?_, rfl⟩
      unfold appI
      rw [e1]
      have e11 : (11 : Int32).toNatClampNeg = 11 := rfl
      have e12 : (11 : Int32) + 1 = 12 := rfl
      funext a b
      simp only [mv_si_ap, mv_sr_ap, upd, if_neg h1, e2, e3, e11, and_self, if_true]
      grind
theorem c_append {l : Launch} {G : mv_G} {A : Nat → Prop} (hG : mv_adk G A) : mv_Con l G A 9 sp_append := mv_con hG 9 mv_k_X1_append (by decide +kernel) (mv_cs_nil) cb_append
end
section
/-! Series: a count, and the rest of Chart. -/
def add1 (I : mv_I) (o : Nat) (v : Int32) : mv_I := mv_si I o 8 (mv_mx 0 (I o 8 + v - exF I o (I o 7) - I o 1))
def add2 (I : mv_I) (o : Nat) (v : Int32) : mv_I := mv_si (add1 I o v) o 9 (mv_mx 0 (add1 I o v o 9 + exF I o (I o 7) - v - add1 I o v o 1))
def addA (I : mv_I) (o : Nat) : Int32 := (if I o 8 < I o 2 then 0 else 1) + (if I o 9 < I o 2 then 0 else 2)
def add3 (I : mv_I) (o : Nat) (v : Int32) : mv_I :=
  if addA (add2 I o v) o = 0 then (if 0 < add2 I o v o 3 ∧ add2 I o v o 8 = 0 ∧ add2 I o v o 9 = 0 then adaptI (add2 I o v) o v else add2 I o v)
  else mv_sr (add2 I o v) o (ringF (add2 I o v o) (addA (add2 I o v) o))
def addI (I : mv_I) (o : Nat) (v : Int32) : mv_I := appI (add3 I o v) o v
def addK (I : mv_I) (o : Nat) (v : Int32) : Int32 := addA (add2 I o v) o
theorem addA_pp {I : mv_I} {o : Nat} (h1 : I o 8 < I o 2) (h2 : I o 9 < I o 2) : 0 + 0 = addA I o := by unfold addA; rw [if_pos h1, if_pos h2]
theorem addA_pn {I : mv_I} {o : Nat} (h1 : I o 8 < I o 2) (h2 : ¬ I o 9 < I o 2) : 0 + 2 = addA I o := by unfold addA; rw [if_pos h1, if_neg h2]
theorem addA_np {I : mv_I} {o : Nat} (h1 : ¬ I o 8 < I o 2) (h2 : I o 9 < I o 2) : 1 + 0 = addA I o := by unfold addA; rw [if_neg h1, if_pos h2]
theorem addA_nn {I : mv_I} {o : Nat} (h1 : ¬ I o 8 < I o 2) (h2 : ¬ I o 9 < I o 2) : 1 + 2 = addA I o := by unfold addA; rw [if_neg h1, if_neg h2]
theorem add3_15 (I : mv_I) (o : Nat) (v : Int32) : add3 I o v o 15 = I o 15 := by
  unfold add3
  split
  · split
    · simp [adaptI, add2, add1, mv_si_ap]
    · simp [add2, add1, mv_si_ap]
  · simp [mv_sr_ap, ringF, add2, add1, mv_si_ap]
def sp_addCount : mv_SP := (fun as I _ => match as with
    | [.ref o, .int _] => ∃ c : Nat, c < 91 ∧ o = 100 + 3 * c ∧ ¬ I o 15 < 0
    | _ => False,
  fun as I J r I' J' => match as with
    | [.ref o, .int v] => r = some (.int (addK I o v)) ∧ I' = addI I o v ∧ J = J'
    | _ => True)
theorem cb_addCount : mv_body 5 mv_t_X1_addCount (mv_cs [(15, sp_expectationOn), (150, sp_max), (21, sp_ring), (4, sp_adapt), (9, sp_append)]) sp_addCount := by
  intro as I J h
  match as, h with
  | [.ref _, .int v], ⟨c, hc, rfl, hn⟩ =>
    have k123 : ∀ (I3 : mv_I) (al : Int32), I3 = add3 I (100 + 3 * c) v → al = addK I (100 + 3 * c) v → mv_V mv_ow mv_swf mv_t_X1_addCount (mv_cs [(15, sp_expectationOn), (150, sp_max), (21, sp_ring), (4, sp_adapt), (9, sp_append)]) (sp_addCount.2 [.ref (100 + 3 * c), .int v] I J) 123 [(0, .ref (100 + 3 * c)), (1, .int v), (2, .int (exF I (100 + 3 * c) (I (100 + 3 * c) 7))), (3, .int al)] [] I3 J := by
      intro I3 al h3 ha
      have hn3 : ¬ I3 (100 + 3 * c) 15 < 0 := by rw [h3, add3_15]; exact hn
      refine mv_run_V (stop := []) 40 _ _ _ _ _ ?_
      repeat' (first | (refine ⟨rfl, ?_⟩) | (refine ⟨mv_lay_ch hc, ?_⟩) | (refine ⟨⟨c, hc, rfl, hn3⟩, fun r I' J' hp => ?_⟩; obtain ⟨rfl, rfl, rfl⟩ := hp) | (refine ⟨fun _ => ?_, fun _ => ?_⟩) | fail)
      exact ⟨by rw [ha], by rw [h3]; rfl, rfl⟩
    have k85 : ∀ al : Int32, al = addK I (100 + 3 * c) v → mv_V mv_ow mv_swf mv_t_X1_addCount (mv_cs [(15, sp_expectationOn), (150, sp_max), (21, sp_ring), (4, sp_adapt), (9, sp_append)]) (sp_addCount.2 [.ref (100 + 3 * c), .int v] I J) 85 [(0, .ref (100 + 3 * c)), (1, .int v), (2, .int (exF I (100 + 3 * c) (I (100 + 3 * c) 7))), (3, .int al)] [] (add2 I (100 + 3 * c) v) J := by
      intro al ha
      have ha2 : al = addA (add2 I (100 + 3 * c) v) (100 + 3 * c) := ha
      refine mv_run_V (stop := [123]) 60 _ _ _ _ _ ?_
      repeat' (first | (refine ⟨rfl, ?_⟩) | (refine ⟨mv_lay_ch hc, ?_⟩) | (refine ⟨⟨c, hc, rfl⟩, fun r I' J' hp => ?_⟩; obtain ⟨rfl, rfl, rfl⟩ := hp) | (refine ⟨fun _ => ?_, fun _ => ?_⟩) | fail)
      · rename_i h1 h2
        exact k123 _ _ (by unfold add3; rw [← ha2, if_pos h1, if_neg (fun z => h2 z.1)]) ha
      · rename_i h1 h2 h3
        exact k123 _ _ (by unfold add3; rw [← ha2, if_pos h1, if_neg (fun z => h3 z.2.1)]) ha
      · rename_i h1 h2 h3 h4
        exact k123 _ _ (by unfold add3; rw [← ha2, if_pos h1, if_neg (fun z => h4 z.2.2)]) ha
      · rename_i h1 h2 h3 h4
        exact k123 _ _ (by unfold add3; rw [← ha2, if_pos h1, if_pos ⟨h2, h3, h4⟩]) ha
      · rename_i h1
        exact k123 _ _ (by unfold add3; rw [← ha2, if_neg h1]) ha
    refine ⟨rfl, mv_run_V (stop := [85]) 60 _ _ _ _ _ ?_⟩
    repeat' (first | (refine ⟨rfl, ?_⟩) | (refine ⟨mv_lay_ch hc, ?_⟩) | (refine ⟨⟨c, hc, rfl⟩, fun r I' J' hp => ?_⟩; obtain ⟨rfl, rfl, rfl⟩ := hp) | (refine ⟨trivial, fun r I' J' hp => ?_⟩; obtain ⟨rfl, rfl, rfl⟩ := hp) | (refine ⟨fun _ => ?_, fun _ => ?_⟩) | fail)
    · rename_i h1 h2
      exact k85 _ (addA_pp h1 h2)
    · rename_i h1 h2
      exact k85 _ (addA_pn h1 h2)
    · rename_i h1 h2
      exact k85 _ (addA_np h1 h2)
    · rename_i h1 h2
      exact k85 _ (addA_nn h1 h2)
theorem c_addCount {l : Launch} {G : mv_G} {A : Nat → Prop} (hG : mv_adk G A) : mv_Con l G A 5 sp_addCount := mv_con hG 5 mv_k_X1_addCount (by decide +kernel) (mv_cs_cons (c_expectationOn hG) (mv_cs_max (mv_cs_cons (c_ring hG) (mv_cs_cons (c_adapt hG) (mv_cs_cons (c_append hG) (mv_cs_nil)))))) cb_addCount
def sp_addGap : mv_SP := (fun as I _ => match as with
    | [.ref o] => ∃ c : Nat, c < 91 ∧ o = 100 + 3 * c ∧ ¬ I o 15 < 0
    | _ => False,
  fun as I J r I' J' => match as with
    | [.ref o] => r = none ∧ I' = appI I o (-9) ∧ J = J'
    | _ => True)
theorem cb_addGap : mv_body 7 mv_t_X1_addGap (mv_cs [(9, sp_append)]) sp_addGap := by
  intro as I J h
  match as, h with
  | [.ref _], ⟨c, hc, rfl, hn⟩ =>
    refine ⟨rfl, mv_run_V (stop := []) 60 _ _ _ _ _ ?_⟩
    repeat' (first | (refine ⟨rfl, ?_⟩) | (refine ⟨mv_lay_ch hc, ?_⟩) | (refine ⟨⟨c, hc, rfl, hn⟩, fun r I' J' hp => ?_⟩; obtain ⟨rfl, rfl, rfl⟩ := hp) | (refine ⟨fun _ => ?_, fun _ => ?_⟩) | fail)
    all_goals exact rfl
theorem c_addGap {l : Launch} {G : mv_G} {A : Nat → Prop} (hG : mv_adk G A) : mv_Con l G A 7 sp_addGap := mv_con hG 7 mv_k_X1_addGap (by decide +kernel) (mv_cs_cons (c_append hG) (mv_cs_nil)) cb_addGap
def sp_remembers : mv_SP := (fun as _ _ => match as with
    | [.ref o, .int _] => ∃ c : Nat, c < 91 ∧ o = 100 + 3 * c
    | _ => False,
  fun as I J r I' J' => match as with
    | [.ref o, .int x] => r = some (.int (mv_b (0 ≤ x ∧ x ≤ I o 15 - 1))) ∧ I = I' ∧ J = J'
    | _ => True)
theorem cb_remembers : mv_body 19 mv_t_X1_remembers (mv_cs [(84, sp_within)]) sp_remembers := by
  intro as I J h
  match as, h with
  | [.ref _, .int x], ⟨c, hc, rfl⟩ =>
    refine ⟨rfl, mv_run_V (stop := []) 60 _ _ _ _ _ ?_⟩
    repeat' (first | (refine ⟨rfl, ?_⟩) | (refine ⟨mv_lay_ch hc, ?_⟩) | (refine ⟨trivial, fun r I' J' hp => ?_⟩; obtain ⟨rfl, rfl, rfl⟩ := hp) | (refine ⟨mv_b01 _, ?_⟩) | (refine ⟨fun _ => ?_, fun _ => ?_⟩) | fail)
    all_goals exact rfl
theorem c_remembers {l : Launch} {G : mv_G} {A : Nat → Prop} (hG : mv_adk G A) : mv_Con l G A 19 sp_remembers := mv_con hG 19 mv_k_X1_remembers (by decide +kernel) (mv_cs_cons (c_within hG) (mv_cs_nil)) cb_remembers
def thingF (I : mv_I) (o : Nat) (x : Int32) : Int32 := if 0 ≤ x ∧ x ≤ I o 15 - 1 then I (o + 2) x.toNatClampNeg else -9
def sp_thingAt : mv_SP := (fun as I _ => match as with
    | [.ref o, .int x] => ∃ c : Nat, c < 91 ∧ o = 100 + 3 * c ∧ (0 ≤ x ∧ x ≤ I o 15 - 1 → vp_in x 12)
    | _ => False,
  fun as I J r I' J' => match as with
    | [.ref o, .int x] => r = some (.int (thingF I o x)) ∧ I = I' ∧ J = J'
    | _ => True)
theorem cb_thingAt : mv_body 23 mv_t_X1_thingAt (mv_cs [(19, sp_remembers)]) sp_thingAt := by
  intro as I J h
  match as, h with
  | [.ref _, .int x], ⟨c, hc, rfl, hx⟩ =>
    refine ⟨rfl, mv_run_V (stop := []) 60 _ _ _ _ _ ?_⟩
    repeat' (first | (refine ⟨rfl, ?_⟩) | (refine ⟨mv_lay_ch hc, _, mv_rf_ct hc, ?_⟩) | (refine ⟨mv_lay_ch hc, ?_⟩) | (refine ⟨⟨c, hc, rfl⟩, fun r I' J' hp => ?_⟩; obtain ⟨rfl, rfl, rfl⟩ := hp) | (refine ⟨_, mv_lay_ct hc, hx (by rename_i h1; exact Decidable.not_not.mp (fun z => h1 (mv_b0.mpr z))), ?_⟩) | (refine ⟨fun _ => ?_, fun _ => ?_⟩) | fail)
    · rename_i h1
      exact ⟨by unfold thingF; rw [if_neg (mv_b0.mp h1)], rfl, rfl⟩
    · rename_i h1
      refine ⟨?_, rfl, rfl⟩
      unfold thingF
      rw [if_pos (Decidable.not_not.mp (fun z => h1 (mv_b0.mpr z)))]
      have e1 : 100 + 3 * c + 2 = 102 + 3 * c := by omega
      rw [e1]
theorem c_thingAt {l : Launch} {G : mv_G} {A : Nat → Prop} (hG : mv_adk G A) : mv_Con l G A 23 sp_thingAt := mv_con hG 23 mv_k_X1_thingAt (by decide +kernel) (mv_cs_cons (c_remembers hG) (mv_cs_nil)) cb_thingAt
def dropI (I : mv_I) (o : Nat) : mv_I := mv_si (mv_si I o 8 0) o 9 0
def sp_dropSums : mv_SP := (fun as _ _ => match as with
    | [.ref o] => ∃ c : Nat, c < 91 ∧ o = 100 + 3 * c
    | _ => False,
  fun as I J r I' J' => match as with
    | [.ref o] => r = none ∧ I' = dropI I o ∧ J = J'
    | _ => True)
theorem cb_dropSums : mv_body 13 mv_t_X1_dropSums (mv_cs []) sp_dropSums := by
  intro as I J h
  match as, h with
  | [.ref _], ⟨c, hc, rfl⟩ =>
    refine ⟨rfl, mv_run_V (stop := []) 60 _ _ _ _ _ ?_⟩
    repeat' (first | (refine ⟨rfl, ?_⟩) | (refine ⟨mv_lay_ch hc, ?_⟩) | (refine ⟨fun _ => ?_, fun _ => ?_⟩) | fail)
    all_goals exact rfl
theorem c_dropSums {l : Launch} {G : mv_G} {A : Nat → Prop} (hG : mv_adk G A) : mv_Con l G A 13 sp_dropSums := mv_con hG 13 mv_k_X1_dropSums (by decide +kernel) (mv_cs_nil) cb_dropSums
def alwP (w v : Int32) : Prop := if w = 0 then 0 ≤ v ∧ v ≤ 9 else if w = 1 then 1 ≤ v ∧ v ≤ 99 else if w = 2 then 0 ≤ v ∧ v ≤ 4 else if w = 3 then 0 ≤ v ∧ v ≤ 1 else False
def sp_allows : mv_SP := (fun as _ _ => match as with
    | [.int _, .int _] => True
    | _ => False,
  fun as I J r I' J' => match as with
    | [.int w, .int v] => (∃ x : Int32, r = some (.int x) ∧ (x = 0 ↔ ¬ alwP w v)) ∧ I = I' ∧ J = J'
    | _ => True)
theorem cb_allows : mv_body 8 mv_t_X1_allows (mv_cs [(84, sp_within)]) sp_allows := by
  intro as I J h
  match as, h with
  | [.int w, .int v], h0 =>
    refine ⟨rfl, mv_run_V (stop := []) 60 _ _ _ _ _ ?_⟩
    repeat' (first | (refine ⟨rfl, ?_⟩) | (refine ⟨trivial, fun r I' J' hp => ?_⟩; obtain ⟨rfl, rfl, rfl⟩ := hp) | (refine ⟨mv_b01 _, ?_⟩) | (refine ⟨Or.inl rfl, ?_⟩) | (refine ⟨fun _ => ?_, fun _ => ?_⟩) | fail)
    · rename_i h1
      exact ⟨⟨_, rfl, by rw [mv_b0]; unfold alwP; rw [if_pos h1]⟩, rfl, rfl⟩
    · rename_i h1 h2
      exact ⟨⟨_, rfl, by rw [mv_b0]; unfold alwP; rw [if_neg h1, if_pos h2]⟩, rfl, rfl⟩
    · rename_i h1 h2 h3
      exact ⟨⟨_, rfl, by rw [mv_b0]; unfold alwP; rw [if_neg h1, if_neg h2, if_pos h3]⟩, rfl, rfl⟩
    · rename_i h1 h2 h3 h4
      exact ⟨⟨_, rfl, by rw [mv_b0]; unfold alwP; rw [if_neg h1, if_neg h2, if_neg h3, if_pos h4]⟩, rfl, rfl⟩
    · rename_i h1 h2 h3 h4
      exact ⟨⟨_, rfl, by unfold alwP; rw [if_neg h1, if_neg h2, if_neg h3, if_neg h4]; simp⟩, rfl, rfl⟩
theorem c_allows {l : Launch} {G : mv_G} {A : Nat → Prop} (hG : mv_adk G A) : mv_Con l G A 8 sp_allows := mv_con hG 8 mv_k_X1_allows (by decide +kernel) (mv_cs_cons (c_within hG) (mv_cs_nil)) cb_allows
def parF (w : Int32) : Nat := if w = 0 then 1 else if w = 1 then 2 else if w = 2 then 3 else 4
def sp_parameter : mv_SP := (fun as _ _ => match as with
    | [.ref o, .int _] => ∃ c : Nat, c < 91 ∧ o = 100 + 3 * c
    | _ => False,
  fun as I J r I' J' => match as with
    | [.ref o, .int w] => r = some (.int (I o (parF w))) ∧ I = I' ∧ J = J'
    | _ => True)
theorem cb_parameter : mv_body 17 mv_t_X1_parameter (mv_cs []) sp_parameter := by
  intro as I J h
  match as, h with
  | [.ref _, .int w], ⟨c, hc, rfl⟩ =>
    refine ⟨rfl, mv_run_V (stop := []) 60 _ _ _ _ _ ?_⟩
    repeat' (first | (refine ⟨rfl, ?_⟩) | (refine ⟨mv_lay_ch hc, ?_⟩) | (refine ⟨fun _ => ?_, fun _ => ?_⟩) | fail)
    · rename_i h1
      exact ⟨by unfold parF; rw [if_pos h1], rfl, rfl⟩
    · rename_i h1 h2
      exact ⟨by unfold parF; rw [if_neg h1, if_pos h2], rfl, rfl⟩
    · rename_i h1 h2 h3
      exact ⟨by unfold parF; rw [if_neg h1, if_neg h2, if_pos h3], rfl, rfl⟩
    · rename_i h1 h2 h3
      exact ⟨by unfold parF; rw [if_neg h1, if_neg h2, if_neg h3], rfl, rfl⟩
theorem c_parameter {l : Launch} {G : mv_G} {A : Nat → Prop} (hG : mv_adk G A) : mv_Con l G A 17 sp_parameter := mv_con hG 17 mv_k_X1_parameter (by decide +kernel) (mv_cs_nil) cb_parameter
def sp_change : mv_SP := (fun as _ _ => match as with
    | [.ref o, .int _, .int _] => ∃ c : Nat, c < 91 ∧ o = 100 + 3 * c
    | _ => False,
  fun as I J r I' J' => match as with
    | [.ref o, .int w, .int v] => r = none ∧ I' = mv_si I o (parF w) v ∧ J = J'
    | _ => True)
theorem cb_change : mv_body 11 mv_t_X1_change (mv_cs []) sp_change := by
  intro as I J h
  match as, h with
  | [.ref _, .int w, .int v], ⟨c, hc, rfl⟩ =>
    refine ⟨rfl, mv_run_V (stop := []) 60 _ _ _ _ _ ?_⟩
    repeat' (first | (refine ⟨rfl, ?_⟩) | (refine ⟨mv_lay_ch hc, ?_⟩) | (refine ⟨fun _ => ?_, fun _ => ?_⟩) | fail)
    · rename_i h1
      exact ⟨by unfold parF; rw [if_pos h1], rfl⟩
    · rename_i h1 h2
      exact ⟨by unfold parF; rw [if_neg h1, if_pos h2], rfl⟩
    · rename_i h1 h2 h3
      exact ⟨by unfold parF; rw [if_neg h1, if_neg h2, if_pos h3], rfl⟩
    · rename_i h1 h2 h3
      exact ⟨by unfold parF; rw [if_neg h1, if_neg h2, if_neg h3], rfl⟩
theorem c_change {l : Launch} {G : mv_G} {A : Nat → Prop} (hG : mv_adk G A) : mv_Con l G A 11 sp_change := mv_con hG 11 mv_k_X1_change (by decide +kernel) (mv_cs_nil) cb_change
/-- a property by its number -/
def proF (I : mv_I) (o : Nat) (w : Int32) : Int32 :=
  if w = 0 then I o 0 else if w = 1 then I o 1 else if w = 2 then I o 2 else if w = 3 then I o 3 else if w = 4 then I o 4 else if w = 5 then I o 7 else if w = 6 then I o 8 else if w = 7 then I o 9 else if w = 8 then I o 10 else if w = 9 then I o 11 else if w = 10 then I o 12 else if w = 11 then I o 13 else if w = 12 then exF I o (I o 7) + 100 else I o 15
def sp_property : mv_SP := (fun as _ _ => match as with
    | [.ref o, .int _] => ∃ c : Nat, c < 91 ∧ o = 100 + 3 * c
    | _ => False,
  fun as I J r I' J' => match as with
    | [.ref o, .int w] => r = some (.int (proF I o w)) ∧ I = I' ∧ J = J'
    | _ => True)
theorem cb_property : mv_body 18 mv_t_X1_property (mv_cs [(14, sp_expectation)]) sp_property := by
  intro as I J h
  match as, h with
  | [.ref _, .int w], ⟨c, hc, rfl⟩ =>
    refine ⟨rfl, mv_run_V (stop := []) 60 _ _ _ _ _ ?_⟩
    repeat' (first | (refine ⟨rfl, ?_⟩) | (refine ⟨mv_lay_ch hc, ?_⟩) | (refine ⟨⟨c, hc, rfl⟩, fun r I' J' hp => ?_⟩; obtain ⟨rfl, rfl, rfl⟩ := hp) | (refine ⟨fun _ => ?_, fun _ => ?_⟩) | fail)
    all_goals (refine ⟨?_, rfl, rfl⟩; unfold proF; simp [*])
theorem c_property {l : Launch} {G : mv_G} {A : Nat → Prop} (hG : mv_adk G A) : mv_Con l G A 18 sp_property := mv_con hG 18 mv_k_X1_property (by decide +kernel) (mv_cs_cons (c_expectation hG) (mv_cs_nil)) cb_property
end
section
/-! Series: begin, copyFrom, addCounts, replay. -/
def beginF (f : Nat → Int32) : Nat → Int32 := fun b => if b = 7 ∨ b = 8 ∨ b = 9 ∨ b = 10 ∨ b = 11 ∨ b = 15 then 0 else if b = 12 then -9 else if b = 13 then 16 * f 0 else f b
def sp_begin : mv_SP := (fun as _ _ => match as with
    | [.ref o] => ∃ c : Nat, c < 91 ∧ o = 100 + 3 * c
    | _ => False,
  fun as I J r I' J' => match as with
    | [.ref o] => r = none ∧ I' = mv_sr I o (beginF (I o)) ∧ J = J'
    | _ => True)
theorem cb_begin : mv_body 10 mv_t_X1_begin (mv_cs []) sp_begin := by
  intro as I J h
  match as, h with
  | [.ref _], ⟨c, hc, rfl⟩ =>
    refine ⟨rfl, mv_run_V (stop := []) 60 _ _ _ _ _ ?_⟩
    repeat' (first | (refine ⟨rfl, ?_⟩) | (refine ⟨mv_lay_ch hc, ?_⟩) | (refine ⟨fun _ => ?_, fun _ => ?_⟩) | fail)
    refine ⟨mv_ext1 (fun b => ?_) (fun a ha b => ?_), rfl⟩
    · simp [mv_si_ap, beginF]; grind
    · simp [mv_si_ap, ha]
theorem c_begin {l : Launch} {G : mv_G} {A : Nat → Prop} (hG : mv_adk G A) : mv_Con l G A 10 sp_begin := mv_con hG 10 mv_k_X1_begin (by decide +kernel) (mv_cs_nil) cb_begin
def copyI (I : mv_I) (o q : Nat) : mv_I :=
  mv_sr (mv_sr (mv_sr I (o + 1) (va_cpy (I (q + 1)) (I (o + 1)) 0 0 5)) (o + 2) (va_cpy (I (q + 2)) (I (o + 2)) 0 0 12)) o (fun b => if b < 16 ∧ b ≠ 5 ∧ b ≠ 14 then I q b else I o b)
def sp_chartCopy : mv_SP := (fun as _ _ => match as with
    | [.ref o, .ref q] => ∃ c d : Nat, c < 91 ∧ d < 91 ∧ c ≠ d ∧ o = 100 + 3 * c ∧ q = 100 + 3 * d
    | _ => False,
  fun as I J r I' J' => match as with
    | [.ref o, .ref q] => r = none ∧ I' = copyI I o q ∧ J = J'
    | _ => True)
theorem mv_d0 : ¬ (0 : Int32) < 0 := by decide
theorem mv_d5 : ¬ (5 : Int32) < 0 := by decide
theorem mv_d12 : ¬ (12 : Int32) < 0 := by decide
theorem mv_d05 : (0 : Int32).toNatClampNeg + (5 : Int32).toNatClampNeg ≤ 5 := by decide
theorem mv_d012 : (0 : Int32).toNatClampNeg + (12 : Int32).toNatClampNeg ≤ 12 := by decide
/-- the first n fields copied -/
def cpyF (f g : Nat → Int32) (n : Nat) : Nat → Int32 := fun b => if b < n ∧ b ≠ 5 then g b else f b
def cpyJ (I : mv_I) (o q n : Nat) : mv_I := mv_sr (mv_sr I (o + 1) (va_cpy (I (q + 1)) (I (o + 1)) 0 0 5)) o (cpyF (I o) (I q) n)
theorem cb_chartCopy : mv_body 12 mv_t_X1_copyFrom (mv_cs []) sp_chartCopy := by
  intro as I J h
  match as, h with
  | [.ref _, .ref _], ⟨c, d, hc, hd, hcd, rfl, rfl⟩ =>
    have e1 : 100 + 3 * c + 1 = 101 + 3 * c := by omega
    have e2 : 100 + 3 * c + 2 = 102 + 3 * c := by omega
    have f1 : 100 + 3 * d + 1 = 101 + 3 * d := by omega
    have f2 : 100 + 3 * d + 2 = 102 + 3 * d := by omega
    have g1 : ¬ 100 + 3 * d = 100 + 3 * c := by omega
    have g2 : ¬ 101 + 3 * d = 100 + 3 * c := by omega
    have g3 : ¬ 102 + 3 * d = 100 + 3 * c := by omega
    have g4 : ¬ 101 + 3 * c = 100 + 3 * c := by omega
    have g5 : ¬ 102 + 3 * c = 100 + 3 * c := by omega
    have g6 : ¬ 100 + 3 * d = 101 + 3 * c := by omega
    have g7 : ¬ 102 + 3 * d = 101 + 3 * c := by omega
    have g8 : ¬ 102 + 3 * c = 101 + 3 * c := by omega
    have g9 : ¬ 100 + 3 * d = 102 + 3 * c := by omega
    have k118 : ∀ I1 : mv_I, I1 = cpyJ I (100 + 3 * c) (100 + 3 * d) 14 → mv_V mv_ow mv_swf mv_t_X1_copyFrom (mv_cs []) (sp_chartCopy.2 [.ref (100 + 3 * c), .ref (100 + 3 * d)] I J) 118 [(0, .ref (100 + 3 * c)), (1, .ref (100 + 3 * d))] [] I1 J := by
      intro I1 h1
      refine mv_run_V (stop := []) 20 _ _ _ _ _ ?_
      refine ⟨mv_lay_ch hd, _, mv_rf_ct hd, mv_lay_ch hc, _, mv_rf_ct hc, rfl, _, _, mv_lay_ct hd, mv_lay_ct hc, mv_d0, mv_d0, mv_d12, mv_d012, mv_d012, mv_lay_ch hd, mv_lay_ch hc, rfl, ?_⟩
      refine ⟨?_, rfl⟩
      rw [h1]
      unfold copyI cpyJ cpyF
      rw [e1, e2, f1, f2]
      rw [show (0 : Int32).toNatClampNeg = 0 from rfl, show (12 : Int32).toNatClampNeg = 12 from rfl]
      simp only [mv_sr_ne g1, mv_sr_ne g2, mv_sr_ne g3, mv_sr_ne g4, mv_sr_ne g5, mv_sr_ne g6, mv_sr_ne g7, mv_sr_ne g8, mv_sr_ne g9]
      funext a b
      simp only [mv_si_ap, mv_sr_ap]
      grind
    have k86 : ∀ I1 : mv_I, I1 = cpyJ I (100 + 3 * c) (100 + 3 * d) 10 → mv_V mv_ow mv_swf mv_t_X1_copyFrom (mv_cs []) (sp_chartCopy.2 [.ref (100 + 3 * c), .ref (100 + 3 * d)] I J) 86 [(0, .ref (100 + 3 * c)), (1, .ref (100 + 3 * d))] [] I1 J := by
      intro I1 h1
      refine mv_run_V (stop := [118]) 40 _ _ _ _ _ ?_
      refine ⟨mv_lay_ch hd, mv_lay_ch hc, mv_lay_ch hd, mv_lay_ch hc, mv_lay_ch hd, mv_lay_ch hc, mv_lay_ch hd, mv_lay_ch hc, ?_⟩
      refine k118 _ ?_
      rw [h1]
      unfold cpyJ cpyF
      funext a b
      simp only [mv_si_ap, mv_sr_ap]
      grind
    have k54 : ∀ I1 : mv_I, I1 = cpyJ I (100 + 3 * c) (100 + 3 * d) 5 → mv_V mv_ow mv_swf mv_t_X1_copyFrom (mv_cs []) (sp_chartCopy.2 [.ref (100 + 3 * c), .ref (100 + 3 * d)] I J) 54 [(0, .ref (100 + 3 * c)), (1, .ref (100 + 3 * d))] [] I1 J := by
      intro I1 h1
      refine mv_run_V (stop := [86]) 40 _ _ _ _ _ ?_
      refine ⟨mv_lay_ch hd, mv_lay_ch hc, mv_lay_ch hd, mv_lay_ch hc, mv_lay_ch hd, mv_lay_ch hc, mv_lay_ch hd, mv_lay_ch hc, ?_⟩
      refine k86 _ ?_
      rw [h1]
      unfold cpyJ cpyF
      funext a b
      simp only [mv_si_ap, mv_sr_ap]
      grind
    refine ⟨rfl, mv_run_V (stop := [54]) 40 _ _ _ _ _ ?_⟩
    refine ⟨mv_lay_ch hd, mv_lay_ch hc, mv_lay_ch hd, mv_lay_ch hc, mv_lay_ch hd, mv_lay_ch hc, mv_lay_ch hd, mv_lay_ch hc, mv_lay_ch hd, mv_lay_ch hc, mv_lay_ch hd, _, mv_rf_cs hd, mv_lay_ch hc, _, mv_rf_cs hc, rfl, _, _, mv_lay_cs hd, mv_lay_cs hc, mv_d0, mv_d0, mv_d5, mv_d05, mv_d05, ?_⟩
    refine k54 _ ?_
    unfold cpyJ cpyF
    rw [e1, f1]
    rw [show (0 : Int32).toNatClampNeg = 0 from rfl, show (5 : Int32).toNatClampNeg = 5 from rfl]
    simp only [mv_si_ne g1, mv_si_ne g2, mv_si_ne g4]
    funext a b
    simp only [mv_si_ap, mv_sr_ap]
    grind
theorem c_chartCopy {l : Launch} {G : mv_G} {A : Nat → Prop} (hG : mv_adk G A) : mv_Con l G A 12 sp_chartCopy := mv_con hG 12 mv_k_X1_copyFrom (by decide +kernel) (mv_cs_nil) cb_chartCopy
def addN (o : Nat) (v : Int32) : Nat → mv_I → mv_I
  | 0, I => I
  | k + 1, I => addI (addN o v k I) o v
theorem mv_inc12 {x : Int32} (h : ¬ x < 0) (h2 : x < 12) : ¬ x + 1 < 0 := by
  rw [fa_lt] at h h2 ⊢
  have e0 : (0 : Int32).toInt = 0 := rfl
  have e1 : (1 : Int32).toInt = 1 := rfl
  have e12 : (12 : Int32).toInt = 12 := rfl
  rw [fb_addI (by omega) (by omega)]
  omega
theorem addI_15 {I : mv_I} {o : Nat} {v : Int32} (h : ¬ I o 15 < 0) : ¬ addI I o v o 15 < 0 := by
  unfold addI appI
  rw [mv_sr_ap, if_pos rfl, if_pos rfl, add3_15]
  split
  · rename_i h2
    exact mv_inc12 h h2
  · decide
theorem addN_15 {I : mv_I} {o : Nat} {v : Int32} (h : ¬ I o 15 < 0) : ∀ k, ¬ addN o v k I o 15 < 0
  | 0 => h
  | k + 1 => addI_15 (addN_15 h k)
def sp_addCounts : mv_SP := (fun as I _ => match as with
    | [.ref o, .int _, .int n] => ∃ c m : Nat, c < 91 ∧ o = 100 + 3 * c ∧ ¬ I o 15 < 0 ∧ m < 1000 ∧ n = nI m
    | _ => False,
  fun as I J r I' J' => match as with
    | [.ref o, .int v, .int n] => r = none ∧ I' = addN o v n.toNatClampNeg I ∧ J = J'
    | _ => True)
theorem cb_addCounts : mv_body 6 mv_t_X1_addCounts (mv_cs [(5, sp_addCount)]) sp_addCounts := by
  intro as I J h
  match as, h with
  | [.ref _, .int v, .int _], ⟨c, m, hc, rfl, hn, hm, rfl⟩ =>
    have key : ∀ (r k : Nat), k + r = m → mv_V mv_ow mv_swf mv_t_X1_addCounts (mv_cs [(5, sp_addCount)]) (sp_addCounts.2 [.ref (100 + 3 * c), .int v, .int (nI m)] I J) 2 [(0, .ref (100 + 3 * c)), (1, .int v), (2, .int (nI m)), (3, .int (nI k))] [] (addN (100 + 3 * c) v k I) J := by
      intro r
      induction r with
      | zero =>
        intro k hk
        have hk : k = m := hk
        subst hk
        refine mv_run_V (stop := [2]) 20 _ _ _ _ _ ?_
        refine ⟨fun h1 => ?_, fun h1 => ?_⟩
        · refine ⟨rfl, ?_, rfl⟩
          rw [nI_clamp (by omega)]
        · exact absurd h1 (nI_nlt (Nat.le_refl k) (by omega))
      | succ r ih =>
        intro k hk
        refine mv_run_V (stop := [2]) 20 _ _ _ _ _ ?_
        refine ⟨fun h1 => ?_, fun h1 => ?_⟩
        · exact absurd (nI_lt (by omega) (by omega)) h1
        · repeat' (first | (refine ⟨rfl, ?_⟩) | (refine ⟨mv_lay_ch hc, ?_⟩) | (refine ⟨⟨c, hc, rfl, addN_15 hn k⟩, fun r I' J' hp => ?_⟩; obtain ⟨rfl, rfl, rfl⟩ := hp) | (refine ⟨fun _ => ?_, fun _ => ?_⟩) | fail)
          have h2 := ih (k + 1) (by omega)
          rw [nI_succ] at h2
          exact h2
    refine ⟨rfl, mv_run_V (stop := [2]) 20 _ _ _ _ _ ?_⟩
    exact key m 0 (Nat.zero_add m)
theorem c_addCounts {l : Launch} {G : mv_G} {A : Nat → Prop} (hG : mv_adk G A) : mv_Con l G A 6 sp_addCounts := mv_con hG 6 mv_k_X1_addCounts (by decide +kernel) (mv_cs_cons (c_addCount hG) (mv_cs_nil)) cb_addCounts
/-- the first place after which a sum is at least h -/
def repF (I : mv_I) (o : Nat) (k h : Int32) : Nat → Nat → Int32 → Int32 → Int32
  | 0, _, _, _ => -9
  | r + 1, p, a, b =>
    if I (o + 2) p = -9 then repF I o k h r (p + 1) a b
    else if ¬ mv_mx 0 (a + I (o + 2) p - exF I o (I o 7 - I o 15 + nI p) - k) < h then nI p
    else if ¬ mv_mx 0 (b + exF I o (I o 7 - I o 15 + nI p) - I (o + 2) p - k) < h then nI p
    else repF I o k h r (p + 1) (mv_mx 0 (a + I (o + 2) p - exF I o (I o 7 - I o 15 + nI p) - k)) (mv_mx 0 (b + exF I o (I o 7 - I o 15 + nI p) - I (o + 2) p - k))
def sp_replay : mv_SP := (fun as I _ => match as with
    | [.ref o, .int _, .int _] => ∃ c m : Nat, c < 91 ∧ o = 100 + 3 * c ∧ m ≤ 12 ∧ I o 15 = nI m
    | _ => False,
  fun as I J r I' J' => match as with
    | [.ref o, .int k, .int h] => r = some (.int (repF I o k h (I o 15).toNatClampNeg 0 0 0)) ∧ I = I' ∧ J = J'
    | _ => True)
theorem cb_replay : mv_body 20 mv_t_X1_replay (mv_cs [(15, sp_expectationOn), (150, sp_max)]) sp_replay := by
  intro as I J h
  match as, h with
  | [.ref _, .int k, .int w], ⟨c, m, hc, rfl, hm, h15⟩ =>
    have e2 : 100 + 3 * c + 2 = 102 + 3 * c := by omega
    have key : ∀ (r p : Nat) (a b : Int32), p + r = m → repF I (100 + 3 * c) k w r p a b = repF I (100 + 3 * c) k w m 0 0 0 → mv_V mv_ow mv_swf mv_t_X1_replay (mv_cs [(15, sp_expectationOn), (150, sp_max)]) (sp_replay.2 [.ref (100 + 3 * c), .int k, .int w] I J) 8 [(0, .ref (100 + 3 * c)), (1, .int k), (2, .int w), (3, .int a), (4, .int b), (5, .int (nI p))] [] I J := by
      intro r
      induction r with
      | zero =>
        intro p a b hp hv
        have hp : p = m := hp
        subst hp
        refine mv_run_V (stop := [8]) 60 _ _ _ _ _ ?_
        refine ⟨mv_lay_ch hc, ?_⟩
        refine ⟨fun h1 => ?_, fun h1 => ?_⟩
        · refine ⟨?_, rfl, rfl⟩
          rw [h15, nI_clamp (by omega), ← hv]
          rfl
        · rw [h15] at h1
          exact absurd h1 (nI_nlt (Nat.le_refl p) (by omega))
      | succ r ih =>
        intro p a b hp hv
        rw [repF, e2] at hv
        refine mv_run_V (stop := [8]) 60 _ _ _ _ _ ?_
        refine ⟨mv_lay_ch hc, ?_⟩
        refine ⟨fun h1 => ?_, fun h1 => ?_⟩
        · rw [h15] at h1
          exact absurd (nI_lt (by omega) (by omega)) h1
        · have hcl : (nI p).toNatClampNeg = p := nI_clamp (by omega)
          refine ⟨mv_lay_ch hc, _, mv_rf_ct hc, ?_⟩
          refine ⟨_, mv_lay_ct hc, vp_in_nI (by omega) (by omega), ?_⟩
          refine ⟨fun h2 => ?_, fun h2 => ?_⟩
          · rw [hcl] at h2
            rw [if_pos h2] at hv
            have h3 := ih (p + 1) a b (by omega) hv
            rw [nI_succ] at h3
            exact mv_keep [0, 1, 2, 3, 4, 5] h3
          · rw [hcl] at h2
            rw [if_neg h2] at hv
            refine ⟨mv_lay_ch hc, mv_lay_ch hc, rfl, mv_lay_ch hc, ⟨c, hc, rfl⟩, fun r1 I1 J1 hp1 => ?_⟩
            obtain ⟨rfl, rfl, rfl⟩ := hp1
            refine ⟨rfl, trivial, fun r1 I1 J1 hp1 => ?_⟩
            obtain ⟨rfl, rfl, rfl⟩ := hp1
            refine ⟨rfl, trivial, fun r1 I1 J1 hp1 => ?_⟩
            obtain ⟨rfl, rfl, rfl⟩ := hp1
            refine ⟨fun h3 => ?_, fun h3 => ?_⟩
            · rw [hcl] at h3
              rw [if_pos h3] at hv
              refine ⟨?_, rfl, rfl⟩
              rw [h15, nI_clamp (by omega), ← hv]
            · rw [hcl] at h3
              rw [if_neg (fun z => z h3)] at hv
              refine ⟨fun h4 => ?_, fun h4 => ?_⟩
              · rw [hcl] at h4
                rw [if_neg (fun z => z h4)] at hv
                have h5 := ih (p + 1) _ _ (by omega) hv
                rw [nI_succ] at h5
                rw [hcl]
                exact mv_keep [0, 1, 2, 3, 4, 5] h5
              · rw [hcl] at h4
                rw [if_pos h4] at hv
                refine ⟨?_, rfl, rfl⟩
                rw [h15, nI_clamp (by omega), ← hv]
    refine ⟨rfl, mv_run_V (stop := [8]) 60 _ _ _ _ _ ?_⟩
    exact key m 0 0 0 (Nat.zero_add m) rfl
theorem c_replay {l : Launch} {G : mv_G} {A : Nat → Prop} (hG : mv_adk G A) : mv_Con l G A 20 sp_replay := mv_con hG 20 mv_k_X1_replay (by decide +kernel) (mv_cs_cons (c_expectationOn hG) (mv_cs_max (mv_cs_nil))) cb_replay
end
section
/-! Groups of series: the methods of Charts and Acts. -/
theorem mv_lay_gr {g : Nat} (h : g < 18) : mv_lay (400 + 2 * g) = (1, 2, 0) := by
  have : ∀ g, g < 18 → mv_lay (400 + 2 * g) = (1, 2, 0) := by decide +kernel
  exact this g h
theorem mv_lay_ga {g : Nat} (h : g < 18) : mv_lay (401 + 2 * g) = (5, 5, 1) := by
  have : ∀ g, g < 18 → mv_lay (401 + 2 * g) = (5, 5, 1) := by decide +kernel
  exact this g h
theorem mv_rf_gr {g : Nat} (h : g < 18) : mv_rf (400 + 2 * g) 0 = some (401 + 2 * g) := by
  have : ∀ g, g < 18 → mv_rf (400 + 2 * g) 0 = some (401 + 2 * g) := by decide +kernel
  exact this g h
theorem mv_rf_ga {g i : Nat} (h : g < 18) (hi : i < 5) : mv_rf (401 + 2 * g) i = some (100 + 3 * (5 * g + i)) := by
  have : ∀ g, g < 18 → ∀ i, i < 5 → mv_rf (401 + 2 * g) i = some (100 + 3 * (5 * g + i)) := by decide +kernel
  exact this g h i hi
theorem mv_ginj {g g' : Nat} (h : 400 + 2 * g = 400 + 2 * g') : g' = g := by omega
theorem mv_upto {x : Int32} {m : Nat} (hm : m < 2 ^ 31) (h0 : 0 ≤ x) (h1 : x ≤ nI m - 1) : ∃ j : Nat, j < m ∧ x = nI j := by
  rw [fa_le] at h0 h1
  have e0 : (0 : Int32).toInt = 0 := rfl
  have e1 : (1 : Int32).toInt = 1 := rfl
  have hmi := nI_toInt hm
  rw [fb_subI (by omega) (by omega)] at h1
  refine ⟨x.toInt.toNat, by omega, ?_⟩
  rw [fa_eq, nI_toInt (by omega)]
  omega
theorem mv_upto2 {j m : Nat} (hm : m < 2 ^ 31) (h : j < m) : 0 ≤ nI j ∧ nI j ≤ nI m - 1 := by
  have e0 : (0 : Int32).toInt = 0 := rfl
  have e1 : (1 : Int32).toInt = 1 := rfl
  have hmi := nI_toInt hm
  have hji := nI_toInt (n := j) (by omega)
  rw [fa_le, fa_le, fb_subI (by omega) (by omega)]
  omega
def sp_at : mv_SP := (fun as I _ => match as with
    | [.ref o, .int _] => ∃ g m : Nat, g < 18 ∧ o = 400 + 2 * g ∧ m ≤ 5 ∧ I o 1 = nI m
    | _ => False,
  fun as I J r I' J' => match as with
    | [.ref o, .int x] => I = I' ∧ J = J' ∧ ∀ g : Nat, o = 400 + 2 * g → if 0 ≤ x ∧ x ≤ I o 1 - 1 then r = some (.ref (100 + 3 * (5 * g + x.toNatClampNeg))) else r = some .null
    | _ => True)
theorem cb_at : mv_body 25 mv_t_X2_at (mv_cs [(84, sp_within)]) sp_at := by
  intro as I J h
  match as, h with
  | [.ref _, .int x], ⟨g, m, hg, rfl, hm, hs⟩ =>
    refine ⟨rfl, mv_run_V (stop := []) 60 _ _ _ _ _ ?_⟩
    refine ⟨mv_lay_gr hg, rfl, trivial, fun r I' J' hp => ?_⟩
    obtain ⟨rfl, rfl, rfl⟩ := hp
    refine ⟨fun h1 => ?_, fun h1 => ?_⟩
    · have h1 := mv_b0.mp h1
      refine ⟨rfl, rfl, fun g' _ => ?_⟩
      rw [if_neg h1]
    · have h1 : 0 ≤ x ∧ x ≤ I (400 + 2 * g) 1 - 1 := Decidable.not_not.mp (fun z => h1 (mv_b0.mpr z))
      have h2 := h1
      rw [hs] at h2
      obtain ⟨j, hj, rfl⟩ := mv_upto (by omega) h2.1 h2.2
      have hcl : (nI j).toNatClampNeg = j := nI_clamp (by omega)
      refine ⟨mv_lay_gr hg, _, mv_rf_gr hg, _, mv_lay_ga hg, vp_in_nI (by omega) (by omega), _, (by rw [hcl]; exact mv_rf_ga hg (by omega)), ?_⟩
      refine ⟨rfl, rfl, fun g' hg' => ?_⟩
      have : g' = g := mv_ginj hg'
      subst this
      rw [if_pos h1, hcl]
theorem c_at {l : Launch} {G : mv_G} {A : Nat → Prop} (hG : mv_adk G A) : mv_Con l G A 25 sp_at := mv_con hG 25 mv_k_X2_at (by decide +kernel) (mv_cs_cons (c_within hG) (mv_cs_nil)) cb_at
/-- the sums over the first k series of a group -/
def sumA (I : mv_I) (g : Nat) : Nat → Int32
  | 0 => 0
  | k + 1 => sumA I g k + I (100 + 3 * (5 * g + k)) 10
def sumU (I : mv_I) (g : Nat) (set : Int32) : Nat → Int32
  | 0 => 0
  | k + 1 => sumU I g set k + (if (set >>> (nI k &&& 31)) &&& 1 = 1 then I (100 + 3 * (5 * g + k)) 8 else 0)
def sp_alarmSum : mv_SP := (fun as I _ => match as with
    | [.ref o] => ∃ g m : Nat, g < 18 ∧ o = 400 + 2 * g ∧ m ≤ 5 ∧ I o 1 = nI m
    | _ => False,
  fun as I J r I' J' => match as with
    | [.ref o] => I = I' ∧ J = J' ∧ ∀ g : Nat, o = 400 + 2 * g → r = some (.int (sumA I g (I o 1).toNatClampNeg))
    | _ => True)
theorem cb_alarmSum : mv_body 24 mv_t_X2_alarmSum (mv_cs []) sp_alarmSum := by
  intro as I J h
  match as, h with
  | [.ref _], ⟨g, m, hg, rfl, hm, hs⟩ =>
    have key : ∀ r k : Nat, k + r = m → mv_V mv_ow mv_swf mv_t_X2_alarmSum (mv_cs []) (sp_alarmSum.2 [.ref (400 + 2 * g)] I J) 4 [(0, .ref (400 + 2 * g)), (1, .int (sumA I g k)), (2, .int (nI k))] [] I J := by
      intro r
      induction r with
      | zero =>
        intro k hk
        have hk : k = m := hk
        subst hk
        refine mv_run_V (stop := [4]) 20 _ _ _ _ _ ?_
        refine ⟨mv_lay_gr hg, fun h1 => ?_, fun h1 => ?_⟩
        · refine ⟨rfl, rfl, fun g' hg' => ?_⟩
          have : g' = g := mv_ginj hg'
          subst this
          rw [hs, nI_clamp (by omega)]
        · rw [hs] at h1
          exact absurd h1 (nI_nlt (Nat.le_refl k) (by omega))
      | succ r ih =>
        intro k hk
        have hcl : (nI k).toNatClampNeg = k := nI_clamp (by omega)
        refine mv_run_V (stop := [4]) 20 _ _ _ _ _ ?_
        refine ⟨mv_lay_gr hg, fun h1 => ?_, fun h1 => ?_⟩
        · rw [hs] at h1
          exact absurd (nI_lt (by omega) (by omega)) h1
        · refine ⟨mv_lay_gr hg, _, mv_rf_gr hg, _, mv_lay_ga hg, vp_in_nI (by omega) (by omega), _, (by rw [hcl]; exact mv_rf_ga hg (by omega)), mv_lay_ch (by omega), ?_⟩
          have h2 := ih (k + 1) (by omega)
          rw [nI_succ] at h2
          exact h2
    refine ⟨rfl, mv_run_V (stop := [4]) 20 _ _ _ _ _ ?_⟩
    exact key m 0 (Nat.zero_add m)
theorem c_alarmSum {l : Launch} {G : mv_G} {A : Nat → Prop} (hG : mv_adk G A) : mv_Con l G A 24 sp_alarmSum := mv_con hG 24 mv_k_X2_alarmSum (by decide +kernel) (mv_cs_nil) cb_alarmSum
def sp_sumOfUps : mv_SP := (fun as I _ => match as with
    | [.ref o, .int _] => ∃ g m : Nat, g < 18 ∧ o = 400 + 2 * g ∧ m ≤ 5 ∧ I o 1 = nI m
    | _ => False,
  fun as I J r I' J' => match as with
    | [.ref o, .int set] => I = I' ∧ J = J' ∧ ∀ g : Nat, o = 400 + 2 * g → r = some (.int (sumU I g set (I o 1).toNatClampNeg))
    | _ => True)
theorem cb_sumOfUps : mv_body 30 mv_t_X2_sumOfUps (mv_cs []) sp_sumOfUps := by
  intro as I J h
  match as, h with
  | [.ref _, .int set], ⟨g, m, hg, rfl, hm, hs⟩ =>
    have key : ∀ r k : Nat, k + r = m → mv_V mv_ow mv_swf mv_t_X2_sumOfUps (mv_cs []) (sp_sumOfUps.2 [.ref (400 + 2 * g), .int set] I J) 4 [(0, .ref (400 + 2 * g)), (1, .int set), (2, .int (sumU I g set k)), (3, .int (nI k))] [] I J := by
      intro r
      induction r with
      | zero =>
        intro k hk
        have hk : k = m := hk
        subst hk
        refine mv_run_V (stop := [4]) 20 _ _ _ _ _ ?_
        refine ⟨mv_lay_gr hg, fun h1 => ?_, fun h1 => ?_⟩
        · refine ⟨rfl, rfl, fun g' hg' => ?_⟩
          have : g' = g := mv_ginj hg'
          subst this
          rw [hs, nI_clamp (by omega)]
        · rw [hs] at h1
          exact absurd h1 (nI_nlt (Nat.le_refl k) (by omega))
      | succ r ih =>
        intro k hk
        have hcl : (nI k).toNatClampNeg = k := nI_clamp (by omega)
        refine mv_run_V (stop := [4]) 40 _ _ _ _ _ ?_
        refine ⟨mv_lay_gr hg, fun h1 => ?_, fun h1 => ?_⟩
        · rw [hs] at h1
          exact absurd (nI_lt (by omega) (by omega)) h1
        · have h2 := ih (k + 1) (by omega)
          rw [nI_succ, sumU] at h2
          refine ⟨fun h3 => ?_, fun h3 => ?_⟩
          · rw [if_neg h3] at h2
            exact h2
          · rw [if_pos h3] at h2
            refine ⟨mv_lay_gr hg, _, mv_rf_gr hg, _, mv_lay_ga hg, vp_in_nI (by omega) (by omega), _, (by rw [hcl]; exact mv_rf_ga hg (by omega)), mv_lay_ch (by omega), ?_⟩
            exact h2
    refine ⟨rfl, mv_run_V (stop := [4]) 20 _ _ _ _ _ ?_⟩
    exact key m 0 (Nat.zero_add m)
theorem c_sumOfUps {l : Launch} {G : mv_G} {A : Nat → Prop} (hG : mv_adk G A) : mv_Con l G A 30 sp_sumOfUps := mv_con hG 30 mv_k_X2_sumOfUps (by decide +kernel) (mv_cs_nil) cb_sumOfUps
/-- the series i stands before the series j -/
def precP (I : mv_I) (g i j : Nat) : Prop :=
  mv_mx (I (100 + 3 * (5 * g + j)) 8) (I (100 + 3 * (5 * g + j)) 9) * I (100 + 3 * (5 * g + i)) 2 < mv_mx (I (100 + 3 * (5 * g + i)) 8) (I (100 + 3 * (5 * g + i)) 9) * I (100 + 3 * (5 * g + j)) 2 ∨
  (mv_mx (I (100 + 3 * (5 * g + i)) 8) (I (100 + 3 * (5 * g + i)) 9) * I (100 + 3 * (5 * g + j)) 2 = mv_mx (I (100 + 3 * (5 * g + j)) 8) (I (100 + 3 * (5 * g + j)) 9) * I (100 + 3 * (5 * g + i)) 2 ∧ nI i < nI j)
def sp_precedes : mv_SP := (fun as I _ => match as with
    | [.ref o, .int x, .int y] => ∃ g m i j : Nat, g < 18 ∧ o = 400 + 2 * g ∧ m ≤ 5 ∧ I o 1 = nI m ∧ i < m ∧ j < m ∧ x = nI i ∧ y = nI j
    | _ => False,
  fun as I J r I' J' => match as with
    | [.ref o, .int x, .int y] => I = I' ∧ J = J' ∧ ∀ g : Nat, o = 400 + 2 * g → ∃ z : Int32, r = some (.int z) ∧ (z = 0 ∧ ¬ precP I g x.toNatClampNeg y.toNatClampNeg ∨ z = 1 ∧ precP I g x.toNatClampNeg y.toNatClampNeg)
    | _ => True)
theorem cb_precedes : mv_body 28 mv_t_X2_precedes (mv_cs [(25, sp_at), (150, sp_max)]) sp_precedes := by
  intro as I J h
  match as, h with
  | [.ref _, .int _, .int _], ⟨g, m, i, j, hg, rfl, hm, hs, hi, hj, rfl, rfl⟩ =>
    have ci : (nI i).toNatClampNeg = i := nI_clamp (by omega)
    have cj : (nI j).toNatClampNeg = j := nI_clamp (by omega)
    refine ⟨rfl, mv_run_V (stop := []) 90 _ _ _ _ _ ?_⟩
    refine ⟨rfl, mv_lay_gr hg, ⟨g, m, hg, rfl, hm, hs⟩, fun r1 I1 J1 hp => ?_⟩
    obtain ⟨rfl, rfl, hr⟩ := hp
    have hr := hr g rfl
    rw [hs, if_pos (mv_upto2 (by omega) hi), ci] at hr
    subst hr
    refine ⟨rfl, mv_lay_gr hg, ⟨g, m, hg, rfl, hm, hs⟩, fun r1 I1 J1 hp => ?_⟩
    obtain ⟨rfl, rfl, hr⟩ := hp
    have hr := hr g rfl
    rw [hs, if_pos (mv_upto2 (by omega) hj), cj] at hr
    subst hr
    refine ⟨mv_lay_ch (by omega), mv_lay_ch (by omega), rfl, trivial, fun r1 I1 J1 hp => ?_⟩
    obtain ⟨rfl, rfl, rfl⟩ := hp
    refine ⟨mv_lay_ch (by omega), mv_lay_ch (by omega), mv_lay_ch (by omega), rfl, trivial, fun r1 I1 J1 hp => ?_⟩
    obtain ⟨rfl, rfl, rfl⟩ := hp
    refine ⟨mv_lay_ch (by omega), fun h1 => ?_, fun h1 => ?_⟩
    · refine ⟨Or.inr rfl, rfl, rfl, fun g' hg' => ⟨1, rfl, Or.inr ⟨rfl, ?_⟩⟩⟩
      have : g' = g := mv_ginj hg'
      subst this
      rw [ci, cj]
      exact Or.inl h1
    · refine ⟨fun h2 => ?_, fun h2 => ?_⟩
      · refine ⟨Or.inl rfl, rfl, rfl, fun g' hg' => ⟨0, rfl, Or.inl ⟨rfl, ?_⟩⟩⟩
        have : g' = g := mv_ginj hg'
        subst this
        rw [ci, cj]
        exact fun z => z.elim h1 (fun z => h2 z.1)
      · refine ⟨fun h3 => ?_, fun h3 => ?_⟩
        · refine ⟨Or.inl rfl, rfl, rfl, fun g' hg' => ⟨0, rfl, Or.inl ⟨rfl, ?_⟩⟩⟩
          have : g' = g := mv_ginj hg'
          subst this
          rw [ci, cj]
          exact fun z => z.elim h1 (fun z => h3 z.2)
        · refine ⟨Or.inr rfl, rfl, rfl, fun g' hg' => ⟨1, rfl, Or.inr ⟨rfl, ?_⟩⟩⟩
          have : g' = g := mv_ginj hg'
          subst this
          rw [ci, cj]
          exact Or.inr ⟨h2, h3⟩
theorem c_precedes {l : Launch} {G : mv_G} {A : Nat → Prop} (hG : mv_adk G A) : mv_Con l G A 28 sp_precedes := mv_con hG 28 mv_k_X2_precedes (by decide +kernel) (mv_cs_cons (c_at hG) (mv_cs_max (mv_cs_nil))) cb_precedes
/-- how many of the first k series stand before the series j -/
noncomputable def rnkF (I : mv_I) (g j : Nat) : Nat → Int32
  | 0 => 0
  | k + 1 => rnkF I g j k + (@ite _ (precP I g k j) (Classical.propDecidable _) 1 0)
def sp_rankOf : mv_SP := (fun as I _ => match as with
    | [.ref o, .int x] => ∃ g m j : Nat, g < 18 ∧ o = 400 + 2 * g ∧ m ≤ 5 ∧ I o 1 = nI m ∧ j < m ∧ x = nI j
    | _ => False,
  fun as I J r I' J' => match as with
    | [.ref o, .int x] => I = I' ∧ J = J' ∧ ∀ g : Nat, o = 400 + 2 * g → r = some (.int (rnkF I g x.toNatClampNeg (I o 1).toNatClampNeg))
    | _ => True)
theorem cb_rankOf : mv_body 29 mv_t_X2_rankOf (mv_cs [(28, sp_precedes)]) sp_rankOf := by
  intro as I J h
  match as, h with
  | [.ref _, .int _], ⟨g, m, j, hg, rfl, hm, hs, hj, rfl⟩ =>
    have cj : (nI j).toNatClampNeg = j := nI_clamp (by omega)
    have key : ∀ r k : Nat, k + r = m → mv_V mv_ow mv_swf mv_t_X2_rankOf (mv_cs [(28, sp_precedes)]) (sp_rankOf.2 [.ref (400 + 2 * g), .int (nI j)] I J) 4 [(0, .ref (400 + 2 * g)), (1, .int (nI j)), (2, .int (rnkF I g j k)), (3, .int (nI k))] [] I J := by
      intro r
      induction r with
      | zero =>
        intro k hk
        have hk : k = m := hk
        subst hk
        refine mv_run_V (stop := [4]) 20 _ _ _ _ _ ?_
        refine ⟨mv_lay_gr hg, fun h1 => ?_, fun h1 => ?_⟩
        · refine ⟨rfl, rfl, fun g' hg' => ?_⟩
          have : g' = g := mv_ginj hg'
          subst this
          rw [hs, cj, nI_clamp (by omega)]
        · rw [hs] at h1
          exact absurd h1 (nI_nlt (Nat.le_refl k) (by omega))
      | succ r ih =>
        intro k hk
        have hcl : (nI k).toNatClampNeg = k := nI_clamp (by omega)
        refine mv_run_V (stop := [4]) 40 _ _ _ _ _ ?_
        refine ⟨mv_lay_gr hg, fun h1 => ?_, fun h1 => ?_⟩
        · rw [hs] at h1
          exact absurd (nI_lt (by omega) (by omega)) h1
        · have h2 := ih (k + 1) (by omega)
          rw [nI_succ, rnkF] at h2
          refine ⟨rfl, mv_lay_gr hg, ⟨g, m, k, j, hg, rfl, hm, hs, by omega, hj, rfl, rfl⟩, fun r1 I1 J1 hp => ?_⟩
          obtain ⟨rfl, rfl, hr⟩ := hp
          obtain ⟨z, rfl, hz⟩ := hr g rfl
          rw [hcl, cj] at hz
          refine ⟨fun h3 => ?_, fun h3 => ?_⟩
          · rcases hz with ⟨-, hz⟩ | ⟨rfl, -⟩
            · rw [if_neg hz] at h2
              exact h2
            · exact absurd h3 (by decide)
          · rcases hz with ⟨rfl, -⟩ | ⟨-, hz⟩
            · exact absurd rfl h3
            · rw [if_pos hz] at h2
              exact h2
    refine ⟨rfl, mv_run_V (stop := [4]) 20 _ _ _ _ _ ?_⟩
    exact key m 0 (Nat.zero_add m)
theorem c_rankOf {l : Launch} {G : mv_G} {A : Nat → Prop} (hG : mv_adk G A) : mv_Con l G A 29 sp_rankOf := mv_con hG 29 mv_k_X2_rankOf (by decide +kernel) (mv_cs_cons (c_precedes hG) (mv_cs_nil)) cb_rankOf
theorem copyI_ne {I : mv_I} {o q a : Nat} (h0 : a ≠ o) (h1 : a ≠ o + 1) (h2 : a ≠ o + 2) : copyI I o q a = I a := by
  unfold copyI
  rw [mv_sr_ne h0, mv_sr_ne h2, mv_sr_ne h1]
/-- the first k series of the group h copied into the group g -/
def grpN (g h : Nat) (I : mv_I) : Nat → mv_I
  | 0 => mv_si (mv_si I (400 + 2 * g) 1 (I (400 + 2 * h) 1)) (400 + 2 * g) 2 ((mv_si I (400 + 2 * g) 1 (I (400 + 2 * h) 1)) (400 + 2 * h) 2)
  | k + 1 => copyI (grpN g h I k) (100 + 3 * (5 * g + k)) (100 + 3 * (5 * h + k))
theorem grpN_gr {g h : Nat} (hgh : g ≠ h) (hg : g < 18) (I : mv_I) : ∀ k, k ≤ 5 → grpN g h I k (400 + 2 * h) = I (400 + 2 * h)
  | 0, _ => by
    unfold grpN
    rw [mv_si_ne (by omega), mv_si_ne (by omega)]
  | k + 1, hk => by
    unfold grpN
    rw [copyI_ne (by omega) (by omega) (by omega)]
    exact grpN_gr hgh hg I k (by omega)
def sp_groupCopy : mv_SP := (fun as I _ => match as with
    | [.ref o, .ref q] => ∃ g h m : Nat, g < 18 ∧ h < 18 ∧ g ≠ h ∧ o = 400 + 2 * g ∧ q = 400 + 2 * h ∧ m ≤ 5 ∧ I q 1 = nI m
    | _ => False,
  fun as I J r I' J' => match as with
    | [.ref o, .ref q] => r = none ∧ J = J' ∧ ∀ g h : Nat, o = 400 + 2 * g → q = 400 + 2 * h → I' = grpN g h I (I q 1).toNatClampNeg
    | _ => True)
theorem cb_groupCopy : mv_body 26 mv_t_X2_copyFrom (mv_cs [(12, sp_chartCopy)]) sp_groupCopy := by
  intro as I J h
  match as, h with
  | [.ref _, .ref _], ⟨g, h, m, hg, hh, hgh, rfl, rfl, hm, hs⟩ =>
    have key : ∀ r k : Nat, k + r = m → mv_V mv_ow mv_swf mv_t_X2_copyFrom (mv_cs [(12, sp_chartCopy)]) (sp_groupCopy.2 [.ref (400 + 2 * g), .ref (400 + 2 * h)] I J) 18 [(0, .ref (400 + 2 * g)), (1, .ref (400 + 2 * h)), (2, .int (nI k))] [] (grpN g h I k) J := by
      intro r
      induction r with
      | zero =>
        intro k hk
        have hk : k = m := hk
        subst hk
        refine mv_run_V (stop := [18]) 20 _ _ _ _ _ ?_
        refine ⟨mv_lay_gr hh, fun h1 => ?_, fun h1 => ?_⟩
        · refine ⟨rfl, rfl, fun g' h' hg' hh' => ?_⟩
          have : g' = g := mv_ginj hg'
          subst this
          have : h' = h := mv_ginj hh'
          subst this
          rw [hs, nI_clamp (by omega)]
        · rw [grpN_gr hgh hg I k (by omega), hs] at h1
          exact absurd h1 (nI_nlt (Nat.le_refl k) (by omega))
      | succ r ih =>
        intro k hk
        have hcl : (nI k).toNatClampNeg = k := nI_clamp (by omega)
        refine mv_run_V (stop := [18]) 40 _ _ _ _ _ ?_
        refine ⟨mv_lay_gr hh, fun h1 => ?_, fun h1 => ?_⟩
        · rw [grpN_gr hgh hg I k (by omega), hs] at h1
          exact absurd (nI_lt (by omega) (by omega)) h1
        · refine ⟨mv_lay_gr hg, _, mv_rf_gr hg, _, mv_lay_ga hg, vp_in_nI (by omega) (by omega), _, (by rw [hcl]; exact mv_rf_ga hg (by omega)), mv_lay_gr hh, _, mv_rf_gr hh, _, mv_lay_ga hh, vp_in_nI (by omega) (by omega), _, (by rw [hcl]; exact mv_rf_ga hh (by omega)), rfl, mv_lay_ch (by omega), ⟨5 * g + k, 5 * h + k, by omega, by omega, by omega, rfl, rfl⟩, fun r1 I1 J1 hp => ?_⟩
          obtain ⟨rfl, rfl, rfl⟩ := hp
          have h2 := ih (k + 1) (by omega)
          rw [nI_succ] at h2
          exact h2
    refine ⟨rfl, mv_run_V (stop := [18]) 40 _ _ _ _ _ ?_⟩
    refine ⟨mv_lay_gr hh, mv_lay_gr hg, mv_lay_gr hh, mv_lay_gr hg, ?_⟩
    exact key m 0 (Nat.zero_add m)
theorem c_groupCopy {l : Launch} {G : mv_G} {A : Nat → Prop} (hG : mv_adk G A) : mv_Con l G A 26 sp_groupCopy := mv_con hG 26 mv_k_X2_copyFrom (by decide +kernel) (mv_cs_cons (c_chartCopy hG) (mv_cs_nil)) cb_groupCopy
end
section
/-! Acts; the shape of the class's cells. -/
theorem grpN_ne {g h : Nat} (I : mv_I) {a : Nat} (h0 : a ≠ 400 + 2 * g) (h1 : a < 100 + 15 * g ∨ 115 + 15 * g ≤ a) : ∀ k, k ≤ 5 → grpN g h I k a = I a
  | 0, _ => by
    unfold grpN
    rw [mv_si_ne h0, mv_si_ne h0]
  | k + 1, hk => by
    unfold grpN
    rw [copyI_ne (by omega) (by omega) (by omega)]
    exact grpN_ne I h0 h1 k (by omega)
def remI (I : mv_I) : mv_I :=
  mv_si (mv_si (grpN (1 + (I 3 1).toNatClampNeg) 0 I (I 400 1).toNatClampNeg) 3 1 (grpN (1 + (I 3 1).toNatClampNeg) 0 I (I 400 1).toNatClampNeg 3 1 + 1 - (grpN (1 + (I 3 1).toNatClampNeg) 0 I (I 400 1).toNatClampNeg 3 1 + 1) / 14 * 14)) 3 2
    (mv_mn 14 (mv_si (grpN (1 + (I 3 1).toNatClampNeg) 0 I (I 400 1).toNatClampNeg) 3 1 (grpN (1 + (I 3 1).toNatClampNeg) 0 I (I 400 1).toNatClampNeg 3 1 + 1 - (grpN (1 + (I 3 1).toNatClampNeg) 0 I (I 400 1).toNatClampNeg 3 1 + 1) / 14 * 14) 3 2 + 1))
theorem mv_rf_ac {x : Nat} (h : x < 14) : mv_rf 4 x = some (400 + 2 * (1 + x)) := by
  have : ∀ x, x < 14 → mv_rf 4 x = some (400 + 2 * (1 + x)) := by decide +kernel
  exact this x h
def sp_remember : mv_SP := (fun as I _ => match as with
    | [.ref o, .ref q] => o = 3 ∧ q = 400 ∧ ∃ x m : Nat, I 3 1 = nI x ∧ x < 14 ∧ m ≤ 5 ∧ I 400 1 = nI m
    | _ => False,
  fun as I J r I' J' => match as with
    | [.ref _, .ref _] => r = none ∧ I' = remI I ∧ J = J'
    | _ => True)
theorem cb_remember : mv_body 2 mv_t_X0_remember (mv_cs [(26, sp_groupCopy), (151, sp_min)]) sp_remember := by
  intro as I J h
  match as, h with
  | [.ref _, .ref _], ⟨rfl, rfl, x, m, hx, hx14, hm, hs⟩ =>
    have hcx : (I 3 1).toNatClampNeg = x := by rw [hx]; exact nI_clamp (by omega)
    have hcm : (I 400 1).toNatClampNeg = m := by rw [hs]; exact nI_clamp (by omega)
    refine ⟨rfl, mv_run_V (stop := []) 60 _ _ _ _ _ ?_⟩
    refine ⟨rfl, _, rfl, rfl, _, rfl, (by rw [hx]; exact vp_in_nI hx14 (by omega)), _, (by rw [hcx]; exact mv_rf_ac hx14), rfl, mv_lay_gr (by omega), ⟨1 + x, 0, m, by omega, by omega, by omega, rfl, rfl, hm, hs⟩, fun r I1 J1 hp => ?_⟩
    obtain ⟨rfl, rfl, hI⟩ := hp
    have hI := hI (1 + x) 0 rfl rfl
    rw [hcm] at hI
    subst hI
    refine ⟨rfl, mv_nz14, rfl, rfl, rfl, trivial, fun r I1 J1 hp => ?_⟩
    obtain ⟨rfl, rfl, rfl⟩ := hp
    refine ⟨rfl, rfl, ?_, rfl⟩
    unfold remI
    rw [hcx, hcm]
theorem c_remember {l : Launch} {G : mv_G} {A : Nat → Prop} (hG : mv_adk G A) : mv_Con l G A 2 sp_remember := mv_con hG 2 mv_k_X0_remember (by decide +kernel) (mv_cs_cons (c_groupCopy hG) (mv_cs_min (mv_cs_nil))) cb_remember
/-- the place before, of the next act -/
def bckX (I : mv_I) : Int32 := I 3 1 + 14 - 1 - (I 3 1 + 14 - 1) / 14 * 14
def tkbI (I : mv_I) : mv_I :=
  mv_si (grpN 0 (1 + (bckX I).toNatClampNeg) (mv_si I 3 1 (bckX I)) (I (400 + 2 * (1 + (bckX I).toNatClampNeg)) 1).toNatClampNeg) 3 2 (grpN 0 (1 + (bckX I).toNatClampNeg) (mv_si I 3 1 (bckX I)) (I (400 + 2 * (1 + (bckX I).toNatClampNeg)) 1).toNatClampNeg 3 2 - 1)
theorem bck_ok : ∀ x, x < 14 → nI x + 14 - 1 - (nI x + 14 - 1) / 14 * 14 = nI ((x + 13) % 14) := by decide +kernel
theorem fwd_ok : ∀ x, x < 14 → nI x + 1 - (nI x + 1) / 14 * 14 = nI ((x + 1) % 14) := by decide +kernel
def sp_takeBack : mv_SP := (fun as I _ => match as with
    | [.ref o, .ref q] => o = 3 ∧ q = 400 ∧ ∃ x m : Nat, I 3 1 = nI x ∧ x < 14 ∧ m ≤ 5 ∧ I (400 + 2 * (1 + (x + 13) % 14)) 1 = nI m
    | _ => False,
  fun as I J r I' J' => match as with
    | [.ref _, .ref _] => r = none ∧ I' = tkbI I ∧ J = J'
    | _ => True)
theorem cb_takeBack : mv_body 3 mv_t_X0_takeBack (mv_cs [(26, sp_groupCopy)]) sp_takeBack := by
  intro as I J h
  match as, h with
  | [.ref _, .ref _], ⟨rfl, rfl, x, m, hx, hx14, hm, hs⟩ =>
    have hbk : bckX I = nI ((x + 13) % 14) := by unfold bckX; rw [hx]; exact bck_ok x hx14
    have hy : (x + 13) % 14 < 14 := Nat.mod_lt _ (by decide)
    have hcb : (bckX I).toNatClampNeg = (x + 13) % 14 := by rw [hbk]; exact nI_clamp (by omega)
    have hcm : (I (400 + 2 * (1 + (x + 13) % 14)) 1).toNatClampNeg = m := by rw [hs]; exact nI_clamp (by omega)
    have hn3 : 400 + 2 * (1 + (x + 13) % 14) ≠ 3 := by omega
    refine ⟨rfl, mv_run_V (stop := []) 60 _ _ _ _ _ ?_⟩
    refine ⟨rfl, mv_nz14, rfl, ?_⟩
    have hw : mv_si I 3 1 (I 3 1 + 14 - 1 - (I 3 1 + 14 - 1) / 14 * 14) 3 1 = nI ((x + 13) % 14) := hbk
    refine ⟨rfl, _, rfl, rfl, _, rfl, (by rw [hw]; exact vp_in_nI hy (by omega)), _, (by rw [hw, nI_clamp (by omega)]; exact mv_rf_ac hy), rfl, rfl, ⟨0, 1 + (x + 13) % 14, m, by omega, by omega, by omega, rfl, rfl, hm, (by rw [mv_si_ne hn3]; exact hs)⟩, fun r I1 J1 hp => ?_⟩
    obtain ⟨rfl, rfl, hI⟩ := hp
    have hI := hI 0 (1 + (x + 13) % 14) rfl rfl
    rw [mv_si_ne hn3, hcm] at hI
    subst hI
    refine ⟨rfl, rfl, rfl, rfl, ?_, rfl⟩
    unfold tkbI
    rw [hcb, hcm]
    rfl
theorem c_takeBack {l : Launch} {G : mv_G} {A : Nat → Prop} (hG : mv_adk G A) : mv_Con l G A 3 sp_takeBack := mv_con hG 3 mv_k_X0_takeBack (by decide +kernel) (mv_cs_cons (c_groupCopy hG) (mv_cs_nil)) cb_takeBack
def sp_forget : mv_SP := (fun as _ _ => match as with
    | [.ref o] => o = 3
    | _ => False,
  fun as I J r I' J' => match as with
    | [.ref _] => r = none ∧ I' = mv_si I 3 2 0 ∧ J = J'
    | _ => True)
theorem cb_forget : mv_body 0 mv_t_X0_forget (mv_cs []) sp_forget := by
  intro as I J h
  match as, h with
  | [.ref _], h0 =>
    have h0 : _ = 3 := h0
    subst h0
    refine ⟨rfl, mv_run_V (stop := []) 60 _ _ _ _ _ ?_⟩
    exact ⟨rfl, rfl, rfl, rfl⟩
theorem c_forget {l : Launch} {G : mv_G} {A : Nat → Prop} (hG : mv_adk G A) : mv_Con l G A 0 sp_forget := mv_con hG 0 mv_k_X0_forget (by decide +kernel) (mv_cs_nil) cb_forget
/-- what the class's methods need of their cells: sizes and places in range -/
def SH (I : mv_I) : Prop := (∀ g : Nat, g < 18 → ∃ m : Nat, m ≤ 5 ∧ I (400 + 2 * g) 1 = nI m) ∧ (∀ c : Nat, c < 91 → ∃ k : Nat, k ≤ 12 ∧ I (100 + 3 * c) 15 = nI k) ∧ (∃ x : Nat, x < 14 ∧ I 3 1 = nI x) ∧ (∃ d : Nat, d ≤ 14 ∧ I 3 2 = nI d) ∧ (∃ t : Nat, t ≤ 80 ∧ I 1 1 = nI t) ∧ (∃ q : Nat, q ≤ 6 ∧ I 0 6 = nI q) ∧ ∀ i : Nat, i < 6 → ∃ n : Nat, n < 1000 ∧ I (8 + i) 1 = nI n
theorem SH_now {I : mv_I} (h : SH I) : ∃ m : Nat, m ≤ 5 ∧ I 400 1 = nI m := h.1 0 (by decide)
theorem SH_nn {I : mv_I} (h : SH I) {c : Nat} (hc : c < 91) : ¬ I (100 + 3 * c) 15 < 0 := by
  obtain ⟨k, hk, e⟩ := h.2.1 c hc
  rw [e]
  exact nI_pos (by omega)
theorem remI_ne {I : mv_I} (h : SH I) {a : Nat} (h3 : a ≠ 3) (ha : a < 115 ∨ a = 400) : remI I a = I a := by
  obtain ⟨m, hm, hs⟩ := SH_now h
  have hcm : (I 400 1).toNatClampNeg = m := by rw [hs]; exact nI_clamp (by omega)
  obtain ⟨x, hx14, hx⟩ := h.2.2.1
  have hcx : (I 3 1).toNatClampNeg = x := by rw [hx]; exact nI_clamp (by omega)
  unfold remI
  rw [hcx, hcm, mv_si_ne h3, mv_si_ne h3, grpN_ne I (by omega) (by omega) _ (by omega)]
end
section
/-! The class's methods on acts and series. -/
theorem mv_c0 {I : mv_I} {j m : Nat} (hm : m ≤ 5) (hj : j < m) : (nI j).toNatClampNeg = j := nI_clamp (by omega)
abbrev sv (I : mv_I) (s : Int32) : Prop := 0 ≤ s ∧ s ≤ I 400 1 - 1
abbrev scn (s : Int32) : Nat := 100 + 3 * s.toNatClampNeg
theorem sv_in {I : mv_I} (hS : SH I) {s : Int32} (h : sv I s) : ∃ j : Nat, j < 5 ∧ s = nI j ∧ s.toNatClampNeg = j := by
  obtain ⟨m, hm, hs⟩ := SH_now hS
  obtain ⟨j, hj, rfl⟩ := mv_upto (m := m) (by omega) h.1 (by rw [← hs]; exact h.2)
  exact ⟨j, by omega, rfl, nI_clamp (by omega)⟩
theorem at_now {I : mv_I} {x : Int32} {r : Option Value} (h : ∀ g : Nat, 400 = 400 + 2 * g → if 0 ≤ x ∧ x ≤ I 400 1 - 1 then r = some (.ref (100 + 3 * (5 * g + x.toNatClampNeg))) else r = some .null) : (¬ sv I x ∧ r = some .null) ∨ (sv I x ∧ r = some (.ref (scn x))) := by
  have h0 := h 0 rfl
  by_cases hv : 0 ≤ x ∧ x ≤ I 400 1 - 1
  · rw [if_pos hv, Nat.mul_zero, Nat.zero_add] at h0
    exact Or.inr ⟨hv, h0⟩
  · rw [if_neg hv] at h0
    exact Or.inl ⟨hv, h0⟩
theorem b_yes {c : Prop} [Decidable c] (h : ¬ mv_b c = 0) : c := Decidable.not_not.mp (fun z => h (mv_b0.mpr z))
def sp_wipe : mv_SP := (fun as _ _ => as = [.ref 0], fun _ I J r I' J' => r = some (.int (I 1 1)) ∧ I' = mv_si I 1 1 0 ∧ J = J')
theorem cb_wipe : mv_body 83 mv_t_X6_wipe (mv_cs []) sp_wipe := by
  intro as I J h
  have h : as = [.ref 0] := h
  subst h
  refine ⟨rfl, mv_run_V (stop := []) 60 _ _ _ _ _ ?_⟩
  exact ⟨rfl, _, rfl, rfl, rfl, _, rfl, rfl, rfl, rfl, rfl⟩
theorem c_wipe {l : Launch} {G : mv_G} {A : Nat → Prop} (hG : mv_adk G A) : mv_Con l G A 83 sp_wipe := mv_con hG 83 mv_k_X6_wipe (by decide +kernel) (mv_cs_nil) cb_wipe
def sp_series : mv_SP := (fun as I _ => SH I ∧ ∃ s w : Int32, as = [.ref 0, .int s, .int w],
  fun as I J r I' J' => I = I' ∧ J = J' ∧ ∀ s w : Int32, as = [.ref 0, .int s, .int w] → r = some (.int (if sv I s then (if 0 ≤ w ∧ w ≤ 13 then proF I (scn s) w else -2) else -1)))
theorem cb_series : mv_body 73 mv_t_X6_series (mv_cs [(25, sp_at), (84, sp_within), (18, sp_property)]) sp_series := by
  intro as I J h
  obtain ⟨hS, s, w, rfl⟩ := h
  obtain ⟨m, hm, hs⟩ := SH_now hS
  refine ⟨rfl, mv_run_V (stop := []) 60 _ _ _ _ _ ?_⟩
  refine ⟨rfl, _, rfl, rfl, rfl, ⟨0, m, by decide, rfl, hm, hs⟩, fun r I1 J1 hp => ?_⟩
  obtain ⟨rfl, rfl, hr⟩ := hp
  rcases at_now hr with ⟨hv, rfl⟩ | ⟨hv, rfl⟩
  · exact ⟨rfl, rfl, fun s' w' e => by cases e; rw [if_neg hv]⟩
  · obtain ⟨j, hj, -, hjc⟩ := sv_in hS hv
    refine ⟨rfl, trivial, fun r I1 J1 hp => ?_⟩
    obtain ⟨rfl, rfl, rfl⟩ := hp
    refine ⟨fun h3 => ?_, fun h3 => ?_⟩
    · have h3 := mv_b0.mp h3
      exact ⟨rfl, rfl, fun s' w' e => by cases e; rw [if_pos hv, if_neg h3]⟩
    · have h3 := b_yes h3
      refine ⟨rfl, mv_lay_ch (by omega), ⟨s.toNatClampNeg, by omega, rfl⟩, fun r I1 J1 hp => ?_⟩
      obtain ⟨rfl, rfl, rfl⟩ := hp
      exact ⟨rfl, rfl, fun s' w' e => by cases e; rw [if_pos hv, if_pos h3]⟩
theorem c_series {l : Launch} {G : mv_G} {A : Nat → Prop} (hG : mv_adk G A) : mv_Con l G A 73 sp_series := mv_con hG 73 mv_k_X6_series (by decide +kernel) (mv_cs_cons (c_at hG) (mv_cs_cons (c_within hG) (mv_cs_cons (c_property hG) (mv_cs_nil)))) cb_series
end
section
/-! Past, acts, chances. -/
def sp_past : mv_SP := (fun as I _ => SH I ∧ ∃ s w : Int32, as = [.ref 0, .int s, .int w],
  fun as I J r I' J' => I = I' ∧ J = J' ∧ ∀ s w : Int32, as = [.ref 0, .int s, .int w] → r = some (.int (if sv I s then (if 0 ≤ w ∧ w ≤ I (scn s) 15 - 1 then I (scn s + 2) w.toNatClampNeg else -1) else -1)))
theorem th_in {I : mv_I} (hS : SH I) {c : Nat} (hc : c < 91) {w : Int32} (h : 0 ≤ w ∧ w ≤ I (100 + 3 * c) 15 - 1) : vp_in w 12 := by
  obtain ⟨k, hk, e⟩ := hS.2.1 c hc
  obtain ⟨j, hj, rfl⟩ := mv_upto (m := k) (by omega) h.1 (by rw [← e]; exact h.2)
  exact vp_in_nI (by omega) (by omega)
theorem cb_past : mv_body 68 mv_t_X6_past (mv_cs [(25, sp_at), (19, sp_remembers), (23, sp_thingAt)]) sp_past := by
  intro as I J h
  obtain ⟨hS, s, w, rfl⟩ := h
  obtain ⟨m, hm, hs⟩ := SH_now hS
  refine ⟨rfl, mv_run_V (stop := []) 60 _ _ _ _ _ ?_⟩
  refine ⟨rfl, _, rfl, rfl, rfl, ⟨0, m, by decide, rfl, hm, hs⟩, fun r I1 J1 hp => ?_⟩
  obtain ⟨rfl, rfl, hr⟩ := hp
  rcases at_now hr with ⟨hv, rfl⟩ | ⟨hv, rfl⟩
  · exact ⟨rfl, rfl, fun s' w' e => by cases e; rw [if_neg hv]⟩
  · obtain ⟨j, hj, -, hjc⟩ := sv_in hS hv
    refine ⟨rfl, mv_lay_ch (by omega), ⟨s.toNatClampNeg, by omega, rfl⟩, fun r I1 J1 hp => ?_⟩
    obtain ⟨rfl, rfl, rfl⟩ := hp
    refine ⟨fun h3 => ?_, fun h3 => ?_⟩
    · have h3 := b_yes h3
      refine ⟨rfl, mv_lay_ch (by omega), ⟨s.toNatClampNeg, by omega, rfl, th_in hS (by omega)⟩, fun r I1 J1 hp => ?_⟩
      obtain ⟨rfl, rfl, rfl⟩ := hp
      exact ⟨rfl, rfl, fun s' w' e => by cases e; unfold thingF; rw [if_pos hv, if_pos h3, if_pos h3]⟩
    · have h3 := mv_b0.mp h3
      exact ⟨rfl, rfl, fun s' w' e => by cases e; rw [if_pos hv, if_neg h3]⟩
theorem c_past {l : Launch} {G : mv_G} {A : Nat → Prop} (hG : mv_adk G A) : mv_Con l G A 68 sp_past := mv_con hG 68 mv_k_X6_past (by decide +kernel) (mv_cs_cons (c_at hG) (mv_cs_cons (c_remembers hG) (mv_cs_cons (c_thingAt hG) (mv_cs_nil)))) cb_past
theorem SH_rem {I : mv_I} (hS : SH I) {c : Nat} (hc : c < 5) : ¬ remI I (100 + 3 * c) 15 < 0 := by
  rw [remI_ne hS (by omega) (Or.inl (by omega))]
  exact SH_nn hS (by omega)
def sp_tell : mv_SP := (fun as I _ => SH I ∧ ∃ s v : Int32, as = [.ref 0, .int s, .int v],
  fun as I J r I' J' => J = J' ∧ ∀ s v : Int32, as = [.ref 0, .int s, .int v] → if sv I s then (if 0 ≤ v ∧ v ≤ 99 then r = some (.int (addK (remI I) (scn s) v)) ∧ I' = addI (remI I) (scn s) v else r = some (.int (-2)) ∧ I = I') else r = some (.int (-1)) ∧ I = I')
theorem cb_tell : mv_body 77 mv_t_X6_tell (mv_cs [(25, sp_at), (84, sp_within), (2, sp_remember), (5, sp_addCount)]) sp_tell := by
  intro as I J h
  obtain ⟨hS, s, v, rfl⟩ := h
  obtain ⟨m, hm, hs⟩ := SH_now hS
  obtain ⟨x, hx14, hx⟩ := hS.2.2.1
  refine ⟨rfl, mv_run_V (stop := []) 60 _ _ _ _ _ ?_⟩
  refine ⟨rfl, _, rfl, rfl, rfl, ⟨0, m, by decide, rfl, hm, hs⟩, fun r I1 J1 hp => ?_⟩
  obtain ⟨rfl, rfl, hr⟩ := hp
  rcases at_now hr with ⟨hv, rfl⟩ | ⟨hv, rfl⟩
  · exact ⟨rfl, fun s' w' e => by cases e; rw [if_neg hv]; exact ⟨rfl, rfl⟩⟩
  · obtain ⟨j, hj, -, hjc⟩ := sv_in hS hv
    refine ⟨rfl, trivial, fun r I1 J1 hp => ?_⟩
    obtain ⟨rfl, rfl, rfl⟩ := hp
    refine ⟨fun h3 => ?_, fun h3 => ?_⟩
    · have h3 := b_yes h3
      refine ⟨rfl, _, rfl, rfl, _, rfl, rfl, rfl, ⟨rfl, rfl, x, m, hx, hx14, hm, hs⟩, fun r I1 J1 hp => ?_⟩
      obtain ⟨rfl, rfl, rfl⟩ := hp
      refine ⟨rfl, mv_lay_ch (by omega), ⟨s.toNatClampNeg, by omega, rfl, SH_rem hS (by omega)⟩, fun r I1 J1 hp => ?_⟩
      obtain ⟨rfl, rfl, rfl⟩ := hp
      exact ⟨rfl, fun s' w' e => by cases e; rw [if_pos hv, if_pos h3]; exact ⟨rfl, rfl⟩⟩
    · have h3 := mv_b0.mp h3
      exact ⟨rfl, fun s' w' e => by cases e; rw [if_pos hv, if_neg h3]; exact ⟨rfl, rfl⟩⟩
theorem c_tell {l : Launch} {G : mv_G} {A : Nat → Prop} (hG : mv_adk G A) : mv_Con l G A 77 sp_tell := mv_con hG 77 mv_k_X6_tell (by decide +kernel) (mv_cs_cons (c_at hG) (mv_cs_cons (c_within hG) (mv_cs_cons (c_remember hG) (mv_cs_cons (c_addCount hG) (mv_cs_nil))))) cb_tell
def sp_gap : mv_SP := (fun as I _ => SH I ∧ ∃ s : Int32, as = [.ref 0, .int s],
  fun as I J r I' J' => J = J' ∧ ∀ s : Int32, as = [.ref 0, .int s] → if sv I s then r = some (.int (appI (remI I) (scn s) (-9) (scn s) 7)) ∧ I' = appI (remI I) (scn s) (-9) else r = some (.int (-1)) ∧ I = I')
theorem cb_gap : mv_body 60 mv_t_X6_gap (mv_cs [(25, sp_at), (2, sp_remember), (7, sp_addGap)]) sp_gap := by
  intro as I J h
  obtain ⟨hS, s, rfl⟩ := h
  obtain ⟨m, hm, hs⟩ := SH_now hS
  obtain ⟨x, hx14, hx⟩ := hS.2.2.1
  refine ⟨rfl, mv_run_V (stop := []) 60 _ _ _ _ _ ?_⟩
  refine ⟨rfl, _, rfl, rfl, rfl, ⟨0, m, by decide, rfl, hm, hs⟩, fun r I1 J1 hp => ?_⟩
  obtain ⟨rfl, rfl, hr⟩ := hp
  rcases at_now hr with ⟨hv, rfl⟩ | ⟨hv, rfl⟩
  · exact ⟨rfl, fun s' e => by cases e; rw [if_neg hv]; exact ⟨rfl, rfl⟩⟩
  · obtain ⟨j, hj, -, hjc⟩ := sv_in hS hv
    refine ⟨rfl, _, rfl, rfl, _, rfl, rfl, rfl, ⟨rfl, rfl, x, m, hx, hx14, hm, hs⟩, fun r I1 J1 hp => ?_⟩
    obtain ⟨rfl, rfl, rfl⟩ := hp
    refine ⟨rfl, mv_lay_ch (by omega), ⟨s.toNatClampNeg, by omega, rfl, SH_rem hS (by omega)⟩, fun r I1 J1 hp => ?_⟩
    obtain ⟨rfl, rfl, rfl⟩ := hp
    refine ⟨mv_lay_ch (by omega), ?_⟩
    exact ⟨rfl, fun s' e => by cases e; rw [if_pos hv]; exact ⟨rfl, rfl⟩⟩
theorem c_gap {l : Launch} {G : mv_G} {A : Nat → Prop} (hG : mv_adk G A) : mv_Con l G A 60 sp_gap := mv_con hG 60 mv_k_X6_gap (by decide +kernel) (mv_cs_cons (c_at hG) (mv_cs_cons (c_remember hG) (mv_cs_cons (c_addGap hG) (mv_cs_nil)))) cb_gap
def sp_clear : mv_SP := (fun as I _ => SH I ∧ ∃ s : Int32, as = [.ref 0, .int s],
  fun as I J r I' J' => J = J' ∧ ∀ s : Int32, as = [.ref 0, .int s] → if sv I s then r = some (.int (I (scn s) 8 + I (scn s) 9)) ∧ I' = dropI (remI I) (scn s) else r = some (.int (-1)) ∧ I = I')
theorem cb_clear : mv_body 52 mv_t_X6_clear (mv_cs [(25, sp_at), (2, sp_remember), (13, sp_dropSums)]) sp_clear := by
  intro as I J h
  obtain ⟨hS, s, rfl⟩ := h
  obtain ⟨m, hm, hs⟩ := SH_now hS
  obtain ⟨x, hx14, hx⟩ := hS.2.2.1
  refine ⟨rfl, mv_run_V (stop := []) 60 _ _ _ _ _ ?_⟩
  refine ⟨rfl, _, rfl, rfl, rfl, ⟨0, m, by decide, rfl, hm, hs⟩, fun r I1 J1 hp => ?_⟩
  obtain ⟨rfl, rfl, hr⟩ := hp
  rcases at_now hr with ⟨hv, rfl⟩ | ⟨hv, rfl⟩
  · exact ⟨rfl, fun s' e => by cases e; rw [if_neg hv]; exact ⟨rfl, rfl⟩⟩
  · obtain ⟨j, hj, -, hjc⟩ := sv_in hS hv
    refine ⟨mv_lay_ch (by omega), mv_lay_ch (by omega), rfl, _, rfl, rfl, _, rfl, rfl, rfl, ⟨rfl, rfl, x, m, hx, hx14, hm, hs⟩, fun r I1 J1 hp => ?_⟩
    obtain ⟨rfl, rfl, rfl⟩ := hp
    refine ⟨rfl, mv_lay_ch (by omega), ⟨s.toNatClampNeg, by omega, rfl⟩, fun r I1 J1 hp => ?_⟩
    obtain ⟨rfl, rfl, rfl⟩ := hp
    exact ⟨rfl, fun s' e => by cases e; rw [if_pos hv]; exact ⟨rfl, rfl⟩⟩
theorem c_clear {l : Launch} {G : mv_G} {A : Nat → Prop} (hG : mv_adk G A) : mv_Con l G A 52 sp_clear := mv_con hG 52 mv_k_X6_clear (by decide +kernel) (mv_cs_cons (c_at hG) (mv_cs_cons (c_remember hG) (mv_cs_cons (c_dropSums hG) (mv_cs_nil)))) cb_clear
def sp_set : mv_SP := (fun as I _ => SH I ∧ ∃ s w v : Int32, as = [.ref 0, .int s, .int w, .int v],
  fun as I J r I' J' => J = J' ∧ ∀ s w v : Int32, as = [.ref 0, .int s, .int w, .int v] → (sv I s → alwP w v → r = some (.int (I (scn s) (parF w))) ∧ I' = mv_si (remI I) (scn s) (parF w) v) ∧ (sv I s → ¬ alwP w v → r = some (.int (-2)) ∧ I = I') ∧ (¬ sv I s → r = some (.int (-1)) ∧ I = I'))
theorem cb_set : mv_body 74 mv_t_X6_set (mv_cs [(25, sp_at), (8, sp_allows), (17, sp_parameter), (2, sp_remember), (11, sp_change)]) sp_set := by
  intro as I J h
  obtain ⟨hS, s, w, v, rfl⟩ := h
  obtain ⟨m, hm, hs⟩ := SH_now hS
  obtain ⟨x, hx14, hx⟩ := hS.2.2.1
  refine ⟨rfl, mv_run_V (stop := []) 60 _ _ _ _ _ ?_⟩
  refine ⟨rfl, _, rfl, rfl, rfl, ⟨0, m, by decide, rfl, hm, hs⟩, fun r I1 J1 hp => ?_⟩
  obtain ⟨rfl, rfl, hr⟩ := hp
  rcases at_now hr with ⟨hv, rfl⟩ | ⟨hv, rfl⟩
  · exact ⟨rfl, fun s' w' v' e => by cases e; exact ⟨fun z => absurd z hv, fun z => absurd z hv, fun _ => ⟨rfl, rfl⟩⟩⟩
  · obtain ⟨j, hj, -, hjc⟩ := sv_in hS hv
    refine ⟨rfl, trivial, fun r I1 J1 hp => ?_⟩
    obtain ⟨⟨z, rfl, hz⟩, rfl, rfl⟩ := hp
    refine ⟨fun h3 => ?_, fun h3 => ?_⟩
    · have h3 : alwP w v := Classical.byContradiction (fun q => h3 (hz.mpr q))
      refine ⟨rfl, mv_lay_ch (by omega), ⟨s.toNatClampNeg, by omega, rfl⟩, fun r I1 J1 hp => ?_⟩
      obtain ⟨rfl, rfl, rfl⟩ := hp
      refine ⟨rfl, _, rfl, rfl, _, rfl, rfl, rfl, ⟨rfl, rfl, x, m, hx, hx14, hm, hs⟩, fun r I1 J1 hp => ?_⟩
      obtain ⟨rfl, rfl, rfl⟩ := hp
      refine ⟨rfl, mv_lay_ch (by omega), ⟨s.toNatClampNeg, by omega, rfl⟩, fun r I1 J1 hp => ?_⟩
      obtain ⟨rfl, rfl, rfl⟩ := hp
      exact ⟨rfl, fun s' w' v' e => by cases e; exact ⟨fun _ _ => ⟨rfl, rfl⟩, fun _ q => absurd h3 q, fun q => absurd hv q⟩⟩
    · have h3 := hz.mp h3
      exact ⟨rfl, fun s' w' v' e => by cases e; exact ⟨fun _ q => absurd q h3, fun _ _ => ⟨rfl, rfl⟩, fun q => absurd hv q⟩⟩
theorem c_set {l : Launch} {G : mv_G} {A : Nat → Prop} (hG : mv_adk G A) : mv_Con l G A 74 sp_set := mv_con hG 74 mv_k_X6_set (by decide +kernel) (mv_cs_cons (c_at hG) (mv_cs_cons (c_allows hG) (mv_cs_cons (c_parameter hG) (mv_cs_cons (c_remember hG) (mv_cs_cons (c_change hG) (mv_cs_nil)))))) cb_set
/-- divided by ten, k times -/
def dvF (w : Int32) : Nat → Int32
  | 0 => w
  | k + 1 => dvF w k / 10
def chF (w : Int32) (i : Nat) : Int32 := dvF w (4 - i) - dvF w (4 - i) / 10 * 10
def sp_chance : mv_SP := (fun as _ _ => ∃ (w : Int32) (i : Nat), i < 5 ∧ as = [.int w, .int (nI i)],
  fun as I J r I' J' => I = I' ∧ J = J' ∧ ∀ (w : Int32) (i : Nat), i < 5 → as = [.int w, .int (nI i)] → r = some (.int (chF w i)))
theorem cb_chance : mv_body 31 mv_t_X3_chance (mv_cs []) sp_chance := by
  intro as I J h
  obtain ⟨w, i, hi, rfl⟩ := h
  have key : ∀ r k : Nat, i + k + r = 4 → mv_V mv_ow mv_swf mv_t_X3_chance (mv_cs []) (sp_chance.2 [.int w, .int (nI i)] I J) 4 [(0, .int w), (1, .int (nI i)), (2, .int (dvF w k)), (3, .int (nI (i + k)))] [] I J := by
    intro r
    induction r with
    | zero =>
      intro k hk
      refine mv_run_V (stop := [4]) 30 _ _ _ _ _ ?_
      refine ⟨fun h1 => ?_, fun h1 => ?_⟩
      · refine ⟨mv_nz10, rfl, rfl, fun w' i' hi' e => ?_⟩
        injection e with e1 e2
        injection e2 with e2 e3
        injection e1 with e1
        injection e2 with e2
        have : i = i' := (nI_eq (by omega) (by omega)).mp e2
        subst this
        subst e1
        have hk4 : 4 - i = k := by omega
        unfold chF
        rw [hk4]
      · have h1 : nI (i + k) < nI 4 := h1
        rw [show i + k = 4 from hk] at h1
        exact absurd h1 (nI_nlt (Nat.le_refl 4) (by decide))
    | succ r ih =>
      intro k hk
      refine mv_run_V (stop := [4]) 30 _ _ _ _ _ ?_
      refine ⟨fun h1 => ?_, fun h1 => ?_⟩
      · have h1 : ¬ nI (i + k) < nI 4 := h1
        exact absurd (nI_lt (by omega) (by omega)) h1
      · refine ⟨mv_nz10, ?_⟩
        have h2 := ih (k + 1) (by omega)
        rw [← Nat.add_assoc, nI_succ] at h2
        exact h2
  refine ⟨rfl, mv_run_V (stop := [4]) 30 _ _ _ _ _ ?_⟩
  exact key (4 - i) 0 (by omega)
theorem c_chance {l : Launch} {G : mv_G} {A : Nat → Prop} (hG : mv_adk G A) : mv_Con l G A 31 sp_chance := mv_con hG 31 mv_k_X3_chance (by decide +kernel) (mv_cs_nil) cb_chance
def sp_digitSum : mv_SP := (fun as _ _ => ∃ w : Int32, as = [.int w],
  fun as I J r I' J' => I = I' ∧ J = J' ∧ ∀ w : Int32, as = [.int w] → r = some (.int (0 + chF w 0 + chF w 1 + chF w 2 + chF w 3 + chF w 4)))
theorem cb_digitSum : mv_body 55 mv_t_X6_digitSum (mv_cs [(31, sp_chance)]) sp_digitSum := by
  intro as I J h
  obtain ⟨w, rfl⟩ := h
  have e4 : mv_V mv_ow mv_swf mv_t_X6_digitSum (mv_cs [(31, sp_chance)]) (sp_digitSum.2 [.int w] I J) 4 [(0, .int w), (1, .int (0 + chF w 0 + chF w 1 + chF w 2 + chF w 3 + chF w 4)), (2, .int 5)] [] I J := by
    refine mv_run_V (stop := [4]) 30 _ _ _ _ _ ?_
    refine ⟨fun h1 => ?_, fun h1 => ?_⟩
    · exact ⟨rfl, rfl, fun w' e => by cases e; rfl⟩
    · exact absurd h1 (by decide)
  have st : ∀ (i : Nat) (x y : Int32), i < 5 → nI i + 1 = y → (mv_V mv_ow mv_swf mv_t_X6_digitSum (mv_cs [(31, sp_chance)]) (sp_digitSum.2 [.int w] I J) 4 [(0, .int w), (1, .int (x + chF w i)), (2, .int y)] [] I J) → mv_V mv_ow mv_swf mv_t_X6_digitSum (mv_cs [(31, sp_chance)]) (sp_digitSum.2 [.int w] I J) 4 [(0, .int w), (1, .int x), (2, .int (nI i))] [] I J := by
    intro i x y hi hy hn
    refine mv_run_V (stop := [4]) 30 _ _ _ _ _ ?_
    refine ⟨fun h1 => ?_, fun h1 => ?_⟩
    · have h1 : ¬ nI i < nI 5 := h1
      exact absurd (nI_lt hi (by decide)) h1
    · refine ⟨rfl, ⟨w, i, hi, rfl⟩, fun r I1 J1 hp => ?_⟩
      obtain ⟨rfl, rfl, hr⟩ := hp
      have hr := hr w i hi rfl
      subst hr
      subst hy
      exact hn
  refine ⟨rfl, mv_run_V (stop := [4]) 30 _ _ _ _ _ ?_⟩
  exact st 0 0 1 (by decide) rfl (st 1 _ 2 (by decide) rfl (st 2 _ 3 (by decide) rfl (st 3 _ 4 (by decide) rfl (st 4 _ 5 (by decide) rfl e4))))
theorem c_digitSum {l : Launch} {G : mv_G} {A : Nat → Prop} (hG : mv_adk G A) : mv_Con l G A 55 sp_digitSum := mv_con hG 55 mv_k_X6_digitSum (by decide +kernel) (mv_cs_cons (c_chance hG) (mv_cs_nil)) cb_digitSum
abbrev dgP (w : Int32) : Prop := 0 ≤ w ∧ w ≤ 99999 ∧ 0 + chF w 0 + chF w 1 + chF w 2 + chF w 3 + chF w 4 = 10
def sp_chances : mv_SP := (fun as I _ => SH I ∧ ∃ w : Int32, as = [.ref 0, .int w],
  fun as I J r I' J' => J = J' ∧ ∀ w : Int32, as = [.ref 0, .int w] → if dgP w then r = some (.int (I 400 2)) ∧ I' = mv_si (remI I) 400 2 w else r = some (.int (-2)) ∧ I = I')
theorem cb_chances : mv_body 51 mv_t_X6_chances (mv_cs [(84, sp_within), (55, sp_digitSum), (2, sp_remember)]) sp_chances := by
  intro as I J h
  obtain ⟨hS, w, rfl⟩ := h
  obtain ⟨m, hm, hs⟩ := SH_now hS
  obtain ⟨x, hx14, hx⟩ := hS.2.2.1
  refine ⟨rfl, mv_run_V (stop := []) 60 _ _ _ _ _ ?_⟩
  refine ⟨rfl, trivial, fun r I1 J1 hp => ?_⟩
  obtain ⟨rfl, rfl, rfl⟩ := hp
  refine ⟨fun h2 => ?_, fun h2 => ?_⟩
  · have h2 := mv_b0.mp h2
    exact ⟨rfl, fun w' e => by cases e; rw [if_neg (fun z => h2 ⟨z.1, z.2.1⟩)]; exact ⟨rfl, rfl⟩⟩
  · have h2 := b_yes h2
    refine ⟨rfl, ⟨w, rfl⟩, fun r I1 J1 hp => ?_⟩
    obtain ⟨rfl, rfl, hr⟩ := hp
    have hr := hr w rfl
    subst hr
    refine ⟨fun h4 => ?_, fun h4 => ?_⟩
    · refine ⟨rfl, _, rfl, rfl, rfl, _, rfl, rfl, _, rfl, rfl, rfl, ⟨rfl, rfl, x, m, hx, hx14, hm, hs⟩, fun r I1 J1 hp => ?_⟩
      obtain ⟨rfl, rfl, rfl⟩ := hp
      refine ⟨rfl, _, rfl, rfl, rfl, fun w' e => ?_⟩
      cases e
      rw [if_pos ⟨h2.1, h2.2, h4⟩]
      exact ⟨rfl, rfl⟩
    · exact ⟨rfl, fun w' e => by cases e; rw [if_neg (fun z => h4 z.2.2)]; exact ⟨rfl, rfl⟩⟩
theorem c_chances {l : Launch} {G : mv_G} {A : Nat → Prop} (hG : mv_adk G A) : mv_Con l G A 51 sp_chances := mv_con hG 51 mv_k_X6_chances (by decide +kernel) (mv_cs_cons (c_within hG) (mv_cs_cons (c_digitSum hG) (mv_cs_cons (c_remember hG) (mv_cs_nil)))) cb_chances
def sp_undo : mv_SP := (fun as I _ => SH I ∧ as = [.ref 0],
  fun _ I J r I' J' => J = J' ∧ if I 3 2 = 0 then r = some (.int (-3)) ∧ I = I' else r = some (.int (tkbI I 3 2)) ∧ I' = tkbI I)
theorem cb_undo : mv_body 78 mv_t_X6_undo (mv_cs [(3, sp_takeBack)]) sp_undo := by
  intro as I J h
  obtain ⟨hS, rfl⟩ := h
  obtain ⟨x, hx14, hx⟩ := hS.2.2.1
  obtain ⟨m, hm, hs⟩ := hS.1 (1 + (x + 13) % 14) (by omega)
  refine ⟨rfl, mv_run_V (stop := []) 60 _ _ _ _ _ ?_⟩
  refine ⟨rfl, _, rfl, rfl, fun h1 => ?_, fun h1 => ?_⟩
  · refine ⟨rfl, _, rfl, rfl, _, rfl, rfl, rfl, ⟨rfl, rfl, x, m, hx, hx14, hm, hs⟩, fun r I1 J1 hp => ?_⟩
    obtain ⟨rfl, rfl, rfl⟩ := hp
    refine ⟨rfl, _, rfl, rfl, rfl, ?_⟩
    rw [if_neg h1]
    exact ⟨rfl, rfl⟩
  · refine ⟨rfl, ?_⟩
    rw [if_pos h1]
    exact ⟨rfl, rfl⟩
theorem c_undo {l : Launch} {G : mv_G} {A : Nat → Prop} (hG : mv_adk G A) : mv_Con l G A 78 sp_undo := mv_con hG 78 mv_k_X6_undo (by decide +kernel) (mv_cs_cons (c_takeBack hG) (mv_cs_nil)) cb_undo
end
section
/-! Predictions. -/
theorem addI_ne {I : mv_I} {o a : Nat} {v : Int32} (h0 : a ≠ o) (h2 : a ≠ o + 2) : addI I o v a = I a := by
  unfold addI appI
  rw [mv_sr_ne h0, mv_sr_ne h2]
  unfold add3
  split
  · split
    · unfold adaptI add2 add1
      rw [mv_si_ne h0, mv_si_ne h0, mv_si_ne h0]
    · unfold add2 add1
      rw [mv_si_ne h0, mv_si_ne h0]
  · unfold add2 add1
    rw [mv_sr_ne h0, mv_si_ne h0, mv_si_ne h0]
theorem addN_ne {I : mv_I} {o a : Nat} {v : Int32} (h0 : a ≠ o) (h2 : a ≠ o + 2) : ∀ k, addN o v k I a = I a
  | 0 => rfl
  | k + 1 => (addI_ne h0 h2).trans (addN_ne h0 h2 k)
theorem appI_k {I : mv_I} {o : Nat} {v : Int32} (h : ∃ k : Nat, k ≤ 12 ∧ I o 15 = nI k) : ∃ k : Nat, k ≤ 12 ∧ appI I o v o 15 = nI k := by
  obtain ⟨k, hk, e⟩ := h
  unfold appI
  rw [mv_sr_ap, if_pos rfl, if_pos rfl, e]
  by_cases h : nI k < 12
  · have h : nI k < nI 12 := h
    have hk2 := (nI_ltI (by omega) (by omega)).mp h
    refine ⟨k + 1, by omega, ?_⟩
    exact (if_pos h).trans (nI_1 k)
  · exact ⟨12, Nat.le_refl _, if_neg h⟩
theorem addI_k {I : mv_I} {o : Nat} {v : Int32} (h : ∃ k : Nat, k ≤ 12 ∧ I o 15 = nI k) : ∃ k : Nat, k ≤ 12 ∧ addI I o v o 15 = nI k := by
  unfold addI
  exact appI_k (by rw [add3_15]; exact h)
theorem addN_k {I : mv_I} {o : Nat} {v : Int32} (h : ∃ k : Nat, k ≤ 12 ∧ I o 15 = nI k) : ∀ k, ∃ n : Nat, n ≤ 12 ∧ addN o v k I o 15 = nI n
  | 0 => h
  | k + 1 => addI_k (addN_k h k)
/-- the places that no series uses -/
def irr (b : Nat) : Prop := b = 5 ∨ b = 14 ∨ 16 ≤ b
theorem appI_irr {I : mv_I} {o b : Nat} {v : Int32} (h : irr b) : appI I o v o b = I o b := by
  unfold appI irr at *
  rw [mv_sr_ap, if_pos rfl, if_neg (by omega), if_neg (by omega)]
theorem add3_irr {I : mv_I} {o b : Nat} {v : Int32} (h : irr b) : add3 I o v o b = I o b := by
  unfold irr at h
  have e2 : add2 I o v o b = I o b := by
    unfold add2 add1
    rw [mv_si_ap, if_neg (by omega), mv_si_ap, if_neg (by omega)]
  unfold add3
  split
  · split
    · unfold adaptI
      rw [mv_si_ap, if_neg (by omega), e2]
    · exact e2
  · rw [mv_sr_ap, if_pos rfl]
    unfold ringF
    rw [if_neg (by omega), if_neg (by omega), if_neg (by omega), if_neg (by omega), if_neg (by omega), e2]
theorem addI_irr {I : mv_I} {o b : Nat} {v : Int32} (h : irr b) : addI I o v o b = I o b := by
  unfold addI
  rw [appI_irr h, add3_irr h]
theorem add3_ne {I : mv_I} {o a : Nat} {v : Int32} (h0 : a ≠ o) : add3 I o v a = I a := by
  unfold add3
  split
  · split
    · unfold adaptI add2 add1
      rw [mv_si_ne h0, mv_si_ne h0, mv_si_ne h0]
    · unfold add2 add1
      rw [mv_si_ne h0, mv_si_ne h0]
  · unfold add2 add1
    rw [mv_sr_ne h0, mv_si_ne h0, mv_si_ne h0]
theorem appI_th {I : mv_I} {o b : Nat} {v : Int32} (hk : ∃ k : Nat, k ≤ 12 ∧ I o 15 = nI k) (h : 12 ≤ b) : appI I o v (o + 2) b = I (o + 2) b := by
  obtain ⟨k, hk, e⟩ := hk
  unfold appI
  rw [mv_sr_ap, if_neg (by omega), mv_sr_ap, if_pos rfl, e]
  by_cases h1 : nI k < 12
  · have h2 : nI k < nI 12 := h1
    have hk2 := (nI_ltI (by omega) (by omega)).mp h2
    rw [if_pos h1, nI_clamp (by omega)]
    unfold upd
    rw [if_neg (by omega)]
  · rw [if_neg h1]
    unfold upd
    rw [if_neg (by omega)]
    exact pk_cpy_out (Or.inr (by omega))
theorem addI_th {I : mv_I} {o b : Nat} {v : Int32} (hk : ∃ k : Nat, k ≤ 12 ∧ I o 15 = nI k) (h : 12 ≤ b) : addI I o v (o + 2) b = I (o + 2) b := by
  unfold addI
  rw [appI_th (by rw [add3_15]; exact hk) h, add3_ne (by omega)]
/-- all cells but the trial's are as they were -/
def trOk (I I' : mv_I) : Prop := (∀ a, a ≠ 370 → a ≠ 371 → a ≠ 372 → I' a = I a) ∧ (∃ k : Nat, k ≤ 12 ∧ I' 370 15 = nI k) ∧ (∀ b, irr b → I' 370 b = I 370 b) ∧ (∀ b, 5 ≤ b → I' 371 b = I 371 b) ∧ ∀ b, 12 ≤ b → I' 372 b = I 372 b
theorem trOk_SH {I I' : mv_I} (hS : SH I) (h : trOk I I') : SH I' := by
  obtain ⟨h1, h2, -⟩ := h
  refine ⟨fun g hg => ?_, fun c hc => ?_, ?_, ?_, ?_, ?_, fun i hi => ?_⟩
  · rw [h1 _ (by omega) (by omega) (by omega)]
    exact hS.1 g hg
  · by_cases h9 : c = 90
    · subst h9
      exact h2
    · rw [h1 _ (by omega) (by omega) (by omega)]
      exact hS.2.1 c hc
  · rw [h1 3 (by decide) (by decide) (by decide)]
    exact hS.2.2.1
  · rw [h1 3 (by decide) (by decide) (by decide)]
    exact hS.2.2.2.1
  · rw [h1 1 (by decide) (by decide) (by decide)]
    exact hS.2.2.2.2.1
  · rw [h1 0 (by decide) (by decide) (by decide)]
    exact hS.2.2.2.2.2.1
  · rw [h1 (8 + i) (by omega) (by omega) (by omega)]
    exact hS.2.2.2.2.2.2 i hi
theorem trOk_copy {I : mv_I} {c : Nat} (hS : SH I) (hc : c < 90) : trOk I (copyI I 370 (100 + 3 * c)) := by
  refine ⟨fun a h0 h1 h2 => copyI_ne h0 h1 h2, ?_, fun b hb => ?_, fun b hb => ?_, fun b hb => ?_⟩
  · obtain ⟨k, hk, e⟩ := hS.2.1 c (by omega)
    refine ⟨k, hk, ?_⟩
    unfold copyI
    rw [mv_sr_ap, if_pos rfl, if_pos (by decide)]
    exact e
  · unfold copyI
    unfold irr at hb
    rw [mv_sr_ap, if_pos rfl, if_neg (by omega)]
  · unfold copyI
    rw [mv_sr_ap, if_neg (by decide), mv_sr_ap, if_neg (by decide), mv_sr_ap, if_pos rfl]
    exact pk_cpy_out (Or.inr (by omega))
  · unfold copyI
    rw [mv_sr_ap, if_neg (by decide), mv_sr_ap, if_pos rfl]
    exact pk_cpy_out (Or.inr (by omega))
theorem trOk_add {I I' : mv_I} {v : Int32} (h : trOk I I') : trOk I (addI I' 370 v) :=
  ⟨fun a h0 h1 h2 => (addI_ne h0 h2).trans (h.1 a h0 h1 h2), addI_k h.2.1, fun b hb => (addI_irr hb).trans (h.2.2.1 b hb), fun b hb => (congrFun (addI_ne (by decide) (by decide)) b).trans (h.2.2.2.1 b hb), fun b hb => (addI_th h.2.1 hb).trans (h.2.2.2.2 b hb)⟩
theorem trOk_addN {I I' : mv_I} {v : Int32} (h : trOk I I') : ∀ k : Nat, trOk I (addN 370 v k I')
  | 0 => h
  | k + 1 => trOk_add (trOk_addN h k)
theorem trOk_app {I I' : mv_I} {v : Int32} (h : trOk I I') : trOk I (appI I' 370 v) := by
  refine ⟨fun a h0 h1 h2 => ?_, appI_k h.2.1, fun b hb => (appI_irr hb).trans (h.2.2.1 b hb), fun b hb => ?_, fun b hb => (appI_th h.2.1 hb).trans (h.2.2.2.2 b hb)⟩
  · unfold appI
    rw [mv_sr_ne h0, mv_sr_ne h2]
    exact h.1 a h0 h1 h2
  · unfold appI
    rw [mv_sr_ne (by decide), mv_sr_ne (by decide)]
    exact h.2.2.2.1 b hb
theorem trOk_nn {I I' : mv_I} (h : trOk I I') : ¬ I' 370 15 < 0 := by
  obtain ⟨k, hk, e⟩ := h.2.1
  rw [e]
  exact nI_pos (by omega)
theorem trOk_trans {I I' I2 : mv_I} (h : trOk I I') (h2 : trOk I' I2) : trOk I I2 := ⟨fun a x y z => (h2.1 a x y z).trans (h.1 a x y z), h2.2.1, fun b hb => (h2.2.2.1 b hb).trans (h.2.2.1 b hb), fun b hb => (h2.2.2.2.1 b hb).trans (h.2.2.2.1 b hb), fun b hb => (h2.2.2.2.2 b hb).trans (h.2.2.2.2 b hb)⟩
/-- a copy made anew doesn't see what the trial held -/
theorem copyI_tr {I I' : mv_I} {c : Nat} (hc : c < 90) (h : trOk I I') : copyI I' 370 (100 + 3 * c) = copyI I 370 (100 + 3 * c) := by
  have q0 := h.1 (100 + 3 * c) (by omega) (by omega) (by omega)
  have q1 := h.1 (100 + 3 * c + 1) (by omega) (by omega) (by omega)
  have q2 := h.1 (100 + 3 * c + 2) (by omega) (by omega) (by omega)
  unfold copyI
  rw [q0, q1, q2]
  funext a b
  rw [mv_sr_ap, mv_sr_ap, mv_sr_ap, mv_sr_ap, mv_sr_ap, mv_sr_ap]
  by_cases h0 : a = 370
  · rw [if_pos h0, if_pos h0]
    by_cases hb : b < 16 ∧ b ≠ 5 ∧ b ≠ 14
    · rw [if_pos hb, if_pos hb]
    · rw [if_neg hb, if_neg hb]
      exact h.2.2.1 b (by unfold irr; omega)
  · rw [if_neg h0, if_neg h0]
    by_cases h2 : a = 370 + 2
    · rw [if_pos h2, if_pos h2]
      by_cases hb : b < 12
      · rw [pk_cpy_in (by omega) (by omega), pk_cpy_in (by omega) (by omega)]
      · rw [pk_cpy_out (Or.inr (by omega)), pk_cpy_out (Or.inr (by omega))]
        exact h.2.2.2.2 b (by omega)
    · rw [if_neg h2, if_neg h2]
      by_cases h1 : a = 370 + 1
      · rw [if_pos h1, if_pos h1]
        by_cases hb : b < 5
        · rw [pk_cpy_in (by omega) (by omega), pk_cpy_in (by omega) (by omega)]
        · rw [pk_cpy_out (Or.inr (by omega)), pk_cpy_out (Or.inr (by omega))]
          exact h.2.2.2.1 b (by omega)
      · rw [if_neg h1, if_neg h1]
        exact congrFun (h.1 a h0 h1 h2) b
/-- the first of r counts behind k counts that has an alarm -/
def farF (T : mv_I) (v : Int32) : Nat → Nat → Int32
  | 0, _ => -9
  | r + 1, k => if addK (addN 370 v k T) 370 v = 0 then farF T v r (k + 1) else nI (k + 1)
def sp_firstAlarm : mv_SP := (fun as I _ => SH I ∧ ∃ (c : Nat) (v : Int32) (n : Nat), c < 90 ∧ n < 1000 ∧ as = [.ref 0, .ref (100 + 3 * c), .int v, .int (nI n)],
  fun as I J r I' J' => J = J' ∧ trOk I I' ∧ ∀ (c : Nat) (v : Int32) (n : Nat), n < 1000 → as = [.ref 0, .ref (100 + 3 * c), .int v, .int (nI n)] → r = some (.int (farF (copyI I 370 (100 + 3 * c)) v n 0)))
theorem cb_firstAlarm : mv_body 59 mv_t_X6_firstAlarm (mv_cs [(12, sp_chartCopy), (5, sp_addCount)]) sp_firstAlarm := by
  intro as I J h
  obtain ⟨hS, c, v, n, hc, hn, rfl⟩ := h
  have hT := trOk_copy hS hc
  have fin : ∀ x I1, x = farF (copyI I 370 (100 + 3 * c)) v n 0 → trOk I I1 → sp_firstAlarm.2 [.ref 0, .ref (100 + 3 * c), .int v, .int (nI n)] I J (some (.int x)) I1 J := by
    intro x I1 hx hI
    refine ⟨rfl, hI, fun c' v' n' hn' e => ?_⟩
    injection e with e1 e2
    injection e2 with e2 e3
    injection e3 with e3 e4
    injection e4 with e4 e5
    injection e2 with e2
    injection e3 with e3
    injection e4 with e4
    have : n = n' := (nI_eq (by omega) (by omega)).mp e4
    subst this
    subst e3
    rw [hx, e2]
  have key : ∀ r k : Nat, k + r = n → farF (copyI I 370 (100 + 3 * c)) v r k = farF (copyI I 370 (100 + 3 * c)) v n 0 → mv_V mv_ow mv_swf mv_t_X6_firstAlarm (mv_cs [(12, sp_chartCopy), (5, sp_addCount)]) (sp_firstAlarm.2 [.ref 0, .ref (100 + 3 * c), .int v, .int (nI n)] I J) 11 [(0, .ref 0), (1, .ref (100 + 3 * c)), (2, .int v), (3, .int (nI n)), (4, .int (nI (k + 1)))] [] (addN 370 v k (copyI I 370 (100 + 3 * c))) J := by
    intro r
    induction r with
    | zero =>
      intro k hk hf
      have hk : k = n := hk
      subst hk
      refine mv_run_V (stop := [11]) 40 _ _ _ _ _ ?_
      refine ⟨fun h1 => ?_, fun h1 => ?_⟩
      · exact fin _ _ hf (trOk_addN hT _)
      · exact absurd (nI_lt (by omega) (by omega)) h1
    | succ r ih =>
      intro k hk hf
      rw [farF] at hf
      refine mv_run_V (stop := [11]) 40 _ _ _ _ _ ?_
      refine ⟨fun h1 => ?_, fun h1 => ?_⟩
      · exact absurd h1 (nI_nlt (by omega) (by omega))
      · refine ⟨rfl, _, rfl, rfl, rfl, ⟨90, by decide, rfl, trOk_nn (trOk_addN hT k)⟩, fun r I1 J1 hp => ?_⟩
        obtain ⟨rfl, rfl, rfl⟩ := hp
        refine ⟨fun h3 => ?_, fun h3 => ?_⟩
        · rw [if_pos h3] at hf
          have h4 := ih (k + 1) (by omega) hf
          rw [nI_succ] at h4
          exact h4
        · rw [if_neg h3] at hf
          exact fin _ _ hf (trOk_add (trOk_addN hT k))
  refine ⟨rfl, mv_run_V (stop := [11]) 40 _ _ _ _ _ ?_⟩
  refine ⟨rfl, _, rfl, rfl, rfl, ⟨90, c, by decide, by omega, by omega, rfl, rfl⟩, fun r I1 J1 hp => ?_⟩
  obtain ⟨rfl, rfl, rfl⟩ := hp
  exact key n 0 (by omega) rfl
theorem c_firstAlarm {l : Launch} {G : mv_G} {A : Nat → Prop} (hG : mv_adk G A) : mv_Con l G A 59 sp_firstAlarm := mv_con hG 59 mv_k_X6_firstAlarm (by decide +kernel) (mv_cs_cons (c_chartCopy hG) (mv_cs_cons (c_addCount hG) (mv_cs_nil))) cb_firstAlarm
def sp_rings : mv_SP := (fun as I _ => SH I ∧ ∃ s v : Int32, as = [.ref 0, .int s, .int v],
  fun as I J r I' J' => J = J' ∧ trOk I I' ∧ ∀ s v : Int32, as = [.ref 0, .int s, .int v] → r = some (.int (if sv I s then (if 0 ≤ v ∧ v ≤ 99 then farF (copyI I 370 (scn s)) v 60 0 else -2) else -1)))
theorem trOk_rfl {I : mv_I} (hS : SH I) : trOk I I := ⟨fun _ _ _ _ => rfl, hS.2.1 90 (by decide), fun _ _ => rfl, fun _ _ => rfl, fun _ _ => rfl⟩
theorem cb_rings : mv_body 70 mv_t_X6_rings (mv_cs [(25, sp_at), (84, sp_within), (59, sp_firstAlarm)]) sp_rings := by
  intro as I J h
  obtain ⟨hS, s, v, rfl⟩ := h
  obtain ⟨m, hm, hs⟩ := SH_now hS
  refine ⟨rfl, mv_run_V (stop := []) 60 _ _ _ _ _ ?_⟩
  refine ⟨rfl, _, rfl, rfl, rfl, ⟨0, m, by decide, rfl, hm, hs⟩, fun r I1 J1 hp => ?_⟩
  obtain ⟨rfl, rfl, hr⟩ := hp
  rcases at_now hr with ⟨hv, rfl⟩ | ⟨hv, rfl⟩
  · exact ⟨rfl, trOk_rfl hS, fun s' w' e => by cases e; rw [if_neg hv]⟩
  · obtain ⟨j, hj, -, hjc⟩ := sv_in hS hv
    refine ⟨rfl, trivial, fun r I1 J1 hp => ?_⟩
    obtain ⟨rfl, rfl, rfl⟩ := hp
    refine ⟨fun h3 => ?_, fun h3 => ?_⟩
    · have h3 := mv_b0.mp h3
      exact ⟨rfl, trOk_rfl hS, fun s' w' e => by cases e; rw [if_pos hv, if_neg h3]⟩
    · have h3 := b_yes h3
      refine ⟨rfl, rfl, ⟨hS, s.toNatClampNeg, v, 60, by omega, by decide, rfl⟩, fun r I1 J1 hp => ?_⟩
      obtain ⟨rfl, hI, hr⟩ := hp
      have hr := hr s.toNatClampNeg v 60 (by decide) rfl
      subst hr
      exact ⟨rfl, hI, fun s' w' e => by cases e; rw [if_pos hv, if_pos h3]⟩
theorem c_rings {l : Launch} {G : mv_G} {A : Nat → Prop} (hG : mv_adk G A) : mv_Con l G A 70 sp_rings := mv_con hG 70 mv_k_X6_rings (by decide +kernel) (mv_cs_cons (c_at hG) (mv_cs_cons (c_within hG) (mv_cs_cons (c_firstAlarm hG) (mv_cs_nil)))) cb_rings
/-- the lowest number, from k on, that has an alarm within n counts -/
def lstF (T : mv_I) (n : Nat) : Nat → Nat → Int32
  | 0, _ => -9
  | r + 1, k => if farF T (nI k) n 0 = -9 then lstF T n r (k + 1) else nI k
def sp_least : mv_SP := (fun as I _ => SH I ∧ ∃ s n : Int32, as = [.ref 0, .int s, .int n],
  fun as I J r I' J' => J = J' ∧ trOk I I' ∧ ∀ s n : Int32, as = [.ref 0, .int s, .int n] → r = some (.int (if sv I s then (if 1 ≤ n ∧ n ≤ 30 then lstF (copyI I 370 (scn s)) n.toNatClampNeg 100 0 else -2) else -1)))
theorem cb_least : mv_body 64 mv_t_X6_least (mv_cs [(25, sp_at), (84, sp_within), (59, sp_firstAlarm)]) sp_least := by
  intro as I J h
  obtain ⟨hS, s, n, rfl⟩ := h
  obtain ⟨m, hm, hs⟩ := SH_now hS
  refine ⟨rfl, mv_run_V (stop := [31]) 60 _ _ _ _ _ ?_⟩
  refine ⟨rfl, _, rfl, rfl, rfl, ⟨0, m, by decide, rfl, hm, hs⟩, fun r I1 J1 hp => ?_⟩
  obtain ⟨rfl, rfl, hr⟩ := hp
  rcases at_now hr with ⟨hv, rfl⟩ | ⟨hv, rfl⟩
  · exact ⟨rfl, trOk_rfl hS, fun s' w' e => by cases e; rw [if_neg hv]⟩
  · obtain ⟨j, hj, -, hjc⟩ := sv_in hS hv
    refine ⟨rfl, trivial, fun r I1 J1 hp => ?_⟩
    obtain ⟨rfl, rfl, rfl⟩ := hp
    refine ⟨fun h3 => ?_, fun h3 => ?_⟩
    · have h3 := b_yes h3
      have hn0 : ∃ q : Nat, q < 31 ∧ n = nI q := by
        have a1 := (fa_le _ _).mp h3.1
        have a2 := (fa_le _ _).mp h3.2
        have e1 : (1 : Int32).toInt = 1 := rfl
        have e30 : (30 : Int32).toInt = 30 := rfl
        refine ⟨n.toInt.toNat, by omega, ?_⟩
        rw [fa_eq, nI_toInt (by omega)]
        omega
      obtain ⟨q, hq, rfl⟩ := hn0
      have hcq : (nI q).toNatClampNeg = q := nI_clamp (by omega)
      have key : ∀ r k : Nat, k + r = 100 → ∀ I1, trOk I I1 → lstF (copyI I 370 (scn s)) q r k = lstF (copyI I 370 (scn s)) q 100 0 → mv_V mv_ow mv_swf mv_t_X6_least (mv_cs [(25, sp_at), (84, sp_within), (59, sp_firstAlarm)]) (sp_least.2 [.ref 0, .int s, .int (nI q)] I J) 31 [(0, .ref 0), (1, .int s), (2, .int (nI q)), (3, .ref (scn s)), (4, .int (nI k))] [] I1 J := by
        intro r
        induction r with
        | zero =>
          intro k hk I1 hI hf
          have hk : k = 100 := hk
          subst hk
          refine mv_run_V (stop := [31]) 40 _ _ _ _ _ ?_
          refine ⟨fun h1 => ?_, fun h1 => ?_⟩
          · exact ⟨rfl, hI, fun s' w' e => by cases e; rw [if_pos hv, if_pos h3, hcq, ← hf]; rfl⟩
          · have h1 : ¬ nI 99 < nI 100 := h1
            exact absurd (nI_lt (by decide) (by decide)) h1
        | succ r ih =>
          intro k hk I1 hI hf
          rw [lstF] at hf
          refine mv_run_V (stop := [31]) 40 _ _ _ _ _ ?_
          refine ⟨fun h1 => ?_, fun h1 => ?_⟩
          · have h1 : nI 99 < nI k := h1
            exact absurd h1 (nI_nlt (by omega) (by omega))
          · refine ⟨rfl, rfl, ⟨trOk_SH hS hI, s.toNatClampNeg, nI k, q, by omega, by omega, rfl⟩, fun r1 I2 J2 hp => ?_⟩
            obtain ⟨rfl, hI2, hr⟩ := hp
            have hr := hr s.toNatClampNeg (nI k) q (by omega) rfl
            rw [copyI_tr (by omega) hI] at hr
            subst hr
            refine ⟨fun h4 => ?_, fun h4 => ?_⟩
            · rw [if_pos h4] at hf
              have h5 := ih (k + 1) (by omega) I2 (trOk_trans hI hI2) hf
              rw [nI_succ] at h5
              exact h5
            · rw [if_neg h4] at hf
              exact ⟨rfl, trOk_trans hI hI2, fun s' w' e => by cases e; rw [if_pos hv, if_pos h3, hcq, ← hf]⟩
      exact key 100 0 rfl I (trOk_rfl hS) rfl
    · have h3 := mv_b0.mp h3
      exact ⟨rfl, trOk_rfl hS, fun s' w' e => by cases e; rw [if_pos hv, if_neg h3]⟩
theorem c_least {l : Launch} {G : mv_G} {A : Nat → Prop} (hG : mv_adk G A) : mv_Con l G A 64 sp_least := mv_con hG 64 mv_k_X6_least (by decide +kernel) (mv_cs_cons (c_at hG) (mv_cs_cons (c_within hG) (mv_cs_cons (c_firstAlarm hG) (mv_cs_nil)))) cb_least
def sp_ahead : mv_SP := (fun as I _ => SH I ∧ ∃ n v s w : Int32, as = [.ref 0, .int n, .int v, .int s, .int w],
  fun as I J r I' J' => J = J' ∧ trOk I I' ∧ ∀ n v s w : Int32, as = [.ref 0, .int n, .int v, .int s, .int w] → r = some (.int (if sv I s then (if (0 ≤ n ∧ n ≤ 60) ∧ (0 ≤ v ∧ v ≤ 99) ∧ (5 ≤ w ∧ w ≤ 13) then proF (addN 370 v n.toNatClampNeg (copyI I 370 (scn s))) 370 w else -2) else -1)))
theorem in_nat {n : Int32} {M : Nat} (hM : M < 1000) (h : 0 ≤ n ∧ n ≤ nI M) : ∃ q : Nat, q ≤ M ∧ n = nI q := by
  have a1 := (fa_le _ _).mp h.1
  have a2 := (fa_le _ _).mp h.2
  have e1 : (0 : Int32).toInt = 0 := rfl
  rw [nI_toInt (by omega)] at a2
  refine ⟨n.toInt.toNat, by omega, ?_⟩
  rw [fa_eq, nI_toInt (by omega)]
  omega
theorem cb_ahead : mv_body 49 mv_t_X6_ahead (mv_cs [(25, sp_at), (84, sp_within), (12, sp_chartCopy), (6, sp_addCounts), (18, sp_property)]) sp_ahead := by
  intro as I J h
  obtain ⟨hS, n, v, s, w, rfl⟩ := h
  obtain ⟨m, hm, hs⟩ := SH_now hS
  refine ⟨rfl, mv_run_V (stop := []) 60 _ _ _ _ _ ?_⟩
  refine ⟨rfl, _, rfl, rfl, rfl, ⟨0, m, by decide, rfl, hm, hs⟩, fun r I1 J1 hp => ?_⟩
  obtain ⟨rfl, rfl, hr⟩ := hp
  rcases at_now hr with ⟨hv, rfl⟩ | ⟨hv, rfl⟩
  · exact ⟨rfl, trOk_rfl hS, fun n' v' s' w' e => by cases e; rw [if_neg hv]⟩
  · obtain ⟨j, hj, -, hjc⟩ := sv_in hS hv
    refine ⟨rfl, trivial, fun r I1 J1 hp => ?_⟩
    obtain ⟨rfl, rfl, rfl⟩ := hp
    refine ⟨fun h3 => ?_, fun h3 => ?_⟩
    · have h3 := mv_b0.mp h3
      exact ⟨rfl, trOk_rfl hS, fun n' v' s' w' e => by cases e; rw [if_pos hv, if_neg (fun z => h3 z.1)]⟩
    · have h3 := b_yes h3
      refine ⟨rfl, trivial, fun r I1 J1 hp => ?_⟩
      obtain ⟨rfl, rfl, rfl⟩ := hp
      refine ⟨fun h4 => ?_, fun h4 => ?_⟩
      · have h4 := mv_b0.mp h4
        exact ⟨rfl, trOk_rfl hS, fun n' v' s' w' e => by cases e; rw [if_pos hv, if_neg (fun z => h4 z.2.1)]⟩
      · have h4 := b_yes h4
        refine ⟨rfl, trivial, fun r I1 J1 hp => ?_⟩
        obtain ⟨rfl, rfl, rfl⟩ := hp
        refine ⟨fun h5 => ?_, fun h5 => ?_⟩
        · have h5 := b_yes h5
          obtain ⟨q, hq, rfl⟩ := in_nat (M := 60) (by decide) h3
          have hcq : (nI q).toNatClampNeg = q := nI_clamp (by omega)
          have hT := trOk_copy (c := s.toNatClampNeg) hS (by omega)
          refine ⟨rfl, _, rfl, rfl, rfl, ⟨90, s.toNatClampNeg, by decide, by omega, by omega, rfl, rfl⟩, fun r I1 J1 hp => ?_⟩
          obtain ⟨rfl, rfl, rfl⟩ := hp
          refine ⟨rfl, _, rfl, rfl, rfl, ⟨90, q, by decide, rfl, trOk_nn hT, by omega, rfl⟩, fun r I1 J1 hp => ?_⟩
          obtain ⟨rfl, rfl, rfl⟩ := hp
          rw [hcq]
          refine ⟨rfl, _, rfl, rfl, rfl, ⟨90, by decide, rfl⟩, fun r I1 J1 hp => ?_⟩
          obtain ⟨rfl, rfl, rfl⟩ := hp
          exact ⟨rfl, trOk_addN hT q, fun n' v' s' w' e => by cases e; rw [if_pos hv, if_pos ⟨h3, h4, h5⟩, hcq]⟩
        · have h5 := mv_b0.mp h5
          exact ⟨rfl, trOk_rfl hS, fun n' v' s' w' e => by cases e; rw [if_pos hv, if_neg (fun z => h5 z.2.2)]⟩
theorem c_ahead {l : Launch} {G : mv_G} {A : Nat → Prop} (hG : mv_adk G A) : mv_Con l G A 49 sp_ahead := mv_con hG 49 mv_k_X6_ahead (by decide +kernel) (mv_cs_cons (c_at hG) (mv_cs_cons (c_within hG) (mv_cs_cons (c_chartCopy hG) (mv_cs_cons (c_addCounts hG) (mv_cs_cons (c_property hG) (mv_cs_nil)))))) cb_ahead
def sp_would : mv_SP := (fun as I _ => SH I ∧ ∃ s k w : Int32, as = [.ref 0, .int s, .int k, .int w],
  fun as I J r I' J' => I = I' ∧ J = J' ∧ ∀ s k w : Int32, as = [.ref 0, .int s, .int k, .int w] → r = some (.int (if sv I s then (if (0 ≤ k ∧ k ≤ 9) ∧ (1 ≤ w ∧ w ≤ 99) then repF I (scn s) k w (I (scn s) 15).toNatClampNeg 0 0 0 else -2) else -1)))
theorem cb_would : mv_body 86 mv_t_X6_would (mv_cs [(25, sp_at), (84, sp_within), (20, sp_replay)]) sp_would := by
  intro as I J h
  obtain ⟨hS, s, k, w, rfl⟩ := h
  obtain ⟨m, hm, hs⟩ := SH_now hS
  refine ⟨rfl, mv_run_V (stop := []) 60 _ _ _ _ _ ?_⟩
  refine ⟨rfl, _, rfl, rfl, rfl, ⟨0, m, by decide, rfl, hm, hs⟩, fun r I1 J1 hp => ?_⟩
  obtain ⟨rfl, rfl, hr⟩ := hp
  rcases at_now hr with ⟨hv, rfl⟩ | ⟨hv, rfl⟩
  · exact ⟨rfl, rfl, fun s' v' w' e => by cases e; rw [if_neg hv]⟩
  · obtain ⟨j, hj, -, hjc⟩ := sv_in hS hv
    obtain ⟨k1, hk1, e1⟩ := hS.2.1 s.toNatClampNeg (by omega)
    refine ⟨rfl, trivial, fun r I1 J1 hp => ?_⟩
    obtain ⟨rfl, rfl, rfl⟩ := hp
    refine ⟨fun h3 => ?_, fun h3 => ?_⟩
    · have h3 := mv_b0.mp h3
      exact ⟨rfl, rfl, fun s' v' w' e => by cases e; rw [if_pos hv, if_neg (fun z => h3 z.1)]⟩
    · have h3 := b_yes h3
      refine ⟨rfl, trivial, fun r I1 J1 hp => ?_⟩
      obtain ⟨rfl, rfl, rfl⟩ := hp
      refine ⟨fun h5 => ?_, fun h5 => ?_⟩
      · have h5 := b_yes h5
        refine ⟨rfl, mv_lay_ch (by omega), ⟨s.toNatClampNeg, k1, by omega, rfl, hk1, e1⟩, fun r I1 J1 hp => ?_⟩
        obtain ⟨rfl, rfl, rfl⟩ := hp
        exact ⟨rfl, rfl, fun s' v' w' e => by cases e; rw [if_pos hv, if_pos ⟨h3, h5⟩]⟩
      · have h5 := mv_b0.mp h5
        exact ⟨rfl, rfl, fun s' v' w' e => by cases e; rw [if_pos hv, if_neg (fun z => h5 z.2)]⟩
theorem c_would {l : Launch} {G : mv_G} {A : Nat → Prop} (hG : mv_adk G A) : mv_Con l G A 86 sp_would := mv_con hG 86 mv_k_X6_would (by decide +kernel) (mv_cs_cons (c_at hG) (mv_cs_cons (c_within hG) (mv_cs_cons (c_replay hG) (mv_cs_nil)))) cb_would
end
section
/-! Ranking, observations, slots, counts. -/
theorem mv_lay_si {i : Nat} (h : i < 6) : mv_lay (8 + i) = (1, 4, 0) := by
  have : ∀ i, i < 6 → mv_lay (8 + i) = (1, 4, 0) := by decide +kernel
  exact this i h
theorem mv_rf_si {i : Nat} (h : i < 6) : mv_rf 7 i = some (8 + i) := by
  have : ∀ i, i < 6 → mv_rf 7 i = some (8 + i) := by decide +kernel
  exact this i h
theorem mv_rf_sl {i : Nat} (h : i < 2) : mv_rf 5 i = some (400 + 2 * (15 + i)) := by
  have : ∀ i, i < 2 → mv_rf 5 i = some (400 + 2 * (15 + i)) := by decide +kernel
  exact this i h
/-- the first series, from k on, of the rank p -/
noncomputable def rkdF (I : mv_I) (p : Int32) (m : Nat) : Nat → Nat → Int32
  | 0, _ => -1
  | r + 1, k => if rnkF I 0 k m = p then nI k else rkdF I p m r (k + 1)
def sp_ranked : mv_SP := (fun as I _ => SH I ∧ ∃ p : Int32, as = [.ref 0, .int p],
  fun as I J r I' J' => I = I' ∧ J = J' ∧ match as with
    | [_, .int p] => r = some (.int (rkdF I p (I 400 1).toNatClampNeg (I 400 1).toNatClampNeg 0))
    | _ => True)
theorem cb_ranked : mv_body 69 mv_t_X6_ranked (mv_cs [(29, sp_rankOf)]) sp_ranked := by
  intro as I J h
  obtain ⟨hS, p, rfl⟩ := h
  obtain ⟨m, hm, hs⟩ := SH_now hS
  have hcm : (I 400 1).toNatClampNeg = m := by rw [hs]; exact nI_clamp (by omega)
  have key : ∀ r k : Nat, k + r = m → rkdF I p m r k = rkdF I p m m 0 → mv_V mv_ow mv_swf mv_t_X6_ranked (mv_cs [(29, sp_rankOf)]) (sp_ranked.2 [.ref 0, .int p] I J) 2 [(0, .ref 0), (1, .int p), (2, .int (nI k))] [] I J := by
    intro r
    induction r with
    | zero =>
      intro k hk hf
      have hk : k = m := hk
      subst hk
      refine mv_run_V (stop := [2]) 40 _ _ _ _ _ ?_
      refine ⟨rfl, _, rfl, rfl, fun h1 => ?_, fun h1 => ?_⟩
      · refine ⟨rfl, rfl, ?_⟩
        show some (Value.int (-1)) = _
        rw [hcm, ← hf]
        rfl
      · rw [hs] at h1
        exact absurd h1 (nI_nlt (Nat.le_refl k) (by omega))
    | succ r ih =>
      intro k hk hf
      rw [rkdF] at hf
      have hck : (nI k).toNatClampNeg = k := nI_clamp (by omega)
      refine mv_run_V (stop := [2]) 40 _ _ _ _ _ ?_
      refine ⟨rfl, _, rfl, rfl, fun h1 => ?_, fun h1 => ?_⟩
      · rw [hs] at h1
        exact absurd (nI_lt (by omega) (by omega)) h1
      · refine ⟨rfl, _, rfl, rfl, rfl, ⟨0, m, k, by decide, rfl, hm, hs, by omega, rfl⟩, fun r1 I1 J1 hp => ?_⟩
        obtain ⟨rfl, rfl, hr⟩ := hp
        have hr := hr 0 rfl
        rw [hck, hcm] at hr
        subst hr
        refine ⟨fun h3 => ?_, fun h3 => ?_⟩
        · rw [if_neg h3] at hf
          have h4 := ih (k + 1) (by omega) hf
          rw [nI_succ] at h4
          exact h4
        · rw [if_pos h3] at hf
          refine ⟨rfl, rfl, ?_⟩
          show some (Value.int (nI k)) = _
          rw [hcm, ← hf]
  refine ⟨rfl, mv_run_V (stop := [2]) 40 _ _ _ _ _ ?_⟩
  exact key m 0 (Nat.zero_add m) rfl
theorem c_ranked {l : Launch} {G : mv_G} {A : Nat → Prop} (hG : mv_adk G A) : mv_Con l G A 69 sp_ranked := mv_con hG 69 mv_k_X6_ranked (by decide +kernel) (mv_cs_cons (c_rankOf hG) (mv_cs_nil)) cb_ranked
def seeI (I : mv_I) (s n k w : Int32) : mv_I := mv_si (mv_si (mv_si (mv_si (mv_si I (8 + (I 0 6).toNatClampNeg) 0 s) (8 + (I 0 6).toNatClampNeg) 1 n) (8 + (I 0 6).toNatClampNeg) 2 k) (8 + (I 0 6).toNatClampNeg) 3 w) 0 6 (I 0 6 + 1)
abbrev seeP (n k w : Int32) : Prop := (0 ≤ n ∧ n ≤ 9) ∧ (0 ≤ k ∧ k ≤ 9) ∧ (0 ≤ w ∧ w ≤ 1)
def sp_see : mv_SP := (fun as I _ => SH I ∧ ∃ s n k w : Int32, as = [.ref 0, .int s, .int n, .int k, .int w],
  fun as I J r I' J' => J = J' ∧ ∀ s n k w : Int32, as = [.ref 0, .int s, .int n, .int k, .int w] → if sv I s then (if seeP n k w then (if I 0 6 < 6 then r = some (.int (I 0 6 + 1)) ∧ I' = seeI I s n k w else r = some (.int (-4)) ∧ I = I') else r = some (.int (-2)) ∧ I = I') else r = some (.int (-1)) ∧ I = I')
theorem cb_see : mv_body 71 mv_t_X6_see (mv_cs [(25, sp_at), (84, sp_within)]) sp_see := by
  intro as I J h
  obtain ⟨hS, s, n, k, w, rfl⟩ := h
  obtain ⟨m, hm, hs⟩ := SH_now hS
  obtain ⟨q, hq, hsq⟩ := hS.2.2.2.2.2.1
  refine ⟨rfl, mv_run_V (stop := []) 90 _ _ _ _ _ ?_⟩
  refine ⟨rfl, _, rfl, rfl, rfl, ⟨0, m, by decide, rfl, hm, hs⟩, fun r I1 J1 hp => ?_⟩
  obtain ⟨rfl, rfl, hr⟩ := hp
  rcases at_now hr with ⟨hv, rfl⟩ | ⟨hv, rfl⟩
  · exact ⟨rfl, fun s' n' k' w' e => by cases e; rw [if_neg hv]; exact ⟨rfl, rfl⟩⟩
  · refine ⟨rfl, trivial, fun r I1 J1 hp => ?_⟩
    obtain ⟨rfl, rfl, rfl⟩ := hp
    refine ⟨fun h3 => ?_, fun h3 => ?_⟩
    · have h3 := mv_b0.mp h3
      exact ⟨rfl, fun s' n' k' w' e => by cases e; rw [if_pos hv, if_neg (fun z => h3 z.1)]; exact ⟨rfl, rfl⟩⟩
    · have h3 := b_yes h3
      refine ⟨rfl, trivial, fun r I1 J1 hp => ?_⟩
      obtain ⟨rfl, rfl, rfl⟩ := hp
      refine ⟨fun h4 => ?_, fun h4 => ?_⟩
      · have h4 := mv_b0.mp h4
        exact ⟨rfl, fun s' n' k' w' e => by cases e; rw [if_pos hv, if_neg (fun z => h4 z.2.1)]; exact ⟨rfl, rfl⟩⟩
      · have h4 := b_yes h4
        refine ⟨rfl, trivial, fun r I1 J1 hp => ?_⟩
        obtain ⟨rfl, rfl, rfl⟩ := hp
        refine ⟨fun h5 => ?_, fun h5 => ?_⟩
        · have h5 := b_yes h5
          refine ⟨rfl, fun h6 => ?_, fun h6 => ?_⟩
          · have h6q : nI q < nI 6 := by rw [← hsq]; exact h6
            have hq6 := (nI_ltI (by omega) (by omega)).mp h6q
            have hcq : (I 0 6).toNatClampNeg = q := by rw [hsq]; exact nI_clamp (by omega)
            have hw01 : w = 0 ∨ w = 1 := by
              obtain ⟨w1, hw1, rfl⟩ := in_nat (M := 1) (by decide) h5
              rcases (show w1 = 0 ∨ w1 = 1 by omega) with rfl | rfl
              · exact Or.inl rfl
              · exact Or.inr rfl
            have hne : 8 + q ≠ 0 := by omega
            refine ⟨rfl, _, rfl, rfl, _, rfl, (by rw [hsq]; exact vp_in_nI hq6 (by omega)), _, (by rw [hcq]; exact mv_rf_si hq6), mv_lay_si hq6, mv_lay_si hq6, mv_lay_si hq6, ?_⟩
            refine ⟨fun h7 => ?_, fun h7 => ?_⟩
            · have hw0 : w = 0 := hw01.resolve_right h7
              refine ⟨mv_lay_si hq6, Or.inl rfl, rfl, rfl, rfl, rfl, rfl, fun s' n' k' w' e => ?_⟩
              cases e
              rw [if_pos hv, if_pos ⟨h3, h4, h5⟩, if_pos h6]
              unfold seeI
              rw [hcq, hw0]
              refine ⟨?_, ?_⟩
              · simp [mv_si_ap, hne.symm]
              · congr 1
                simp [mv_si_ap, hne.symm]
            · refine ⟨mv_lay_si hq6, Or.inr rfl, rfl, rfl, rfl, rfl, rfl, fun s' n' k' w' e => ?_⟩
              cases e
              rw [if_pos hv, if_pos ⟨h3, h4, h5⟩, if_pos h6]
              unfold seeI
              rw [hcq, h7]
              refine ⟨?_, ?_⟩
              · simp [mv_si_ap, hne.symm]
              · congr 1
                simp [mv_si_ap, hne.symm]
          · exact ⟨rfl, fun s' n' k' w' e => by cases e; rw [if_pos hv, if_pos ⟨h3, h4, h5⟩, if_neg h6]; exact ⟨rfl, rfl⟩⟩
        · have h5 := mv_b0.mp h5
          exact ⟨rfl, fun s' n' k' w' e => by cases e; rw [if_pos hv, if_neg (fun z => h5 z.2.2)]; exact ⟨rfl, rfl⟩⟩
theorem c_see {l : Launch} {G : mv_G} {A : Nat → Prop} (hG : mv_adk G A) : mv_Con l G A 71 sp_see := mv_con hG 71 mv_k_X6_see (by decide +kernel) (mv_cs_cons (c_at hG) (mv_cs_cons (c_within hG) (mv_cs_nil))) cb_see
def sp_unsee : mv_SP := (fun as _ _ => as = [.ref 0], fun _ I J r I' J' => r = some (.int (I 0 6)) ∧ I' = mv_si I 0 6 0 ∧ J = J')
theorem cb_unsee : mv_body 79 mv_t_X6_unsee (mv_cs []) sp_unsee := by
  intro as I J h
  have h : as = [.ref 0] := h
  subst h
  refine ⟨rfl, mv_run_V (stop := []) 60 _ _ _ _ _ ?_⟩
  exact ⟨rfl, rfl, rfl, rfl, rfl⟩
theorem c_unsee {l : Launch} {G : mv_G} {A : Nat → Prop} (hG : mv_adk G A) : mv_Con l G A 79 sp_unsee := mv_con hG 79 mv_k_X6_unsee (by decide +kernel) (mv_cs_nil) cb_unsee
def sp_seed : mv_SP := (fun as _ _ => ∃ v : Int64, as = [.ref 0, .long v], fun as I J r I' J' => I = I' ∧ match as with
  | [_, .long v] => r = some (.long (J 0 7)) ∧ J' = mv_sj J 0 7 v
  | _ => True)
theorem cb_seed : mv_body 72 mv_t_X6_seed (mv_cs []) sp_seed := by
  intro as I J h
  obtain ⟨v, rfl⟩ := h
  refine ⟨rfl, mv_run_V (stop := []) 60 _ _ _ _ _ ?_⟩
  exact ⟨rfl, rfl, rfl, rfl, rfl⟩
theorem c_seed {l : Launch} {G : mv_G} {A : Nat → Prop} (hG : mv_adk G A) : mv_Con l G A 72 sp_seed := mv_con hG 72 mv_k_X6_seed (by decide +kernel) (mv_cs_nil) cb_seed
def kepI (I : mv_I) (s : Nat) : mv_I := mv_si (grpN (15 + s) 0 I (I 400 1).toNatClampNeg) 6 s 1
def sp_keep : mv_SP := (fun as I _ => SH I ∧ ∃ s : Int32, as = [.ref 0, .int s],
  fun as I J r I' J' => J = J' ∧ ∀ s : Int32, as = [.ref 0, .int s] → if 0 ≤ s ∧ s ≤ 1 then r = some (.int (sumA I 0 (I 400 1).toNatClampNeg)) ∧ I' = kepI I s.toNatClampNeg else r = some (.int (-1)) ∧ I = I')
theorem sumA_congr {I I' : mv_I} {g : Nat} : ∀ k : Nat, (∀ i, i < k → I' (100 + 3 * (5 * g + i)) 10 = I (100 + 3 * (5 * g + i)) 10) → sumA I' g k = sumA I g k
  | 0, _ => rfl
  | k + 1, h => by
    unfold sumA
    rw [sumA_congr k (fun i hi => h i (by omega)), h k (by omega)]
theorem cb_keep : mv_body 63 mv_t_X6_keep (mv_cs [(84, sp_within), (26, sp_groupCopy), (24, sp_alarmSum)]) sp_keep := by
  intro as I J h
  obtain ⟨hS, s, rfl⟩ := h
  obtain ⟨m, hm, hs⟩ := SH_now hS
  have hcm : (I 400 1).toNatClampNeg = m := by rw [hs]; exact nI_clamp (by omega)
  refine ⟨rfl, mv_run_V (stop := []) 60 _ _ _ _ _ ?_⟩
  refine ⟨rfl, trivial, fun r I1 J1 hp => ?_⟩
  obtain ⟨rfl, rfl, rfl⟩ := hp
  refine ⟨fun h2 => ?_, fun h2 => ?_⟩
  · have h2 := b_yes h2
    obtain ⟨j, hj, rfl⟩ := in_nat (M := 1) (by decide) h2
    have hcj : (nI j).toNatClampNeg = j := nI_clamp (by omega)
    refine ⟨rfl, _, rfl, _, rfl, vp_in_nI (by omega) (by omega), _, (by rw [hcj]; exact mv_rf_sl (by omega)), rfl, _, rfl, rfl, mv_lay_gr (by omega), ⟨15 + j, 0, m, by omega, by omega, by omega, rfl, rfl, hm, hs⟩, fun r I1 J1 hp => ?_⟩
    obtain ⟨rfl, rfl, hI⟩ := hp
    have hI := hI (15 + j) 0 rfl rfl
    rw [hcm] at hI
    subst hI
    have h400 : grpN (15 + j) 0 I m 400 = I 400 := grpN_ne I (by omega) (by omega) m hm
    refine ⟨rfl, _, rfl, _, rfl, vp_in_nI (by omega) (by omega), Or.inr rfl, rfl, _, rfl, rfl, rfl, ⟨0, m, by decide, rfl, hm, (by rw [mv_si_ne (by decide), h400]; exact hs)⟩, fun r I1 J1 hp => ?_⟩
    obtain ⟨rfl, rfl, hr⟩ := hp
    have hr := hr 0 rfl
    subst hr
    refine ⟨rfl, fun s' e => ?_⟩
    cases e
    rw [if_pos h2]
    refine ⟨?_, ?_⟩
    · rw [mv_si_ne (by decide), h400, hcm]
      refine congrArg (fun x => some (Value.int x)) (sumA_congr m (fun i hi => ?_))
      rw [mv_si_ne (by omega), grpN_ne I (by omega) (by omega) m hm]
    · unfold kepI
      rw [hcj, hcm]
  · have h2 := mv_b0.mp h2
    exact ⟨rfl, fun s' e => by cases e; rw [if_neg h2]; exact ⟨rfl, rfl⟩⟩
theorem c_keep {l : Launch} {G : mv_G} {A : Nat → Prop} (hG : mv_adk G A) : mv_Con l G A 63 sp_keep := mv_con hG 63 mv_k_X6_keep (by decide +kernel) (mv_cs_cons (c_within hG) (mv_cs_cons (c_groupCopy hG) (mv_cs_cons (c_alarmSum hG) (mv_cs_nil)))) cb_keep
def agnI (I : mv_I) (s : Nat) : mv_I := mv_si (grpN 0 (15 + s) I (I (400 + 2 * (15 + s)) 1).toNatClampNeg) 3 2 0
def sp_again : mv_SP := (fun as I _ => SH I ∧ ∃ s : Int32, as = [.ref 0, .int s],
  fun as I J r I' J' => J = J' ∧ ∀ s : Int32, as = [.ref 0, .int s] → if 0 ≤ s ∧ s ≤ 1 then (if I 6 s.toNatClampNeg = 0 then r = some (.int (-3)) ∧ I = I' else r = some (.int (sumA (agnI I s.toNatClampNeg) 0 (agnI I s.toNatClampNeg 400 1).toNatClampNeg)) ∧ I' = agnI I s.toNatClampNeg) else r = some (.int (-1)) ∧ I = I')
theorem grpN_size {g h : Nat} (I : mv_I) : ∀ k, k ≤ 5 → g < 18 → grpN g h I k (400 + 2 * g) 1 = I (400 + 2 * h) 1
  | 0, _, _ => by
    unfold grpN
    rw [mv_si_ap, if_neg (by omega), mv_si_ap, if_pos ⟨rfl, rfl⟩]
  | k + 1, hk, hg => by
    unfold grpN
    rw [copyI_ne (by omega) (by omega) (by omega)]
    exact grpN_size I k (by omega) hg
theorem cb_again : mv_body 46 mv_t_X6_again (mv_cs [(84, sp_within), (26, sp_groupCopy), (0, sp_forget), (24, sp_alarmSum)]) sp_again := by
  intro as I J h
  obtain ⟨hS, s, rfl⟩ := h
  refine ⟨rfl, mv_run_V (stop := []) 60 _ _ _ _ _ ?_⟩
  refine ⟨rfl, trivial, fun r I1 J1 hp => ?_⟩
  obtain ⟨rfl, rfl, rfl⟩ := hp
  refine ⟨fun h2 => ?_, fun h2 => ?_⟩
  · have h2 := b_yes h2
    obtain ⟨j, hj, rfl⟩ := in_nat (M := 1) (by decide) h2
    have hcj : (nI j).toNatClampNeg = j := nI_clamp (by omega)
    obtain ⟨m, hm, hs⟩ := hS.1 (15 + j) (by omega)
    have hcm : (I (400 + 2 * (15 + j)) 1).toNatClampNeg = m := by rw [hs]; exact nI_clamp (by omega)
    refine ⟨rfl, _, rfl, _, rfl, vp_in_nI (by omega) (by omega), fun h3 => ?_, fun h3 => ?_⟩
    · refine ⟨rfl, _, rfl, rfl, _, rfl, _, rfl, vp_in_nI (by omega) (by omega), _, (by rw [hcj]; exact mv_rf_sl (by omega)), rfl, rfl, ⟨0, 15 + j, m, by omega, by omega, by omega, rfl, rfl, hm, hs⟩, fun r I1 J1 hp => ?_⟩
      obtain ⟨rfl, rfl, hI⟩ := hp
      have hI := hI 0 (15 + j) rfl rfl
      rw [hcm] at hI
      subst hI
      refine ⟨rfl, _, rfl, rfl, rfl, rfl, fun r I1 J1 hp => ?_⟩
      obtain ⟨rfl, rfl, rfl⟩ := hp
      have hag : mv_si (grpN 0 (15 + j) I m) 3 2 0 = agnI I j := by unfold agnI; rw [hcm]
      have hsz : agnI I j 400 1 = nI m := by
        rw [← hag, mv_si_ne (by decide), ← hs]
        exact grpN_size I m hm (by decide)
      rw [hag]
      refine ⟨rfl, _, rfl, rfl, rfl, ⟨0, m, by decide, rfl, hm, hsz⟩, fun r I1 J1 hp => ?_⟩
      obtain ⟨rfl, rfl, hr⟩ := hp
      have hr := hr 0 rfl
      subst hr
      refine ⟨rfl, fun s' e => ?_⟩
      cases e
      rw [if_pos h2, if_neg h3, hcj]
      exact ⟨rfl, rfl⟩
    · refine ⟨rfl, fun s' e => ?_⟩
      cases e
      rw [if_pos h2, if_pos h3]
      exact ⟨rfl, rfl⟩
  · have h2 := mv_b0.mp h2
    exact ⟨rfl, fun s' e => by cases e; rw [if_neg h2]; exact ⟨rfl, rfl⟩⟩
theorem c_again {l : Launch} {G : mv_G} {A : Nat → Prop} (hG : mv_adk G A) : mv_Con l G A 46 sp_again := mv_con hG 46 mv_k_X6_again (by decide +kernel) (mv_cs_cons (c_within hG) (mv_cs_cons (c_groupCopy hG) (mv_cs_cons (c_forget hG) (mv_cs_cons (c_alarmSum hG) (mv_cs_nil))))) cb_again
def cntF (I : mv_I) (w : Int32) : Int32 := if w = 0 then I 1 1 else if w = 1 then I 400 1 else if w = 2 then sumA I 0 (I 400 1).toNatClampNeg else if w = 3 then I 400 2 else if w = 4 then I 3 2 else if w = 5 then I 0 6 else -2
def sp_count : mv_SP := (fun as I _ => SH I ∧ ∃ w : Int32, as = [.ref 0, .int w],
  fun as I J r I' J' => I = I' ∧ J = J' ∧ match as with
    | [_, .int w] => r = some (.int (cntF I w))
    | _ => True)
theorem cb_count : mv_body 54 mv_t_X6_count (mv_cs [(24, sp_alarmSum)]) sp_count := by
  intro as I J h
  obtain ⟨hS, w, rfl⟩ := h
  obtain ⟨m, hm, hs⟩ := SH_now hS
  have fin : ∀ x, x = cntF I w → sp_count.2 [.ref 0, .int w] I J (some (.int x)) I J := fun x hx => ⟨rfl, rfl, by rw [hx]⟩
  refine ⟨rfl, mv_run_V (stop := []) 60 _ _ _ _ _ ?_⟩
  refine ⟨fun h1 => ⟨rfl, _, rfl, rfl, fin _ ?_⟩, fun h1 => ?_⟩
  · unfold cntF; rw [if_pos h1]
  refine ⟨fun h2 => ⟨rfl, _, rfl, rfl, fin _ ?_⟩, fun h2 => ?_⟩
  · unfold cntF; rw [if_neg h1, if_pos h2]
  refine ⟨fun h3 => ⟨rfl, _, rfl, rfl, rfl, ⟨0, m, by decide, rfl, hm, hs⟩, fun r I1 J1 hp => ?_⟩, fun h3 => ?_⟩
  · obtain ⟨rfl, rfl, hr⟩ := hp
    have hr := hr 0 rfl
    subst hr
    refine fin _ ?_
    unfold cntF; rw [if_neg h1, if_neg h2, if_pos h3]
  refine ⟨fun h4 => ⟨rfl, _, rfl, rfl, fin _ ?_⟩, fun h4 => ?_⟩
  · unfold cntF; rw [if_neg h1, if_neg h2, if_neg h3, if_pos h4]
  refine ⟨fun h5 => ⟨rfl, _, rfl, rfl, fin _ ?_⟩, fun h5 => ?_⟩
  · unfold cntF; rw [if_neg h1, if_neg h2, if_neg h3, if_neg h4, if_pos h5]
  refine ⟨fun h6 => ⟨rfl, fin _ ?_⟩, fun h6 => fin _ ?_⟩
  · unfold cntF; rw [if_neg h1, if_neg h2, if_neg h3, if_neg h4, if_neg h5, if_pos h6]
  · unfold cntF; rw [if_neg h1, if_neg h2, if_neg h3, if_neg h4, if_neg h5, if_neg h6]
theorem c_count {l : Launch} {G : mv_G} {A : Nat → Prop} (hG : mv_adk G A) : mv_Con l G A 54 sp_count := mv_con hG 54 mv_k_X6_count (by decide +kernel) (mv_cs_cons (c_alarmSum hG) (mv_cs_nil)) cb_count
end
section
/-! Observations: which numbers agree. -/
abbrev agrP (I : mv_I) (a o : Nat) (v : Int32) : Prop := mv_b (addN 370 v (I a 1).toNatClampNeg (copyI I 370 o) 370 10 - I o 10 = I a 2) = I a 3
theorem agrP_tr {I I' : mv_I} {i c : Nat} {v : Int32} (hi : i < 6) (hc : c < 90) (h : trOk I I') : agrP I' (8 + i) (100 + 3 * c) v ↔ agrP I (8 + i) (100 + 3 * c) v := by
  unfold agrP
  rw [copyI_tr hc h, h.1 (8 + i) (by omega) (by omega) (by omega), h.1 (100 + 3 * c) (by omega) (by omega) (by omega)]
def sp_agrees : mv_SP := (fun as I _ => SH I ∧ ∃ (i c : Nat) (v : Int32), i < 6 ∧ c < 90 ∧ as = [.ref 0, .ref (8 + i), .ref (100 + 3 * c), .int v],
  fun as I J r I' J' => J = J' ∧ trOk I I' ∧ match as with
    | [_, .ref a, .ref o, .int v] => r = some (.int (mv_b (agrP I a o v)))
    | _ => True)
theorem cb_agrees : mv_body 47 mv_t_X6_agrees (mv_cs [(12, sp_chartCopy), (6, sp_addCounts)]) sp_agrees := by
  intro as I J h
  obtain ⟨hS, i, c, v, hi, hc, rfl⟩ := h
  obtain ⟨n, hn, hsn⟩ := hS.2.2.2.2.2.2 i hi
  have hT := trOk_copy (c := c) hS hc
  have hcn : (I (8 + i) 1).toNatClampNeg = n := by rw [hsn]; exact nI_clamp (by omega)
  have hU := trOk_addN (v := v) hT n
  have ha := hU.1 (8 + i) (by omega) (by omega) (by omega)
  have ho := hU.1 (100 + 3 * c) (by omega) (by omega) (by omega)
  refine ⟨rfl, mv_run_V (stop := []) 90 _ _ _ _ _ ?_⟩
  refine ⟨rfl, _, rfl, rfl, rfl, ⟨90, c, by decide, by omega, by omega, rfl, rfl⟩, fun r I1 J1 hp => ?_⟩
  obtain ⟨rfl, rfl, rfl⟩ := hp
  have hT1 : copyI I 370 (100 + 3 * c) (8 + i) 1 = nI n := by rw [hT.1 (8 + i) (by omega) (by omega) (by omega)]; exact hsn
  refine ⟨rfl, _, rfl, mv_lay_si hi, rfl, rfl, ⟨90, n, by decide, rfl, trOk_nn hT, hn, hT1⟩, fun r I1 J1 hp => ?_⟩
  obtain ⟨rfl, rfl, rfl⟩ := hp
  rw [hT1, nI_clamp (by omega)]
  refine ⟨rfl, _, rfl, rfl, mv_lay_ch (by omega), mv_lay_si hi, ?_⟩
  have fin : ∀ x y : Int32, mv_b (addN 370 v n (copyI I 370 (100 + 3 * c)) 370 10 - I (100 + 3 * c) 10 = I (8 + i) 2) = y → x = mv_b (y = I (8 + i) 3) → sp_agrees.2 [.ref 0, .ref (8 + i), .ref (100 + 3 * c), .int v] I J (some (.int x)) (addN 370 v n (copyI I 370 (100 + 3 * c))) J := by
    intro x y hy hx
    refine ⟨rfl, hU, ?_⟩
    show some (Value.int x) = _
    unfold agrP
    rw [hcn, hy, hx]
  refine ⟨fun h3 => ?_, fun h3 => ?_⟩
  · rw [ho, ha] at h3
    refine ⟨mv_lay_si hi, fun h4 => ?_, fun h4 => ?_⟩
    · rw [ha] at h4
      exact ⟨Or.inl rfl, fin 0 0 (mv_bf h3) (mv_bf h4).symm⟩
    · rw [ha] at h4
      exact ⟨Or.inr rfl, fin 1 0 (mv_bf h3) (mv_bt h4).symm⟩
  · rw [ho, ha] at h3
    refine ⟨mv_lay_si hi, fun h4 => ?_, fun h4 => ?_⟩
    · rw [ha] at h4
      exact ⟨Or.inl rfl, fin 0 1 (mv_bt h3) (mv_bf h4).symm⟩
    · rw [ha] at h4
      exact ⟨Or.inr rfl, fin 1 1 (mv_bt h3) (mv_bt h4).symm⟩
theorem c_agrees {l : Launch} {G : mv_G} {A : Nat → Prop} (hG : mv_adk G A) : mv_Con l G A 47 sp_agrees := mv_con hG 47 mv_k_X6_agrees (by decide +kernel) (mv_cs_cons (c_chartCopy hG) (mv_cs_cons (c_addCounts hG) (mv_cs_nil))) cb_agrees
/-- the first q observations agree with v -/
def allP (I : mv_I) (v : Int32) (q : Nat) : Prop := ∀ i : Nat, i < q → sv I (I (8 + i) 0) → agrP I (8 + i) (scn (I (8 + i) 0)) v
theorem sv_tr {I I' : mv_I} (h : trOk I I') (s : Int32) : sv I' s ↔ sv I s := by
  unfold sv
  rw [h.1 400 (by decide) (by decide) (by decide)]
theorem allP_tr {I I' : mv_I} (hS : SH I) (h : trOk I I') (v : Int32) {q : Nat} (hq : q ≤ 6) : allP I' v q ↔ allP I v q := by
  have e : ∀ i : Nat, i < q → I' (8 + i) = I (8 + i) := fun i hi => h.1 (8 + i) (by omega) (by omega) (by omega)
  refine ⟨fun z i hi hs => ?_, fun z i hi hs => ?_⟩
  · obtain ⟨j, hj, -, hjc⟩ := sv_in hS hs
    have z1 := z i hi
    rw [e i hi] at z1
    exact (agrP_tr (by omega) (by omega) h).mp (z1 ((sv_tr h _).mpr hs))
  · rw [e i hi] at hs ⊢
    have hs := (sv_tr h _).mp hs
    obtain ⟨j, hj, -, hjc⟩ := sv_in hS hs
    exact (agrP_tr (by omega) (by omega) h).mpr (z i hi hs)
def sp_agreesWithAll : mv_SP := (fun as I _ => SH I ∧ ∃ v : Int32, as = [.ref 0, .int v],
  fun as I J r I' J' => J = J' ∧ trOk I I' ∧ match as with
    | [_, .int v] => ∃ z : Int32, r = some (.int z) ∧ (z = 0 ∧ ¬ allP I v (I 0 6).toNatClampNeg ∨ z = 1 ∧ allP I v (I 0 6).toNatClampNeg)
    | _ => True)
theorem cb_agreesWithAll : mv_body 48 mv_t_X6_agreesWithAll (mv_cs [(25, sp_at), (47, sp_agrees)]) sp_agreesWithAll := by
  intro as I J h
  obtain ⟨hS, v, rfl⟩ := h
  obtain ⟨q, hq, hsq⟩ := hS.2.2.2.2.2.1
  have hcq : (I 0 6).toNatClampNeg = q := by rw [hsq]; exact nI_clamp (by omega)
  have key : ∀ r k : Nat, k + r = q → ∀ I1, trOk I I1 → allP I v k → mv_V mv_ow mv_swf mv_t_X6_agreesWithAll (mv_cs [(25, sp_at), (47, sp_agrees)]) (sp_agreesWithAll.2 [.ref 0, .int v] I J) 2 [(0, .ref 0), (1, .int v), (2, .int (nI k))] [] I1 J := by
    intro r
    induction r with
    | zero =>
      intro k hk I1 hI hal
      have hk : k = q := hk
      subst hk
      have e0 : I1 0 6 = nI k := by rw [hI.1 0 (by decide) (by decide) (by decide)]; exact hsq
      refine mv_run_V (stop := [2]) 60 _ _ _ _ _ ?_
      refine ⟨rfl, fun h1 => ?_, fun h1 => ?_⟩
      · refine ⟨Or.inr rfl, rfl, hI, 1, rfl, Or.inr ⟨rfl, ?_⟩⟩
        rw [hcq]
        exact hal
      · rw [e0] at h1
        exact absurd h1 (nI_nlt (Nat.le_refl k) (by omega))
    | succ r ih =>
      intro k hk I1 hI hal
      have e0 : I1 0 6 = nI q := by rw [hI.1 0 (by decide) (by decide) (by decide)]; exact hsq
      have hck : (nI k).toNatClampNeg = k := nI_clamp (by omega)
      have hS1 := trOk_SH hS hI
      obtain ⟨m, hm, hs⟩ := SH_now hS1
      have e8 : I1 (8 + k) = I (8 + k) := hI.1 (8 + k) (by omega) (by omega) (by omega)
      refine mv_run_V (stop := [2]) 60 _ _ _ _ _ ?_
      refine ⟨rfl, fun h1 => ?_, fun h1 => ?_⟩
      · rw [e0] at h1
        exact absurd (nI_lt (by omega) (by omega)) h1
      · refine ⟨rfl, _, rfl, _, rfl, vp_in_nI (by omega) (by omega), _, (by rw [hck]; exact mv_rf_si (by omega)), rfl, _, rfl, mv_lay_si (by omega), rfl, rfl, ⟨0, m, by decide, rfl, hm, hs⟩, fun r1 I2 J2 hp => ?_⟩
        obtain ⟨rfl, rfl, hr⟩ := hp
        rcases at_now hr with ⟨hv, rfl⟩ | ⟨hv, rfl⟩
        · have h5 := ih (k + 1) (by omega) I1 hI (fun i hi hs => by
            by_cases hik : i = k
            · subst hik
              rw [e8] at hv
              exact absurd ((sv_tr hI _).mpr hs) hv
            · exact hal i (by omega) hs)
          rw [nI_succ] at h5
          exact mv_keep [0, 1, 2] h5
        · obtain ⟨j, hj, -, hjc⟩ := sv_in hS1 hv
          refine ⟨rfl, rfl, ⟨hS1, k, (I1 (8 + k) 0).toNatClampNeg, v, by omega, by omega, rfl⟩, fun r1 I2 J2 hp => ?_⟩
          obtain ⟨rfl, hI2, hr2⟩ := hp
          have hr2 : r1 = some (.int (mv_b (agrP I1 (8 + k) (scn (I1 (8 + k) 0)) v))) := hr2
          subst hr2
          have hag : agrP I1 (8 + k) (scn (I1 (8 + k) 0)) v ↔ agrP I (8 + k) (scn (I (8 + k) 0)) v := by
            rw [e8]
            rw [e8] at hjc
            exact agrP_tr (by omega) (by omega) hI
          have hsv : sv I (I (8 + k) 0) := by
            rw [e8] at hv
            exact (sv_tr hI _).mp hv
          refine ⟨fun h4 => ?_, fun h4 => ?_⟩
          · have h4 := hag.mp (b_yes h4)
            have h5 := ih (k + 1) (by omega) I2 (trOk_trans hI hI2) (fun i hi hs => by
              by_cases hik : i = k
              · subst hik
                exact h4
              · exact hal i (by omega) hs)
            rw [nI_succ] at h5
            exact mv_keep [0, 1, 2] h5
          · have h4 := mv_b0.mp h4
            refine ⟨Or.inl rfl, rfl, trOk_trans hI hI2, 0, rfl, Or.inl ⟨rfl, fun z => h4 (hag.mpr (z k (by rw [hcq]; omega) hsv))⟩⟩
  refine ⟨rfl, mv_run_V (stop := [2]) 60 _ _ _ _ _ ?_⟩
  exact key q 0 (Nat.zero_add q) I (trOk_rfl hS) (fun i hi => absurd hi (Nat.not_lt_zero i))
theorem c_agreesWithAll {l : Launch} {G : mv_G} {A : Nat → Prop} (hG : mv_adk G A) : mv_Con l G A 48 sp_agreesWithAll := mv_con hG 48 mv_k_X6_agreesWithAll (by decide +kernel) (mv_cs_cons (c_at hG) (mv_cs_cons (c_agrees hG) (mv_cs_nil))) cb_agreesWithAll
noncomputable def whF (I : mv_I) (q : Nat) : Nat → Int32
  | 0 => 0
  | v + 1 => @ite _ (allP I (nI v) q) (Classical.propDecidable _) (whF I q v ||| (1 <<< (nI v &&& 31))) (whF I q v)
def sp_which : mv_SP := (fun as I _ => SH I ∧ as = [.ref 0],
  fun _ I J r I' J' => J = J' ∧ trOk I I' ∧ r = some (.int (whF I (I 0 6).toNatClampNeg 32)))
theorem cb_which : mv_body 82 mv_t_X6_which (mv_cs [(48, sp_agreesWithAll)]) sp_which := by
  intro as I J h
  obtain ⟨hS, rfl⟩ := h
  obtain ⟨q, hq, hsq⟩ := hS.2.2.2.2.2.1
  have hcq : (I 0 6).toNatClampNeg = q := by rw [hsq]; exact nI_clamp (by omega)
  have key : ∀ r k : Nat, k + r = 32 → ∀ I1, trOk I I1 → mv_V mv_ow mv_swf mv_t_X6_which (mv_cs [(48, sp_agreesWithAll)]) (sp_which.2 [.ref 0] I J) 4 [(0, .ref 0), (1, .int (whF I q k)), (2, .int (nI k))] [] I1 J := by
    intro r
    induction r with
    | zero =>
      intro k hk I1 hI
      have hk : k = 32 := hk
      subst hk
      refine mv_run_V (stop := [4]) 60 _ _ _ _ _ ?_
      refine ⟨fun h1 => ?_, fun h1 => ?_⟩
      · exact ⟨rfl, hI, by rw [hcq]⟩
      · have h1 : ¬ nI 31 < nI 32 := h1
        exact absurd (nI_lt (by decide) (by decide)) h1
    | succ r ih =>
      intro k hk I1 hI
      have e0 : (I1 0 6).toNatClampNeg = q := by rw [hI.1 0 (by decide) (by decide) (by decide)]; exact hcq
      refine mv_run_V (stop := [4]) 60 _ _ _ _ _ ?_
      refine ⟨fun h1 => ?_, fun h1 => ?_⟩
      · have h1 : nI 31 < nI k := h1
        exact absurd h1 (nI_nlt (by omega) (by omega))
      · refine ⟨rfl, rfl, ⟨trOk_SH hS hI, nI k, rfl⟩, fun r1 I2 J2 hp => ?_⟩
        obtain ⟨rfl, hI2, hz⟩ := hp
        obtain ⟨z, rfl, hz⟩ : ∃ z : Int32, r1 = some (.int z) ∧ (z = 0 ∧ ¬ allP I1 (nI k) (I1 0 6).toNatClampNeg ∨ z = 1 ∧ allP I1 (nI k) (I1 0 6).toNatClampNeg) := hz
        rw [e0, allP_tr hS hI _ hq] at hz
        have h5 := ih (k + 1) (by omega) I2 (trOk_trans hI hI2)
        rw [nI_succ, whF] at h5
        refine ⟨fun h3 => ?_, fun h3 => ?_⟩
        · rcases hz with ⟨-, hz⟩ | ⟨rfl, -⟩
          · rw [if_neg hz] at h5
            exact h5
          · exact absurd h3 (by decide)
        · rcases hz with ⟨rfl, -⟩ | ⟨-, hz⟩
          · exact absurd rfl h3
          · rw [if_pos hz] at h5
            exact h5
  refine ⟨rfl, mv_run_V (stop := [4]) 60 _ _ _ _ _ ?_⟩
  exact key 32 0 rfl I (trOk_rfl hS)
theorem c_which {l : Launch} {G : mv_G} {A : Nat → Prop} (hG : mv_adk G A) : mv_Con l G A 82 sp_which := mv_con hG 82 mv_k_X6_which (by decide +kernel) (mv_cs_cons (c_agreesWithAll hG) (mv_cs_nil)) cb_which
end
section
/-! Numbers: products, divisors, weights. -/
def facN : Nat → Nat
  | 0 => 1
  | n + 1 => facN n * (n + 1)
def sp_factorial : mv_SP := (fun as _ _ => ∃ n : Nat, n < 20 ∧ as = [.int (nI n)],
  fun as I J r I' J' => I = I' ∧ J = J' ∧ ∀ n : Nat, n < 20 → as = [.int (nI n)] → r = some (.long (lN (facN n))))
theorem cb_factorial : mv_body 57 mv_t_X6_factorial (mv_cs []) sp_factorial := by
  intro as I J h
  obtain ⟨n, hn, rfl⟩ := h
  have fin : ∀ k : Nat, facN k = facN n → sp_factorial.2 [.int (nI n)] I J (some (.long (lN (facN k)))) I J := by
    intro k hk
    refine ⟨rfl, rfl, fun n' hn' e => ?_⟩
    injection e with e1
    injection e1 with e1
    have : n = n' := (nI_eq (by omega) (by omega)).mp e1
    subst this
    rw [hk]
  have key : ∀ r k : Nat, k + r = n ∨ (r = 0 ∧ n ≤ k ∧ facN k = facN n ∧ k < 100) → mv_V mv_ow mv_swf mv_t_X6_factorial (mv_cs []) (sp_factorial.2 [.int (nI n)] I J) 4 [(0, .int (nI n)), (1, .long (lN (facN k))), (3, .int (nI (k + 1)))] [] I J := by
    intro r
    induction r with
    | zero =>
      intro k hk
      have hk : n ≤ k ∧ facN k = facN n ∧ k < 100 := by
        rcases hk with h | h
        · have : k = n := h
          subst this
          exact ⟨Nat.le_refl _, rfl, by omega⟩
        · exact h.2
      refine mv_run_V (stop := [4]) 20 _ _ _ _ _ ?_
      refine ⟨fun h1 => ?_, fun h1 => ?_⟩
      · exact fin k hk.2.1
      · exact absurd (nI_lt (by omega) (by omega)) h1
    | succ r ih =>
      intro k hk
      have hk : k + (r + 1) = n := by omega
      refine mv_run_V (stop := [4]) 20 _ _ _ _ _ ?_
      refine ⟨fun h1 => ?_, fun h1 => ?_⟩
      · exact absurd h1 (nI_nlt (by omega) (by omega))
      · have h2 := ih (k + 1) (Or.inl (by omega))
        rw [facN, ← lN_mul, ← nI_l (n := k + 1) (by omega), nI_succ (k + 1)] at h2
        exact h2
  refine ⟨rfl, mv_run_V (stop := [4]) 20 _ _ _ _ _ ?_⟩
  exact key (n - 1) 1 (by
    rcases n with _ | n
    · exact Or.inr ⟨rfl, by omega, rfl, by omega⟩
    · exact Or.inl (by omega))
theorem c_factorial {l : Launch} {G : mv_G} {A : Nat → Prop} (hG : mv_adk G A) : mv_Con l G A 57 sp_factorial := mv_con hG 57 mv_k_X6_factorial (by decide +kernel) (mv_cs_nil) cb_factorial
def cdF : Nat → Int64 → Int64 → Int64
  | 0, g, _ => g
  | n + 1, g, s => if s = 0 then g else cdF n s (g - g / s * s)
def sp_commonDivisor : mv_SP := (fun as _ _ => match as with
    | [.long _, .long _] => True
    | _ => False,
  fun as I J r I' J' => match as with
    | [.long a, .long b] => r = some (.long (cdF 100 a b)) ∧ I = I' ∧ J = J'
    | _ => True)
theorem cb_commonDivisor : mv_body 53 mv_t_X6_commonDivisor (mv_cs []) sp_commonDivisor := by
  intro as I J h
  match as, h with
  | [.long a, .long b], _ =>
    have key : ∀ r k : Nat, k + r = 100 → ∀ g s, cdF r g s = cdF 100 a b → mv_V mv_ow mv_swf mv_t_X6_commonDivisor (mv_cs []) (sp_commonDivisor.2 [.long a, .long b] I J) 9 [(4, .long g), (6, .long s), (8, .int (nI k))] [] I J := by
      intro r
      induction r with
      | zero =>
        intro k hk g s hc
        have hk : k = 100 := hk
        subst hk
        have hc : g = cdF 100 a b := hc
        refine mv_run_V (stop := [9]) 20 _ _ _ _ _ ?_
        refine ⟨fun h1 => ?_, fun h1 => ?_⟩
        · exact ⟨by rw [hc], rfl, rfl⟩
        · have h1 : nI 100 < nI 100 := h1
          exact absurd h1 (nI_nlt (Nat.le_refl _) (by decide))
      | succ r ih =>
        intro k hk g s hc
        rw [cdF] at hc
        refine mv_run_V (stop := [9]) 40 _ _ _ _ _ ?_
        refine ⟨fun h1 => ?_, fun h1 => ?_⟩
        · have h1 : ¬ nI k < nI 100 := h1
          exact absurd (nI_lt (by omega) (by decide)) h1
        · refine ⟨fun h2 => ?_, fun h2 => ?_⟩
          · rw [if_pos ((lg_cmp_eq _ _).mp h2)] at hc
            exact ⟨by rw [hc], rfl, rfl⟩
          · have h2 : ¬ s = 0 := fun z => h2 ((lg_cmp_eq _ _).mpr z)
            rw [if_neg h2] at hc
            refine ⟨h2, ?_⟩
            have h3 := ih (k + 1) (by omega) _ _ hc
            rw [nI_succ] at h3
            exact mv_keep [4, 6, 8] h3
    refine ⟨rfl, mv_run_V (stop := [9]) 40 _ _ _ _ _ ?_⟩
    exact mv_keep [4, 6, 8] (key 100 0 rfl a b rfl)
theorem c_commonDivisor {l : Launch} {G : mv_G} {A : Nat → Prop} (hG : mv_adk G A) : mv_Con l G A 53 sp_commonDivisor := mv_con hG 53 mv_k_X6_commonDivisor (by decide +kernel) (mv_cs_nil) cb_commonDivisor
def lowF (a b : Int64) (u : Int32) : Int64 := if 0 < cdF 100 a b then (if u = 0 then b else a) / cdF 100 a b else (if u = 0 then b else a)
def sp_lowest : mv_SP := (fun as _ _ => match as with
    | [.long _, .long _, .int _] => True
    | _ => False,
  fun as I J r I' J' => match as with
    | [.long a, .long b, .int u] => r = some (.long (lowF a b u)) ∧ I = I' ∧ J = J'
    | _ => True)
theorem cb_lowest : mv_body 67 mv_t_X6_lowest (mv_cs [(53, sp_commonDivisor)]) sp_lowest := by
  intro as I J h
  match as, h with
  | [.long a, .long b, .int u], _ =>
    refine ⟨rfl, mv_run_V (stop := []) 60 _ _ _ _ _ ?_⟩
    refine ⟨rfl, trivial, fun r1 I1 J1 hp => ?_⟩
    obtain ⟨rfl, rfl, rfl⟩ := hp
    have e0 : ∀ {x : Int64}, ¬ 0 < lg_cmp x 0 → ¬ 0 < x := fun h z => h ((lg_cmp_gt _ _).mpr z)
    have e1 : ∀ {x : Int64}, 0 < lg_cmp x 0 → 0 < x := fun h => (lg_cmp_gt _ _).mp h
    have e2 : ∀ {x : Int64}, 0 < x → ¬ x = 0 := fun h z => by subst z; exact absurd h (by decide)
    refine ⟨fun h2 => ?_, fun h2 => ?_⟩
    · refine ⟨fun h3 => ?_, fun h3 => ?_⟩
      · exact ⟨by unfold lowF; rw [if_neg (e0 h3), if_pos h2], rfl, rfl⟩
      · exact ⟨e2 (e1 h3), by unfold lowF; rw [if_pos (e1 h3), if_pos h2], rfl, rfl⟩
    · refine ⟨fun h3 => ?_, fun h3 => ?_⟩
      · exact ⟨by unfold lowF; rw [if_neg (e0 h3), if_neg h2], rfl, rfl⟩
      · exact ⟨e2 (e1 h3), by unfold lowF; rw [if_pos (e1 h3), if_neg h2], rfl, rfl⟩
theorem c_lowest {l : Launch} {G : mv_G} {A : Nat → Prop} (hG : mv_adk G A) : mv_Con l G A 67 sp_lowest := mv_con hG 67 mv_k_X6_lowest (by decide +kernel) (mv_cs_cons (c_commonDivisor hG) (mv_cs_nil)) cb_lowest
def wgF (g x : Int32) : Nat → Int64
  | 0 => 1
  | d + 1 => wgF g x d * (if (g >>> (nI d &&& 31)) &&& 1 = 1 then x.toInt64 else (10 - x).toInt64)
def sp_weight : mv_SP := (fun as _ _ => ∃ (n : Nat) (g x : Int32), n < 100 ∧ as = [.int (nI n), .int g, .int x],
  fun as I J r I' J' => match as with
    | [.int n, .int g, .int x] => r = some (.long (wgF g x n.toNatClampNeg)) ∧ I = I' ∧ J = J'
    | _ => True)
theorem cb_weight : mv_body 81 mv_t_X6_weight (mv_cs []) sp_weight := by
  intro as I J h
  obtain ⟨n, g, x, hn, rfl⟩ := h
  have hcn : (nI n).toNatClampNeg = n := nI_clamp (by omega)
  have key : ∀ r k : Nat, k + r = n → mv_V mv_ow mv_swf mv_t_X6_weight (mv_cs []) (sp_weight.2 [.int (nI n), .int g, .int x] I J) 5 [(0, .int (nI n)), (1, .int g), (2, .int x), (3, .long (wgF g x k)), (5, .int (nI k))] [] I J := by
    intro r
    induction r with
    | zero =>
      intro k hk
      have hk : k = n := hk
      subst hk
      refine mv_run_V (stop := [5]) 20 _ _ _ _ _ ?_
      refine ⟨fun h1 => ?_, fun h1 => ?_⟩
      · exact ⟨by rw [hcn], rfl, rfl⟩
      · exact absurd h1 (nI_nlt (Nat.le_refl k) (by omega))
    | succ r ih =>
      intro k hk
      refine mv_run_V (stop := [5]) 40 _ _ _ _ _ ?_
      refine ⟨fun h1 => ?_, fun h1 => ?_⟩
      · exact absurd (nI_lt (by omega) (by omega)) h1
      · have h2 := ih (k + 1) (by omega)
        rw [nI_succ, wgF] at h2
        refine ⟨fun h3 => ?_, fun h3 => ?_⟩
        · rw [if_neg h3] at h2
          exact h2
        · rw [if_pos h3] at h2
          exact h2
  refine ⟨rfl, mv_run_V (stop := [5]) 40 _ _ _ _ _ ?_⟩
  exact key n 0 (Nat.zero_add n)
theorem c_weight {l : Launch} {G : mv_G} {A : Nat → Prop} (hG : mv_adk G A) : mv_Con l G A 81 sp_weight := mv_con hG 81 mv_k_X6_weight (by decide +kernel) (mv_cs_nil) cb_weight
def wdF (row : Int64) : Nat → Int64
  | 0 => row
  | d + 1 => wdF row d / 10000
def sp_withoutDoings : mv_SP := (fun as _ _ => ∃ (n : Nat) (row : Int64), n < 100 ∧ as = [.long row, .int (nI n)],
  fun as I J r I' J' => match as with
    | [.long row, .int n] => r = some (.long (wdF row n.toNatClampNeg)) ∧ I = I' ∧ J = J'
    | _ => True)
theorem mv_nz4 : ¬ (10000 : Int64) = 0 := by decide
theorem cb_withoutDoings : mv_body 85 mv_t_X6_withoutDoings (mv_cs []) sp_withoutDoings := by
  intro as I J h
  obtain ⟨n, row, hn, rfl⟩ := h
  have hcn : (nI n).toNatClampNeg = n := nI_clamp (by omega)
  have key : ∀ r k : Nat, k + r = n → mv_V mv_ow mv_swf mv_t_X6_withoutDoings (mv_cs []) (sp_withoutDoings.2 [.long row, .int (nI n)] I J) 5 [(0, .long row), (2, .int (nI n)), (3, .long (wdF row k)), (5, .int (nI k))] [] I J := by
    intro r
    induction r with
    | zero =>
      intro k hk
      have hk : k = n := hk
      subst hk
      refine mv_run_V (stop := [5]) 20 _ _ _ _ _ ?_
      refine ⟨fun h1 => ?_, fun h1 => ?_⟩
      · exact ⟨by rw [hcn], rfl, rfl⟩
      · exact absurd h1 (nI_nlt (Nat.le_refl k) (by omega))
    | succ r ih =>
      intro k hk
      refine mv_run_V (stop := [5]) 40 _ _ _ _ _ ?_
      refine ⟨fun h1 => ?_, fun h1 => ?_⟩
      · exact absurd (nI_lt (by omega) (by omega)) h1
      · have h2 := ih (k + 1) (by omega)
        rw [nI_succ, wdF] at h2
        exact ⟨mv_nz4, h2⟩
  refine ⟨rfl, mv_run_V (stop := [5]) 40 _ _ _ _ _ ?_⟩
  exact key n 0 (Nat.zero_add n)
theorem c_withoutDoings {l : Launch} {G : mv_G} {A : Nat → Prop} (hG : mv_adk G A) : mv_Con l G A 85 sp_withoutDoings := mv_con hG 85 mv_k_X6_withoutDoings (by decide +kernel) (mv_cs_nil) cb_withoutDoings
end
section
/-! Probabilities: missing days and pivots. -/
/-- 1 if one of r counts behind k days rings -/
def awF (v g : Int32) : Nat → Nat → mv_I → Int32
  | 0, _, _ => 0
  | r + 1, k, T => if (g >>> (nI k &&& 31)) &&& 1 = 1 then awF v g r (k + 1) (appI T 370 (-9)) else if addK T 370 v = 0 then awF v g r (k + 1) (addI T 370 v) else 1
def sp_awg : mv_SP := (fun as I _ => SH I ∧ ∃ (c : Nat) (v g : Int32) (n : Nat), c < 90 ∧ n < 100 ∧ as = [.ref 0, .ref (100 + 3 * c), .int v, .int (nI n), .int g],
  fun as I J r I' J' => J = J' ∧ trOk I I' ∧ match as with
    | [_, .ref o, .int v, .int n, .int g] => r = some (.int (awF v g n.toNatClampNeg 0 (copyI I 370 o)))
    | _ => True)
theorem awF_01 (v g : Int32) : ∀ r k T, awF v g r k T = 0 ∨ awF v g r k T = 1
  | 0, _, _ => Or.inl rfl
  | r + 1, k, T => by
    rw [awF]
    split
    · exact awF_01 v g r _ _
    · split
      · exact awF_01 v g r _ _
      · exact Or.inr rfl
theorem cb_awg : mv_body 50 mv_t_X6_alarmsWithGaps (mv_cs [(12, sp_chartCopy), (7, sp_addGap), (5, sp_addCount)]) sp_awg := by
  intro as I J h
  obtain ⟨hS, c, v, g, n, hc, hn, rfl⟩ := h
  have hcn : (nI n).toNatClampNeg = n := nI_clamp (by omega)
  have key : ∀ r k : Nat, k + r = n → ∀ I1, trOk I I1 → awF v g r k I1 = awF v g n 0 (copyI I 370 (100 + 3 * c)) → mv_V mv_ow mv_swf mv_t_X6_alarmsWithGaps (mv_cs [(12, sp_chartCopy), (7, sp_addGap), (5, sp_addCount)]) (sp_awg.2 [.ref 0, .ref (100 + 3 * c), .int v, .int (nI n), .int g] I J) 11 [(0, .ref 0), (1, .ref (100 + 3 * c)), (2, .int v), (3, .int (nI n)), (4, .int g), (5, .int (nI k))] [] I1 J := by
    intro r
    induction r with
    | zero =>
      intro k hk I1 hI hf
      have hk : k = n := hk
      subst hk
      refine mv_run_V (stop := [11]) 40 _ _ _ _ _ ?_
      refine ⟨fun h1 => ?_, fun h1 => ?_⟩
      · refine ⟨Or.inl rfl, rfl, hI, ?_⟩
        show some (Value.int 0) = _
        rw [hcn, ← hf]
        rfl
      · exact absurd h1 (nI_nlt (Nat.le_refl k) (by omega))
    | succ r ih =>
      intro k hk I1 hI hf
      rw [awF] at hf
      refine mv_run_V (stop := [11]) 40 _ _ _ _ _ ?_
      refine ⟨fun h1 => ?_, fun h1 => ?_⟩
      · exact absurd (nI_lt (by omega) (by omega)) h1
      · refine ⟨fun h2 => ?_, fun h2 => ?_⟩
        · rw [if_neg h2] at hf
          refine ⟨rfl, _, rfl, rfl, rfl, ⟨90, by decide, rfl, trOk_nn hI⟩, fun r1 I2 J2 hp => ?_⟩
          obtain ⟨rfl, rfl, rfl⟩ := hp
          refine ⟨fun h4 => ?_, fun h4 => ?_⟩
          · rw [if_pos h4] at hf
            have h5 := ih (k + 1) (by omega) _ (trOk_add hI) hf
            rw [nI_succ] at h5
            exact h5
          · rw [if_neg h4] at hf
            refine ⟨Or.inr rfl, rfl, trOk_add hI, ?_⟩
            show some (Value.int 1) = _
            rw [hcn, ← hf]
        · rw [if_pos h2] at hf
          refine ⟨rfl, _, rfl, rfl, rfl, ⟨90, by decide, rfl, trOk_nn hI⟩, fun r1 I2 J2 hp => ?_⟩
          obtain ⟨rfl, rfl, rfl⟩ := hp
          have h5 := ih (k + 1) (by omega) _ (trOk_app hI) hf
          rw [nI_succ] at h5
          exact h5
  refine ⟨rfl, mv_run_V (stop := [11]) 40 _ _ _ _ _ ?_⟩
  refine ⟨rfl, _, rfl, rfl, rfl, ⟨90, c, by decide, by omega, by omega, rfl, rfl⟩, fun r I1 J1 hp => ?_⟩
  obtain ⟨rfl, rfl, rfl⟩ := hp
  exact key n 0 (Nat.zero_add n) _ (trOk_copy hS hc) rfl
theorem c_awg {l : Launch} {G : mv_G} {A : Nat → Prop} (hG : mv_adk G A) : mv_Con l G A 50 sp_awg := mv_con hG 50 mv_k_X6_alarmsWithGaps (by decide +kernel) (mv_cs_cons (c_chartCopy hG) (mv_cs_cons (c_addGap hG) (mv_cs_cons (c_addCount hG) (mv_cs_nil)))) cb_awg
theorem two_pow : ∀ n, n ≤ 6 → (1 : Int32) <<< (nI n &&& 31) = nI (2 ^ n) := by decide +kernel
/-- the weight of the first k sets of gaps that ring -/
def lsF (I : mv_I) (o : Nat) (v : Int32) (n : Nat) (x : Int32) : Nat → Int64
  | 0 => 0
  | k + 1 => if awF v (nI k) n 0 (copyI I 370 o) = 0 then lsF I o v n x k else lsF I o v n x k + wgF (nI k) x n
def sp_lost : mv_SP := (fun as I _ => SH I ∧ ∃ s v n x u : Int32, as = [.ref 0, .int s, .int v, .int n, .int x, .int u],
  fun as I J r I' J' => J = J' ∧ trOk I I' ∧ ∀ s v n x u : Int32, as = [.ref 0, .int s, .int v, .int n, .int x, .int u] → r = some (.int (if sv I s then (if (0 ≤ v ∧ v ≤ 99) ∧ (1 ≤ n ∧ n ≤ 6) ∧ (0 ≤ x ∧ x ≤ 10) then (lowF (lsF I (scn s) v n.toNatClampNeg x (2 ^ n.toNatClampNeg)) (wgF 0 0 n.toNatClampNeg) u).toInt32 else -2) else -1)))
theorem in_nat1 {n : Int32} {M : Nat} (hM : M < 1000) (h : 1 ≤ n ∧ n ≤ nI M) : ∃ q : Nat, 1 ≤ q ∧ q ≤ M ∧ n = nI q := by
  have a1 := (fa_le _ _).mp h.1
  have a2 := (fa_le _ _).mp h.2
  have e1 : (1 : Int32).toInt = 1 := rfl
  rw [nI_toInt (by omega)] at a2
  refine ⟨n.toInt.toNat, by omega, by omega, ?_⟩
  rw [fa_eq, nI_toInt (by omega)]
  omega
theorem cb_lost : mv_body 66 mv_t_X6_lost (mv_cs [(25, sp_at), (84, sp_within), (50, sp_awg), (81, sp_weight), (67, sp_lowest)]) sp_lost := by
  intro as I J h
  obtain ⟨hS, s, v, n, x, u, rfl⟩ := h
  obtain ⟨m, hm, hs⟩ := SH_now hS
  refine ⟨rfl, mv_run_V (stop := [57]) 60 _ _ _ _ _ ?_⟩
  refine ⟨rfl, _, rfl, rfl, rfl, ⟨0, m, by decide, rfl, hm, hs⟩, fun r I1 J1 hp => ?_⟩
  obtain ⟨rfl, rfl, hr⟩ := hp
  rcases at_now hr with ⟨hv, rfl⟩ | ⟨hv, rfl⟩
  · exact ⟨rfl, trOk_rfl hS, fun s' v' n' x' u' e => by cases e; rw [if_neg hv]⟩
  · obtain ⟨j, hj, -, hjc⟩ := sv_in hS hv
    refine ⟨rfl, trivial, fun r I1 J1 hp => ?_⟩
    obtain ⟨rfl, rfl, rfl⟩ := hp
    refine ⟨fun h3 => ?_, fun h3 => ?_⟩
    · have h3 := mv_b0.mp h3
      exact ⟨rfl, trOk_rfl hS, fun s' v' n' x' u' e => by cases e; rw [if_pos hv, if_neg (fun z => h3 z.1)]⟩
    · have h3 := b_yes h3
      refine ⟨rfl, trivial, fun r I1 J1 hp => ?_⟩
      obtain ⟨rfl, rfl, rfl⟩ := hp
      refine ⟨fun h4 => ?_, fun h4 => ?_⟩
      · have h4 := mv_b0.mp h4
        exact ⟨rfl, trOk_rfl hS, fun s' v' n' x' u' e => by cases e; rw [if_pos hv, if_neg (fun z => h4 z.2.1)]⟩
      · have h4 := b_yes h4
        refine ⟨rfl, trivial, fun r I1 J1 hp => ?_⟩
        obtain ⟨rfl, rfl, rfl⟩ := hp
        refine ⟨fun h5 => ?_, fun h5 => ?_⟩
        · have h5 := b_yes h5
          obtain ⟨q, hq1, hq, rfl⟩ := in_nat1 (M := 6) (by decide) h4
          have hcq : (nI q).toNatClampNeg = q := nI_clamp (by omega)
          have h2q : 2 ^ q ≤ 64 := Nat.pow_le_pow_right (by decide) hq
          have h2p := two_pow q hq
          have key : ∀ r k : Nat, k + r = 2 ^ q → ∀ I1, trOk I I1 → mv_V mv_ow mv_swf mv_t_X6_lost (mv_cs [(25, sp_at), (84, sp_within), (50, sp_awg), (81, sp_weight), (67, sp_lowest)]) (sp_lost.2 [.ref 0, .int s, .int v, .int (nI q), .int x, .int u] I J) 57 [(0, .ref 0), (1, .int s), (2, .int v), (3, .int (nI q)), (4, .int x), (5, .int u), (6, .ref (scn s)), (7, .long (lsF I (scn s) v q x k)), (9, .int (nI k))] [] I1 J := by
            intro r
            induction r with
            | zero =>
              intro k hk I1 hI
              have hk : k = 2 ^ q := hk
              subst hk
              refine mv_run_V (stop := [57]) 40 _ _ _ _ _ ?_
              refine ⟨fun h1 => ?_, fun h1 => ?_⟩
              · refine ⟨rfl, ⟨q, 0, 0, by omega, rfl⟩, fun r1 I2 J2 hp => ?_⟩
                obtain ⟨rfl, rfl, rfl⟩ := hp
                refine ⟨rfl, trivial, fun r1 I2 J2 hp => ?_⟩
                obtain ⟨rfl, rfl, rfl⟩ := hp
                exact ⟨rfl, hI, fun s' v' n' x' u' e => by cases e; rw [if_pos hv, if_pos ⟨h3, h4, h5⟩, hcq]⟩
              · rw [h2p] at h1
                exact absurd h1 (nI_nlt (Nat.le_refl _) (by omega))
            | succ r ih =>
              intro k hk I1 hI
              refine mv_run_V (stop := [57]) 40 _ _ _ _ _ ?_
              refine ⟨fun h1 => ?_, fun h1 => ?_⟩
              · rw [h2p] at h1
                exact absurd (nI_lt (by omega) (by omega)) h1
              · refine ⟨rfl, rfl, ⟨trOk_SH hS hI, s.toNatClampNeg, v, nI k, q, by omega, by omega, rfl⟩, fun r1 I2 J2 hp => ?_⟩
                obtain ⟨rfl, hI2, hr⟩ := hp
                have hr : r1 = some (.int (awF v (nI k) (nI q).toNatClampNeg 0 (copyI I1 370 (scn s)))) := hr
                rw [copyI_tr (by omega) hI, hcq] at hr
                subst hr
                have h6 := ih (k + 1) (by omega) I2 (trOk_trans hI hI2)
                rw [nI_succ, lsF] at h6
                refine ⟨fun h7 => ?_, fun h7 => ?_⟩
                · rw [if_pos h7] at h6
                  exact h6
                · rw [if_neg h7] at h6
                  refine ⟨rfl, ⟨q, nI k, x, by omega, rfl⟩, fun r1 I3 J3 hp => ?_⟩
                  obtain ⟨rfl, rfl, rfl⟩ := hp
                  rw [hcq]
                  exact h6
          exact key (2 ^ q) 0 (Nat.zero_add _) I (trOk_rfl hS)
        · have h5 := mv_b0.mp h5
          exact ⟨rfl, trOk_rfl hS, fun s' v' n' x' u' e => by cases e; rw [if_pos hv, if_neg (fun z => h5 z.2.2)]⟩
theorem c_lost {l : Launch} {G : mv_G} {A : Nat → Prop} (hG : mv_adk G A) : mv_Con l G A 66 sp_lost := mv_con hG 66 mv_k_X6_lost (by decide +kernel) (mv_cs_cons (c_at hG) (mv_cs_cons (c_within hG) (mv_cs_cons (c_awg hG) (mv_cs_cons (c_weight hG) (mv_cs_cons (c_lowest hG) (mv_cs_nil)))))) cb_lost
def pcN (b : Nat) : Nat := b % 2 + b / 2 % 2 + b / 4 % 2 + b / 8 % 2 + b / 16 % 2
def sp_bitCount : mv_SP := (fun as _ _ => ∃ b : Nat, b < 32 ∧ as = [.int (nI b)],
  fun as I J r I' J' => I = I' ∧ J = J' ∧ match as with
    | [.int b] => r = some (.int (nI (pcN b.toNatClampNeg)))
    | _ => True)
def bcF (x : Int32) : Int32 :=
  let y := fun (a k : Int32) => (a.toUInt32 >>> (k.toUInt32 &&& Int32.toUInt32 31)).toInt32
  let a := x - (y x 1 &&& 1431655765)
  let b := (a &&& 858993459) + (y a 2 &&& 858993459)
  let c := (b + y b 4) &&& 252645135
  let d := c + y c 8
  let e := d + y d 16
  e &&& 63
theorem bcF_ok : ∀ b, b < 32 → bcF (nI b) = nI (pcN b) := by decide +kernel
theorem cb_bitCount : mv_body 149 mv_t_J6_bitCount_0f7a4 (mv_cs []) sp_bitCount := by
  intro as I J h
  obtain ⟨b, hb, rfl⟩ := h
  refine ⟨rfl, mv_run_V (stop := []) 90 _ _ _ _ _ ?_⟩
  refine ⟨rfl, rfl, ?_⟩
  show some (Value.int (bcF (nI b))) = some (Value.int (nI (pcN (nI b).toNatClampNeg)))
  rw [bcF_ok b hb, nI_clamp (by omega)]
theorem c_bitCount {l : Launch} {G : mv_G} {A : Nat → Prop} (hG : mv_adk G A) : mv_Con l G A 149 sp_bitCount := mv_con hG 149 mv_k_J6_bitCount_0f7a4 (by decide +kernel) (mv_cs_nil) cb_bitCount
end
section
/-! Pivots; statements; simulations. -/
theorem pcN_lt : ∀ m, m ≤ 5 → ∀ b, b < 2 ^ m → ∀ j, j < m → (nI b >>> (nI j &&& 31)) &&& 1 = 0 → pcN b ≤ m - 1 := by decide +kernel
theorem pcN_5 : ∀ b, b < 32 → pcN b ≤ 5 := by decide +kernel
abbrev shP (I : mv_I) (j : Nat) (q : Int32) (m b : Nat) : Prop := (nI b >>> (nI j &&& 31)) &&& 1 = 0 ∧ sumU I 0 (nI b) m < q ∧ ¬ sumU I 0 (nI b) m + I (100 + 3 * j) 8 < q
def shF (I : mv_I) (j : Nat) (q : Int32) (m : Nat) : Nat → Int64
  | 0 => 0
  | k + 1 => if shP I j q m k then shF I j q m k + lN (facN (pcN k)) * lN (facN (m - 1 - pcN k)) else shF I j q m k
def sp_share : mv_SP := (fun as I _ => SH I ∧ ∃ s q u : Int32, as = [.ref 0, .int s, .int q, .int u],
  fun as I J r I' J' => I = I' ∧ J = J' ∧ ∀ s q u : Int32, as = [.ref 0, .int s, .int q, .int u] → r = some (.int (if sv I s then (if 1 ≤ q ∧ q ≤ 99 then (lowF (shF I s.toNatClampNeg q (I 400 1).toNatClampNeg (2 ^ (I 400 1).toNatClampNeg)) (lN (facN (I 400 1).toNatClampNeg)) u).toInt32 else -2) else -1)))
theorem cb_share : mv_body 75 mv_t_X6_share (mv_cs [(25, sp_at), (84, sp_within), (30, sp_sumOfUps), (149, sp_bitCount), (57, sp_factorial), (67, sp_lowest)]) sp_share := by
  intro as I J h
  obtain ⟨hS, s, q, u, rfl⟩ := h
  obtain ⟨m, hm, hs⟩ := SH_now hS
  have hcm : (I 400 1).toNatClampNeg = m := by rw [hs]; exact nI_clamp (by omega)
  refine ⟨rfl, mv_run_V (stop := [47]) 60 _ _ _ _ _ ?_⟩
  refine ⟨rfl, _, rfl, rfl, rfl, ⟨0, m, by decide, rfl, hm, hs⟩, fun r I1 J1 hp => ?_⟩
  obtain ⟨rfl, rfl, hr⟩ := hp
  rcases at_now hr with ⟨hv, rfl⟩ | ⟨hv, rfl⟩
  · exact ⟨rfl, rfl, fun s' q' u' e => by cases e; rw [if_neg hv]⟩
  · obtain ⟨j, hj, hje, hjc⟩ := sv_in hS hv
    have hjm : j < m := by
      have h1 := hv.2
      rw [hs, hje] at h1
      obtain ⟨j', hj', e⟩ := mv_upto (m := m) (by omega) (nI_pos' (by omega)) h1
      have := (nI_eq (by omega) (by omega)).mp e
      omega
    refine ⟨rfl, trivial, fun r I1 J1 hp => ?_⟩
    obtain ⟨rfl, rfl, rfl⟩ := hp
    refine ⟨fun h3 => ?_, fun h3 => ?_⟩
    · have h3 := b_yes h3
      have h2q : 2 ^ m ≤ 32 := Nat.pow_le_pow_right (j := 5) (by decide) hm
      have h2p := two_pow m (by omega)
      have hot : I 400 1 - 1 = nI (m - 1) := by
        rw [hs, show (1 : Int32) = nI 1 from rfl, pk_sub (by omega)]
      have key : ∀ r k : Nat, k + r = 2 ^ m → mv_V mv_ow mv_swf mv_t_X6_share (mv_cs [(25, sp_at), (84, sp_within), (30, sp_sumOfUps), (149, sp_bitCount), (57, sp_factorial), (67, sp_lowest)]) (sp_share.2 [.ref 0, .int s, .int q, .int u] I J) 47 [(0, .ref 0), (1, .int s), (2, .int q), (3, .int u), (4, .ref (scn s)), (5, .int (I 400 1 - 1)), (6, .long (shF I j q m k)), (8, .int (nI k))] [] I J := by
        intro r
        induction r with
        | zero =>
          intro k hk
          have hk : k = 2 ^ m := hk
          subst hk
          refine mv_run_V (stop := [47]) 40 _ _ _ _ _ ?_
          refine ⟨rfl, _, rfl, rfl, fun h1 => ?_, fun h1 => ?_⟩
          · refine ⟨rfl, _, rfl, rfl, rfl, ⟨m, by omega, by rw [hs]; rfl⟩, fun r1 I2 J2 hp => ?_⟩
            obtain ⟨rfl, rfl, hr⟩ := hp
            have hr := hr m (by omega) (by rw [hs]; rfl)
            subst hr
            refine ⟨rfl, trivial, fun r1 I2 J2 hp => ?_⟩
            obtain ⟨rfl, rfl, rfl⟩ := hp
            exact ⟨rfl, rfl, fun s' q' u' e => by cases e; rw [if_pos hv, if_pos h3, hcm, hjc]⟩
          · rw [hs, h2p] at h1
            exact absurd h1 (nI_nlt (Nat.le_refl _) (by omega))
        | succ r ih =>
          intro k hk
          have hck : (nI k).toNatClampNeg = k := nI_clamp (by omega)
          have h6 := ih (k + 1) (by omega)
          rw [nI_succ, shF] at h6
          refine mv_run_V (stop := [47]) 60 _ _ _ _ _ ?_
          refine ⟨rfl, _, rfl, rfl, fun h1 => ?_, fun h1 => ?_⟩
          · rw [hs, h2p] at h1
            exact absurd (nI_lt (by omega) (by omega)) h1
          · refine ⟨rfl, _, rfl, rfl, rfl, ⟨0, m, by decide, rfl, hm, hs⟩, fun r1 I2 J2 hp => ?_⟩
            obtain ⟨rfl, rfl, hr⟩ := hp
            have hr := hr 0 rfl
            rw [hcm] at hr
            subst hr
            refine ⟨fun h7 => ?_, fun h7 => ?_⟩
            · rw [hje] at h7
              rw [if_neg (fun z => h7 z.1)] at h6
              exact mv_keep [0, 1, 2, 3, 4, 5, 6, 8] h6
            · rw [hje] at h7
              refine ⟨fun h8 => ?_, fun h8 => ?_⟩
              · rw [if_neg (fun z => h8 z.2.1)] at h6
                exact mv_keep [0, 1, 2, 3, 4, 5, 6, 8] h6
              · refine ⟨mv_lay_ch (by omega), fun h9 => ?_, fun h9 => ?_⟩
                · have h9 : sumU I 0 (nI k) m + I (100 + 3 * s.toNatClampNeg) 8 < q := h9
                  rw [hjc] at h9
                  rw [if_neg (fun z => z.2.2 h9)] at h6
                  exact mv_keep [0, 1, 2, 3, 4, 5, 6, 8] h6
                · have h9 : ¬ sumU I 0 (nI k) m + I (100 + 3 * s.toNatClampNeg) 8 < q := h9
                  rw [hjc] at h9
                  have hp1 := pcN_lt m hm k (by omega) j hjm h7
                  rw [if_pos ⟨h7, h8, h9⟩] at h6
                  refine ⟨rfl, ⟨k, by omega, rfl⟩, fun r1 I2 J2 hp => ?_⟩
                  obtain ⟨rfl, rfl, hr⟩ := hp
                  have hr : r1 = some (.int (nI (pcN (nI k).toNatClampNeg))) := hr
                  rw [hck] at hr
                  subst hr
                  refine ⟨rfl, ⟨pcN k, by omega, rfl⟩, fun r1 I2 J2 hp => ?_⟩
                  obtain ⟨rfl, rfl, hr⟩ := hp
                  have hr := hr (pcN k) (by omega) rfl
                  subst hr
                  have hsb : I 400 1 - 1 - nI (pcN k) = nI (m - 1 - pcN k) := by rw [hot, pk_sub (by omega)]
                  refine ⟨rfl, ⟨m - 1 - pcN k, by omega, by rw [hsb]; rfl⟩, fun r1 I2 J2 hp => ?_⟩
                  obtain ⟨rfl, rfl, hr⟩ := hp
                  have hr := hr (m - 1 - pcN k) (by omega) (by rw [hsb]; rfl)
                  subst hr
                  exact mv_keep [0, 1, 2, 3, 4, 5, 6, 8] h6
      refine ⟨rfl, _, rfl, rfl, ?_⟩
      exact key (2 ^ m) 0 (Nat.zero_add _)
    · have h3 := mv_b0.mp h3
      exact ⟨rfl, rfl, fun s' q' u' e => by cases e; rw [if_pos hv, if_neg h3]⟩
theorem c_share {l : Launch} {G : mv_G} {A : Nat → Prop} (hG : mv_adk G A) : mv_Con l G A 75 sp_share := mv_con hG 75 mv_k_X6_share (by decide +kernel) (mv_cs_cons (c_at hG) (mv_cs_cons (c_within hG) (mv_cs_cons (c_sumOfUps hG) (mv_cs_cons (c_bitCount hG) (mv_cs_cons (c_factorial hG) (mv_cs_cons (c_lowest hG) (mv_cs_nil))))))) cb_share
end
section
/-! Statements and simulations: they run on the group 17. -/
/-- all cells but those of the group 17 are as they were -/
def tgOk (I I' : mv_I) : Prop := (∀ a, a ≠ 434 → (a < 355 ∨ 370 ≤ a) → I' a = I a) ∧ (∃ m : Nat, m ≤ 5 ∧ I' 434 1 = nI m) ∧ ∀ i : Nat, i < 5 → ∃ k : Nat, k ≤ 12 ∧ I' (100 + 3 * (85 + i)) 15 = nI k
theorem tgOk_SH {I I' : mv_I} (hS : SH I) (h : tgOk I I') : SH I' := by
  obtain ⟨h1, h2, h3⟩ := h
  refine ⟨fun g hg => ?_, fun c hc => ?_, ?_, ?_, ?_, ?_, fun i hi => ?_⟩
  · by_cases hg' : g = 17
    · subst hg'
      exact h2
    · rw [h1 _ (by omega) (by omega)]
      exact hS.1 g hg
  · by_cases h9 : 85 ≤ c ∧ c < 90
    · obtain ⟨i, rfl⟩ : ∃ i, c = 85 + i := ⟨c - 85, by omega⟩
      exact h3 i (by omega)
    · rw [h1 _ (by omega) (by omega)]
      exact hS.2.1 c hc
  · rw [h1 3 (by decide) (by decide)]
    exact hS.2.2.1
  · rw [h1 3 (by decide) (by decide)]
    exact hS.2.2.2.1
  · rw [h1 1 (by decide) (by decide)]
    exact hS.2.2.2.2.1
  · rw [h1 0 (by decide) (by decide)]
    exact hS.2.2.2.2.2.1
  · rw [h1 (8 + i) (by omega) (by omega)]
    exact hS.2.2.2.2.2.2 i hi
theorem tgOk_rfl {I : mv_I} (hS : SH I) : tgOk I I := ⟨fun _ _ _ => rfl, hS.1 17 (by decide), fun i hi => hS.2.1 (85 + i) (by omega)⟩
theorem copyI_15 {I : mv_I} {o q : Nat} : copyI I o q o 15 = I q 15 := by
  unfold copyI
  rw [mv_sr_ap, if_pos rfl, if_pos (by decide)]
theorem grpN_k {I : mv_I} (hS : SH I) {g : Nat} (hg : g < 18) (hg0 : g ≠ 0) : ∀ k, k ≤ 5 → ∀ c, c < 91 → ∃ n : Nat, n ≤ 12 ∧ grpN g 0 I k (100 + 3 * c) 15 = nI n
  | 0, _ => fun c hc => by
    unfold grpN
    rw [mv_si_ap, if_neg (by omega), mv_si_ap, if_neg (by omega)]
    exact hS.2.1 c hc
  | k + 1, hk => fun c hc => by
    unfold grpN
    by_cases hc2 : c = 5 * g + k
    · subst hc2
      rw [copyI_15]
      exact grpN_k hS hg hg0 k (by omega) _ (by omega)
    · rw [copyI_ne (by omega) (by omega) (by omega)]
      exact grpN_k hS hg hg0 k (by omega) c hc
theorem grpN_sz {I : mv_I} {g h : Nat} (hg : g < 18) : ∀ k, k ≤ 5 → grpN g h I k (400 + 2 * g) 1 = I (400 + 2 * h) 1
  | 0, _ => by
    unfold grpN
    rw [mv_si_ap, if_neg (by omega), mv_si_ap, if_pos ⟨rfl, rfl⟩]
  | k + 1, hk => by
    unfold grpN
    rw [copyI_ne (by omega) (by omega) (by omega)]
    exact grpN_sz hg k (by omega)
theorem tgOk_grp {I : mv_I} (hS : SH I) {m : Nat} (hm : m ≤ 5) : tgOk I (grpN 17 0 I m) := by
  refine ⟨fun a h0 h1 => grpN_ne I h0 (by omega) m hm, ?_, fun i hi => grpN_k hS (by decide) (by decide) m hm _ (by omega)⟩
  have h := grpN_sz (I := I) (g := 17) (h := 0) (by decide) m hm
  obtain ⟨m', hm', e⟩ := SH_now hS
  exact ⟨m', hm', h.trans e⟩
theorem tgOk_add {I I' : mv_I} (h : tgOk I I') {i : Nat} (hi : i < 5) (v : Int32) : tgOk I (addI I' (100 + 3 * (85 + i)) v) := by
  refine ⟨fun a h0 h1 => (addI_ne (by omega) (by omega)).trans (h.1 a h0 h1), ?_, fun k hk => ?_⟩
  · rw [addI_ne (by omega) (by omega)]
    exact h.2.1
  · by_cases hki : k = i
    · subst hki
      exact addI_k (h.2.2 k hk)
    · rw [addI_ne (by omega) (by omega)]
      exact h.2.2 k hk
theorem appI_ne {I : mv_I} {o a : Nat} {v : Int32} (h0 : a ≠ o) (h2 : a ≠ o + 2) : appI I o v a = I a := by
  unfold appI
  rw [mv_sr_ne h0, mv_sr_ne h2]
theorem tgOk_app {I I' : mv_I} (h : tgOk I I') {i : Nat} (hi : i < 5) (v : Int32) : tgOk I (appI I' (100 + 3 * (85 + i)) v) := by
  refine ⟨fun a h0 h1 => (appI_ne (by omega) (by omega)).trans (h.1 a h0 h1), ?_, fun k hk => ?_⟩
  · rw [appI_ne (by omega) (by omega)]
    exact h.2.1
  · by_cases hki : k = i
    · subst hki
      exact appI_k (h.2.2 k hk)
    · rw [appI_ne (by omega) (by omega)]
      exact h.2.2 k hk
theorem tgOk_drop {I I' : mv_I} (h : tgOk I I') {i : Nat} (hi : i < 5) : tgOk I (dropI I' (100 + 3 * (85 + i))) := by
  unfold dropI
  refine ⟨fun a h0 h1 => by rw [mv_si_ne (by omega), mv_si_ne (by omega)]; exact h.1 a h0 h1, ?_, fun k hk => ?_⟩
  · rw [mv_si_ne (by omega), mv_si_ne (by omega)]
    exact h.2.1
  · rw [mv_si_ap, if_neg (by omega), mv_si_ap, if_neg (by omega)]
    exact h.2.2 k hk
theorem tgOk_nn {I I' : mv_I} (h : tgOk I I') {i : Nat} (hi : i < 5) : ¬ I' (100 + 3 * (85 + i)) 15 < 0 := by
  obtain ⟨k, hk, e⟩ := h.2.2 i hi
  rw [e]
  exact nI_pos (by omega)
/-- a statement of the kind h, of the series s, with the value v: what becomes of the group, and whether it holds -/
def stI (h s v : Nat) (I : mv_I) : mv_I := if (I 434 1).toNatClampNeg ≤ s then I else if h = 1 then addI I (100 + 3 * (85 + s)) (nI v) else if h = 2 then appI I (100 + 3 * (85 + s)) (-9) else if h = 3 then dropI I (100 + 3 * (85 + s)) else I
def stB (h s v : Nat) (I : mv_I) : Int32 := if (I 434 1).toNatClampNeg ≤ s then 0 else if h = 1 then 1 else if h = 2 then mv_b (v = 0) else if h = 3 then mv_b (v = 0) else if h = 4 then mv_b (I (100 + 3 * (85 + s)) 8 = nI v) else if h = 5 then mv_b (I (100 + 3 * (85 + s)) 9 = nI v) else if h = 6 then mv_b (I (100 + 3 * (85 + s)) 11 = nI v) else if h = 7 then mv_b (exF I (100 + 3 * (85 + s)) (I (100 + 3 * (85 + s)) 7) = nI v) else 0
def sp_stands : mv_SP := (fun as I _ => (∃ m : Nat, m ≤ 5 ∧ I 434 1 = nI m) ∧ (∀ i : Nat, i < 5 → ¬ I (100 + 3 * (85 + i)) 15 < 0) ∧ ∃ d : Nat, d < 10000 ∧ as = [.ref 0, .int (nI d)],
  fun as I J r I' J' => J = J' ∧ match as with
    | [_, .int d] => r = some (.int (stB (d.toNatClampNeg / 1000) (d.toNatClampNeg / 100 % 10) (d.toNatClampNeg % 100) I)) ∧ I' = stI (d.toNatClampNeg / 1000) (d.toNatClampNeg / 100 % 10) (d.toNatClampNeg % 100) I
    | _ => True)
theorem cb_stands : mv_body 76 mv_t_X6_stands (mv_cs [(25, sp_at), (5, sp_addCount), (7, sp_addGap), (13, sp_dropSums), (14, sp_expectation)]) sp_stands := by
  intro as I J h
  obtain ⟨⟨m, hm, hs⟩, hn, d, hd, rfl⟩ := h
  have hcd : (nI d).toNatClampNeg = d := nI_clamp (by omega)
  have hcm : (I 434 1).toNatClampNeg = m := by rw [hs]; exact nI_clamp (by omega)
  have q1 : nI d - nI d / 100 * 100 = nI (d % 100) := pk_rem (d := 100) (by omega) (by decide) (by decide)
  have q2 : nI d / 100 = nI (d / 100) := pk_div (d := 100) (by omega) (by decide) (by decide)
  have q3 : nI (d / 100) - nI (d / 100) / 10 * 10 = nI (d / 100 % 10) := pk_rem (d := 10) (by omega) (by decide) (by decide)
  have q4 : nI d / 1000 = nI (d / 1000) := pk_div (d := 1000) (by omega) (by decide) (by decide)
  have e1 : ¬ (100 : Int32) = 0 := by decide
  have e2 : ¬ (1000 : Int32) = 0 := by decide
  refine ⟨rfl, mv_run_V (stop := [26]) 30 _ _ _ _ _ ?_⟩
  refine ⟨e1, rfl, _, rfl, e1, mv_nz10, ?_⟩
  rw [q1, q2, q3]
  refine ⟨rfl, rfl, ⟨17, m, by decide, rfl, hm, hs⟩, fun r1 I1 J1 hp => ?_⟩
  obtain ⟨rfl, rfl, hr⟩ := hp
  have hr := hr 17 rfl
  have hs' : d / 100 % 10 < 10 := Nat.mod_lt _ (by decide)
  by_cases hv : m ≤ d / 100 % 10
  · rw [if_neg (fun z => by
      rw [hs] at z
      obtain ⟨j, hj, e⟩ := mv_upto (m := m) (by omega) z.1 z.2
      have := (nI_eq (by omega) (by omega)).mp e
      omega)] at hr
    subst hr
    refine ⟨Or.inl rfl, rfl, ?_, ?_⟩
    · unfold stB
      rw [hcd, hcm, if_pos hv]
    · unfold stI
      rw [hcd, hcm, if_pos hv]
  · have hv2 : d / 100 % 10 < m := by omega
    have hc5 : d / 100 % 10 < 5 := by omega
    rw [hs, if_pos (mv_upto2 (by omega) hv2), nI_clamp (by omega)] at hr
    subst hr
    have hn := hn _ hc5
    have fin : ∀ (z : Int32) (I1 : mv_I), z = stB (d / 1000) (d / 100 % 10) (d % 100) I → I1 = stI (d / 1000) (d / 100 % 10) (d % 100) I → sp_stands.2 [.ref 0, .int (nI d)] I J (some (.int z)) I1 J := by
      intro z I1 h1 h2
      refine ⟨rfl, ?_, ?_⟩
      · rw [hcd, h1]
      · rw [hcd, h2]
    have uB : stB (d / 1000) (d / 100 % 10) (d % 100) I = (if d / 1000 = 1 then 1 else if d / 1000 = 2 then mv_b (d % 100 = 0) else if d / 1000 = 3 then mv_b (d % 100 = 0) else if d / 1000 = 4 then mv_b (I (100 + 3 * (85 + d / 100 % 10)) 8 = nI (d % 100)) else if d / 1000 = 5 then mv_b (I (100 + 3 * (85 + d / 100 % 10)) 9 = nI (d % 100)) else if d / 1000 = 6 then mv_b (I (100 + 3 * (85 + d / 100 % 10)) 11 = nI (d % 100)) else if d / 1000 = 7 then mv_b (exF I (100 + 3 * (85 + d / 100 % 10)) (I (100 + 3 * (85 + d / 100 % 10)) 7) = nI (d % 100)) else 0) := by
      unfold stB
      rw [hcm, if_neg hv]
    have uI : stI (d / 1000) (d / 100 % 10) (d % 100) I = (if d / 1000 = 1 then addI I (100 + 3 * (85 + d / 100 % 10)) (nI (d % 100)) else if d / 1000 = 2 then appI I (100 + 3 * (85 + d / 100 % 10)) (-9) else if d / 1000 = 3 then dropI I (100 + 3 * (85 + d / 100 % 10)) else I) := by
      unfold stI
      rw [hcm, if_neg hv]
    have en : ∀ {k : Nat}, k < 10 → (nI (d / 1000) = nI k ↔ d / 1000 = k) := fun h => nI_eq (by omega) (by omega)
    have ev : nI (d % 100) = 0 ↔ d % 100 = 0 := nI_eq (a := d % 100) (b := 0) (by omega) (by decide)
    have lay := mv_lay_ch (c := 85 + d / 100 % 10) (by omega)
    have step : mv_V mv_ow mv_swf mv_t_X6_stands (mv_cs [(25, sp_at), (5, sp_addCount), (7, sp_addGap), (13, sp_dropSums), (14, sp_expectation)]) (sp_stands.2 [.ref 0, .int (nI d)] I J) 26 [(0, .ref 0), (1, .int (nI d)), (2, .int (nI (d % 100))), (3, .ref (100 + 3 * (85 + d / 100 % 10)))] [] I J := by
      refine mv_run_V (stop := []) 30 _ _ _ _ _ ?_
      refine ⟨e2, ?_⟩
      rw [q4]
      refine ⟨fun h2 => ?_, fun h2 => ?_⟩
      · have h2 := (en (k := 1) (by decide)).mp h2
        refine ⟨rfl, lay, ⟨85 + d / 100 % 10, by omega, rfl, hn⟩, fun r1 I1 J1 hp => ?_⟩
        obtain ⟨rfl, rfl, rfl⟩ := hp
        refine ⟨rfl, Or.inr rfl, fin _ _ ?_ ?_⟩
        · rw [uB, if_pos h2]
        · rw [uI, if_pos h2]
      have h2 : ¬ d / 1000 = 1 := fun z => h2 ((en (k := 1) (by decide)).mpr z)
      refine ⟨fun h3 => ?_, fun h3 => ?_⟩
      · have h3 := (en (k := 2) (by decide)).mp h3
        refine ⟨rfl, lay, ⟨85 + d / 100 % 10, by omega, rfl, hn⟩, fun r1 I1 J1 hp => ?_⟩
        obtain ⟨rfl, rfl, rfl⟩ := hp
        refine ⟨fun h4 => ?_, fun h4 => ?_⟩
        · refine ⟨Or.inl rfl, fin _ _ ?_ ?_⟩
          · rw [uB, if_neg h2, if_pos h3, mv_bf (fun z => h4 (ev.mpr z))]
          · rw [uI, if_neg h2, if_pos h3]
        · refine ⟨Or.inr rfl, fin _ _ ?_ ?_⟩
          · rw [uB, if_neg h2, if_pos h3, mv_bt (ev.mp h4)]
          · rw [uI, if_neg h2, if_pos h3]
      have h3 : ¬ d / 1000 = 2 := fun z => h3 ((en (k := 2) (by decide)).mpr z)
      refine ⟨fun h5 => ?_, fun h5 => ?_⟩
      · have h5 := (en (k := 3) (by decide)).mp h5
        refine ⟨rfl, lay, ⟨85 + d / 100 % 10, by omega, rfl⟩, fun r1 I1 J1 hp => ?_⟩
        obtain ⟨rfl, rfl, rfl⟩ := hp
        refine ⟨fun h4 => ?_, fun h4 => ?_⟩
        · refine ⟨Or.inl rfl, fin _ _ ?_ ?_⟩
          · rw [uB, if_neg h2, if_neg h3, if_pos h5, mv_bf (fun z => h4 (ev.mpr z))]
          · rw [uI, if_neg h2, if_neg h3, if_pos h5]
        · refine ⟨Or.inr rfl, fin _ _ ?_ ?_⟩
          · rw [uB, if_neg h2, if_neg h3, if_pos h5, mv_bt (ev.mp h4)]
          · rw [uI, if_neg h2, if_neg h3, if_pos h5]
      have h5 : ¬ d / 1000 = 3 := fun z => h5 ((en (k := 3) (by decide)).mpr z)
      rw [if_neg h2, if_neg h3, if_neg h5] at uI
      rw [if_neg h2, if_neg h3, if_neg h5] at uB
      refine ⟨fun h6 => ?_, fun h6 => ?_⟩
      · have h6 := (en (k := 4) (by decide)).mp h6
        rw [if_pos h6] at uB
        refine ⟨lay, fun h4 => ?_, fun h4 => ?_⟩
        · exact ⟨Or.inl rfl, fin _ _ (by rw [uB, mv_bf h4]) uI.symm⟩
        · exact ⟨Or.inr rfl, fin _ _ (by rw [uB, mv_bt h4]) uI.symm⟩
      have h6 : ¬ d / 1000 = 4 := fun z => h6 ((en (k := 4) (by decide)).mpr z)
      rw [if_neg h6] at uB
      refine ⟨fun h7 => ?_, fun h7 => ?_⟩
      · have h7 := (en (k := 5) (by decide)).mp h7
        rw [if_pos h7] at uB
        refine ⟨lay, fun h4 => ?_, fun h4 => ?_⟩
        · exact ⟨Or.inl rfl, fin _ _ (by rw [uB, mv_bf h4]) uI.symm⟩
        · exact ⟨Or.inr rfl, fin _ _ (by rw [uB, mv_bt h4]) uI.symm⟩
      have h7 : ¬ d / 1000 = 5 := fun z => h7 ((en (k := 5) (by decide)).mpr z)
      rw [if_neg h7] at uB
      refine ⟨fun h8 => ?_, fun h8 => ?_⟩
      · have h8 := (en (k := 6) (by decide)).mp h8
        rw [if_pos h8] at uB
        refine ⟨lay, fun h4 => ?_, fun h4 => ?_⟩
        · exact ⟨Or.inl rfl, fin _ _ (by rw [uB, mv_bf h4]) uI.symm⟩
        · exact ⟨Or.inr rfl, fin _ _ (by rw [uB, mv_bt h4]) uI.symm⟩
      have h8 : ¬ d / 1000 = 6 := fun z => h8 ((en (k := 6) (by decide)).mpr z)
      rw [if_neg h8] at uB
      refine ⟨fun h9 => ?_, fun h9 => ?_⟩
      · have h9 := (en (k := 7) (by decide)).mp h9
        rw [if_pos h9] at uB
        refine ⟨rfl, lay, ⟨85 + d / 100 % 10, by omega, rfl⟩, fun r1 I1 J1 hp => ?_⟩
        obtain ⟨rfl, rfl, rfl⟩ := hp
        refine ⟨fun h4 => ?_, fun h4 => ?_⟩
        · exact ⟨Or.inl rfl, fin _ _ (by rw [uB, mv_bf h4]) uI.symm⟩
        · exact ⟨Or.inr rfl, fin _ _ (by rw [uB, mv_bt h4]) uI.symm⟩
      have h9 : ¬ d / 1000 = 7 := fun z => h9 ((en (k := 7) (by decide)).mpr z)
      rw [if_neg h9] at uB
      exact ⟨Or.inl rfl, fin _ _ uB.symm uI.symm⟩
    exact step
theorem c_stands {l : Launch} {G : mv_G} {A : Nat → Prop} (hG : mv_adk G A) : mv_Con l G A 76 sp_stands := mv_con hG 76 mv_k_X6_stands (by decide +kernel) (mv_cs_cons (c_at hG) (mv_cs_cons (c_addCount hG) (mv_cs_cons (c_addGap hG) (mv_cs_cons (c_dropSums hG) (mv_cs_cons (c_expectation hG) (mv_cs_nil)))))) cb_stands
end
section
/-! judge and drawn. -/
/-- the row's statement k of n -/
def stD (R n k : Nat) : Nat := R / 10000 ^ (n - 1 - k) % 10000
def jdF (R n : Nat) : Nat → Nat → mv_I → Int32
  | 0, _, _ => -9
  | r + 1, k, T => if stB (stD R n k / 1000) (stD R n k / 100 % 10) (stD R n k % 100) T = 0 then nI k else jdF R n r (k + 1) (stI (stD R n k / 1000) (stD R n k / 100 % 10) (stD R n k % 100) T)
theorem wdF_nat {R : Nat} (hR : R < 2 ^ 63) : ∀ k, wdF (lN R) k = lN (R / 10000 ^ k)
  | 0 => by rw [wdF, Nat.pow_zero, Nat.div_one]
  | k + 1 => by
    have h : R / 10000 ^ k < 2 ^ 63 := Nat.lt_of_le_of_lt (Nat.div_le_self _ _) hR
    rw [wdF, wdF_nat hR k, show (10000 : Int64) = lN 10000 from rfl, pk_lDiv h (by decide) (by decide), Nat.div_div_eq_div_mul, Nat.pow_succ]
theorem lN_eq0 {a : Nat} (h : a < 2 ^ 63) : lN a = 0 ↔ a = 0 := pk_lEQ (b := 0) h (by decide)
theorem stD_lt (R n k : Nat) : stD R n k < 10000 := Nat.mod_lt _ (by decide)
theorem tgOk_st {I I' : mv_I} (h : tgOk I I') (a b c : Nat) : tgOk I (stI a b c I') := by
  unfold stI
  obtain ⟨m, hm, hs⟩ := h.2.1
  rw [hs, nI_clamp (by omega)]
  by_cases hb : m ≤ b
  · rw [if_pos hb]
    exact h
  · rw [if_neg hb]
    by_cases h1 : a = 1
    · rw [if_pos h1]
      exact tgOk_add h (by omega) _
    · rw [if_neg h1]
      by_cases h2 : a = 2
      · rw [if_pos h2]
        exact tgOk_app h (by omega) _
      · rw [if_neg h2]
        by_cases h3 : a = 3
        · rw [if_pos h3]
          exact tgOk_drop h (by omega)
        · rw [if_neg h3]
          exact h
def sp_judge : mv_SP := (fun as I _ => SH I ∧ ∃ (n : Int32) (row : Int64), as = [.ref 0, .int n, .long row],
  fun as I J r I' J' => J = J' ∧ tgOk I I' ∧ ∀ (n : Int32) (row : Int64), as = [.ref 0, .int n, .long row] → if 1 ≤ n ∧ n ≤ 4 then (∀ R : Nat, R < 2 ^ 63 → row = lN R → if R / 10000 ^ n.toNatClampNeg = 0 then r = some (.int (jdF R n.toNatClampNeg n.toNatClampNeg 0 (grpN 17 0 I (I 400 1).toNatClampNeg))) else r = some (.int (-2))) ∧ (row < 0 → r = some (.int (-2))) else r = some (.int (-2)))
theorem cb_judge : mv_body 62 mv_t_X6_judge (mv_cs [(84, sp_within), (85, sp_withoutDoings), (26, sp_groupCopy), (76, sp_stands)]) sp_judge := by
  intro as I J h
  obtain ⟨hS, n, row, rfl⟩ := h
  obtain ⟨m, hm, hs⟩ := SH_now hS
  have hcm : (I 400 1).toNatClampNeg = m := by rw [hs]; exact nI_clamp (by omega)
  refine ⟨rfl, mv_run_V (stop := [42]) 60 _ _ _ _ _ ?_⟩
  refine ⟨rfl, trivial, fun r I1 J1 hp => ?_⟩
  obtain ⟨rfl, rfl, rfl⟩ := hp
  refine ⟨fun h3 => ?_, fun h3 => ?_⟩
  · have h3 := mv_b0.mp h3
    exact ⟨rfl, tgOk_rfl hS, fun n' row' e => by cases e; rw [if_neg h3]⟩
  · have h3 := b_yes h3
    obtain ⟨q, hq1, hq, rfl⟩ := in_nat1 (M := 4) (by decide) h3
    have hcq : (nI q).toNatClampNeg = q := nI_clamp (by omega)
    refine ⟨fun h4 => ?_, fun h4 => ?_⟩
    · have h4 := (lg_cmp_lt _ _).mp h4
      exact ⟨rfl, tgOk_rfl hS, fun n' row' e => by
        cases e
        rw [if_pos h3]
        refine ⟨fun R hR e => ?_, fun _ => rfl⟩
        subst e
        exact absurd h4 (lg_le_not_lt ((pk_lLE (a := 0) (by decide) hR).mpr (Nat.zero_le _)))⟩
    · have h4 : ¬ row < 0 := fun z => h4 ((lg_cmp_lt _ _).mpr z)
      obtain ⟨R, hR, rfl⟩ := pk_lOf h4
      have hR2 : R / 10000 ^ q < 2 ^ 63 := Nat.lt_of_le_of_lt (Nat.div_le_self _ _) hR
      refine ⟨rfl, ⟨q, _, by omega, rfl⟩, fun r I1 J1 hp => ?_⟩
      obtain ⟨rfl, rfl, rfl⟩ := hp
      rw [hcq, wdF_nat hR]
      refine ⟨fun h5 => ?_, fun h5 => ?_⟩
      · have h5 := (lN_eq0 hR2).mp ((lg_cmp_eq _ _).mp h5)
        have key : ∀ r k : Nat, k + r = q → ∀ I1, tgOk I I1 → jdF R q r k I1 = jdF R q q 0 (grpN 17 0 I m) → mv_V mv_ow mv_swf mv_t_X6_judge (mv_cs [(84, sp_within), (85, sp_withoutDoings), (26, sp_groupCopy), (76, sp_stands)]) (sp_judge.2 [.ref 0, .int (nI q), .long (lN R)] I J) 42 [(0, .ref 0), (1, .int (nI q)), (2, .long (lN R)), (4, .int (nI k))] [] I1 J := by
          have fin : ∀ (x : Int32) (I1 : mv_I), tgOk I I1 → x = jdF R q q 0 (grpN 17 0 I m) → sp_judge.2 [.ref 0, .int (nI q), .long (lN R)] I J (some (.int x)) I1 J := by
            intro x I1 hI hx
            refine ⟨rfl, hI, fun n' row' e => ?_⟩
            cases e
            rw [if_pos h3, hcq, hcm]
            refine ⟨fun R' hR' e => ?_, fun z => absurd z (lg_le_not_lt ((pk_lLE (a := 0) (by decide) hR).mpr (Nat.zero_le _)))⟩
            have := (pk_lEQ hR hR').mp e
            subst this
            rw [if_pos h5, hx]
          intro r
          induction r with
          | zero =>
            intro k hk I1 hI hf
            have hk : k = q := hk
            subst hk
            refine mv_run_V (stop := [42]) 40 _ _ _ _ _ ?_
            refine ⟨fun h1 => ?_, fun h1 => ?_⟩
            · exact fin _ _ hI hf
            · exact absurd h1 (nI_nlt (Nat.le_refl _) (by omega))
          | succ r ih =>
            intro k hk I1 hI hf
            rw [jdF] at hf
            have hsb : nI q - 1 - nI k = nI (q - 1 - k) := by rw [show (1 : Int32) = nI 1 from rfl, pk_sub (by omega), pk_sub (by omega)]
            have hck : (nI (q - 1 - k)).toNatClampNeg = q - 1 - k := nI_clamp (by omega)
            refine mv_run_V (stop := [42]) 40 _ _ _ _ _ ?_
            refine ⟨fun h1 => ?_, fun h1 => ?_⟩
            · exact absurd (nI_lt (by omega) (by omega)) h1
            · refine ⟨rfl, ⟨q - 1 - k, lN R, by omega, by rw [hsb]; rfl⟩, fun r1 I2 J2 hp => ?_⟩
              obtain ⟨hr, rfl, rfl⟩ := hp
              have hr : r1 = some (.long (wdF (lN R) (nI q - 1 - nI k).toNatClampNeg)) := hr
              rw [hsb, hck, wdF_nat hR] at hr
              subst hr
              have hR3 : R / 10000 ^ (q - 1 - k) < 2 ^ 63 := Nat.lt_of_le_of_lt (Nat.div_le_self _ _) hR
              have hrem : lN (R / 10000 ^ (q - 1 - k)) - lN (R / 10000 ^ (q - 1 - k)) / 10000 * 10000 = lN (stD R q k) := pk_lRem (b := 10000) hR3 (by decide) (by decide)
              have hdl := stD_lt R q k
              refine ⟨mv_nz4, ?_⟩
              rw [hrem]
              have hcd : (nI (stD R q k)).toNatClampNeg = stD R q k := nI_clamp (by omega)
              refine ⟨rfl, rfl, ⟨hI.2.1, fun i hi => tgOk_nn hI hi, stD R q k, hdl, (by show [Value.ref 0, Value.int (lN (stD R q k)).toInt32] = _; rw [lN_i])⟩, fun r1 I2 J2 hp => ?_⟩
              obtain ⟨rfl, hr, hI2⟩ := hp
              have hr : r1 = some (.int (stB ((lN (stD R q k)).toInt32.toNatClampNeg / 1000) ((lN (stD R q k)).toInt32.toNatClampNeg / 100 % 10) ((lN (stD R q k)).toInt32.toNatClampNeg % 100) I1)) := hr
              have hI2 : I2 = stI ((lN (stD R q k)).toInt32.toNatClampNeg / 1000) ((lN (stD R q k)).toInt32.toNatClampNeg / 100 % 10) ((lN (stD R q k)).toInt32.toNatClampNeg % 100) I1 := hI2
              rw [lN_i, hcd] at hr hI2
              subst hr hI2
              refine ⟨fun h4 => ?_, fun h4 => ?_⟩
              · rw [if_neg h4] at hf
                have h6 := ih (k + 1) (by omega) _ (tgOk_st hI _ _ _) hf
                rw [nI_succ] at h6
                exact mv_keep [0, 1, 2, 4] h6
              · rw [if_pos h4] at hf
                exact fin _ _ (tgOk_st hI _ _ _) hf
        refine ⟨rfl, _, rfl, rfl, _, rfl, rfl, rfl, ⟨17, 0, m, by decide, by decide, by decide, rfl, rfl, hm, hs⟩, fun r1 I1 J1 hp => ?_⟩
        obtain ⟨rfl, rfl, hg⟩ := hp
        have hg := hg 17 0 rfl rfl
        rw [hcm] at hg
        subst hg
        exact key q 0 (Nat.zero_add q) _ (tgOk_grp hS hm) rfl
      · have h5 : ¬ R / 10000 ^ q = 0 := fun z => h5 ((lg_cmp_eq _ _).mpr ((lN_eq0 hR2).mpr z))
        exact ⟨rfl, tgOk_rfl hS, fun n' row' e => by
          cases e
          rw [if_pos h3, hcq]
          refine ⟨fun R' hR' e => ?_, fun z => rfl⟩
          have := (pk_lEQ hR hR').mp e
          subst this
          rw [if_neg h5]⟩
theorem c_judge {l : Launch} {G : mv_G} {A : Nat → Prop} (hG : mv_adk G A) : mv_Con l G A 62 sp_judge := mv_con hG 62 mv_k_X6_judge (by decide +kernel) (mv_cs_cons (c_within hG) (mv_cs_cons (c_withoutDoings hG) (mv_cs_cons (c_groupCopy hG) (mv_cs_cons (c_stands hG) (mv_cs_nil))))) cb_judge
end
section
/-! drawn. -/
def lcgF (x : Int64) : Int64 := x * 6364136223846793005 + 1442695040888963407
def sdN (x : Int64) : Nat → Int64
  | 0 => x
  | k + 1 => lcgF (sdN x k)
def wOf (x : Int64) : Nat := x.toUInt64.toNat / 2 ^ 33
theorem wOf_lt (x : Int64) : wOf x < 2 ^ 31 := by
  have : x.toUInt64.toNat < 2 ^ 64 := x.toUInt64.toNat_lt
  unfold wOf
  omega
theorem wOf_ok (x : Int64) : ((x.toUInt64 >>> ((33 : Int32).toInt64.toUInt64 &&& Int64.toUInt64 63)).toInt64).toInt32 = nI (wOf x) := by
  have h1 : ((33 : Int32).toInt64.toUInt64 &&& Int64.toUInt64 63) = 33 := by decide
  rw [h1]
  have h2 : (x.toUInt64 >>> 33).toInt64 = lN (wOf x) := by
    apply Int64.toBitVec_inj.mp
    apply BitVec.eq_of_toNat_eq
    have hw := wOf_lt x
    show (x.toUInt64 >>> 33).toNat = (BitVec.ofNat 64 (wOf x)).toNat
    rw [BitVec.toNat_ofNat, Nat.mod_eq_of_lt (show wOf x < 2 ^ 64 by omega), UInt64.toNat_shiftRight]
    show x.toUInt64.toNat >>> 33 = _
    rw [Nat.shiftRight_eq_div_pow]
    rfl
  rw [h2, lN_i]
def drF (m : Nat) : Nat → Int64 → mv_I → Int32 → Int32
  | 0, _, _, al => al
  | r + 1, x, T, al => if m = 0 then drF m r (lcgF x) T al else if addK T (100 + 3 * (85 + wOf (lcgF x) / 64 % m)) (nI (wOf (lcgF x) % 40)) = 0 then drF m r (lcgF x) (addI T (100 + 3 * (85 + wOf (lcgF x) / 64 % m)) (nI (wOf (lcgF x) % 40))) al else drF m r (lcgF x) (addI T (100 + 3 * (85 + wOf (lcgF x) / 64 % m)) (nI (wOf (lcgF x) % 40))) (al + 1)
theorem mv_sj_self (J : mv_J) (k j : Nat) : mv_sj J k j (J k j) = J := by
  funext a b
  unfold mv_sj
  split
  · rename_i h; rw [h.1, h.2]
  · rfl
theorem mv_sj_two (J : mv_J) (k j : Nat) (x y : Int64) : mv_sj (mv_sj J k j x) k j y = mv_sj J k j y := by
  funext a b
  unfold mv_sj
  split <;> rfl
def sp_drawn : mv_SP := (fun as I _ => SH I ∧ ∃ n : Int32, as = [.ref 0, .int n],
  fun as I J r I' J' => tgOk I I' ∧ match as with
    | [_, .int n] => if 1 ≤ n ∧ n ≤ 20 then J' = mv_sj J 0 7 (sdN (J 0 7) n.toNatClampNeg) ∧ r = some (.int (drF (I 400 1).toNatClampNeg n.toNatClampNeg (J 0 7) (grpN 17 0 I (I 400 1).toNatClampNeg) 0)) else J' = J ∧ r = some (.int (-2))
    | _ => True)
theorem cb_drawn : mv_body 56 mv_t_X6_drawn (mv_cs [(84, sp_within), (26, sp_groupCopy), (25, sp_at), (5, sp_addCount)]) sp_drawn := by
  intro as I J h
  obtain ⟨hS, n, rfl⟩ := h
  obtain ⟨m, hm, hs⟩ := SH_now hS
  have hcm : (I 400 1).toNatClampNeg = m := by rw [hs]; exact nI_clamp (by omega)
  refine ⟨rfl, mv_run_V (stop := [28]) 60 _ _ _ _ _ ?_⟩
  refine ⟨rfl, trivial, fun r I1 J1 hp => ?_⟩
  obtain ⟨rfl, rfl, rfl⟩ := hp
  refine ⟨fun h3 => ?_, fun h3 => ?_⟩
  · have h3 := b_yes h3
    obtain ⟨q, hq1, hq, rfl⟩ := in_nat1 (M := 20) (by decide) h3
    have hcq : (nI q).toNatClampNeg = q := nI_clamp (by omega)
    have key : ∀ r k : Nat, k + r = q → ∀ I1 al, tgOk I I1 → I1 434 1 = nI m → drF m r (sdN (J 0 7) k) I1 al = drF m q (J 0 7) (grpN 17 0 I m) 0 → mv_V mv_ow mv_swf mv_t_X6_drawn (mv_cs [(84, sp_within), (26, sp_groupCopy), (25, sp_at), (5, sp_addCount)]) (sp_drawn.2 [.ref 0, .int (nI q)] I J) 28 [(0, .ref 0), (1, .int (nI q)), (2, .int al), (3, .int (nI k))] [] I1 (mv_sj J 0 7 (sdN (J 0 7) k)) := by
      intro r
      induction r with
      | zero =>
        intro k hk I1 al hI h4 hf
        have hk : k = q := hk
        subst hk
        refine mv_run_V (stop := [28]) 40 _ _ _ _ _ ?_
        refine ⟨fun h1 => ?_, fun h1 => ?_⟩
        · refine ⟨hI, ?_⟩
          show if 1 ≤ nI k ∧ nI k ≤ 20 then _ else _
          rw [if_pos h3, hcq, hcm]
          refine ⟨rfl, ?_⟩
          show some (Value.int al) = _
          rw [← hf]
          rfl
        · exact absurd h1 (nI_nlt (Nat.le_refl _) (by omega))
      | succ r ih =>
        intro k hk I1 al hI h4 hf
        rw [drF] at hf
        have hsd : lcgF (sdN (J 0 7) k) = sdN (J 0 7) (k + 1) := rfl
        have hw := wOf_lt (sdN (J 0 7) (k + 1))
        have hJ : mv_sj (mv_sj J 0 7 (sdN (J 0 7) k)) 0 7 (mv_sj J 0 7 (sdN (J 0 7) k) 0 7 * 6364136223846793005 + 1442695040888963407) = mv_sj J 0 7 (sdN (J 0 7) (k + 1)) := by
          rw [mv_sj_two, show mv_sj J 0 7 (sdN (J 0 7) k) 0 7 = sdN (J 0 7) k from if_pos ⟨rfl, rfl⟩, sdN, lcgF]
        rw [hsd] at hf
        have hsj : mv_sj J 0 7 (sdN (J 0 7) (k + 1)) 0 7 = sdN (J 0 7) (k + 1) := if_pos ⟨rfl, rfl⟩
        have e64 : ¬ (64 : Int32) = 0 := by decide
        have e40 : ¬ (40 : Int32) = 0 := by decide
        have k59 : ∀ (w : Nat) (W : Int32) (x : Int64), W = nI w → w < 2 ^ 31 → (∀ (I2 : mv_I) (al2 : Int32), tgOk I I2 → I2 434 1 = nI m → (if m = 0 then drF m r x I2 al2 else drF m r x I2 al2) = drF m q (J 0 7) (grpN 17 0 I m) 0 → mv_V mv_ow mv_swf mv_t_X6_drawn (mv_cs [(84, sp_within), (26, sp_groupCopy), (25, sp_at), (5, sp_addCount)]) (sp_drawn.2 [.ref 0, .int (nI q)] I J) 28 [(0, .ref 0), (1, .int (nI q)), (2, .int al2), (3, .int (nI k + 1))] [] I2 (mv_sj J 0 7 x)) → (if m = 0 then drF m r x I1 al else if addK I1 (100 + 3 * (85 + w / 64 % m)) (nI (w % 40)) = 0 then drF m r x (addI I1 (100 + 3 * (85 + w / 64 % m)) (nI (w % 40))) al else drF m r x (addI I1 (100 + 3 * (85 + w / 64 % m)) (nI (w % 40))) (al + 1)) = drF m q (J 0 7) (grpN 17 0 I m) 0 → mv_V mv_ow mv_swf mv_t_X6_drawn (mv_cs [(84, sp_within), (26, sp_groupCopy), (25, sp_at), (5, sp_addCount)]) (sp_drawn.2 [.ref 0, .int (nI q)] I J) 59 [(0, .ref 0), (1, .int (nI q)), (2, .int al), (3, .int (nI k)), (4, .int W)] [] I1 (mv_sj J 0 7 x) := by
          intro w W x hW hw nxt hf
          subst hW
          refine mv_run_V (stop := [28]) 80 _ _ _ _ _ ?_
          refine ⟨rfl, _, rfl, rfl, fun h2 => ?_, fun h2 => ?_⟩
          · rw [h4] at h2
            have hm0 : m = 0 := by
              rcases Nat.eq_zero_or_pos m with z | z
              · exact z
              · exact absurd (nI_lt (a := 0) z (by omega)) h2
            rw [if_pos hm0] at hf
            exact mv_keep [0, 1, 2, 3] (nxt I1 al hI h4 (by rw [if_pos hm0]; exact hf))
          · have hm0 : 0 < m := by
              rcases Nat.eq_zero_or_pos m with z | z
              · rw [h4, z] at h2
                exact absurd h2 (by decide)
              · exact z
            have hnz : ¬ I1 434 1 = 0 := by
              rw [h4]
              exact fun z => absurd ((nI_eq (b := 0) (by omega) (by decide)).mp z) (by omega)
            have hlt : w / 64 % m < m := Nat.mod_lt _ hm0
            rw [if_neg (by omega)] at hf
            refine ⟨rfl, _, rfl, e64, rfl, _, rfl, rfl, hnz, rfl, rfl, ⟨17, m, by decide, rfl, hm, h4⟩, fun r1 I2 J2 hp => ?_⟩
            obtain ⟨rfl, rfl, hr⟩ := hp
            have hr := hr 17 rfl
            have q1 : nI w / 64 = nI (w / 64) := pk_div (d := 64) hw (by decide) (by decide)
            rw [q1, h4, pk_rem (by omega) hm0 (by omega), if_pos (mv_upto2 (by omega) hlt), nI_clamp (by omega)] at hr
            subst hr
            have hn := tgOk_nn hI (i := w / 64 % m) (by omega)
            refine ⟨e40, rfl, mv_lay_ch (by omega), ⟨85 + w / 64 % m, by omega, rfl, hn⟩, fun r1 I2 J2 hp => ?_⟩
            obtain ⟨hr, hI2, rfl⟩ := hp
            have q2 : nI w - nI w / 40 * 40 = nI (w % 40) := pk_rem (d := 40) hw (by decide) (by decide)
            have hr : r1 = some (.int (addK I1 (100 + 3 * (85 + w / 64 % m)) (nI w - nI w / 40 * 40))) := hr
            have hI2 : I2 = addI I1 (100 + 3 * (85 + w / 64 % m)) (nI w - nI w / 40 * 40) := hI2
            rw [q2] at hr hI2
            subst hr hI2
            have hI5 := tgOk_add hI (i := w / 64 % m) (by omega) (nI (w % 40))
            have h45 : addI I1 (100 + 3 * (85 + w / 64 % m)) (nI (w % 40)) 434 1 = nI m := by
              rw [addI_ne (by omega) (by omega)]
              exact h4
            refine ⟨fun h7 => ?_, fun h7 => ?_⟩
            · rw [if_pos h7] at hf
              exact mv_keep [0, 1, 2, 3] (nxt _ al hI5 h45 (by rw [if_neg (by omega)]; exact hf))
            · rw [if_neg h7] at hf
              exact mv_keep [0, 1, 2, 3] (nxt _ (al + 1) hI5 h45 (by rw [if_neg (by omega)]; exact hf))
        refine mv_run_V (stop := [28, 59]) 80 _ _ _ _ _ ?_
        refine ⟨fun h1 => ?_, fun h1 => ?_⟩
        · exact absurd (nI_lt (by omega) (by omega)) h1
        · refine ⟨rfl, rfl, ?_⟩
          rw [hJ]
          refine ⟨rfl, k59 (wOf (sdN (J 0 7) (k + 1))) _ (sdN (J 0 7) (k + 1)) ?_ hw (fun I2 al2 a1 a2 a3 => ?_) hf⟩
          · rw [hsj]
            exact wOf_ok _
          · rw [ite_self] at a3
            have h6 := ih (k + 1) (by omega) I2 al2 a1 a2 a3
            rw [nI_succ] at h6
            exact h6
    refine ⟨rfl, _, rfl, rfl, _, rfl, rfl, rfl, ⟨17, 0, m, by decide, by decide, by decide, rfl, rfl, hm, hs⟩, fun r1 I1 J1 hp => ?_⟩
    obtain ⟨rfl, rfl, hg⟩ := hp
    have hg := hg 17 0 rfl rfl
    rw [hcm] at hg
    subst hg
    have h6 := key q 0 (Nat.zero_add q) (grpN 17 0 I m) 0 (tgOk_grp hS hm) ((grpN_sz (by decide) m hm).trans hs) rfl
    rw [show sdN (J 0 7) 0 = J 0 7 from rfl, mv_sj_self] at h6
    exact h6
  · have h3 := mv_b0.mp h3
    refine ⟨tgOk_rfl hS, ?_⟩
    show if 1 ≤ n ∧ n ≤ 20 then _ else _
    rw [if_neg h3]
    exact ⟨rfl, rfl⟩
theorem c_drawn {l : Launch} {G : mv_G} {A : Nat → Prop} (hG : mv_adk G A) : mv_Con l G A 56 sp_drawn := mv_con hG 56 mv_k_X6_drawn (by decide +kernel) (mv_cs_cons (c_within hG) (mv_cs_cons (c_groupCopy hG) (mv_cs_cons (c_at hG) (mv_cs_cons (c_addCount hG) (mv_cs_nil))))) cb_drawn
end
section
/-! Run lengths: equations and their elimination. -/
theorem mv_lay_rl {i : Nat} (h : i < 6) : mv_lay (16 + i) = (4, 7, 0) := by
  have : ∀ i, i < 6 → mv_lay (16 + i) = (4, 7, 0) := by decide +kernel
  exact this i h
theorem mv_rf_rl {i : Nat} (h : i < 6) : mv_rf 15 i = some (16 + i) := by
  have : ∀ i, i < 6 → mv_rf 15 i = some (16 + i) := by decide +kernel
  exact this i h
theorem mv_sj_ap {J : mv_J} {k j a b : Nat} {x : Int64} : mv_sj J k j x a b = if a = k ∧ b = j then x else J a b := rfl
/-- whether a step from k on climbs -/
def clF (s w : Int32) : Nat → Nat → Int32
  | 0, _ => 0
  | r + 1, k => if s < nI k - 2 ∧ 0 < chF w k then 1 else clF s w r (k + 1)
def sp_climbs : mv_SP := (fun as _ _ => ∃ s w : Int32, as = [.int s, .int w],
  fun as I J r I' J' => I = I' ∧ J = J' ∧ match as with
    | [.int s, .int w] => r = some (.int (clF s w 5 0))
    | _ => True)
theorem cb_climbs : mv_body 32 mv_t_X3_climbs (mv_cs [(31, sp_chance)]) sp_climbs := by
  intro as I J h
  obtain ⟨s, w, rfl⟩ := h
  have key : ∀ r k : Nat, k + r = 5 → clF s w r k = clF s w 5 0 → mv_V mv_ow mv_swf mv_t_X3_climbs (mv_cs [(31, sp_chance)]) (sp_climbs.2 [.int s, .int w] I J) 2 [(0, .int s), (1, .int w), (2, .int (nI k))] [] I J := by
    intro r
    induction r with
    | zero =>
      intro k hk hf
      have hk : k = 5 := hk
      subst hk
      refine mv_run_V (stop := [2]) 20 _ _ _ _ _ ?_
      refine ⟨fun h1 => ?_, fun h1 => ?_⟩
      · refine ⟨Or.inl rfl, rfl, rfl, ?_⟩
        show some (Value.int 0) = _
        rw [← hf]
        rfl
      · have h1 : nI 5 < nI 5 := h1
        exact absurd h1 (nI_nlt (Nat.le_refl _) (by decide))
    | succ r ih =>
      intro k hk hf
      rw [clF] at hf
      refine mv_run_V (stop := [2]) 20 _ _ _ _ _ ?_
      refine ⟨fun h1 => ?_, fun h1 => ?_⟩
      · have h1 : ¬ nI k < nI 5 := h1
        exact absurd (nI_lt (by omega) (by decide)) h1
      · have nx := ih (k + 1) (by omega)
        rw [nI_succ] at nx
        refine ⟨fun h2 => ?_, fun h2 => ?_⟩
        · rw [if_neg (fun z => h2 z.1)] at hf
          exact nx hf
        · refine ⟨rfl, ⟨w, k, by omega, rfl⟩, fun r1 I2 J2 hp => ?_⟩
          obtain ⟨rfl, rfl, hr⟩ := hp
          have hr := hr w k (by omega) rfl
          subst hr
          refine ⟨fun h4 => ?_, fun h4 => ?_⟩
          · rw [if_neg (fun z => h4 z.2)] at hf
            exact nx hf
          · rw [if_pos ⟨h2, h4⟩] at hf
            refine ⟨Or.inr rfl, rfl, rfl, ?_⟩
            show some (Value.int 1) = _
            rw [← hf]
  refine ⟨rfl, mv_run_V (stop := [2]) 20 _ _ _ _ _ ?_⟩
  exact key 5 0 rfl rfl
theorem c_climbs {l : Launch} {G : mv_G} {A : Nat → Prop} (hG : mv_adk G A) : mv_Con l G A 32 sp_climbs := mv_con hG 32 mv_k_X3_climbs (by decide +kernel) (mv_cs_cons (c_chance hG) (mv_cs_nil)) cb_climbs
/-- the equation of a state, after k steps, the place bd its right side -/
def peF (st s bd : Nat) (w : Int32) : Nat → Nat → Int64
  | 0, j => if j = bd ∨ j = bd - 1 - st then 10 else 0
  | k + 1, j => if st + k - 2 - s < bd ∧ j = bd - 1 - (st + k - 2 - s) then peF st s bd w k j - (chF w k).toInt64 else peF st s bd w k j
theorem mx_sub {a b c : Nat} (ha : a < 1000) (hb : b < 1000) (hc : c < 1000) : mv_mx 0 (nI a - nI b - nI c) = nI (a - b - c) := by
  have e0 : (0 : Int32).toInt = 0 := rfl
  have ea := nI_toInt (n := a) (by omega)
  have eb := nI_toInt (n := b) (by omega)
  have ec := nI_toInt (n := c) (by omega)
  have e1 : (nI a - nI b).toInt = (a : Int) - b := by rw [fb_subI (by omega) (by omega), ea, eb]
  have e2 : (nI a - nI b - nI c).toInt = (a : Int) - b - c := by rw [fb_subI (by omega) (by omega), e1, ec]
  unfold mv_mx
  by_cases h : 0 < nI a - nI b - nI c
  · rw [if_pos h, fa_eq, e2, nI_toInt (by omega)]
    rw [fa_lt, e0, e2] at h
    omega
  · rw [if_neg h, fa_eq, e0, nI_toInt (by omega)]
    rw [fa_lt, e0, e2] at h
    omega
def sp_putEq : mv_SP := (fun as _ _ => ∃ (st s bd : Nat) (w : Int32), st < bd ∧ bd ≤ 6 ∧ s ≤ 9 ∧ as = [.ref 14, .int (nI st), .int (nI s), .int (nI bd), .int w],
  fun as I J r I' J' => r = none ∧ I = I' ∧ match as with
    | [_, .int st, .int s, .int bd, .int w] => (∀ j : Nat, j ≤ bd.toNatClampNeg → J' (16 + (bd.toNatClampNeg - 1 - st.toNatClampNeg)) j = peF st.toNatClampNeg s.toNatClampNeg bd.toNatClampNeg w 5 j) ∧ ∀ a : Nat, a ≠ 16 + (bd.toNatClampNeg - 1 - st.toNatClampNeg) → J' a = J a
    | _ => True)
theorem cb_putEq : mv_body 35 mv_t_X3_putEquation (mv_cs [(150, sp_max), (31, sp_chance)]) sp_putEq := by
  intro as I J h
  obtain ⟨st, s, bd, w, hst, hbd, hs, rfl⟩ := h
  have c1 : (nI st).toNatClampNeg = st := nI_clamp (by omega)
  have c2 : (nI s).toNatClampNeg = s := nI_clamp (by omega)
  have c3 : (nI bd).toNatClampNeg = bd := nI_clamp (by omega)
  have hix : nI bd - 1 - nI st = nI (bd - 1 - st) := by rw [show (1 : Int32) = nI 1 from rfl, pk_sub (by omega), pk_sub (by omega)]
  have hic : (nI (bd - 1 - st)).toNatClampNeg = bd - 1 - st := nI_clamp (by omega)
  have lay : mv_lay (16 + (bd - 1 - st)) = (4, 7, 0) := mv_lay_rl (by omega)
  have k54 : ∀ r k : Nat, k + r = 5 → ∀ J1 : mv_J, (∀ j : Nat, j ≤ bd → J1 (16 + (bd - 1 - st)) j = peF st s bd w k j) → (∀ a : Nat, a ≠ 16 + (bd - 1 - st) → J1 a = J a) → mv_V mv_ow mv_swf mv_t_X3_putEquation (mv_cs [(150, sp_max), (31, sp_chance)]) (sp_putEq.2 [.ref 14, .int (nI st), .int (nI s), .int (nI bd), .int w] I J) 54 [(0, .ref 14), (1, .int (nI st)), (2, .int (nI s)), (3, .int (nI bd)), (4, .int w), (5, .ref (16 + (bd - 1 - st))), (6, .int (nI k))] [] I J1 := by
    intro r
    induction r with
    | zero =>
      intro k hk J1 h1 h2
      have hk : k = 5 := hk
      subst hk
      refine mv_run_V (stop := [54]) 40 _ _ _ _ _ ?_
      refine ⟨fun h3 => ?_, fun h3 => ?_⟩
      · refine ⟨rfl, rfl, ?_⟩
        show (∀ j : Nat, j ≤ (nI bd).toNatClampNeg → _) ∧ ∀ a : Nat, a ≠ _ → _
        rw [c1, c2, c3]
        exact ⟨h1, h2⟩
      · have h3 : nI 5 < nI 5 := h3
        exact absurd h3 (nI_nlt (Nat.le_refl _) (by decide))
    | succ r ih =>
      intro k hk J1 h1 h2
      have hth : mv_mx 0 (nI st + nI k - 2 - nI s) = nI (st + k - 2 - s) := by
        rw [nI_add]
        exact mx_sub (b := 2) (by omega) (by decide) (by omega)
      refine mv_run_V (stop := [54]) 40 _ _ _ _ _ ?_
      refine ⟨fun h3 => ?_, fun h3 => ?_⟩
      · have h3 : ¬ nI k < nI 5 := h3
        exact absurd (nI_lt (by omega) (by decide)) h3
      · refine ⟨rfl, trivial, fun r1 I2 J2 hp => ?_⟩
        obtain ⟨rfl, rfl, rfl⟩ := hp
        rw [hth]
        refine ⟨fun h4 => ?_, fun h4 => ?_⟩
        · have h4 : ¬ st + k - 2 - s < bd := fun z => h4 (nI_lt z (by omega))
          have h5 := ih (k + 1) (by omega) J1 (fun j hj => by rw [h1 j hj, peF, if_neg (fun z => h4 z.1)]) h2
          rw [nI_succ] at h5
          exact mv_keep [0, 1, 2, 3, 4, 5, 6] h5
        · have h4 : st + k - 2 - s < bd := (nI_ltI (by omega) (by omega)).mp h4
          have hix2 : nI bd - 1 - nI (st + k - 2 - s) = nI (bd - 1 - (st + k - 2 - s)) := by rw [show (1 : Int32) = nI 1 from rfl, pk_sub (by omega), pk_sub (by omega)]
          have hic2 : (nI (bd - 1 - (st + k - 2 - s))).toNatClampNeg = bd - 1 - (st + k - 2 - s) := nI_clamp (by omega)
          refine ⟨_, lay, (by rw [hix2]; exact vp_in_nI (by omega) (by decide)), rfl, ⟨w, k, by omega, rfl⟩, fun r1 I2 J2 hp => ?_⟩
          obtain ⟨rfl, rfl, hr⟩ := hp
          have hr := hr w k (by omega) rfl
          subst hr
          rw [hix2, hic2]
          refine ⟨_, lay, (vp_in_nI (by omega) (by decide)), ?_⟩
          rw [hic2]
          have h5 := ih (k + 1) (by omega) (mv_sj J1 (16 + (bd - 1 - st)) (bd - 1 - (st + k - 2 - s)) (J1 (16 + (bd - 1 - st)) (bd - 1 - (st + k - 2 - s)) - (chF w k).toInt64)) (fun j hj => by
            rw [mv_sj_ap, peF]
            by_cases hjj : j = bd - 1 - (st + k - 2 - s)
            · rw [if_pos ⟨rfl, hjj⟩, if_pos ⟨h4, hjj⟩, ← hjj, h1 j hj]
            · rw [if_neg (fun z => hjj z.2), if_neg (fun z => hjj z.2), h1 j hj]) (fun a ha => (mv_sj_ne ha).trans (h2 a ha))
          rw [nI_succ] at h5
          exact mv_keep [0, 1, 2, 3, 4, 5, 6] h5
  have k15 : ∀ r k : Nat, k + r = bd → ∀ J1 : mv_J, (∀ j : Nat, j < k → J1 (16 + (bd - 1 - st)) j = 0) → (∀ a : Nat, a ≠ 16 + (bd - 1 - st) → J1 a = J a) → mv_V mv_ow mv_swf mv_t_X3_putEquation (mv_cs [(150, sp_max), (31, sp_chance)]) (sp_putEq.2 [.ref 14, .int (nI st), .int (nI s), .int (nI bd), .int w] I J) 15 [(0, .ref 14), (1, .int (nI st)), (2, .int (nI s)), (3, .int (nI bd)), (4, .int w), (5, .ref (16 + (bd - 1 - st))), (6, .int (nI k))] [] I J1 := by
    intro r
    induction r with
    | zero =>
      intro k hk J1 h1 h2
      have hk : k = bd := hk
      subst hk
      refine mv_run_V (stop := [15, 54]) 40 _ _ _ _ _ ?_
      refine ⟨fun h3 => ?_, fun h3 => ?_⟩
      · refine ⟨_, lay, (by rw [hix]; exact vp_in_nI (by omega) (by decide)), ?_⟩
        rw [hix, hic]
        refine ⟨_, lay, vp_in_nI (by omega) (by decide), ?_⟩
        rw [c3]
        refine k54 5 0 rfl _ (fun j hj => ?_) (fun a ha => (mv_sj_ne ha).trans ((mv_sj_ne ha).trans (h2 a ha)))
        rw [mv_sj_ap, mv_sj_ap, peF]
        by_cases hj1 : j = k
        · rw [if_pos ⟨rfl, hj1⟩, if_pos (Or.inl hj1)]
        · rw [if_neg (fun z => hj1 z.2)]
          by_cases hj2 : j = k - 1 - st
          · rw [if_pos ⟨rfl, hj2⟩, if_pos (Or.inr hj2)]
          · rw [if_neg (fun z => hj2 z.2), if_neg (fun z => z.elim hj1 hj2), h1 j (by omega)]
      · exact absurd h3 (nI_nlt (Nat.le_refl _) (by omega))
    | succ r ih =>
      intro k hk J1 h1 h2
      have hck : (nI k).toNatClampNeg = k := nI_clamp (by omega)
      refine mv_run_V (stop := [15, 54]) 40 _ _ _ _ _ ?_
      refine ⟨fun h3 => ?_, fun h3 => ?_⟩
      · exact absurd (nI_lt (by omega) (by omega)) h3
      · refine ⟨_, lay, vp_in_nI (by omega) (by decide), ?_⟩
        rw [hck]
        have h5 := ih (k + 1) (by omega) (mv_sj J1 (16 + (bd - 1 - st)) k 0) (fun j hj => by
          rw [mv_sj_ap]
          by_cases hjk : j = k
          · rw [if_pos ⟨rfl, hjk⟩]
          · rw [if_neg (fun z => hjk z.2), h1 j (by omega)]) (fun a ha => (mv_sj_ne ha).trans (h2 a ha))
        rw [nI_succ] at h5
        exact h5
  refine ⟨rfl, mv_run_V (stop := [15]) 40 _ _ _ _ _ ?_⟩
  refine ⟨rfl, _, rfl, _, rfl, (by rw [hix]; exact vp_in_nI (by omega) (by decide)), _, (by rw [hix, hic]; exact mv_rf_rl (by omega)), ?_⟩
  exact k15 bd 0 (Nat.zero_add bd) J (fun j hj => absurd hj (Nat.not_lt_zero j)) (fun _ _ => rfl)
theorem c_putEq {l : Launch} {G : mv_G} {A : Nat → Prop} (hG : mv_adk G A) : mv_Con l G A 35 sp_putEq := mv_con hG 35 mv_k_X3_putEquation (by decide +kernel) (mv_cs_max (mv_cs_cons (c_chance hG) (mv_cs_nil))) cb_putEq
end
section
/-! Run lengths: elimination, solve, length. -/
abbrev mv_Q : Type := Nat → Nat → Int64
def elX (k : Nat) (la : Int64) (M : mv_Q) (i j : Nat) : Int64 := if la = 0 then M i j * M k k - M i k * M k j else (M i j * M k k - M i k * M k j) / la
def elM (n k : Nat) (la : Int64) (M : mv_Q) : mv_Q := fun i j => if (k < i ∧ i < n) ∧ k < j ∧ j ≤ n then elX k la M i j else M i j
def elS (n : Nat) (M : mv_Q) : Nat → Int64 × mv_Q
  | 0 => (1, M)
  | k + 1 => ((elS n M k).2 k k, elM n k (elS n M k).1 (elS n M k).2)
theorem elS_congr {n : Nat} {M M' : mv_Q} (h : ∀ i, i < n → ∀ j, j ≤ n → M i j = M' i j) : ∀ k, k < n → (elS n M k).1 = (elS n M' k).1 ∧ ∀ i, i < n → ∀ j, j ≤ n → (elS n M k).2 i j = (elS n M' k).2 i j
  | 0, _ => ⟨rfl, h⟩
  | k + 1, hk => by
    obtain ⟨h1, h2⟩ := elS_congr h k (by omega)
    refine ⟨h2 k (by omega) k (by omega), fun i hi j hj => ?_⟩
    show elM n k (elS n M k).1 (elS n M k).2 i j = elM n k (elS n M' k).1 (elS n M' k).2 i j
    unfold elM elX
    rw [h1, h2 i hi j hj, h2 k (by omega) k (by omega), h2 i hi k (by omega), h2 k (by omega) j hj]
/-- the cells of the class's rows alone differ -/
def rlOk (J J' : mv_J) : Prop := ∀ a, (a < 14 ∨ a = 15 ∨ 22 ≤ a) → J' a = J a
theorem rlOk_sj {J J' : mv_J} (h : rlOk J J') {k j : Nat} {x : Int64} (hk : ¬ (k < 14 ∨ k = 15 ∨ 22 ≤ k)) : rlOk J (mv_sj J' k j x) := fun a ha => (mv_sj_ne (by omega)).trans (h a ha)
theorem rlOk_trans {J J' J2 : mv_J} (h : rlOk J J') (h2 : rlOk J' J2) : rlOk J J2 := fun a ha => (h2 a ha).trans (h a ha)
def sp_elim : mv_SP := (fun as _ _ => ∃ n : Nat, 1 ≤ n ∧ n ≤ 6 ∧ as = [.ref 14, .int (nI n)],
  fun as I J r I' J' => I = I' ∧ rlOk J J' ∧ match as with
    | [_, .int n] => ∀ M : mv_Q, (∀ i, i < n.toNatClampNeg → ∀ j, j ≤ n.toNatClampNeg → J (16 + i) j = M i j) → J' 14 1 = (elS n.toNatClampNeg M (n.toNatClampNeg - 1)).2 (n.toNatClampNeg - 1) n.toNatClampNeg ∧ J' 14 2 = (elS n.toNatClampNeg M (n.toNatClampNeg - 1)).2 (n.toNatClampNeg - 1) (n.toNatClampNeg - 1) ∧ r = some (.int (mv_b (0 < (elS n.toNatClampNeg M (n.toNatClampNeg - 1)).2 (n.toNatClampNeg - 1) (n.toNatClampNeg - 1))))
    | _ => True)
theorem cb_elim : mv_body 33 mv_t_X3_eliminate (mv_cs []) sp_elim := by
  intro as I J h
  obtain ⟨n, hn1, hn6, rfl⟩ := h
  have cn : (nI n).toNatClampNeg = n := nI_clamp (by omega)
  have hn1' : nI n - 1 = nI (n - 1) := by rw [show (1 : Int32) = nI 1 from rfl, pk_sub (by omega)]
  have cn1 : (nI (n - 1)).toNatClampNeg = n - 1 := nI_clamp (by omega)
  let M0 : mv_Q := fun i j => J (16 + i) j
  have cd : ∀ {x : Nat}, x < 1000 → (nI x).toNatClampNeg = x := fun h => nI_clamp (by omega)
  -- outer loop
  have k5 : ∀ r k : Nat, k + r = n - 1 → ∀ J1 : mv_J, rlOk J J1 → (∀ i, i < n → ∀ j, j ≤ n → J1 (16 + i) j = (elS n M0 k).2 i j) → mv_V mv_ow mv_swf mv_t_X3_eliminate (mv_cs []) (sp_elim.2 [.ref 14, .int (nI n)] I J) 5 [(0, .ref 14), (1, .int (nI n)), (2, .long (elS n M0 k).1), (4, .int (nI k))] [] I J1 := by
    intro r
    induction r with
    | zero =>
      intro k hk J1 hJ hM
      have hk : k = n - 1 := hk
      subst hk
      have lay : mv_lay (16 + (n - 1)) = (4, 7, 0) := mv_lay_rl (by omega)
      have hrf := mv_rf_rl (i := n - 1) (by omega)
      have ne14 : ∀ x : Int64, mv_sj J1 14 1 x (16 + (n - 1)) = J1 (16 + (n - 1)) := fun x => mv_sj_ne (by omega)
      refine mv_run_V (stop := [5, 31]) 40 _ _ _ _ _ ?_
      refine ⟨fun h1 => ?_, fun h1 => ?_⟩
      · refine ⟨rfl, _, rfl, _, rfl, (by rw [hn1']; exact vp_in_nI (by omega) (by decide)), _, (by rw [hn1', cn1]; exact hrf), ?_⟩
        refine ⟨_, lay, vp_in_nI (by omega) (by decide), rfl, ?_⟩
        rw [cn]
        refine ⟨rfl, _, rfl, _, rfl, (by rw [hn1']; exact vp_in_nI (by omega) (by decide)), _, (by rw [hn1', cn1]; exact hrf), ?_⟩
        refine ⟨_, lay, (by rw [hn1']; exact vp_in_nI (by omega) (by decide)), rfl, rfl, ?_⟩
        rw [hn1', cn1, ne14]
        have hJ3 : rlOk J (mv_sj (mv_sj J1 14 1 (J1 (16 + (n - 1)) n)) 14 2 (J1 (16 + (n - 1)) (n - 1))) := rlOk_sj (rlOk_sj hJ (by decide)) (by decide)
        have fin : ∀ x : Int32, x = mv_b (0 < J1 (16 + (n - 1)) (n - 1)) → sp_elim.2 [.ref 14, .int (nI n)] I J (some (.int x)) I (mv_sj (mv_sj J1 14 1 (J1 (16 + (n - 1)) n)) 14 2 (J1 (16 + (n - 1)) (n - 1))) := by
          intro x hx
          refine ⟨rfl, hJ3, ?_⟩
          show ∀ M : mv_Q, _
          rw [cn]
          intro M h
          obtain ⟨-, e2⟩ := elS_congr (M := M0) (M' := M) (n := n) h (n - 1) (by omega)
          rw [← e2 (n - 1) (by omega) n (Nat.le_refl n), ← e2 (n - 1) (by omega) (n - 1) (by omega), ← hM (n - 1) (by omega) n (Nat.le_refl n), ← hM (n - 1) (by omega) (n - 1) (by omega)]
          exact ⟨rfl, rfl, by rw [hx]⟩
        refine ⟨fun h2 => ?_, fun h2 => ?_⟩
        · exact ⟨Or.inl rfl, fin 0 (mv_bf (fun z => h2 ((lg_cmp_gt _ _).mpr z))).symm⟩
        · exact ⟨Or.inr rfl, fin 1 (mv_bt ((lg_cmp_gt _ _).mp h2)).symm⟩
      · rw [hn1'] at h1
        exact absurd h1 (nI_nlt (Nat.le_refl _) (by omega))
    | succ r ih =>
      intro k hk J1 hJ hM
      have hck := cd (x := k) (by omega)
      -- the place of the rows i and columns j done
      have k43 : ∀ i, k < i → i < n → ∀ q j : Nat, j + q = n + 1 → k < j → ∀ J2 : mv_J, rlOk J J2 → (∀ a, a < n → ∀ b, b ≤ n → J2 (16 + a) b = if (k < a ∧ k < b) ∧ (a < i ∨ a = i ∧ b < j) then elX k (elS n M0 k).1 (elS n M0 k).2 a b else (elS n M0 k).2 a b) → (∀ J3 : mv_J, rlOk J J3 → (∀ a, a < n → ∀ b, b ≤ n → J3 (16 + a) b = if (k < a ∧ k < b) ∧ (a < i + 1) then elX k (elS n M0 k).1 (elS n M0 k).2 a b else (elS n M0 k).2 a b) → mv_V mv_ow mv_swf mv_t_X3_eliminate (mv_cs []) (sp_elim.2 [.ref 14, .int (nI n)] I J) 31 [(0, .ref 14), (1, .int (nI n)), (2, .long (elS n M0 k).1), (4, .int (nI k)), (5, .long ((elS n M0 k).2 k k)), (7, .int (nI i + 1))] [] I J3) → mv_V mv_ow mv_swf mv_t_X3_eliminate (mv_cs []) (sp_elim.2 [.ref 14, .int (nI n)] I J) 43 [(0, .ref 14), (1, .int (nI n)), (2, .long (elS n M0 k).1), (4, .int (nI k)), (5, .long ((elS n M0 k).2 k k)), (7, .int (nI i)), (8, .int (nI j))] [] I J2 := by
        intro i hki hin q
        have hci := cd (x := i) (by omega)
        induction q with
        | zero =>
          intro j hj hkj J2 hJ2 hM2 nx
          have hj : j = n + 1 := hj
          subst hj
          refine mv_run_V (stop := [31, 43]) 60 _ _ _ _ _ ?_
          refine ⟨fun h1 => ?_, fun h1 => ?_⟩
          · exact mv_keep [0, 1, 2, 4, 5, 7] (nx J2 hJ2 (fun a ha b hb => by
              rw [hM2 a ha b hb]
              have e : ((k < a ∧ k < b) ∧ (a < i ∨ a = i ∧ b < n + 1)) ↔ ((k < a ∧ k < b) ∧ a < i + 1) := by omega
              simp only [e]))
          · exact absurd (nI_lt (by omega) (by omega)) h1
        | succ q ihq =>
          intro j hj hkj J2 hJ2 hM2 nx
          have hcj := cd (x := j) (by omega)
          have li : mv_lay (16 + i) = (4, 7, 0) := mv_lay_rl (by omega)
          have lk : mv_lay (16 + k) = (4, 7, 0) := mv_lay_rl (by omega)
          have v1 : J2 (16 + i) j = (elS n M0 k).2 i j := by rw [hM2 i hin j (by omega), if_neg (by omega)]
          have v2 : J2 (16 + i) k = (elS n M0 k).2 i k := by rw [hM2 i hin k (by omega), if_neg (by omega)]
          have v3 : J2 (16 + k) j = (elS n M0 k).2 k j := by rw [hM2 k (by omega) j (by omega), if_neg (by omega)]
          have nxt : ∀ x : Int64, x = elX k (elS n M0 k).1 (elS n M0 k).2 i j → mv_V mv_ow mv_swf mv_t_X3_eliminate (mv_cs []) (sp_elim.2 [.ref 14, .int (nI n)] I J) 43 [(0, .ref 14), (1, .int (nI n)), (2, .long (elS n M0 k).1), (4, .int (nI k)), (5, .long ((elS n M0 k).2 k k)), (7, .int (nI i)), (8, .int (nI j + 1))] [] I (mv_sj J2 (16 + i) j x) := by
            intro x hx
            have h5 := ihq (j + 1) (by omega) (by omega) (mv_sj J2 (16 + i) j x) (rlOk_sj hJ2 (by omega)) (fun a ha b hb => by
              rw [mv_sj_ap]
              by_cases hab : a = i ∧ b = j
              · rw [if_pos ⟨by omega, hab.2⟩, if_pos (by omega), hx, hab.1, hab.2]
              · rw [if_neg (by omega), hM2 a ha b hb]
                have e : ((k < a ∧ k < b) ∧ (a < i ∨ a = i ∧ b < j)) ↔ ((k < a ∧ k < b) ∧ (a < i ∨ a = i ∧ b < j + 1)) := by omega
                simp only [e]) nx
            rw [nI_succ j] at h5
            exact h5
          refine mv_run_V (stop := [31, 43]) 80 _ _ _ _ _ ?_
          refine ⟨fun h1 => ?_, fun h1 => ?_⟩
          · exact absurd h1 (nI_nlt (by omega) (by omega))
          · refine ⟨rfl, _, rfl, _, rfl, vp_in_nI (by omega) (by decide), _, (by rw [hci]; exact mv_rf_rl (by omega)), ?_⟩
            refine ⟨_, li, vp_in_nI (by omega) (by decide), ?_⟩
            refine ⟨rfl, _, rfl, _, rfl, vp_in_nI (by omega) (by decide), _, (by rw [hci]; exact mv_rf_rl (by omega)), ?_⟩
            refine ⟨_, li, vp_in_nI (by omega) (by decide), ?_⟩
            refine ⟨rfl, _, rfl, _, rfl, vp_in_nI (by omega) (by decide), _, (by rw [hck]; exact mv_rf_rl (by omega)), ?_⟩
            refine ⟨_, lk, vp_in_nI (by omega) (by decide), ?_⟩
            rw [hcj, hck, v1, v2, v3]
            refine ⟨rfl, _, rfl, _, rfl, vp_in_nI (by omega) (by decide), _, (by rw [hci]; exact mv_rf_rl (by omega)), ?_⟩
            refine ⟨fun h2 => ?_, fun h2 => ?_⟩
            · have h2 := (lg_cmp_eq _ _).mp h2
              refine ⟨_, li, vp_in_nI (by omega) (by decide), ?_⟩
              rw [hcj]
              exact mv_keep [0, 1, 2, 4, 5, 7, 8] (nxt _ (by unfold elX; rw [if_pos h2]))
            · have h2 : ¬ (elS n M0 k).1 = 0 := fun z => h2 ((lg_cmp_eq _ _).mpr z)
              refine ⟨h2, _, li, vp_in_nI (by omega) (by decide), ?_⟩
              rw [hcj]
              exact mv_keep [0, 1, 2, 4, 5, 7, 8] (nxt _ (by unfold elX; rw [if_neg h2]))
      have k31 : ∀ q i : Nat, i + q = n → k < i → ∀ J2 : mv_J, rlOk J J2 → (∀ a, a < n → ∀ b, b ≤ n → J2 (16 + a) b = if (k < a ∧ k < b) ∧ a < i then elX k (elS n M0 k).1 (elS n M0 k).2 a b else (elS n M0 k).2 a b) → mv_V mv_ow mv_swf mv_t_X3_eliminate (mv_cs []) (sp_elim.2 [.ref 14, .int (nI n)] I J) 31 [(0, .ref 14), (1, .int (nI n)), (2, .long (elS n M0 k).1), (4, .int (nI k)), (5, .long ((elS n M0 k).2 k k)), (7, .int (nI i))] [] I J2 := by
        intro q
        induction q with
        | zero =>
          intro i hi hki J2 hJ2 hM2
          have hi : i = n := hi
          subst hi
          refine mv_run_V (stop := [5, 31, 43]) 60 _ _ _ _ _ ?_
          refine ⟨fun h1 => ?_, fun h1 => ?_⟩
          · have h5 := ih (k + 1) (by omega) J2 hJ2 (fun a ha b hb => by
              rw [hM2 a ha b hb]
              show _ = elM i k (elS i M0 k).1 (elS i M0 k).2 a b
              unfold elM
              have e : ((k < a ∧ k < b) ∧ a < i) ↔ ((k < a ∧ a < i) ∧ k < b ∧ b ≤ i) := by omega
              simp only [e])
            rw [nI_succ] at h5
            exact mv_keep [0, 1, 2, 4] h5
          · exact absurd h1 (nI_nlt (Nat.le_refl _) (by omega))
        | succ q ihq =>
          intro i hi hki J2 hJ2 hM2
          refine mv_run_V (stop := [5, 31, 43]) 60 _ _ _ _ _ ?_
          refine ⟨fun h1 => ?_, fun h1 => ?_⟩
          · exact absurd (nI_lt (by omega) (by omega)) h1
          · have h5 := k43 i hki (by omega) (n - k) (k + 1) (by omega) (by omega) J2 hJ2 (fun a ha b hb => by
              rw [hM2 a ha b hb]
              have e : ((k < a ∧ k < b) ∧ a < i) ↔ ((k < a ∧ k < b) ∧ (a < i ∨ a = i ∧ b < k + 1)) := by omega
              simp only [e]) (fun J3 hJ3 hM3 => by
              have h6 := ihq (i + 1) (by omega) (by omega) J3 hJ3 hM3
              rw [nI_succ] at h6
              exact h6)
            rw [nI_succ] at h5
            exact h5
      have lk : mv_lay (16 + k) = (4, 7, 0) := mv_lay_rl (by omega)
      refine mv_run_V (stop := [5, 31]) 40 _ _ _ _ _ ?_
      refine ⟨fun h1 => ?_, fun h1 => ?_⟩
      · rw [hn1'] at h1
        exact absurd (nI_lt (by omega) (by omega)) h1
      · refine ⟨rfl, _, rfl, _, rfl, vp_in_nI (by omega) (by decide), _, (by rw [hck]; exact mv_rf_rl (by omega)), ?_⟩
        refine ⟨_, lk, vp_in_nI (by omega) (by decide), ?_⟩
        rw [hck, hM k (by omega) k (by omega)]
        have h5 := k31 (n - (k + 1)) (k + 1) (by omega) (by omega) J1 hJ (fun a ha b hb => by
          rw [if_neg (by omega)]
          exact hM a ha b hb)
        rw [nI_succ] at h5
        exact h5
  refine ⟨rfl, mv_run_V (stop := [5]) 40 _ _ _ _ _ ?_⟩
  exact k5 (n - 1) 0 (by omega) J (fun _ _ => rfl) (fun i hi j hj => rfl)
theorem c_elim {l : Launch} {G : mv_G} {A : Nat → Prop} (hG : mv_adk G A) : mv_Con l G A 33 sp_elim := mv_con hG 33 mv_k_X3_eliminate (by decide +kernel) (mv_cs_nil) cb_elim
/-- the equations, the last state first -/
def eqM (s bd : Nat) (w : Int32) : mv_Q := fun i j => peF (bd - 1 - i) s bd w 5 j
def lenP (s bd : Nat) (w : Int32) : Int64 × mv_Q := elS bd (eqM s bd w) (bd - 1)
def lenA (s bd : Nat) (w : Int32) : Int64 := (lenP s bd w).2 (bd - 1) bd
def lenB (s bd : Nat) (w : Int32) : Int64 := (lenP s bd w).2 (bd - 1) (bd - 1)
def sp_solve : mv_SP := (fun as _ _ => ∃ (s bd : Nat) (w : Int32), s ≤ 9 ∧ bd < 1000 ∧ as = [.ref 14, .int (nI s), .int (nI bd), .int w],
  fun as I J r I' J' => I = I' ∧ rlOk J J' ∧ match as with
    | [_, .int s, .int bd, .int w] => if (1 ≤ bd.toNatClampNeg ∧ bd.toNatClampNeg ≤ 6) ∧ ¬ clF s w 5 0 = 0 then J' 14 1 = lenA s.toNatClampNeg bd.toNatClampNeg w ∧ J' 14 2 = lenB s.toNatClampNeg bd.toNatClampNeg w ∧ r = some (.int (mv_b (0 < lenB s.toNatClampNeg bd.toNatClampNeg w))) else r = some (.int 0)
    | _ => True)
theorem clF_01 (s w : Int32) : ∀ r k, clF s w r k = 0 ∨ clF s w r k = 1
  | 0, _ => Or.inl rfl
  | r + 1, k => by
    rw [clF]
    split
    · exact Or.inr rfl
    · exact clF_01 s w r _
theorem cb_solve : mv_body 36 mv_t_X3_solve (mv_cs [(84, sp_within), (32, sp_climbs), (35, sp_putEq), (33, sp_elim)]) sp_solve := by
  intro as I J h
  obtain ⟨s, bd, w, hs, hbd, rfl⟩ := h
  have c2 : (nI s).toNatClampNeg = s := nI_clamp (by omega)
  have c3 : (nI bd).toNatClampNeg = bd := nI_clamp (by omega)
  have no : ¬ ((1 ≤ bd ∧ bd ≤ 6) ∧ ¬ clF (nI s) w 5 0 = 0) → sp_solve.2 [.ref 14, .int (nI s), .int (nI bd), .int w] I J (some (.int 0)) I J := by
    intro hn
    refine ⟨rfl, fun _ _ => rfl, ?_⟩
    show if (1 ≤ (nI bd).toNatClampNeg ∧ (nI bd).toNatClampNeg ≤ 6) ∧ ¬ clF (nI s) w 5 0 = 0 then _ else _
    rw [c3, if_neg hn]
  have hin : (1 ≤ nI bd ∧ nI bd ≤ 6) ↔ (1 ≤ bd ∧ bd ≤ 6) := by
    rw [show (1 : Int32) = nI 1 from rfl, show (6 : Int32) = nI 6 from rfl, nI_leI (by decide) (by omega), nI_leI (by omega) (by decide)]
  refine ⟨rfl, mv_run_V (stop := [23]) 40 _ _ _ _ _ ?_⟩
  refine ⟨rfl, trivial, fun r I1 J1 hp => ?_⟩
  obtain ⟨rfl, rfl, rfl⟩ := hp
  refine ⟨fun h2 => ?_, fun h2 => ?_⟩
  · have h2 := mv_b0.mp h2
    exact ⟨Or.inl rfl, no (fun z => h2 (hin.mpr z.1))⟩
  · have h2 := hin.mp (b_yes h2)
    refine ⟨rfl, ⟨nI s, w, rfl⟩, fun r I1 J1 hp => ?_⟩
    obtain ⟨rfl, rfl, hr⟩ := hp
    have hr : r = some (.int (clF (nI s) w 5 0)) := hr
    subst hr
    refine ⟨fun h4 => ?_, fun h4 => ?_⟩
    · have key : ∀ r k : Nat, k + r = bd → ∀ J1 : mv_J, rlOk J J1 → (∀ i, bd - k ≤ i → i < bd → ∀ j, j ≤ bd → J1 (16 + i) j = eqM s bd w i j) → mv_V mv_ow mv_swf mv_t_X3_solve (mv_cs [(84, sp_within), (32, sp_climbs), (35, sp_putEq), (33, sp_elim)]) (sp_solve.2 [.ref 14, .int (nI s), .int (nI bd), .int w] I J) 23 [(0, .ref 14), (1, .int (nI s)), (2, .int (nI bd)), (3, .int w), (4, .int (nI k))] [] I J1 := by
        intro r
        induction r with
        | zero =>
          intro k hk J1 hJ hM
          have hk : k = bd := hk
          subst hk
          refine mv_run_V (stop := [23]) 40 _ _ _ _ _ ?_
          refine ⟨fun h1 => ?_, fun h1 => ?_⟩
          · refine ⟨rfl, rfl, ⟨k, h2.1, h2.2, rfl⟩, fun r1 I2 J2 hp => ?_⟩
            obtain ⟨rfl, hJ2, hr⟩ := hp
            have hr : ∀ M : mv_Q, (∀ i, i < (nI k).toNatClampNeg → ∀ j, j ≤ (nI k).toNatClampNeg → J1 (16 + i) j = M i j) → J2 14 1 = (elS (nI k).toNatClampNeg M ((nI k).toNatClampNeg - 1)).2 ((nI k).toNatClampNeg - 1) (nI k).toNatClampNeg ∧ J2 14 2 = (elS (nI k).toNatClampNeg M ((nI k).toNatClampNeg - 1)).2 ((nI k).toNatClampNeg - 1) ((nI k).toNatClampNeg - 1) ∧ r1 = some (.int (mv_b (0 < (elS (nI k).toNatClampNeg M ((nI k).toNatClampNeg - 1)).2 ((nI k).toNatClampNeg - 1) ((nI k).toNatClampNeg - 1)))) := hr
            rw [c3] at hr
            obtain ⟨e1, e2, rfl⟩ := hr (eqM s k w) (fun i hi j hj => hM i (by omega) hi j hj)
            refine ⟨mv_b01 _, rfl, rlOk_trans hJ hJ2, ?_⟩
            show if (1 ≤ (nI k).toNatClampNeg ∧ (nI k).toNatClampNeg ≤ 6) ∧ ¬ clF (nI s) w 5 0 = 0 then J2 14 1 = lenA (nI s).toNatClampNeg (nI k).toNatClampNeg w ∧ J2 14 2 = lenB (nI s).toNatClampNeg (nI k).toNatClampNeg w ∧ some _ = some (Value.int (mv_b (0 < lenB (nI s).toNatClampNeg (nI k).toNatClampNeg w))) else _
            rw [c2, c3, if_pos ⟨h2, h4⟩]
            exact ⟨e1, e2, rfl⟩
          · exact absurd h1 (nI_nlt (Nat.le_refl _) (by omega))
        | succ r ih =>
          intro k hk J1 hJ hM
          have ck : (nI k).toNatClampNeg = k := nI_clamp (by omega)
          refine mv_run_V (stop := [23]) 40 _ _ _ _ _ ?_
          refine ⟨fun h1 => ?_, fun h1 => ?_⟩
          · exact absurd (nI_lt (by omega) (by omega)) h1
          · refine ⟨rfl, rfl, ⟨k, s, bd, w, by omega, h2.2, hs, rfl⟩, fun r1 I2 J2 hp => ?_⟩
            obtain ⟨rfl, rfl, hr⟩ := hp
            have hr : (∀ j : Nat, j ≤ (nI bd).toNatClampNeg → J2 (16 + ((nI bd).toNatClampNeg - 1 - (nI k).toNatClampNeg)) j = peF (nI k).toNatClampNeg (nI s).toNatClampNeg (nI bd).toNatClampNeg w 5 j) ∧ ∀ a : Nat, a ≠ 16 + ((nI bd).toNatClampNeg - 1 - (nI k).toNatClampNeg) → J2 a = J1 a := hr
            rw [c2, c3, ck] at hr
            have h5 := ih (k + 1) (by omega) J2 (fun a ha => (hr.2 a (by omega)).trans (hJ a ha)) (fun i hi1 hi2 j hj => by
              by_cases hik : i = bd - 1 - k
              · subst hik
                rw [hr.1 j hj]
                unfold eqM
                rw [show bd - 1 - (bd - 1 - k) = k by omega]
              · rw [hr.2 (16 + i) (by omega)]
                exact hM i (by omega) hi2 j hj)
            rw [nI_succ] at h5
            exact h5
      exact key bd 0 (Nat.zero_add bd) J (fun _ _ => rfl) (fun i h1 h2 => absurd h2 (by omega))
    · exact ⟨Or.inl rfl, no (fun z => z.2 h4)⟩
theorem c_solve {l : Launch} {G : mv_G} {A : Nat → Prop} (hG : mv_adk G A) : mv_Con l G A 36 sp_solve := mv_con hG 36 mv_k_X3_solve (by decide +kernel) (mv_cs_cons (c_within hG) (mv_cs_cons (c_climbs hG) (mv_cs_cons (c_putEq hG) (mv_cs_cons (c_elim hG) (mv_cs_nil))))) cb_solve
/-- slack and bound of the series of now -/
def PB (I : mv_I) : Prop := ∀ j : Nat, j < 5 → (∃ s : Nat, s ≤ 9 ∧ I (100 + 3 * j) 1 = nI s) ∧ ∃ b : Nat, 1 ≤ b ∧ b ≤ 99 ∧ I (100 + 3 * j) 2 = nI b
def lenF (s bd : Nat) (w u : Int32) : Int64 := if 6 < bd then -3 else if clF (nI s) w 5 0 = 0 ∨ ¬ 0 < lenB s bd w then -9 else lowF (lenA s bd w) (lenB s bd w) u
def sp_length : mv_SP := (fun as I _ => SH I ∧ PB I ∧ ∃ s u : Int32, as = [.ref 0, .int s, .int u],
  fun as I J r I' J' => I = I' ∧ rlOk J J' ∧ match as with
    | [_, .int s, .int u] => r = some (.long (if sv I s then lenF (I (scn s) 1).toNatClampNeg (I (scn s) 2).toNatClampNeg (I 400 2) u else -1))
    | _ => True)
theorem cb_length : mv_body 65 mv_t_X6_length (mv_cs [(25, sp_at), (36, sp_solve), (67, sp_lowest)]) sp_length := by
  intro as I J h
  obtain ⟨hS, hB, s, u, rfl⟩ := h
  obtain ⟨m, hm, hs⟩ := SH_now hS
  have fin : ∀ (x : Int64) (J1 : mv_J), rlOk J J1 → x = (if sv I s then lenF (I (scn s) 1).toNatClampNeg (I (scn s) 2).toNatClampNeg (I 400 2) u else -1) → sp_length.2 [.ref 0, .int s, .int u] I J (some (.long x)) I J1 := by
    intro x J1 hJ hx
    exact ⟨rfl, hJ, congrArg (fun q => some (Value.long q)) hx⟩
  refine ⟨rfl, mv_run_V (stop := []) 60 _ _ _ _ _ ?_⟩
  refine ⟨rfl, _, rfl, rfl, rfl, ⟨0, m, by decide, rfl, hm, hs⟩, fun r I1 J1 hp => ?_⟩
  obtain ⟨rfl, rfl, hr⟩ := hp
  rcases at_now hr with ⟨hv, rfl⟩ | ⟨hv, rfl⟩
  · exact fin _ _ (fun _ _ => rfl) (by rw [if_neg hv])
  · obtain ⟨j, hj, -, hjc⟩ := sv_in hS hv
    obtain ⟨⟨a, ha, ea⟩, b, hb1, hb, eb⟩ := hB s.toNatClampNeg (by omega)
    have ca : (I (scn s) 1).toNatClampNeg = a := by rw [ea]; exact nI_clamp (by omega)
    have cb : (I (scn s) 2).toNatClampNeg = b := by rw [eb]; exact nI_clamp (by omega)
    have lay : mv_lay (scn s) = (1, 1, 0) := mv_lay_ch (by omega)
    rw [ca, cb, if_pos hv] at fin
    have ca2 : (nI a).toNatClampNeg = a := nI_clamp (by omega)
    have cb2 : (nI b).toNatClampNeg = b := nI_clamp (by omega)
    refine ⟨lay, fun h2 => ?_, fun h2 => ?_⟩
    · rw [eb] at h2
      have h2 : ¬ 6 < b := fun z => h2 (nI_lt z (by omega))
      refine ⟨rfl, _, rfl, lay, lay, rfl, _, rfl, rfl, rfl, rfl, ⟨a, b, I 400 2, ha, by omega, by rw [← ea, ← eb]⟩, fun r1 I2 J2 hp => ?_⟩
      obtain ⟨rfl, hJ2, hr⟩ := hp
      have hr : if (1 ≤ (I (scn s) 2).toNatClampNeg ∧ (I (scn s) 2).toNatClampNeg ≤ 6) ∧ ¬ clF (I (scn s) 1) (I 400 2) 5 0 = 0 then J2 14 1 = lenA (I (scn s) 1).toNatClampNeg (I (scn s) 2).toNatClampNeg (I 400 2) ∧ J2 14 2 = lenB (I (scn s) 1).toNatClampNeg (I (scn s) 2).toNatClampNeg (I 400 2) ∧ r1 = some (.int (mv_b (0 < lenB (I (scn s) 1).toNatClampNeg (I (scn s) 2).toNatClampNeg (I 400 2)))) else r1 = some (.int 0) := hr
      rw [ca, cb, ea] at hr
      by_cases hcl : clF (nI a) (I 400 2) 5 0 = 0
      · rw [if_neg (fun z => z.2 hcl)] at hr
        subst hr
        refine ⟨fun h4 => absurd rfl h4, fun _ => fin _ _ hJ2 ?_⟩
        unfold lenF
        rw [if_neg h2, if_pos (Or.inl hcl)]
      · rw [if_pos ⟨⟨hb1, by omega⟩, hcl⟩] at hr
        obtain ⟨e1, e2, rfl⟩ := hr
        refine ⟨fun h4 => ?_, fun h4 => ?_⟩
        · have h4 := b_yes h4
          refine ⟨rfl, _, rfl, rfl, rfl, _, rfl, rfl, rfl, trivial, fun r1 I3 J3 hp => ?_⟩
          obtain ⟨hr, rfl, rfl⟩ := hp
          have hr : r1 = some (.long (lowF (J2 14 1) (J2 14 2) u)) := hr
          subst hr
          refine fin _ _ hJ2 ?_
          unfold lenF
          rw [if_neg h2, if_neg (fun z => z.elim hcl (fun z => z h4)), e1, e2]
        · have h4 := mv_b0.mp h4
          refine fin _ _ hJ2 ?_
          unfold lenF
          rw [if_neg h2, if_pos (Or.inr h4)]
    · rw [eb] at h2
      have h2 : 6 < b := (nI_ltI (a := 6) (by decide) (by omega)).mp h2
      refine fin _ _ (fun _ _ => rfl) ?_
      unfold lenF
      rw [if_pos h2]
theorem c_length {l : Launch} {G : mv_G} {A : Nat → Prop} (hG : mv_adk G A) : mv_Con l G A 65 sp_length := mv_con hG 65 mv_k_X6_length (by decide +kernel) (mv_cs_cons (c_at hG) (mv_cs_cons (c_solve hG) (mv_cs_cons (c_lowest hG) (mv_cs_nil)))) cb_length
end
section
/-! The text: letters, faults. -/
def fitP (pl : Nat) (x b : Int32) : Prop := if pl = 0 then x = 99 else if pl = 5 then (if b = 48 then 49 ≤ x ∧ x ≤ 57 else 48 ≤ x ∧ x ≤ 57) else if pl = 6 then 48 ≤ x ∧ x ≤ 52 else if pl = 7 then 48 ≤ x ∧ x ≤ 49 else if 9 ≤ pl ∧ pl ≤ 12 then (x = 46 ∨ 48 ≤ x ∧ x ≤ 57) else if pl = 13 then x = 46 else 48 ≤ x ∧ x ≤ 57
def sp_txAppend : mv_SP := (fun as I _ => (∃ t : Nat, t ≤ 80 ∧ I 1 1 = nI t) ∧ ∃ x : Int32, as = [.ref 1, .int x],
  fun as I J r I' J' => J = J' ∧ match as with
    | [_, .int x] => if I 1 1 < 80 then r = some (.int 1) ∧ I' = mv_si (mv_si I 2 (I 1 1).toNatClampNeg x) 1 1 (I 1 1 + 1) else r = some (.int 0) ∧ I' = I
    | _ => True)
theorem cb_txAppend : mv_body 38 mv_t_X5_append (mv_cs []) sp_txAppend := by
  intro as I J h
  obtain ⟨⟨t, ht, hs⟩, x, rfl⟩ := h
  refine ⟨rfl, mv_run_V (stop := []) 40 _ _ _ _ _ ?_⟩
  refine ⟨rfl, fun h1 => ?_, fun h1 => ?_⟩
  · have h2 := h1
    rw [hs] at h2
    have h2 : nI t < nI 80 := h2
    have h2 := (nI_ltI (by omega) (by decide)).mp h2
    refine ⟨rfl, _, rfl, rfl, _, rfl, (by rw [hs]; exact vp_in_nI h2 (by decide)), rfl, rfl, rfl, Or.inr rfl, rfl, ?_⟩
    show if I 1 1 < 80 then _ else _
    rw [if_pos h1]
    exact ⟨rfl, rfl⟩
  · refine ⟨Or.inl rfl, rfl, ?_⟩
    show if I 1 1 < 80 then _ else _
    rw [if_neg h1]
    exact ⟨rfl, rfl⟩
theorem c_txAppend {l : Launch} {G : mv_G} {A : Nat → Prop} (hG : mv_adk G A) : mv_Con l G A 38 sp_txAppend := mv_con hG 38 mv_k_X5_append (by decide +kernel) (mv_cs_nil) cb_txAppend
/-- the figure at a place -/
def dgN (T : Nat → Int32) (n a : Nat) : Int32 := if a < n then T a - 48 else 0
def stN (T : Nat → Int32) (n a : Nat) : Prop := ¬ a < n ∨ T a = 46
theorem tx_in {a n : Nat} (ha : a < 1000) (hn : n < 1000) : (0 ≤ nI a ∧ nI a ≤ nI n - 1) ↔ a < n := by
  refine ⟨fun h => ?_, fun h => mv_upto2 (by omega) h⟩
  obtain ⟨j, hj, e⟩ := mv_upto (m := n) (by omega) h.1 h.2
  have := (nI_eq (by omega) (by omega)).mp e
  omega
def sp_digit : mv_SP := (fun as I _ => (∃ t : Nat, t ≤ 80 ∧ I 1 1 = nI t) ∧ ∃ a : Nat, a < 1000 ∧ as = [.ref 1, .int (nI a)],
  fun as I J r I' J' => I = I' ∧ J = J' ∧ match as with
    | [_, .int a] => r = some (.int (dgN (I 2) (I 1 1).toNatClampNeg a.toNatClampNeg))
    | _ => True)
theorem cb_digit : mv_body 39 mv_t_X5_digit (mv_cs [(84, sp_within)]) sp_digit := by
  intro as I J h
  obtain ⟨⟨t, ht, hs⟩, a, ha, rfl⟩ := h
  have hct : (I 1 1).toNatClampNeg = t := by rw [hs]; exact nI_clamp (by omega)
  have hca : (nI a).toNatClampNeg = a := nI_clamp (by omega)
  have fin : ∀ x : Int32, x = dgN (I 2) t a → sp_digit.2 [.ref 1, .int (nI a)] I J (some (.int x)) I J := by
    intro x hx
    refine ⟨rfl, rfl, ?_⟩
    show some (Value.int x) = some (Value.int (dgN (I 2) (I 1 1).toNatClampNeg (nI a).toNatClampNeg))
    rw [hct, hca, hx]
  refine ⟨rfl, mv_run_V (stop := []) 40 _ _ _ _ _ ?_⟩
  refine ⟨rfl, rfl, trivial, fun r I1 J1 hp => ?_⟩
  obtain ⟨rfl, rfl, rfl⟩ := hp
  rw [hs]
  refine ⟨fun h2 => ?_, fun h2 => ?_⟩
  · have h2 := fun z => mv_b0.mp h2 ((tx_in ha (n := t) (by omega)).mpr z)
    exact fin _ (by unfold dgN; rw [if_neg h2])
  · have h2 := (tx_in ha (n := t) (by omega)).mp (b_yes h2)
    refine ⟨rfl, _, rfl, _, rfl, vp_in_nI (by omega) (by decide), ?_⟩
    rw [hca]
    exact fin _ (by unfold dgN; rw [if_pos h2])
theorem c_digit {l : Launch} {G : mv_G} {A : Nat → Prop} (hG : mv_adk G A) : mv_Con l G A 39 sp_digit := mv_con hG 39 mv_k_X5_digit (by decide +kernel) (mv_cs_cons (c_within hG) (mv_cs_nil)) cb_digit
def sp_stopsAt : mv_SP := (fun as I _ => (∃ t : Nat, t ≤ 80 ∧ I 1 1 = nI t) ∧ ∃ a : Nat, a < 1000 ∧ as = [.ref 1, .int (nI a)],
  fun as I J r I' J' => I = I' ∧ J = J' ∧ match as with
    | [_, .int a] => ∃ z : Int32, r = some (.int z) ∧ (z = 0 ∧ ¬ stN (I 2) (I 1 1).toNatClampNeg a.toNatClampNeg ∨ z = 1 ∧ stN (I 2) (I 1 1).toNatClampNeg a.toNatClampNeg)
    | _ => True)
theorem cb_stopsAt : mv_body 45 mv_t_X5_stopsAt (mv_cs [(84, sp_within)]) sp_stopsAt := by
  intro as I J h
  obtain ⟨⟨t, ht, hs⟩, a, ha, rfl⟩ := h
  have hct : (I 1 1).toNatClampNeg = t := by rw [hs]; exact nI_clamp (by omega)
  have hca : (nI a).toNatClampNeg = a := nI_clamp (by omega)
  have fin : ∀ x : Int32, (x = 0 ∧ ¬ stN (I 2) t a ∨ x = 1 ∧ stN (I 2) t a) → sp_stopsAt.2 [.ref 1, .int (nI a)] I J (some (.int x)) I J := by
    intro x hx
    refine ⟨rfl, rfl, x, rfl, ?_⟩
    show x = 0 ∧ ¬ stN (I 2) (I 1 1).toNatClampNeg (nI a).toNatClampNeg ∨ x = 1 ∧ stN (I 2) (I 1 1).toNatClampNeg (nI a).toNatClampNeg
    rw [hct, hca]
    exact hx
  refine ⟨rfl, mv_run_V (stop := []) 40 _ _ _ _ _ ?_⟩
  refine ⟨rfl, rfl, trivial, fun r I1 J1 hp => ?_⟩
  obtain ⟨rfl, rfl, rfl⟩ := hp
  rw [hs]
  refine ⟨fun h2 => ?_, fun h2 => ?_⟩
  · have h2 := fun z => mv_b0.mp h2 ((tx_in ha (n := t) (by omega)).mpr z)
    exact ⟨Or.inr rfl, fin _ (Or.inr ⟨rfl, Or.inl h2⟩)⟩
  · have h2 := (tx_in ha (n := t) (by omega)).mp (b_yes h2)
    refine ⟨rfl, _, rfl, _, rfl, vp_in_nI (by omega) (by decide), ?_⟩
    rw [hca]
    refine ⟨fun h3 => ?_, fun h3 => ?_⟩
    · exact ⟨Or.inl rfl, fin _ (Or.inl ⟨rfl, fun z => z.elim (fun z => z h2) h3⟩)⟩
    · exact ⟨Or.inr rfl, fin _ (Or.inr ⟨rfl, Or.inr h3⟩)⟩
theorem c_stopsAt {l : Launch} {G : mv_G} {A : Nat → Prop} (hG : mv_adk G A) : mv_Con l G A 45 sp_stopsAt := mv_con hG 45 mv_k_X5_stopsAt (by decide +kernel) (mv_cs_cons (c_within hG) (mv_cs_nil)) cb_stopsAt
def sp_fits : mv_SP := (fun as _ _ => ∃ (pl : Nat) (x b : Int32), pl < 1000 ∧ as = [.int (nI pl), .int x, .int b],
  fun as I J r I' J' => I = I' ∧ J = J' ∧ match as with
    | [.int pl, .int x, .int b] => ∃ z : Int32, r = some (.int z) ∧ (z = 0 ∧ ¬ fitP pl.toNatClampNeg x b ∨ z = 1 ∧ fitP pl.toNatClampNeg x b)
    | _ => True)
theorem cb_fits : mv_body 41 mv_t_X5_fits (mv_cs [(84, sp_within)]) sp_fits := by
  intro as I J h
  obtain ⟨pl, x, b, hpl, rfl⟩ := h
  have hc : (nI pl).toNatClampNeg = pl := nI_clamp (by omega)
  have en : ∀ {k : Nat}, k < 100 → (nI pl = nI k ↔ pl = k) := fun h => nI_eq (by omega) (by omega)
  have fin : ∀ z : Int32, (z = 0 ∧ ¬ fitP pl x b ∨ z = 1 ∧ fitP pl x b) → sp_fits.2 [.int (nI pl), .int x, .int b] I J (some (.int z)) I J := by
    intro z hz
    refine ⟨rfl, rfl, z, rfl, ?_⟩
    show z = 0 ∧ ¬ fitP (nI pl).toNatClampNeg x b ∨ z = 1 ∧ fitP (nI pl).toNatClampNeg x b
    rw [hc]
    exact hz
  have finb : ∀ (P : Prop) [Decidable P], fitP pl x b = P → (mv_b P = 0 ∨ mv_b P = 1) ∧ sp_fits.2 [.int (nI pl), .int x, .int b] I J (some (.int (mv_b P))) I J := by
    intro P _ hP
    refine ⟨mv_b01 _, fin _ ?_⟩
    rw [hP]
    by_cases h : P
    · exact Or.inr ⟨mv_bt h, h⟩
    · exact Or.inl ⟨mv_bf h, h⟩
  have fin0 : ¬ fitP pl x b → ((0 : Int32) = 0 ∨ (0 : Int32) = 1) ∧ sp_fits.2 [.int (nI pl), .int x, .int b] I J (some (.int 0)) I J := fun h => ⟨Or.inl rfl, fin _ (Or.inl ⟨rfl, h⟩)⟩
  have fin1 : fitP pl x b → ((1 : Int32) = 0 ∨ (1 : Int32) = 1) ∧ sp_fits.2 [.int (nI pl), .int x, .int b] I J (some (.int 1)) I J := fun h => ⟨Or.inr rfl, fin _ (Or.inr ⟨rfl, h⟩)⟩
  refine ⟨rfl, mv_run_V (stop := []) 40 _ _ _ _ _ ?_⟩
  refine ⟨fun h => ?_, fun h => ?_⟩
  · have h := (en (k := 0) (by decide)).mp h
    subst h
    refine ⟨fun h2 => ?_, fun h2 => ?_⟩
    · exact fin0 h2
    · exact fin1 h2
  have h0 : ¬ pl = 0 := fun z => h ((en (k := 0) (by decide)).mpr z)
  refine ⟨fun h => ?_, fun h => ?_⟩
  · have h := (en (k := 1) (by decide)).mp h
    subst h
    refine ⟨rfl, trivial, fun r I1 J1 hp => ?_⟩
    obtain ⟨rfl, rfl, rfl⟩ := hp
    exact finb _ (rfl)
  have h1 : ¬ pl = 1 := fun z => h ((en (k := 1) (by decide)).mpr z)
  refine ⟨fun h => ?_, fun h => ?_⟩
  · have h := (en (k := 2) (by decide)).mp h
    subst h
    refine ⟨rfl, trivial, fun r I1 J1 hp => ?_⟩
    obtain ⟨rfl, rfl, rfl⟩ := hp
    exact finb _ (rfl)
  have h2 : ¬ pl = 2 := fun z => h ((en (k := 2) (by decide)).mpr z)
  refine ⟨fun h => ?_, fun h => ?_⟩
  · have h := (en (k := 3) (by decide)).mp h
    subst h
    refine ⟨rfl, trivial, fun r I1 J1 hp => ?_⟩
    obtain ⟨rfl, rfl, rfl⟩ := hp
    exact finb _ (rfl)
  have h3 : ¬ pl = 3 := fun z => h ((en (k := 3) (by decide)).mpr z)
  refine ⟨fun h => ?_, fun h => ?_⟩
  · have h := (en (k := 4) (by decide)).mp h
    subst h
    refine ⟨rfl, trivial, fun r I1 J1 hp => ?_⟩
    obtain ⟨rfl, rfl, rfl⟩ := hp
    exact finb _ (rfl)
  have h4 : ¬ pl = 4 := fun z => h ((en (k := 4) (by decide)).mpr z)
  refine ⟨fun h => ?_, fun h => ?_⟩
  · have h := (en (k := 5) (by decide)).mp h
    subst h
    refine ⟨fun h2 => ?_, fun h2 => ?_⟩
    · refine ⟨rfl, trivial, fun r I1 J1 hp => ?_⟩
      obtain ⟨rfl, rfl, rfl⟩ := hp
      exact finb _ (if_neg h2)
    · refine ⟨rfl, trivial, fun r I1 J1 hp => ?_⟩
      obtain ⟨rfl, rfl, rfl⟩ := hp
      exact finb _ (if_pos h2)
  have h5 : ¬ pl = 5 := fun z => h ((en (k := 5) (by decide)).mpr z)
  refine ⟨fun h => ?_, fun h => ?_⟩
  · have h := (en (k := 6) (by decide)).mp h
    subst h
    refine ⟨rfl, trivial, fun r I1 J1 hp => ?_⟩
    obtain ⟨rfl, rfl, rfl⟩ := hp
    exact finb _ (rfl)
  have h6 : ¬ pl = 6 := fun z => h ((en (k := 6) (by decide)).mpr z)
  refine ⟨fun h => ?_, fun h => ?_⟩
  · have h := (en (k := 7) (by decide)).mp h
    subst h
    refine ⟨rfl, trivial, fun r I1 J1 hp => ?_⟩
    obtain ⟨rfl, rfl, rfl⟩ := hp
    exact finb _ (rfl)
  have h7 : ¬ pl = 7 := fun z => h ((en (k := 7) (by decide)).mpr z)
  refine ⟨fun h => ?_, fun h => ?_⟩
  · have h := (en (k := 8) (by decide)).mp h
    subst h
    refine ⟨rfl, trivial, fun r I1 J1 hp => ?_⟩
    obtain ⟨rfl, rfl, rfl⟩ := hp
    exact finb _ (rfl)
  have h8 : ¬ pl = 8 := fun z => h ((en (k := 8) (by decide)).mpr z)
  refine ⟨fun h => ?_, fun h => ?_⟩
  · have h := (en (k := 9) (by decide)).mp h
    subst h
    refine ⟨fun h2 => ?_, fun h2 => ?_⟩
    · exact fin1 (Or.inl h2)
    · refine ⟨rfl, trivial, fun r I1 J1 hp => ?_⟩
      obtain ⟨rfl, rfl, rfl⟩ := hp
      refine ⟨fun h3 => ?_, fun h3 => ?_⟩
      · exact fin0 (fun z => z.elim h2 (mv_b0.mp h3))
      · exact fin1 (Or.inr (b_yes h3))
  have h9 : ¬ pl = 9 := fun z => h ((en (k := 9) (by decide)).mpr z)
  refine ⟨fun h => ?_, fun h => ?_⟩
  · have h := (en (k := 10) (by decide)).mp h
    subst h
    refine ⟨fun h2 => ?_, fun h2 => ?_⟩
    · exact fin1 (Or.inl h2)
    · refine ⟨rfl, trivial, fun r I1 J1 hp => ?_⟩
      obtain ⟨rfl, rfl, rfl⟩ := hp
      refine ⟨fun h3 => ?_, fun h3 => ?_⟩
      · exact fin0 (fun z => z.elim h2 (mv_b0.mp h3))
      · exact fin1 (Or.inr (b_yes h3))
  have h10 : ¬ pl = 10 := fun z => h ((en (k := 10) (by decide)).mpr z)
  refine ⟨fun h => ?_, fun h => ?_⟩
  · have h := (en (k := 11) (by decide)).mp h
    subst h
    refine ⟨fun h2 => ?_, fun h2 => ?_⟩
    · exact fin1 (Or.inl h2)
    · refine ⟨rfl, trivial, fun r I1 J1 hp => ?_⟩
      obtain ⟨rfl, rfl, rfl⟩ := hp
      refine ⟨fun h3 => ?_, fun h3 => ?_⟩
      · exact fin0 (fun z => z.elim h2 (mv_b0.mp h3))
      · exact fin1 (Or.inr (b_yes h3))
  have h11 : ¬ pl = 11 := fun z => h ((en (k := 11) (by decide)).mpr z)
  refine ⟨fun h => ?_, fun h => ?_⟩
  · have h := (en (k := 12) (by decide)).mp h
    subst h
    refine ⟨fun h2 => ?_, fun h2 => ?_⟩
    · exact fin1 (Or.inl h2)
    · refine ⟨rfl, trivial, fun r I1 J1 hp => ?_⟩
      obtain ⟨rfl, rfl, rfl⟩ := hp
      refine ⟨fun h3 => ?_, fun h3 => ?_⟩
      · exact fin0 (fun z => z.elim h2 (mv_b0.mp h3))
      · exact fin1 (Or.inr (b_yes h3))
  have h12 : ¬ pl = 12 := fun z => h ((en (k := 12) (by decide)).mpr z)
  refine ⟨fun h => ?_, fun h => ?_⟩
  · have h := (en (k := 13) (by decide)).mp h
    subst h
    refine ⟨fun h2 => ?_, fun h2 => ?_⟩
    · exact fin0 h2
    · exact fin1 h2
  have h13 : ¬ pl = 13 := fun z => h ((en (k := 13) (by decide)).mpr z)
  refine ⟨rfl, trivial, fun r I1 J1 hp => ?_⟩
  obtain ⟨rfl, rfl, rfl⟩ := hp
  exact finb _ (by unfold fitP; rw [if_neg h0, if_neg h5, if_neg h6, if_neg h7, if_neg (by omega), if_neg h13])
theorem c_fits {l : Launch} {G : mv_G} {A : Nat → Prop} (hG : mv_adk G A) : mv_Con l G A 41 sp_fits := mv_con hG 41 mv_k_X5_fits (by decide +kernel) (mv_cs_cons (c_within hG) (mv_cs_nil)) cb_fits
/-- the first fault from the letter k on: in a series, pl letters of it are read, co series are complete -/
noncomputable def ffF (T : Nat → Int32) (n : Nat) : Nat → Nat → Nat → Nat → Int32
  | 0, _, pl, _ => if pl = 0 then -9 else nI n
  | r + 1, k, pl, co => @ite _ (co = 5 ∨ ¬ fitP pl (T k) (T (k - 1))) (Classical.propDecidable _) (nI k) (if T k = 46 then ffF T n r (k + 1) 0 (co + 1) else ffF T n r (k + 1) (pl + 1) co)
noncomputable def fltF (T : Nat → Int32) (n : Nat) : Int32 := if n = 0 ∨ ¬ T 0 = 87 then 0 else ffF T n (n - 1) 1 0 0
def sp_findFault : mv_SP := (fun as I _ => (∃ t : Nat, t ≤ 80 ∧ I 1 1 = nI t) ∧ as = [.ref 1],
  fun _ I J r I' J' => I = I' ∧ J = J' ∧ r = some (.int (fltF (I 2) (I 1 1).toNatClampNeg)))
theorem cb_findFault : mv_body 40 mv_t_X5_findFault (mv_cs [(41, sp_fits)]) sp_findFault := by
  intro as I J h
  obtain ⟨⟨t, ht, hs⟩, rfl⟩ := h
  have hct : (I 1 1).toNatClampNeg = t := by rw [hs]; exact nI_clamp (by omega)
  have fin : ∀ x : Int32, x = fltF (I 2) t → sp_findFault.2 [.ref 1] I J (some (.int x)) I J := by
    intro x hx
    refine ⟨rfl, rfl, ?_⟩
    rw [hct, hx]
  have key : ∀ r k pl co : Nat, 1 ≤ k → k + r = t → pl ≤ k → co ≤ k → ffF (I 2) t r k pl co = fltF (I 2) t → mv_V mv_ow mv_swf mv_t_X5_findFault (mv_cs [(41, sp_fits)]) (sp_findFault.2 [.ref 1] I J) 26 [(0, .ref 1), (1, .int (nI pl)), (2, .int (nI co)), (3, .int (nI k))] [] I J := by
    intro r
    induction r with
    | zero =>
      intro k pl co hk1 hk hpl hco hf
      have hk : k = t := hk
      subst hk
      rw [ffF] at hf
      refine mv_run_V (stop := [26]) 40 _ _ _ _ _ ?_
      refine ⟨rfl, fun h1 => ?_, fun h1 => ?_⟩
      · refine ⟨fun h2 => ?_, fun h2 => ?_⟩
        · have h2 : ¬ pl = 0 := fun z => h2 (by rw [z]; rfl)
          rw [if_neg h2] at hf
          exact ⟨rfl, fin _ (hs.trans hf)⟩
        · have h2 := (nI_eq (b := 0) (by omega) (by decide)).mp h2
          rw [if_pos h2] at hf
          exact fin _ hf
      · rw [hs] at h1
        exact absurd h1 (nI_nlt (Nat.le_refl _) (by omega))
    | succ r ih =>
      intro k pl co hk1 hk hpl hco hf
      have ck : (nI k).toNatClampNeg = k := nI_clamp (by omega)
      have cpl : (nI pl).toNatClampNeg = pl := nI_clamp (by omega)
      have hk1' : nI k - 1 = nI (k - 1) := by rw [show (1 : Int32) = nI 1 from rfl, pk_sub (by omega)]
      have ck1 : (nI (k - 1)).toNatClampNeg = k - 1 := nI_clamp (by omega)
      rw [ffF] at hf
      refine mv_run_V (stop := [26]) 60 _ _ _ _ _ ?_
      refine ⟨rfl, fun h1 => ?_, fun h1 => ?_⟩
      · rw [hs] at h1
        exact absurd (nI_lt (by omega) (by omega)) h1
      · refine ⟨fun h3 => ?_, fun h3 => ?_⟩
        · have h3 := (nI_eq (b := 5) (by omega) (by decide)).mp h3
          rw [if_pos (Or.inl h3)] at hf
          exact fin _ hf
        · have h3 : ¬ co = 5 := fun z => h3 (by rw [z]; rfl)
          refine ⟨rfl, _, rfl, _, rfl, vp_in_nI (by omega) (by decide), rfl, _, rfl, _, rfl, (by rw [hk1']; exact vp_in_nI (by omega) (by decide)), rfl, ⟨pl, _, _, by omega, rfl⟩, fun r1 I2 J2 hp => ?_⟩
          obtain ⟨rfl, rfl, z, rfl, hz⟩ := hp
          rw [cpl, ck, hk1', ck1] at hz
          refine ⟨fun h5 => ?_, fun h5 => ?_⟩
          · have hfit : fitP pl (I 2 k) (I 2 (k - 1)) := by
              rcases hz with ⟨z, -⟩ | ⟨-, z⟩
              · exact absurd z h5
              · exact z
            rw [if_neg (fun z => z.elim h3 (fun z => z hfit))] at hf
            refine ⟨rfl, _, rfl, _, rfl, vp_in_nI (by omega) (by decide), ?_⟩
            rw [ck]
            refine ⟨fun h6 => ?_, fun h6 => ?_⟩
            · rw [if_neg h6] at hf
              have h7 := ih (k + 1) (pl + 1) co (by omega) (by omega) (by omega) (by omega) hf
              rw [nI_succ, nI_succ] at h7
              exact h7
            · rw [if_pos h6] at hf
              have h7 := ih (k + 1) 0 (co + 1) (by omega) (by omega) (by omega) (by omega) hf
              rw [nI_succ, nI_succ] at h7
              exact h7
          · have hfit : ¬ fitP pl (I 2 k) (I 2 (k - 1)) := by
              rcases hz with ⟨-, z⟩ | ⟨z, -⟩
              · exact z
              · rw [z] at h5
                exact absurd h5 (by decide)
            rw [if_pos (Or.inr hfit)] at hf
            exact fin _ hf
  refine ⟨rfl, mv_run_V (stop := [26]) 40 _ _ _ _ _ ?_⟩
  refine ⟨rfl, fun h1 => ?_, fun h1 => ?_⟩
  · rw [hs] at h1
    have h1 := (nI_eq (b := 0) (by omega) (by decide)).mp h1
    exact fin _ (by unfold fltF; rw [if_pos (Or.inl h1)])
  · have h1 : ¬ t = 0 := fun z => h1 (by rw [hs, z]; rfl)
    refine ⟨rfl, _, rfl, _, rfl, vp_in_nI (n := 0) (by decide) (by decide), ?_⟩
    refine ⟨fun h2 => ?_, fun h2 => ?_⟩
    · have h2 : I 2 0 = 87 := h2
      exact key (t - 1) 1 0 0 (Nat.le_refl _) (by omega) (by omega) (by omega) (by unfold fltF; rw [if_neg (fun z => z.elim h1 (fun z => z h2))])
    · have h2 : ¬ I 2 0 = 87 := h2
      exact fin _ (by unfold fltF; rw [if_pos (Or.inr h2)])
theorem c_findFault {l : Launch} {G : mv_G} {A : Nat → Prop} (hG : mv_adk G A) : mv_Con l G A 40 sp_findFault := mv_con hG 40 mv_k_X5_findFault (by decide +kernel) (mv_cs_cons (c_fits hG) (mv_cs_nil)) cb_findFault
end
section
/-! The text: reading. -/
/-- how long the season is whose first figure stands at st -/
noncomputable def slN (T : Nat → Int32) (n st : Nat) : Nat → Nat → Nat
  | 0, k => k
  | r + 1, k => @ite _ (stN T n (st + k)) (Classical.propDecidable _) k (slN T n st r (k + 1))
theorem slN_le (T : Nat → Int32) (n st : Nat) : ∀ r k, slN T n st r k ≤ k + r
  | 0, k => Nat.le_refl _
  | r + 1, k => by
    rw [slN]
    split
    · omega
    · have := slN_le T n st r (k + 1)
      omega
/-- the fields of a series whose c stands at a -/
noncomputable def putF (T : Nat → Int32) (n a : Nat) (f : Nat → Int32) : Nat → Int32 := fun b => if b = 0 then 10 * dgN T n (a + 1) + dgN T n (a + 2) else if b = 1 then dgN T n (a + 3) else if b = 2 then 10 * dgN T n (a + 4) + dgN T n (a + 5) else if b = 3 then dgN T n (a + 6) else if b = 4 then dgN T n (a + 7) else if b = 6 then nI (slN T n (a + 8) 5 0) else f b
noncomputable def rdF (T : Nat → Int32) (n a : Nat) (f : Nat → Int32) : Nat → Int32 := beginF (putF T n a f)
noncomputable def ssF (T : Nat → Int32) (n a L : Nat) (f : Nat → Int32) : Nat → Int32 := fun j => if j < L then dgN T n (a + 8 + j) else f j
noncomputable def rdI (I : mv_I) (o n a : Nat) : mv_I := mv_sr (mv_sr I (o + 1) (ssF (I 2) n a (slN (I 2) n (a + 8) 5 0) (I (o + 1)))) o (rdF (I 2) n a (I o))
def sp_readSeries : mv_SP := (fun as I _ => ∃ (t a c : Nat), t ≤ 80 ∧ I 1 1 = nI t ∧ a < 500 ∧ c < 91 ∧ as = [.ref 1, .int (nI a), .ref (100 + 3 * c)],
  fun as I J r I' J' => J = J' ∧ match as with
    | [_, .int a, .ref o] => I' = rdI I o (I 1 1).toNatClampNeg a.toNatClampNeg ∧ r = some (.int (nI (a.toNatClampNeg + 9 + slN (I 2) (I 1 1).toNatClampNeg (a.toNatClampNeg + 8) 5 0)))
    | _ => True)
theorem cb_readSeries : mv_body 44 mv_t_X5_readSeries (mv_cs [(39, sp_digit), (45, sp_stopsAt), (10, sp_begin)]) sp_readSeries := by
  intro as I J h
  obtain ⟨t, a, c, ht, hs, ha, hc, rfl⟩ := h
  have hct : (I 1 1).toNatClampNeg = t := by rw [hs]; exact nI_clamp (by omega)
  have hca : (nI a).toNatClampNeg = a := nI_clamp (by omega)
  have lay := mv_lay_ch hc
  have e1 : 100 + 3 * c + 1 = 101 + 3 * c := by omega
  have ca : ∀ {x : Nat}, x < 1000 → (nI x).toNatClampNeg = x := fun h => nI_clamp (by omega)
  -- the season
  have key : ∀ (s5 : mv_I), s5 1 = I 1 → s5 2 = I 2 → (∀ b, b ≠ 100 + 3 * c → s5 b = I b) → (∀ b, b ≠ 6 → s5 (100 + 3 * c) b = putF (I 2) t a (I (100 + 3 * c)) b) → ∀ r k : Nat, k + r = 5 → slN (I 2) t (a + 8) r k = slN (I 2) t (a + 8) 5 0 → mv_V mv_ow mv_swf mv_t_X5_readSeries (mv_cs [(39, sp_digit), (45, sp_stopsAt), (10, sp_begin)]) (sp_readSeries.2 [.ref 1, .int (nI a), .ref (100 + 3 * c)] I J) 87 [(0, .ref 1), (1, .int (nI a)), (2, .ref (100 + 3 * c)), (3, .int (nI (a + 8))), (4, .int (nI k))] [] (mv_sr s5 (101 + 3 * c) (ssF (I 2) t a k (I (101 + 3 * c)))) J := by
    intro s5 h1 h2 h3 h4 r
    have fin : ∀ k : Nat, k ≤ 5 → k = slN (I 2) t (a + 8) 5 0 → sp_readSeries.2 [.ref 1, .int (nI a), .ref (100 + 3 * c)] I J (some (.int (nI (a + 8) + nI k + 1))) (mv_sr (mv_si (mv_sr s5 (101 + 3 * c) (ssF (I 2) t a k (I (101 + 3 * c)))) (100 + 3 * c) 6 (nI k)) (100 + 3 * c) (beginF ((mv_si (mv_sr s5 (101 + 3 * c) (ssF (I 2) t a k (I (101 + 3 * c)))) (100 + 3 * c) 6 (nI k)) (100 + 3 * c)))) J := by
      intro k hk5 hk
      refine ⟨rfl, ?_⟩
      show mv_sr _ _ _ = rdI I (100 + 3 * c) (I 1 1).toNatClampNeg (nI a).toNatClampNeg ∧ some (Value.int _) = some (Value.int (nI ((nI a).toNatClampNeg + 9 + slN (I 2) (I 1 1).toNatClampNeg ((nI a).toNatClampNeg + 8) 5 0)))
      rw [hct, hca, ← hk, nI_add, ← nI_succ]
      refine ⟨?_, by rw [show a + 8 + k + 1 = a + 9 + k by omega]⟩
      unfold rdI
      rw [e1, ← hk]
      have hput : mv_si (mv_sr s5 (101 + 3 * c) (ssF (I 2) t a k (I (101 + 3 * c)))) (100 + 3 * c) 6 (nI k) (100 + 3 * c) = putF (I 2) t a (I (100 + 3 * c)) := by
        funext b
        rw [mv_si_ap, mv_sr_ap, if_neg (by omega : ¬ 100 + 3 * c = 101 + 3 * c)]
        by_cases hb : b = 6
        · rw [if_pos ⟨rfl, hb⟩, hb]
          unfold putF
          rw [if_neg (by decide), if_neg (by decide), if_neg (by decide), if_neg (by decide), if_neg (by decide), if_pos rfl, ← hk]
        · rw [if_neg (fun z => hb z.2), h4 b hb]
      rw [hput]
      unfold rdF
      funext x b
      rw [mv_sr_ap, mv_sr_ap, mv_sr_ap, mv_si_ap, mv_sr_ap]
      by_cases hx : x = 100 + 3 * c
      · rw [if_pos hx, if_pos hx]
      · rw [if_neg hx, if_neg hx, if_neg (fun z => hx z.1)]
        by_cases hx2 : x = 101 + 3 * c
        · rw [if_pos hx2, if_pos hx2]
        · rw [if_neg hx2, if_neg hx2, h3 x hx]
    have q1 : ∀ f, (mv_sr s5 (101 + 3 * c) f) 1 = I 1 := fun f => (mv_sr_ne (by omega)).trans h1
    have q2 : ∀ f, (mv_sr s5 (101 + 3 * c) f) 2 = I 2 := fun f => (mv_sr_ne (by omega)).trans h2
    induction r with
    | zero =>
      intro k hk hf
      have hk : k = 5 := hk
      subst hk
      refine mv_run_V (stop := [87]) 40 _ _ _ _ _ ?_
      refine ⟨fun h5 => ?_, fun h5 => ?_⟩
      · refine ⟨lay, rfl, lay, ⟨c, hc, rfl⟩, fun r1 I2 J2 hp => ?_⟩
        obtain ⟨rfl, rfl, rfl⟩ := hp
        exact fin 5 (by decide) hf
      · have h5 : nI 5 < nI 5 := h5
        exact absurd h5 (nI_nlt (Nat.le_refl _) (by decide))
    | succ r ih =>
      intro k hk hf
      rw [slN] at hf
      have hadd : nI (a + 8) + nI k = nI (a + 8 + k) := nI_add _ _
      refine mv_run_V (stop := [87]) 60 _ _ _ _ _ ?_
      refine ⟨fun h5 => ?_, fun h5 => ?_⟩
      · have h5 : ¬ nI k < nI 5 := h5
        exact absurd (nI_lt (by omega) (by decide)) h5
      · refine ⟨rfl, rfl, ⟨⟨t, ht, (congrFun (q1 _) 1).trans hs⟩, a + 8 + k, by omega, by rw [← hadd]⟩, fun r1 I2 J2 hp => ?_⟩
        obtain ⟨rfl, rfl, z, rfl, hz⟩ := hp
        rw [q2, q1, hct, hadd, ca (by omega)] at hz
        refine ⟨fun h6 => ?_, fun h6 => ?_⟩
        · have hst : stN (I 2) t (a + 8 + k) := by
            rcases hz with ⟨z, -⟩ | ⟨-, z⟩
            · exact absurd z h6
            · exact z
          rw [if_pos hst] at hf
          refine ⟨lay, rfl, lay, ⟨c, hc, rfl⟩, fun r1 I2 J2 hp => ?_⟩
          obtain ⟨rfl, rfl, rfl⟩ := hp
          exact fin k (by omega) hf
        · have hst : ¬ stN (I 2) t (a + 8 + k) := by
            rcases hz with ⟨-, z⟩ | ⟨z, -⟩
            · exact z
            · rw [z] at h6
              exact absurd h6 (by decide)
          rw [if_neg hst] at hf
          refine ⟨lay, _, mv_rf_cs hc, rfl, rfl, ⟨⟨t, ht, (congrFun (q1 _) 1).trans hs⟩, a + 8 + k, by omega, by rw [← hadd]⟩, fun r1 I2 J2 hp => ?_⟩
          obtain ⟨rfl, rfl, hr⟩ := hp
          have hr : r1 = some (.int (dgN ((mv_sr s5 (101 + 3 * c) (ssF (I 2) t a k (I (101 + 3 * c)))) 2) ((mv_sr s5 (101 + 3 * c) (ssF (I 2) t a k (I (101 + 3 * c)))) 1 1).toNatClampNeg (nI (a + 8) + nI k).toNatClampNeg)) := hr
          rw [q2, q1, hct, hadd, ca (by omega)] at hr
          subst hr
          refine ⟨_, mv_lay_cs hc, vp_in_nI (by omega) (by decide), ?_⟩
          rw [ca (by omega)]
          have hnx : mv_si (mv_sr s5 (101 + 3 * c) (ssF (I 2) t a k (I (101 + 3 * c)))) (101 + 3 * c) k (dgN (I 2) t (a + 8 + k)) = mv_sr s5 (101 + 3 * c) (ssF (I 2) t a (k + 1) (I (101 + 3 * c))) := by
            funext x b
            rw [mv_si_ap, mv_sr_ap, mv_sr_ap]
            unfold ssF
            by_cases hx : x = 101 + 3 * c
            · rw [if_pos hx, if_pos hx]
              by_cases hb : b = k
              · rw [if_pos ⟨hx, hb⟩, if_pos (by omega), hb]
              · rw [if_neg (fun z => hb z.2)]
                by_cases hb2 : b < k
                · rw [if_pos hb2, if_pos (by omega)]
                · rw [if_neg hb2, if_neg (by omega)]
            · rw [if_neg (fun z => hx z.1), if_neg hx, if_neg hx]
          rw [hnx]
          have h7 := ih (k + 1) (by omega) hf
          rw [nI_succ k] at h7
          exact h7
  have dg : ∀ (Ik : mv_I) (x : Nat), Ik 1 = I 1 → Ik 2 = I 2 → x < 1000 → dgN (Ik 2) (Ik 1 1).toNatClampNeg (nI x).toNatClampNeg = dgN (I 2) t x := by
    intro Ik x h1 h2 hx
    rw [h1, h2, hct, ca hx]
  have si1 : ∀ {Ik : mv_I} {j : Nat} {x : Int32}, Ik 1 = I 1 → (mv_si Ik (100 + 3 * c) j x) 1 = I 1 := fun h => (mv_si_ne (by omega)).trans h
  have si2 : ∀ {Ik : mv_I} {j : Nat} {x : Int32}, Ik 2 = I 2 → (mv_si Ik (100 + 3 * c) j x) 2 = I 2 := fun h => (mv_si_ne (by omega)).trans h
  have ad : ∀ x : Nat, nI a + nI x = nI (a + x) := fun x => nI_add a x
  have st : ∀ (Ik : mv_I) (q : Nat) (z : Int32), Ik 1 = I 1 → Ik 2 = I 2 → q < 100 → z = nI q → (∃ t : Nat, t ≤ 80 ∧ Ik 1 1 = nI t) ∧ ∃ x : Nat, x < 1000 ∧ [Value.ref 1, .int (nI a + z)] = [.ref 1, .int (nI x)] := by
    intro Ik q z h1 h2 hq hz
    exact ⟨⟨t, ht, (congrFun h1 1).trans hs⟩, a + q, by omega, by rw [hz, ad]⟩
  have ps : ∀ (Ik : mv_I) (q : Nat) (z : Int32) (r : Option Value), Ik 1 = I 1 → Ik 2 = I 2 → q < 100 → z = nI q → r = some (.int (dgN (Ik 2) (Ik 1 1).toNatClampNeg (nI a + z).toNatClampNeg)) → r = some (.int (dgN (I 2) t (a + q))) := by
    intro Ik q z r h1 h2 hq hz hr
    rw [hz, ad, dg Ik (a + q) h1 h2 (by omega)] at hr
    exact hr
  refine ⟨rfl, mv_run_V (stop := [87]) 60 _ _ _ _ _ ?_⟩
  refine ⟨rfl, rfl, st I 1 _ rfl rfl (by decide) rfl, fun r1 I2 J2 hp => ?_⟩
  obtain ⟨rfl, rfl, hr⟩ := hp
  have hr := ps I 1 _ _ rfl rfl (by decide) rfl hr
  subst hr
  refine ⟨rfl, rfl, st I 2 _ rfl rfl (by decide) rfl, fun r1 I2 J2 hp => ?_⟩
  obtain ⟨rfl, rfl, hr⟩ := hp
  have hr := ps I 2 _ _ rfl rfl (by decide) rfl hr
  subst hr
  refine ⟨lay, rfl, rfl, st _ 3 _ (si1 rfl) (si2 rfl) (by decide) rfl, fun r1 I2 J2 hp => ?_⟩
  obtain ⟨rfl, rfl, hr⟩ := hp
  have hr := ps _ 3 _ _ (si1 rfl) (si2 rfl) (by decide) rfl hr
  subst hr
  refine ⟨lay, rfl, rfl, st _ 4 _ (si1 (si1 rfl)) (si2 (si2 rfl)) (by decide) rfl, fun r1 I2 J2 hp => ?_⟩
  obtain ⟨rfl, rfl, hr⟩ := hp
  have hr := ps _ 4 _ _ (si1 (si1 rfl)) (si2 (si2 rfl)) (by decide) rfl hr
  subst hr
  refine ⟨rfl, rfl, st _ 5 _ (si1 (si1 rfl)) (si2 (si2 rfl)) (by decide) rfl, fun r1 I2 J2 hp => ?_⟩
  obtain ⟨rfl, rfl, hr⟩ := hp
  have hr := ps _ 5 _ _ (si1 (si1 rfl)) (si2 (si2 rfl)) (by decide) rfl hr
  subst hr
  refine ⟨lay, rfl, rfl, st _ 6 _ (si1 (si1 (si1 rfl))) (si2 (si2 (si2 rfl))) (by decide) rfl, fun r1 I2 J2 hp => ?_⟩
  obtain ⟨rfl, rfl, hr⟩ := hp
  have hr := ps _ 6 _ _ (si1 (si1 (si1 rfl))) (si2 (si2 (si2 rfl))) (by decide) rfl hr
  subst hr
  refine ⟨lay, rfl, rfl, st _ 7 _ (si1 (si1 (si1 (si1 rfl)))) (si2 (si2 (si2 (si2 rfl)))) (by decide) rfl, fun r1 I2 J2 hp => ?_⟩
  obtain ⟨rfl, rfl, hr⟩ := hp
  have hr := ps _ 7 _ _ (si1 (si1 (si1 (si1 rfl)))) (si2 (si2 (si2 (si2 rfl)))) (by decide) rfl hr
  subst hr
  refine ⟨lay, ?_⟩
  have k := key (mv_si (mv_si (mv_si (mv_si (mv_si I (100 + 3 * c) 0 (10 * dgN (I 2) t (a + 1) + dgN (I 2) t (a + 2))) (100 + 3 * c) 1 (dgN (I 2) t (a + 3))) (100 + 3 * c) 2 (10 * dgN (I 2) t (a + 4) + dgN (I 2) t (a + 5))) (100 + 3 * c) 3 (dgN (I 2) t (a + 6))) (100 + 3 * c) 4 (dgN (I 2) t (a + 7))) (si1 (si1 (si1 (si1 (si1 rfl))))) (si2 (si2 (si2 (si2 (si2 rfl))))) (fun b hb => (mv_si_ne hb).trans ((mv_si_ne hb).trans ((mv_si_ne hb).trans ((mv_si_ne hb).trans (mv_si_ne hb))))) (fun b hb => by
    simp only [mv_si_ap, putF, true_and, if_neg hb]
    grind) 5 0 rfl rfl
  have hsr : mv_sr (mv_si (mv_si (mv_si (mv_si (mv_si I (100 + 3 * c) 0 (10 * dgN (I 2) t (a + 1) + dgN (I 2) t (a + 2))) (100 + 3 * c) 1 (dgN (I 2) t (a + 3))) (100 + 3 * c) 2 (10 * dgN (I 2) t (a + 4) + dgN (I 2) t (a + 5))) (100 + 3 * c) 3 (dgN (I 2) t (a + 6))) (100 + 3 * c) 4 (dgN (I 2) t (a + 7))) (101 + 3 * c) (ssF (I 2) t a 0 (I (101 + 3 * c))) = (mv_si (mv_si (mv_si (mv_si (mv_si I (100 + 3 * c) 0 (10 * dgN (I 2) t (a + 1) + dgN (I 2) t (a + 2))) (100 + 3 * c) 1 (dgN (I 2) t (a + 3))) (100 + 3 * c) 2 (10 * dgN (I 2) t (a + 4) + dgN (I 2) t (a + 5))) (100 + 3 * c) 3 (dgN (I 2) t (a + 6))) (100 + 3 * c) 4 (dgN (I 2) t (a + 7))) := by
    funext x b
    rw [mv_sr_ap]
    by_cases hx : x = 101 + 3 * c
    · rw [if_pos hx]
      have h0 : ∀ {Ik : mv_I} {j : Nat} {y : Int32}, Ik x b = I (101 + 3 * c) b → mv_si Ik (100 + 3 * c) j y x b = I (101 + 3 * c) b := fun h => by rw [mv_si_ne (by omega)]; exact h
      rw [h0 (h0 (h0 (h0 (h0 (by rw [hx])))))]
      unfold ssF
      rw [if_neg (Nat.not_lt_zero b)]
    · rw [if_neg hx]
  rw [hsr, ← ad 8] at k
  exact k
theorem c_readSeries {l : Launch} {G : mv_G} {A : Nat → Prop} (hG : mv_adk G A) : mv_Con l G A 44 sp_readSeries := mv_con hG 44 mv_k_X5_readSeries (by decide +kernel) (mv_cs_cons (c_digit hG) (mv_cs_cons (c_stopsAt hG) (mv_cs_cons (c_begin hG) (mv_cs_nil)))) cb_readSeries
end
section
/-! The text: the class's methods on it. -/
theorem slN_le5 (T : Nat → Int32) (n st : Nat) : slN T n st 5 0 ≤ 5 := slN_le T n st 5 0
theorem rdI_ne {I : mv_I} {o n a b : Nat} (h0 : b ≠ o) (h1 : b ≠ o + 1) : rdI I o n a b = I b := by
  unfold rdI
  rw [mv_sr_ne h0, mv_sr_ne h1]
/-- the series read from the letter a on, the first of them with number i -/
noncomputable def rinI (t : Nat) : Nat → mv_I → Nat → Nat → mv_I
  | 0, I, i, _ => mv_si I 400 1 (nI i)
  | r + 1, I, i, a => if a + 10 ≤ t then rinI t r (rdI I (100 + 3 * i) t a) (i + 1) (a + 9 + slN (I 2) t (a + 8) 5 0) else mv_si I 400 1 (nI i)
def sp_readInto : mv_SP := (fun as I _ => (∃ t : Nat, t ≤ 80 ∧ I 1 1 = nI t) ∧ as = [.ref 1, .ref 400],
  fun _ I J r I' J' => J = J' ∧ r = none ∧ I' = rinI (I 1 1).toNatClampNeg 5 I 0 1)
theorem cb_readInto : mv_body 43 mv_t_X5_readInto (mv_cs [(44, sp_readSeries)]) sp_readInto := by
  intro as I J h
  obtain ⟨⟨t, ht, hs⟩, rfl⟩ := h
  have hct : (I 1 1).toNatClampNeg = t := by rw [hs]; exact nI_clamp (by omega)
  have key : ∀ r i a : Nat, ∀ I1 : mv_I, i + r = 5 → a ≤ 200 → I1 1 1 = nI t → rinI t r I1 i a = rinI t 5 I 0 1 → mv_V mv_ow mv_swf mv_t_X5_readInto (mv_cs [(44, sp_readSeries)]) (sp_readInto.2 [.ref 1, .ref 400] I J) 4 [(0, .ref 1), (1, .ref 400), (2, .int (nI a)), (3, .int (nI i))] [] I1 J := by
    intro r
    induction r with
    | zero =>
      intro i a I1 hi ha h1 hf
      have hi : i = 5 := hi
      subst hi
      refine mv_run_V (stop := [4]) 40 _ _ _ _ _ ?_
      refine ⟨fun h5 => ?_, fun h5 => ?_⟩
      · refine ⟨rfl, rfl, rfl, ?_⟩
        rw [hct]
        exact hf
      · have h5 : nI 5 < nI 5 := h5
        exact absurd h5 (nI_nlt (Nat.le_refl _) (by decide))
    | succ r ih =>
      intro i a I1 hi ha h1 hf
      rw [rinI] at hf
      have hadd : nI a + nI 10 = nI (a + 10) := nI_add _ _
      refine mv_run_V (stop := [4]) 60 _ _ _ _ _ ?_
      refine ⟨fun h5 => ?_, fun h5 => ?_⟩
      · have h5 : ¬ nI i < nI 5 := h5
        exact absurd (nI_lt (by omega) (by decide)) h5
      · refine ⟨rfl, fun h6 => ?_, fun h6 => ?_⟩
        · have h6 : I1 1 1 < nI a + nI 10 := h6
          rw [h1, hadd, nI_ltI (by omega) (by omega)] at h6
          rw [if_neg (by omega)] at hf
          refine ⟨rfl, rfl, rfl, ?_⟩
          rw [hct]
          exact hf
        · have h6 : ¬ I1 1 1 < nI a + nI 10 := h6
          rw [h1, hadd, nI_ltI (by omega) (by omega)] at h6
          rw [if_pos (by omega)] at hf
          refine ⟨rfl, _, rfl, _, rfl, vp_in_nI (by omega) (by decide), _, (by rw [nI_clamp (by omega)]; exact mv_rf_ga (g := 0) (by decide) (by omega)), rfl, rfl, ⟨t, a, 5 * 0 + i, ht, h1, by omega, by omega, rfl⟩, fun r1 I2 J2 hp => ?_⟩
          obtain ⟨rfl, hI, rfl⟩ := hp
          rw [h1, nI_clamp (by omega), nI_clamp (by omega)] at hI ⊢
          subst hI
          have e0 : 100 + 3 * (5 * 0 + i) = 100 + 3 * i := by omega
          rw [e0]
          have hsl := slN_le5 (I1 2) t (a + 8)
          have h7 := ih (i + 1) (a + 9 + slN (I1 2) t (a + 8) 5 0) (rdI I1 (100 + 3 * i) t a) (by omega) (by omega) (by rw [rdI_ne (by omega) (by omega)]; exact h1) hf
          rw [nI_succ i] at h7
          exact h7
  refine ⟨rfl, mv_run_V (stop := [4]) 40 _ _ _ _ _ ?_⟩
  exact key 5 0 1 I rfl (by decide) hs rfl
theorem c_readInto {l : Launch} {G : mv_G} {A : Nat → Prop} (hG : mv_adk G A) : mv_Con l G A 43 sp_readInto := mv_con hG 43 mv_k_X5_readInto (by decide +kernel) (mv_cs_cons (c_readSeries hG) (mv_cs_nil)) cb_readInto
def sp_fault : mv_SP := (fun as I _ => SH I ∧ as = [.ref 0],
  fun _ I J r I' J' => I = I' ∧ J = J' ∧ r = some (.int (fltF (I 2) (I 1 1).toNatClampNeg)))
theorem cb_fault : mv_body 58 mv_t_X6_fault (mv_cs [(40, sp_findFault)]) sp_fault := by
  intro as I J h
  obtain ⟨hS, rfl⟩ := h
  refine ⟨rfl, mv_run_V (stop := []) 40 _ _ _ _ _ ?_⟩
  refine ⟨rfl, _, rfl, rfl, rfl, ⟨hS.2.2.2.2.1, rfl⟩, fun r1 I2 J2 hp => ?_⟩
  obtain ⟨rfl, rfl, rfl⟩ := hp
  exact ⟨rfl, rfl, rfl⟩
theorem c_fault {l : Launch} {G : mv_G} {A : Nat → Prop} (hG : mv_adk G A) : mv_Con l G A 58 sp_fault := mv_con hG 58 mv_k_X6_fault (by decide +kernel) (mv_cs_cons (c_findFault hG) (mv_cs_nil)) cb_fault
noncomputable def watI (I : mv_I) : mv_I := mv_si (mv_si (mv_si (rinI (I 1 1).toNatClampNeg 5 I 0 1) 3 2 0) 6 0 0) 6 1 0
def sp_watch : mv_SP := (fun as I _ => SH I ∧ as = [.ref 0],
  fun _ I J r I' J' => J = J' ∧ if fltF (I 2) (I 1 1).toNatClampNeg = -9 then r = some (.int (watI I 400 1)) ∧ I' = watI I else r = some (.int (-3)) ∧ I = I')
theorem cb_watch : mv_body 80 mv_t_X6_watch (mv_cs [(40, sp_findFault), (43, sp_readInto), (0, sp_forget)]) sp_watch := by
  intro as I J h
  obtain ⟨hS, rfl⟩ := h
  refine ⟨rfl, mv_run_V (stop := [35]) 60 _ _ _ _ _ ?_⟩
  refine ⟨rfl, _, rfl, rfl, rfl, ⟨hS.2.2.2.2.1, rfl⟩, fun r1 I2 J2 hp => ?_⟩
  obtain ⟨rfl, rfl, rfl⟩ := hp
  refine ⟨fun h1 => ?_, fun h1 => ?_⟩
  · refine ⟨rfl, _, rfl, rfl, _, rfl, rfl, rfl, ⟨hS.2.2.2.2.1, rfl⟩, fun r1 I2 J2 hp => ?_⟩
    obtain ⟨rfl, rfl, rfl⟩ := hp
    refine ⟨rfl, _, rfl, rfl, rfl, rfl, fun r1 I2 J2 hp => ?_⟩
    obtain ⟨rfl, rfl, rfl⟩ := hp
    refine mv_run_V (stop := []) 60 _ _ _ _ _ ?_
    refine ⟨fun h2 => absurd h2 (by decide), fun h2 => ?_⟩
    refine ⟨rfl, _, rfl, _, rfl, vp_in_nI (n := 0) (by decide) (by decide), Or.inl rfl, ?_⟩
    refine ⟨fun h2 => absurd h2 (by decide), fun h2 => ?_⟩
    refine ⟨rfl, _, rfl, _, rfl, vp_in_nI (n := 1) (by decide) (by decide), Or.inl rfl, ?_⟩
    refine ⟨fun h2 => ?_, fun h2 => absurd h2 (by decide)⟩
    refine ⟨rfl, _, rfl, rfl, rfl, ?_⟩
    rw [if_pos h1]
    exact ⟨rfl, rfl⟩
  · refine ⟨rfl, ?_⟩
    rw [if_neg h1]
    exact ⟨rfl, rfl⟩
theorem c_watch {l : Launch} {G : mv_G} {A : Nat → Prop} (hG : mv_adk G A) : mv_Con l G A 80 sp_watch := mv_con hG 80 mv_k_X6_watch (by decide +kernel) (mv_cs_cons (c_findFault hG) (mv_cs_cons (c_readInto hG) (mv_cs_cons (c_forget hG) (mv_cs_nil)))) cb_watch
def sp_write : mv_SP := (fun as I _ => SH I ∧ ∃ x : Int32, as = [.ref 0, .int x],
  fun as I J r I' J' => J = J' ∧ ∀ x : Int32, as = [.ref 0, .int x] → if 0 ≤ x ∧ x ≤ 255 then (if I 1 1 < 80 then r = some (.int (I 1 1 + 1)) ∧ I' = mv_si (mv_si I 2 (I 1 1).toNatClampNeg x) 1 1 (I 1 1 + 1) else r = some (.int (-4)) ∧ I = I') else r = some (.int (-2)) ∧ I = I')
theorem cb_write : mv_body 87 mv_t_X6_write (mv_cs [(84, sp_within), (38, sp_txAppend)]) sp_write := by
  intro as I J h
  obtain ⟨hS, x, rfl⟩ := h
  refine ⟨rfl, mv_run_V (stop := []) 60 _ _ _ _ _ ?_⟩
  refine ⟨rfl, trivial, fun r I1 J1 hp => ?_⟩
  obtain ⟨rfl, rfl, rfl⟩ := hp
  refine ⟨fun h3 => ?_, fun h3 => ?_⟩
  · have h3 := b_yes h3
    refine ⟨rfl, _, rfl, rfl, rfl, ⟨hS.2.2.2.2.1, x, rfl⟩, fun r1 I2 J2 hp => ?_⟩
    obtain ⟨rfl, hp⟩ := hp
    have hp : if I 1 1 < 80 then r1 = some (.int 1) ∧ I2 = mv_si (mv_si I 2 (I 1 1).toNatClampNeg x) 1 1 (I 1 1 + 1) else r1 = some (.int 0) ∧ I2 = I := hp
    by_cases h4 : I 1 1 < 80
    · rw [if_pos h4] at hp
      obtain ⟨rfl, rfl⟩ := hp
      refine ⟨fun h5 => absurd h5 (by decide), fun h5 => ?_⟩
      refine ⟨rfl, _, rfl, rfl, rfl, fun x' e => ?_⟩
      cases e
      rw [if_pos h3, if_pos h4]
      exact ⟨rfl, rfl⟩
    · rw [if_neg h4] at hp
      obtain ⟨rfl, rfl⟩ := hp
      refine ⟨fun h5 => ?_, fun h5 => absurd rfl h5⟩
      refine ⟨rfl, fun x' e => ?_⟩
      cases e
      rw [if_pos h3, if_neg h4]
      exact ⟨rfl, rfl⟩
  · have h3 := mv_b0.mp h3
    refine ⟨rfl, fun x' e => ?_⟩
    cases e
    rw [if_neg h3]
    exact ⟨rfl, rfl⟩
theorem c_write {l : Launch} {G : mv_G} {A : Nat → Prop} (hG : mv_adk G A) : mv_Con l G A 87 sp_write := mv_con hG 87 mv_k_X6_write (by decide +kernel) (mv_cs_cons (c_within hG) (mv_cs_cons (c_txAppend hG) (mv_cs_nil))) cb_write
end
section
/-! The reference: its small methods. -/
theorem ix {a k : Nat} (h : a + k < 10000 := by omega) : (nI a + nI k).toNatClampNeg = a + k := by
  rw [nI_add]
  exact nI_clamp (by omega)
theorem ixin {a k n : Nat} (h : a + k < n) (hn : n < 10000 := by omega) : vp_in (nI a + nI k) n := by
  rw [nI_add]
  exact vp_in_nI h (by omega)
def sp_in : mv_SP := (fun as _ _ => ∃ v lo hi : Int64, as = [.long v, .long lo, .long hi],
  fun as I J r I' J' => I = I' ∧ J = J' ∧ match as with
    | [.long v, .long lo, .long hi] => r = some (.int (mv_b (lo ≤ v ∧ v ≤ hi)))
    | _ => True)
theorem cb_in : mv_body 109 mv_t_X7_in (mv_cs []) sp_in := by
  intro as I J h
  obtain ⟨v, lo, hi, rfl⟩ := h
  refine ⟨rfl, mv_run_V (stop := []) 30 _ _ _ _ _ ?_⟩
  refine ⟨fun h1 => ?_, fun h1 => ?_⟩
  · rw [lg_cmp_lt] at h1
    exact ⟨Or.inl rfl, rfl, rfl, by show _ = some (Value.int (mv_b (lo ≤ v ∧ v ≤ hi))); rw [mv_bf (fun z => absurd h1 (Int64.not_lt.mpr z.1))]⟩
  · rw [lg_cmp_lt] at h1
    refine ⟨fun h2 => ?_, fun h2 => ?_⟩
    · rw [lg_cmp_gt] at h2
      exact ⟨Or.inl rfl, rfl, rfl, by show _ = some (Value.int (mv_b (lo ≤ v ∧ v ≤ hi))); rw [mv_bf (fun z => absurd h2 (Int64.not_lt.mpr z.2))]⟩
    · rw [lg_cmp_gt] at h2
      exact ⟨Or.inr rfl, rfl, rfl, by show _ = some (Value.int (mv_b (lo ≤ v ∧ v ≤ hi))); rw [mv_bt ⟨Int64.not_lt.mp h1, Int64.not_lt.mp h2⟩]⟩
theorem c_in {l : Launch} {G : mv_G} {A : Nat → Prop} (hG : mv_adk G A) : mv_Con l G A 109 sp_in := mv_con hG 109 mv_k_X7_in (by decide +kernel) (mv_cs_nil) cb_in
theorem in_w {x lo hi : Int32} {lo' hi' : Int64} (h1 : lo' = lo.toInt64 := by rfl) (h2 : hi' = hi.toInt64 := by rfl) : (lo' ≤ x.toInt64 ∧ x.toInt64 ≤ hi') ↔ (lo ≤ x ∧ x ≤ hi) := by
  rw [h1, h2, fa_wide_le, fa_wide_le]
theorem mv_bc {c d : Prop} [Decidable c] [Decidable d] (h : c ↔ d) : mv_b c = mv_b d := by
  by_cases hd : d
  · rw [mv_bt hd, mv_bt (h.mpr hd)]
  · rw [mv_bf hd, mv_bf (fun z => hd (h.mp z))]
def sp_over : mv_SP := (fun as _ _ => ∃ x : Int32, as = [.int x],
  fun as I J r I' J' => I = I' ∧ J = J' ∧ match as with
    | [.int x] => r = some (.int (mv_mx 0 x))
    | _ => True)
theorem cb_over : mv_body 126 mv_t_X7_over (mv_cs []) sp_over := by
  intro as I J h
  obtain ⟨x, rfl⟩ := h
  have z0 : ∀ y : Int32, y = mv_mx 0 x → sp_over.2 [.int x] I J (some (.int y)) I J := fun y hy => ⟨rfl, rfl, by rw [hy]⟩
  refine ⟨rfl, mv_run_V (stop := []) 30 _ _ _ _ _ ?_⟩
  refine ⟨fun h1 => ?_, fun h1 => ?_⟩
  · refine z0 x ?_
    unfold mv_mx
    split
    · rfl
    · rename_i h2
      exact Int32.le_antisymm (Int32.not_lt.mp h2) (Int32.not_lt.mp h1)
  · refine z0 0 ?_
    unfold mv_mx
    rw [if_neg (fun z => absurd h1 (Int32.not_lt.mpr (Int32.le_of_lt z)))]
theorem c_over {l : Launch} {G : mv_G} {A : Nat → Prop} (hG : mv_adk G A) : mv_Con l G A 126 sp_over := mv_con hG 126 mv_k_X7_over (by decide +kernel) (mv_cs_nil) cb_over
def sp_noSeries : mv_SP := (fun as _ _ => ∃ s : Int32, as = [.ref 30, .int s],
  fun as I J r I' J' => I = I' ∧ J = J' ∧ match as with
    | [_, .int s] => r = some (.int (mv_b (¬ (0 ≤ s ∧ s ≤ I 30 4 - 1))))
    | _ => True)
theorem cb_noSeries : mv_body 123 mv_t_X7_noSeries (mv_cs [(109, sp_in)]) sp_noSeries := by
  intro as I J h
  obtain ⟨s, rfl⟩ := h
  refine ⟨rfl, mv_run_V (stop := []) 30 _ _ _ _ _ ?_⟩
  refine ⟨rfl, rfl, ⟨_, _, _, rfl⟩, fun r1 I1 J1 hp => ?_⟩
  obtain ⟨rfl, rfl, hr⟩ := hp
  have hr : r1 = some (.int (mv_b ((0 : Int64) ≤ s.toInt64 ∧ s.toInt64 ≤ (I 30 4 - 1).toInt64))) := hr
  rw [mv_bc (in_w (lo := 0) (hi := I 30 4 - 1))] at hr
  subst hr
  refine ⟨fun h1 => ?_, fun h1 => ?_⟩
  · exact ⟨Or.inl rfl, rfl, rfl, by show _ = some (Value.int (mv_b _)); rw [mv_bf (fun z => z (b_yes h1))]⟩
  · exact ⟨Or.inr rfl, rfl, rfl, by show _ = some (Value.int (mv_b _)); rw [mv_bt (mv_b0.mp h1)]⟩
theorem c_noSeries {l : Launch} {G : mv_G} {A : Nat → Prop} (hG : mv_adk G A) : mv_Con l G A 123 sp_noSeries := mv_con hG 123 mv_k_X7_noSeries (by decide +kernel) (mv_cs_cons (c_in hG) (mv_cs_nil)) cb_noSeries
/-- what the reference's methods need of a series' row -/
def MB (N : Nat) (I : mv_I) (r a s : Nat) : Prop := (∃ d : Nat, d ≤ N ∧ I r (a + 4) = nI d) ∧ (∃ n : Nat, n ≤ 12 ∧ I r (a + 11) = nI n) ∧ ∃ L : Nat, 1 ≤ L ∧ L ≤ 5 ∧ I 34 s = nI L
/-- the figure of the season for a day -/
def mfg (I : mv_I) (s d : Nat) : Int32 := I 33 (5 * s + d % (I 34 s).toNatClampNeg)
def sp_figureOf : mv_SP := (fun as I _ => ∃ s d : Nat, s < 5 ∧ d < 100000 ∧ (∃ L : Nat, 1 ≤ L ∧ L ≤ 5 ∧ I 34 s = nI L) ∧ as = [.ref 30, .int (nI s), .int (nI d)],
  fun as I J r I' J' => I = I' ∧ J = J' ∧ match as with
    | [_, .int s, .int d] => r = some (.int (mfg I s.toNatClampNeg d.toNatClampNeg))
    | _ => True)
theorem cb_figureOf : mv_body 105 mv_t_X7_figureOf (mv_cs []) sp_figureOf := by
  intro as I J h
  obtain ⟨s, d, hs, hd, ⟨L, hL1, hL5, hL⟩, rfl⟩ := h
  have cs : (nI s).toNatClampNeg = s := nI_clamp (by omega)
  have cd : (nI d).toNatClampNeg = d := nI_clamp (by omega)
  have hm : d % L < L := Nat.mod_lt _ (by omega)
  have hL2 : I 34 (nI s).toNatClampNeg = nI L := by rw [cs, hL]
  have e5 : nI 5 * nI s + (nI d - nI d / I 34 (nI s).toNatClampNeg * I 34 (nI s).toNatClampNeg) = nI (5 * s + d % L) := by
    rw [hL2, pk_rem (by omega) (by omega) (by omega), ← nI_add]
    congr 1
    exact (Int32.ofNat_mul 5 s).symm
  refine ⟨rfl, mv_run_V (stop := []) 30 _ _ _ _ _ ?_⟩
  refine ⟨rfl, _, rfl, rfl, _, rfl, _, rfl, vp_in_nI (by omega) (by decide), (by rw [hL2]; exact nI_ne0 (by omega) (by omega)), _, rfl, ?_, ?_⟩
  · have : vp_in (nI (5 * s + d % L)) 25 := vp_in_nI (by omega) (by decide)
    rw [← e5] at this
    exact this
  · refine ⟨rfl, rfl, ?_⟩
    show some (Value.int (I 33 (nI 5 * nI s + (nI d - nI d / I 34 (nI s).toNatClampNeg * I 34 (nI s).toNatClampNeg)).toNatClampNeg)) = some (Value.int (mfg I (nI s).toNatClampNeg (nI d).toNatClampNeg))
    rw [e5, cs, cd, nI_clamp (by omega)]
    unfold mfg
    rw [hL, nI_clamp (by omega)]
theorem c_figureOf {l : Launch} {G : mv_G} {A : Nat → Prop} (hG : mv_adk G A) : mv_Con l G A 105 sp_figureOf := mv_con hG 105 mv_k_X7_figureOf (by decide +kernel) (mv_cs_nil) cb_figureOf
theorem e24 (s : Nat) : nI 24 * nI s = nI (24 * s) := (Int32.ofNat_mul 24 s).symm
theorem mv_lay_pt {r : Nat} (h : r = 39 ∨ r = 40) : mv_lay r = (2, 121, 0) := by
  rcases h with rfl | rfl <;> rfl
/-- what is expected -/
def mex (I : mv_I) (r a s : Nat) : Int32 := (I r (a + 10) >>> ((4 : Int32) &&& 31)) + mfg I s (I r (a + 4)).toNatClampNeg - 5
def sp_expected : mv_SP := (fun as I _ => ∃ r s : Nat, (r = 39 ∨ r = 40) ∧ s < 5 ∧ MB 99999 I r (24 * s) s ∧ as = [.ref 30, .ref r, .int (nI s)],
  fun as I J r I' J' => I = I' ∧ J = J' ∧ match as with
    | [_, .ref o, .int s] => r = some (.int (mex I o (24 * s.toNatClampNeg) s.toNatClampNeg))
    | _ => True)
theorem cb_expected : mv_body 101 mv_t_X7_expected (mv_cs [(105, sp_figureOf)]) sp_expected := by
  intro as I J h
  obtain ⟨r, s, hr, hs, ⟨⟨d, hd, hdd⟩, -, hL⟩, rfl⟩ := h
  have cs : (nI s).toNatClampNeg = s := nI_clamp (by omega)
  have lay := mv_lay_pt hr
  have i10 : vp_in (nI 24 * nI s + nI 10) 121 := by rw [e24]; exact ixin (by omega)
  have i4 : vp_in (nI 24 * nI s + nI 4) 121 := by rw [e24]; exact ixin (by omega)
  have c10 : (nI 24 * nI s + nI 10).toNatClampNeg = 24 * s + 10 := by rw [e24]; exact ix
  have c4 : (nI 24 * nI s + nI 4).toNatClampNeg = 24 * s + 4 := by rw [e24]; exact ix
  have hd4 : I r (nI 24 * nI s + nI 4).toNatClampNeg = nI d := by rw [c4, hdd]
  refine ⟨rfl, mv_run_V (stop := []) 30 _ _ _ _ _ ?_⟩
  refine ⟨_, lay, i10, _, lay, i4, rfl, rfl, ⟨s, d, hs, by omega, hL, congrArg (fun z => [Value.ref 30, .int (nI s), .int z]) hd4⟩, fun r1 I1 J1 hp => ?_⟩
  obtain ⟨rfl, rfl, hq⟩ := hp
  have hq : r1 = some (.int (mfg I (nI s).toNatClampNeg (I r (nI 24 * nI s + nI 4).toNatClampNeg).toNatClampNeg)) := hq
  subst hq
  refine ⟨rfl, rfl, ?_⟩
  show some (Value.int ((I r (nI 24 * nI s + nI 10).toNatClampNeg >>> ((4 : Int32) &&& 31)) + mfg I (nI s).toNatClampNeg (I r (nI 24 * nI s + nI 4).toNatClampNeg).toNatClampNeg - 5)) = some (Value.int (mex I r (24 * (nI s).toNatClampNeg) (nI s).toNatClampNeg))
  rw [c10, c4, cs]
  rfl
theorem c_expected {l : Launch} {G : mv_G} {A : Nat → Prop} (hG : mv_adk G A) : mv_Con l G A 101 sp_expected := mv_con hG 101 mv_k_X7_expected (by decide +kernel) (mv_cs_cons (c_figureOf hG) (mv_cs_nil)) cb_expected
end
section
/-! The reference: a thing comes, the level moves, a count. -/
def mcf (f : Nat → Int32) (a : Nat) (v : Int32) : Nat → Int32 := fun b => if b = a + 4 then f (a + 4) + 1 else if b = a + 11 then f (a + 11) + 1 else if b = a + 12 + (f (a + 11)).toNatClampNeg then v else f b
def msf (f : Nat → Int32) (a : Nat) : Nat → Int32 := fun b => if b = a + 11 then 11 else if a + 12 ≤ b ∧ b < a + 23 then f (b + 1) else f b
def mcm (I : mv_I) (r a : Nat) (v : Int32) : mv_I := mv_sr I r (mcf (if I r (a + 11) = 12 then msf (I r) a else I r) a v)
def sp_comes : mv_SP := (fun as I _ => ∃ (r s : Nat) (v : Int32), (r = 39 ∨ r = 40) ∧ s < 5 ∧ (∃ n : Nat, n ≤ 12 ∧ I r (24 * s + 11) = nI n) ∧ as = [.ref r, .int (nI s), .int v],
  fun as I J r I' J' => r = none ∧ J = J' ∧ match as with
    | [.ref o, .int s, .int v] => I' = mcm I o (24 * s.toNatClampNeg) v
    | _ => True)
theorem cb_comes : mv_body 96 mv_t_X7_comes (mv_cs []) sp_comes := by
  intro as I J h
  obtain ⟨r, s, v, hr, hs, ⟨n, hn, hnn⟩, rfl⟩ := h
  have cs : (nI s).toNatClampNeg = s := nI_clamp (by omega)
  have lay := mv_lay_pt hr
  obtain ⟨a, ha, haa⟩ : ∃ a, a = 24 * s ∧ a ≤ 96 := ⟨_, rfl, by omega⟩
  have ea : nI a = nI 24 * nI s := by rw [ha, e24]
  rw [← ha] at hnn
  have fin : ∀ I1, I1 = mcm I r a v → sp_comes.2 [.ref r, .int (nI s), .int v] I J none I1 J := fun I1 h => ⟨rfl, rfl, by
    show I1 = mcm I r (24 * (nI s).toNatClampNeg) v
    rw [cs, ← ha, h]⟩
  have c4 : (nI a + 4).toNatClampNeg = a + 4 := ix (k := 4)
  have c11 : (nI a + 11).toNatClampNeg = a + 11 := ix (k := 11)
  have key64 : ∀ f : Nat → Int32, (if I r (a + 11) = 12 then msf (I r) a else I r) = f → (∃ m : Nat, m ≤ 11 ∧ f (a + 11) = nI m) → mv_V mv_ow mv_swf mv_t_X7_comes (mv_cs []) (sp_comes.2 [.ref r, .int (nI s), .int v] I J) 64 [(0, .ref r), (1, .int (nI s)), (2, .int v), (3, .int (nI a))] [] (mv_sr I r f) J := by
    intro f hf ⟨m, hm, hfm⟩
    have g11 : (mv_sr I r f) r (nI a + 11).toNatClampNeg = nI m := by rw [c11, mv_sr_ap, if_pos rfl, hfm]
    have cx : (nI a + 12 + nI m).toNatClampNeg = a + 12 + m := by
      show (nI a + nI 12 + nI m).toNatClampNeg = a + 12 + m
      rw [nI_add, nI_add]
      exact nI_clamp (by omega)
    have ixx : vp_in (nI a + 12 + (mv_sr I r f) r (nI a + 11).toNatClampNeg) 121 := by
      rw [g11]
      show vp_in (nI a + nI 12 + nI m) 121
      rw [nI_add, nI_add]
      exact vp_in_nI (by omega) (by decide)
    refine mv_run_V (stop := []) 80 _ _ _ _ _ ?_
    refine ⟨_, lay, ixin (k := 11) (by omega), _, lay, ixx, _, lay, ixin (k := 11) (by omega), _, lay, ixin (k := 11) (by omega), _, lay, ixin (k := 4) (by omega), _, lay, ixin (k := 4) (by omega), ?_⟩
    refine fin _ ?_
    unfold mcm
    rw [hf, g11, cx, c11, c4]
    funext x b
    simp only [mv_si_ap, mv_sr_ap, true_and, if_true]
    unfold mcf
    have hcm : (f (a + 11)).toNatClampNeg = m := by rw [hfm]; exact nI_clamp (by omega)
    rw [hcm]
    have hne : ¬ a + 11 = a + 12 + m := by omega
    have hne2 : ¬ a + 4 = a + 12 + m := by omega
    have hne3 : ¬ a + 4 = a + 11 := by omega
    by_cases hx : x = r
    · subst hx
      simp only [true_and, if_true, hne, hne2, hne3, if_false]
    · simp only [hx, false_and, if_false]
  have key19 : ∀ q k : Nat, k + q = 11 → I r (a + 11) = 12 → mv_V mv_ow mv_swf mv_t_X7_comes (mv_cs []) (sp_comes.2 [.ref r, .int (nI s), .int v] I J) 19 [(0, .ref r), (1, .int (nI s)), (2, .int v), (3, .int (nI a)), (4, .int (nI k))] [] (mv_sr I r (fun b => if a + 12 ≤ b ∧ b < a + 12 + k then I r (b + 1) else I r b)) J := by
    intro q
    induction q with
    | zero =>
      intro k hk h12
      have hk : k = 11 := hk
      subst hk
      refine mv_run_V (stop := [64]) 80 _ _ _ _ _ ?_
      refine ⟨fun h1 => ?_, fun h1 => ?_⟩
      · refine ⟨_, lay, ixin (k := 11) (by omega), _, lay, ixin (k := 11) (by omega), ?_⟩
        refine mv_keep [0, 1, 2, 3] ?_
        have k6 := key64 (msf (I r) a) (if_pos h12) ⟨11, Nat.le_refl _, by unfold msf; rw [if_pos rfl]; rfl⟩
        have e : mv_sr I r (msf (I r) a) = mv_si (mv_sr I r (fun b => if a + 12 ≤ b ∧ b < a + 12 + 11 then I r (b + 1) else I r b)) r (nI a + 11).toNatClampNeg ((mv_sr I r (fun b => if a + 12 ≤ b ∧ b < a + 12 + 11 then I r (b + 1) else I r b)) r (nI a + 11).toNatClampNeg - 1) := by
          rw [c11]
          funext x b
          simp only [mv_si_ap, mv_sr_ap, if_true, true_and]
          by_cases hx : x = r
          · subst hx
            simp only [true_and, if_true]
            unfold msf
            by_cases hb : b = a + 11
            · subst hb
              rw [if_pos rfl, if_pos rfl, if_neg (by omega), h12]
              rfl
            · rw [if_neg hb, if_neg hb]
          · simp only [hx, false_and, if_false]
        rw [e] at k6
        exact k6
      · exact absurd h1 (by decide)
    | succ q ih =>
      intro k hk h12
      refine mv_run_V (stop := [19]) 80 _ _ _ _ _ ?_
      refine ⟨fun h1 => ?_, fun h1 => ?_⟩
      · have h1 : ¬ nI k + nI 1 < nI 12 := h1
        rw [nI_add] at h1
        exact absurd (nI_lt (by omega) (by decide)) h1
      · have cA : (nI a + 12 + nI k).toNatClampNeg = a + 12 + k := by
          show (nI a + nI 12 + nI k).toNatClampNeg = a + 12 + k
          rw [nI_add, nI_add]
          exact nI_clamp (by omega)
        have cB : (nI a + 12 + nI k + 1).toNatClampNeg = a + 12 + k + 1 := by
          show (nI a + nI 12 + nI k + nI 1).toNatClampNeg = a + 12 + k + 1
          rw [nI_add, nI_add, nI_add]
          exact nI_clamp (by omega)
        refine ⟨_, lay, ?_, _, lay, ?_, ?_⟩
        · show vp_in (nI a + nI 12 + nI k + nI 1) 121
          rw [nI_add, nI_add, nI_add]
          exact vp_in_nI (by omega) (by decide)
        · show vp_in (nI a + nI 12 + nI k) 121
          rw [nI_add, nI_add]
          exact vp_in_nI (by omega) (by decide)
        · have k6 := ih (k + 1) (by omega) h12
          have e : mv_sr I r (fun b => if a + 12 ≤ b ∧ b < a + 12 + (k + 1) then I r (b + 1) else I r b) = mv_si (mv_sr I r (fun b => if a + 12 ≤ b ∧ b < a + 12 + k then I r (b + 1) else I r b)) r (nI a + 12 + nI k).toNatClampNeg ((mv_sr I r (fun b => if a + 12 ≤ b ∧ b < a + 12 + k then I r (b + 1) else I r b)) r (nI a + 12 + nI k + 1).toNatClampNeg) := by
            rw [cA, cB]
            funext x b
            simp only [mv_si_ap, mv_sr_ap, if_true]
            by_cases hx : x = r
            · subst hx
              simp only [true_and, if_true]
              by_cases hb : b = a + 12 + k
              · subst hb
                rw [if_pos rfl, if_pos (by omega), if_neg (by omega)]
              · rw [if_neg hb]
                by_cases hb2 : a + 12 ≤ b ∧ b < a + 12 + k
                · rw [if_pos (by omega), if_pos hb2]
                · rw [if_neg (by omega), if_neg hb2]
            · simp only [hx, false_and, if_false]
          rw [e, nI_succ] at k6
          exact k6
  have key5 : mv_V mv_ow mv_swf mv_t_X7_comes (mv_cs []) (sp_comes.2 [.ref r, .int (nI s), .int v] I J) 5 [(0, .ref r), (1, .int (nI s)), (2, .int v), (3, .int (nI a))] [] I J := by
    refine mv_run_V (stop := [19, 64]) 40 _ _ _ _ _ ?_
    refine ⟨_, lay, ixin (k := 11) (by omega), fun h1 => ?_, fun h1 => ?_⟩
    · have h1 : ¬ I r (nI a + 11).toNatClampNeg = 12 := h1
      rw [c11] at h1
      have k6 := key64 (I r) (if_neg h1) ⟨n, by
        have : n ≠ 12 := fun z => h1 (by rw [hnn, z]; rfl)
        omega, hnn⟩
      have e : mv_sr I r (I r) = I := by
        funext x b
        rw [mv_sr_ap]
        by_cases hx : x = r
        · rw [if_pos hx, hx]
        · rw [if_neg hx]
      rw [e] at k6
      exact k6
    · have h1 : I r (nI a + 11).toNatClampNeg = 12 := h1
      rw [c11] at h1
      have k6 := key19 11 0 rfl h1
      have e : mv_sr I r (fun b => if a + 12 ≤ b ∧ b < a + 12 + 0 then I r (b + 1) else I r b) = I := by
        funext x b
        rw [mv_sr_ap]
        by_cases hx : x = r
        · rw [if_pos hx, if_neg (by omega), hx]
        · rw [if_neg hx]
      rw [e] at k6
      exact k6
  rw [ea] at key5
  refine ⟨rfl, mv_run_V (stop := [5]) 40 _ _ _ _ _ ?_⟩
  exact key5
theorem c_comes {l : Launch} {G : mv_G} {A : Nat → Prop} (hG : mv_adk G A) : mv_Con l G A 96 sp_comes := mv_con hG 96 mv_k_X7_comes (by decide +kernel) (mv_cs_nil) cb_comes
def mmv (I : mv_I) (r a s : Nat) (v : Int32) : mv_I := mv_si I r (a + 10) (mv_mx 0 (mv_mn 1584 (I r (a + 10) + ((16 * (v - mfg I s (I r (a + 4)).toNatClampNeg + 5) - I r (a + 10)) >>> (I r (a + 2) &&& 31)))))
def sp_moves : mv_SP := (fun as I _ => ∃ (r s : Nat) (v : Int32), (r = 39 ∨ r = 40) ∧ s < 5 ∧ MB 99999 I r (24 * s) s ∧ as = [.ref 30, .ref r, .int (nI s), .int v],
  fun as I J r I' J' => r = none ∧ J = J' ∧ match as with
    | [_, .ref o, .int s, .int v] => I' = mmv I o (24 * s.toNatClampNeg) s.toNatClampNeg v
    | _ => True)
theorem mx_hi {x : Int32} (h1 : ¬ x < 0) (h2 : 1584 < x) : mv_mx 0 (mv_mn 1584 x) = 1584 := by
  unfold mv_mn
  rw [if_neg (fun z => absurd h2 (Int32.not_lt.mpr (Int32.le_of_lt z)))]
  rfl
theorem mx_mid {x : Int32} (h1 : ¬ x < 0) (h2 : ¬ 1584 < x) : mv_mx 0 (mv_mn 1584 x) = x := by
  have e : mv_mn 1584 x = x := by
    unfold mv_mn
    split
    · rfl
    · rename_i h3
      exact Int32.le_antisymm (Int32.not_lt.mp h3) (Int32.not_lt.mp h2)
  rw [e]
  unfold mv_mx
  split
  · rfl
  · rename_i h3
    exact Int32.le_antisymm (Int32.not_lt.mp h1) (Int32.not_lt.mp h3)
theorem mx_lo {x : Int32} (h1 : x < 0) : mv_mx 0 (mv_mn 1584 x) = 0 := by
  have e : mv_mn 1584 x = x := by
    unfold mv_mn
    rw [if_pos]
    rw [Int32.lt_iff_toInt_lt] at h1 ⊢
    have e0 : (0 : Int32).toInt = 0 := rfl
    have e1 : (1584 : Int32).toInt = 1584 := rfl
    omega
  rw [e]
  unfold mv_mx
  rw [if_neg (fun z => absurd h1 (Int32.not_lt.mpr (Int32.le_of_lt z)))]
theorem cb_moves : mv_body 121 mv_t_X7_moves (mv_cs [(105, sp_figureOf)]) sp_moves := by
  intro as I J h
  obtain ⟨r, s, v, hr, hs, ⟨⟨d, hd, hdd⟩, -, hL⟩, rfl⟩ := h
  have cs : (nI s).toNatClampNeg = s := nI_clamp (by omega)
  have lay := mv_lay_pt hr
  obtain ⟨a, ha, haa⟩ : ∃ a, a = 24 * s ∧ a ≤ 96 := ⟨_, rfl, by omega⟩
  have ea : nI a = nI 24 * nI s := by rw [ha, e24]
  rw [← ha] at hdd
  have c2 : (nI a + 2).toNatClampNeg = a + 2 := ix (k := 2)
  have c4 : (nI a + 4).toNatClampNeg = a + 4 := ix (k := 4)
  have c10 : (nI a + 10).toNatClampNeg = a + 10 := ix (k := 10)
  have hd4 : I r (nI a + 4).toNatClampNeg = nI d := by rw [c4, hdd]
  have fin : ∀ x, x = mv_mx 0 (mv_mn 1584 (I r (nI a + 10).toNatClampNeg + ((16 * (v - mfg I (nI s).toNatClampNeg (I r (nI a + 4).toNatClampNeg).toNatClampNeg + 5) - I r (nI a + 10).toNatClampNeg) >>> (I r (nI a + 2).toNatClampNeg &&& 31)))) → sp_moves.2 [.ref 30, .ref r, .int (nI s), .int v] I J none (mv_si I r (nI a + 10).toNatClampNeg x) J := fun x h => ⟨rfl, rfl, by
    show _ = mmv I r (24 * (nI s).toNatClampNeg) (nI s).toNatClampNeg v
    rw [c2, c4, c10, cs] at h
    rw [cs, ← ha, h, c10]
    rfl⟩
  have key6 : mv_V mv_ow mv_swf mv_t_X7_moves (mv_cs [(105, sp_figureOf)]) (sp_moves.2 [.ref 30, .ref r, .int (nI s), .int v] I J) 6 [(0, .ref 30), (1, .ref r), (2, .int (nI s)), (3, .int v), (4, .int (nI a))] [] I J := by
    refine mv_run_V (stop := []) 80 _ _ _ _ _ ?_
    refine ⟨_, lay, ixin (k := 4) (by omega), rfl, rfl, ⟨s, d, hs, by omega, hL, congrArg (fun z => [Value.ref 30, .int (nI s), .int z]) hd4⟩, fun r1 I1 J1 hp => ?_⟩
    obtain ⟨rfl, rfl, hq⟩ := hp
    have hq : r1 = some (.int (mfg I (nI s).toNatClampNeg (I r (nI a + 4).toNatClampNeg).toNatClampNeg)) := hq
    subst hq
    refine ⟨_, lay, ixin (k := 10) (by omega), _, lay, ixin (k := 10) (by omega), _, lay, ixin (k := 2) (by omega), fun h1 => ?_, fun h1 => ?_⟩
    · refine ⟨fun h2 => ?_, fun h2 => ?_⟩
      · exact ⟨_, lay, ixin (k := 10) (by omega), fin _ (mx_mid h1 h2).symm⟩
      · exact ⟨_, lay, ixin (k := 10) (by omega), fin _ (mx_hi h1 h2).symm⟩
    · exact ⟨_, lay, ixin (k := 10) (by omega), fin _ (mx_lo h1).symm⟩
  rw [ea] at key6
  refine ⟨rfl, mv_run_V (stop := [6]) 40 _ _ _ _ _ ?_⟩
  exact key6
theorem c_moves {l : Launch} {G : mv_G} {A : Nat → Prop} (hG : mv_adk G A) : mv_Con l G A 121 sp_moves := mv_con hG 121 mv_k_X7_moves (by decide +kernel) (mv_cs_cons (c_figureOf hG) (mv_cs_nil)) cb_moves
end
section
/-! The reference: a count; a figure told. -/
def mup (I : mv_I) (r a s : Nat) (v : Int32) : Int32 := mv_mx 0 (I r (a + 5) + v - mex I r a s - I r (a + 0))
def mdn (I : mv_I) (r a s : Nat) (v : Int32) : Int32 := mv_mx 0 (I r (a + 6) + mex I r a s - v - I r (a + 0))
def mkK (I : mv_I) (r a s : Nat) (v : Int32) : Int32 := (if mup I r a s v < I r (a + 1) then 0 else 1) + (if mdn I r a s v < I r (a + 1) then 0 else 2)
def mag (I : mv_I) (r a : Nat) : Int32 := if I r (a + 3) = 1 then I r (a + 1) / 2 else 0
def mca (I : mv_I) (r a s : Nat) (v : Int32) : mv_I := if mkK I r a s v = 0 then (if 0 < I r (a + 2) ∧ mup I r a s v = 0 ∧ mdn I r a s v = 0 then mmv I r a s v else I) else mv_si (mv_si (mv_si I r (a + 7) (I r (a + 7) + 1)) r (a + 8) (mkK I r a s v)) r (a + 9) (I r (a + 4))
def mcu (I : mv_I) (r a s : Nat) (v : Int32) : Int32 := if mkK I r a s v = 0 then mup I r a s v else if mup I r a s v < I r (a + 1) then 0 else mag I r a
def mcd (I : mv_I) (r a s : Nat) (v : Int32) : Int32 := if mkK I r a s v = 0 then mdn I r a s v else if mdn I r a s v < I r (a + 1) then 0 else mag I r a
def mct (I : mv_I) (r a s : Nat) (v : Int32) : mv_I := mcm (mv_si (mv_si (mca I r a s v) r (a + 5) (mcu I r a s v)) r (a + 6) (mcd I r a s v)) r a v
theorem mkK_pos (I : mv_I) (r a s : Nat) (v : Int32) : ¬ 0 < mkK I r a s v ↔ mkK I r a s v = 0 := by
  unfold mkK
  split <;> split <;> decide
theorem mca_k {I : mv_I} {r a s k : Nat} {v : Int32} (h7 : k ≠ 7) (h8 : k ≠ 8) (h9 : k ≠ 9) (h10 : k ≠ 10) : mca I r a s v r (a + k) = I r (a + k) := by
  unfold mca
  split
  · split
    · unfold mmv
      rw [mv_si_ap, if_neg (by omega)]
    · rfl
  · rw [mv_si_ap, if_neg (by omega), mv_si_ap, if_neg (by omega), mv_si_ap, if_neg (by omega)]
def sp_countOn : mv_SP := (fun as I _ => ∃ (r s : Nat) (v : Int32), (r = 39 ∨ r = 40) ∧ s < 5 ∧ MB 99999 I r (24 * s) s ∧ as = [.ref 30, .ref r, .int (nI s), .int v],
  fun as I J r I' J' => J = J' ∧ match as with
    | [_, .ref o, .int s, .int v] => r = some (.int (mkK I o (24 * s.toNatClampNeg) s.toNatClampNeg v)) ∧ I' = mct I o (24 * s.toNatClampNeg) s.toNatClampNeg v
    | _ => True)
theorem cb_countOn : mv_body 98 mv_t_X7_countOn (mv_cs [(101, sp_expected), (126, sp_over), (121, sp_moves), (96, sp_comes)]) sp_countOn := by
  intro as I J h
  obtain ⟨r, s, v, hr, hs, hMB, rfl⟩ := h
  have cs : (nI s).toNatClampNeg = s := nI_clamp (by omega)
  have lay := mv_lay_pt hr
  have e24s : nI (24 * s) = nI 24 * nI s := (e24 s).symm
  obtain ⟨a, ha, haa⟩ : ∃ a, a = 24 * s ∧ a ≤ 96 := ⟨_, rfl, by omega⟩
  have ea : nI a = nI 24 * nI s := by rw [ha, e24]
  have c0 : (nI a + 0).toNatClampNeg = a + 0 := ix (k := 0)
  have c1 : (nI a + 1).toNatClampNeg = a + 1 := ix (k := 1)
  have c2 : (nI a + 2).toNatClampNeg = a + 2 := ix (k := 2)
  have c3 : (nI a + 3).toNatClampNeg = a + 3 := ix (k := 3)
  have c4 : (nI a + 4).toNatClampNeg = a + 4 := ix (k := 4)
  have c5 : (nI a + 5).toNatClampNeg = a + 5 := ix (k := 5)
  have c6 : (nI a + 6).toNatClampNeg = a + 6 := ix (k := 6)
  have c7 : (nI a + 7).toNatClampNeg = a + 7 := ix (k := 7)
  have c8 : (nI a + 8).toNatClampNeg = a + 8 := ix (k := 8)
  have c9 : (nI a + 9).toNatClampNeg = a + 9 := ix (k := 9)
  have hMB2 := hMB
  rw [← ha] at hMB2
  obtain ⟨-, ⟨n, hn, hnn⟩, -⟩ := hMB2
  have key213 : ∀ (B : mv_I) (up dn : Int32), mv_si (mv_si B r (a + 5) up) r (a + 6) dn = mv_si (mv_si (mca I r a s v) r (a + 5) (mcu I r a s v)) r (a + 6) (mcd I r a s v) → mv_V mv_ow mv_swf mv_t_X7_countOn (mv_cs [(101, sp_expected), (126, sp_over), (121, sp_moves), (96, sp_comes)]) (sp_countOn.2 [.ref 30, .ref r, .int (nI s), .int v] I J) 213 [(0, .ref 30), (1, .ref r), (2, .int (nI s)), (3, .int v), (4, .int (nI a)), (6, .int up), (7, .int dn), (8, .int (I r (a + 1))), (9, .int (mkK I r a s v))] [] B J := by
    intro B up dn hB
    refine mv_run_V (stop := []) 60 _ _ _ _ _ ?_
    refine ⟨_, lay, ixin (k := 5) (by omega), _, lay, ixin (k := 6) (by omega), rfl, ⟨r, s, v, hr, hs, ⟨n, hn, ?_⟩, rfl⟩, fun r1 I1 J1 hp => ?_⟩
    · rw [c5, c6, hB, ← ha, mv_si_ap, if_neg (by omega), mv_si_ap, if_neg (by omega), mca_k (by decide) (by decide) (by decide) (by decide)]
      exact hnn
    · obtain ⟨rfl, rfl, hI⟩ := hp
      have hI : I1 = mcm (mv_si (mv_si B r (nI a + 5).toNatClampNeg up) r (nI a + 6).toNatClampNeg dn) r (24 * (nI s).toNatClampNeg) v := hI
      rw [c5, c6, hB, cs, ← ha] at hI
      refine ⟨rfl, ?_⟩
      show some (Value.int (mkK I r a s v)) = some (Value.int (mkK I r (24 * (nI s).toNatClampNeg) (nI s).toNatClampNeg v)) ∧ I1 = mct I r (24 * (nI s).toNatClampNeg) (nI s).toNatClampNeg v
      rw [cs, ← ha]
      exact ⟨rfl, hI⟩
  have key134 : ¬ mkK I r a s v = 0 → mv_V mv_ow mv_swf mv_t_X7_countOn (mv_cs [(101, sp_expected), (126, sp_over), (121, sp_moves), (96, sp_comes)]) (sp_countOn.2 [.ref 30, .ref r, .int (nI s), .int v] I J) 134 [(0, .ref 30), (1, .ref r), (2, .int (nI s)), (3, .int v), (4, .int (nI a)), (6, .int (mup I r a s v)), (7, .int (mdn I r a s v)), (8, .int (I r (a + 1))), (9, .int (mkK I r a s v))] [] (mv_si (mv_si (mv_si I r (a + 7) (I r (a + 7) + 1)) r (a + 8) (mkK I r a s v)) r (a + 9) (I r (a + 4))) J := by
    intro hk
    have em : mca I r a s v = mv_si (mv_si (mv_si I r (a + 7) (I r (a + 7) + 1)) r (a + 8) (mkK I r a s v)) r (a + 9) (I r (a + 4)) := by
      unfold mca
      rw [if_neg hk]
    rw [← em]
    have h3 : mca I r a s v r (nI a + 3).toNatClampNeg = I r (a + 3) := by
      rw [c3]
      exact mca_k (by decide) (by decide) (by decide) (by decide)
    have fin : ∀ q up dn : Int32, q = mag I r a → up = (if mup I r a s v < I r (a + 1) then 0 else q) → dn = (if mdn I r a s v < I r (a + 1) then 0 else q) → mv_V mv_ow mv_swf mv_t_X7_countOn (mv_cs [(101, sp_expected), (126, sp_over), (121, sp_moves), (96, sp_comes)]) (sp_countOn.2 [.ref 30, .ref r, .int (nI s), .int v] I J) 213 [(0, .ref 30), (1, .ref r), (2, .int (nI s)), (3, .int v), (4, .int (nI a)), (6, .int up), (7, .int dn), (8, .int (I r (a + 1))), (9, .int (mkK I r a s v)), (10, .int q)] [] (mca I r a s v) J := by
      intro q up dn hq hu hd
      refine mv_keep [0, 1, 2, 3, 4, 6, 7, 8, 9] ?_
      refine key213 _ _ _ ?_
      unfold mcu mcd
      rw [if_neg hk, if_neg hk, hu, hd, hq]
    have key152 : ∀ q : Int32, q = mag I r a → mv_V mv_ow mv_swf mv_t_X7_countOn (mv_cs [(101, sp_expected), (126, sp_over), (121, sp_moves), (96, sp_comes)]) (sp_countOn.2 [.ref 30, .ref r, .int (nI s), .int v] I J) 152 [(0, .ref 30), (1, .ref r), (2, .int (nI s)), (3, .int v), (4, .int (nI a)), (6, .int (mup I r a s v)), (7, .int (mdn I r a s v)), (8, .int (I r (a + 1))), (9, .int (mkK I r a s v))] [.int q] (mca I r a s v) J := by
      intro q hq
      refine mv_run_V (stop := [213]) 60 _ _ _ _ _ ?_
      refine ⟨fun h1 => ?_, fun h1 => ?_⟩
      · refine ⟨fun h2 => ?_, fun h2 => ?_⟩
        · exact fin q 0 0 hq (by rw [if_pos h1]) (by rw [if_pos h2])
        · exact fin q 0 q hq (by rw [if_pos h1]) (by rw [if_neg h2])
      · refine ⟨fun h2 => ?_, fun h2 => ?_⟩
        · exact fin q q 0 hq (by rw [if_neg h1]) (by rw [if_pos h2])
        · exact fin q q q hq (by rw [if_neg h1]) (by rw [if_neg h2])
    refine mv_run_V (stop := [152]) 60 _ _ _ _ _ ?_
    refine ⟨_, lay, ixin (k := 3) (by omega), fun h1 => ?_, fun h1 => ?_⟩
    · rw [h3] at h1
      exact key152 0 (by unfold mag; rw [if_neg h1])
    · rw [h3] at h1
      exact ⟨mv_nz2, key152 _ (by unfold mag; rw [if_pos h1])⟩
  have key96 : ∀ up dn bd kd : Int32, up = mup I r a s v → dn = mdn I r a s v → bd = I r (a + 1) → kd = mkK I r a s v → mv_V mv_ow mv_swf mv_t_X7_countOn (mv_cs [(101, sp_expected), (126, sp_over), (121, sp_moves), (96, sp_comes)]) (sp_countOn.2 [.ref 30, .ref r, .int (nI s), .int v] I J) 96 [(0, .ref 30), (1, .ref r), (2, .int (nI s)), (3, .int v), (4, .int (nI a)), (6, .int up), (7, .int dn), (8, .int bd), (9, .int kd)] [] I J := by
    rintro up dn bd kd rfl rfl rfl rfl
    refine mv_run_V (stop := [134, 213]) 60 _ _ _ _ _ ?_
    refine ⟨fun h1 => ?_, fun h1 => ?_⟩
    · have hk := (mkK_pos I r a s v).mp h1
      have f0 : ∀ B, mca I r a s v = B → mv_si (mv_si B r (a + 5) (mup I r a s v)) r (a + 6) (mdn I r a s v) = mv_si (mv_si (mca I r a s v) r (a + 5) (mcu I r a s v)) r (a + 6) (mcd I r a s v) := by
        intro B hB
        unfold mcu mcd
        rw [if_pos hk, if_pos hk, hB]
      refine ⟨_, lay, ixin (k := 2) (by omega), fun h2 => ?_, fun h2 => ?_⟩
      · rw [c2] at h2
        exact key213 _ _ _ (f0 _ (by unfold mca; rw [if_pos hk, if_neg (fun z => h2 z.1)]))
      · rw [c2] at h2
        refine ⟨fun h3 => ?_, fun h3 => ?_⟩
        · exact key213 _ _ _ (f0 _ (by unfold mca; rw [if_pos hk, if_neg (fun z => h3 z.2.1)]))
        · refine ⟨fun h4 => ?_, fun h4 => ?_⟩
          · exact key213 _ _ _ (f0 _ (by unfold mca; rw [if_pos hk, if_neg (fun z => h4 z.2.2)]))
          · refine ⟨rfl, rfl, ⟨r, s, v, hr, hs, hMB, rfl⟩, fun r1 I1 J1 hp => ?_⟩
            obtain ⟨rfl, rfl, hI⟩ := hp
            have hI : I1 = mmv I r (24 * (nI s).toNatClampNeg) (nI s).toNatClampNeg v := hI
            rw [cs, ← ha] at hI
            exact key213 _ _ _ (f0 _ (by unfold mca; rw [if_pos hk, if_pos ⟨h2, h3, h4⟩, hI]))
    · have hk : ¬ mkK I r a s v = 0 := fun z => (mkK_pos I r a s v).mpr z h1
      refine ⟨_, lay, ixin (k := 7) (by omega), _, lay, ixin (k := 7) (by omega), _, lay, ixin (k := 8) (by omega), _, lay, ixin (k := 4) (by omega), _, lay, ixin (k := 9) (by omega), ?_⟩
      have k6 := key134 hk
      have e : mv_si (mv_si (mv_si I r (a + 7) (I r (a + 7) + 1)) r (a + 8) (mkK I r a s v)) r (a + 9) (I r (a + 4)) = mv_si (mv_si (mv_si I r (nI a + 7).toNatClampNeg (I r (nI a + 7).toNatClampNeg + 1)) r (nI a + 8).toNatClampNeg (mkK I r a s v)) r (nI a + 9).toNatClampNeg ((mv_si (mv_si I r (nI a + 7).toNatClampNeg (I r (nI a + 7).toNatClampNeg + 1)) r (nI a + 8).toNatClampNeg (mkK I r a s v)) r (nI a + 4).toNatClampNeg) := by
        rw [c7, c8, c9, c4]
        congr 1
        rw [mv_si_ap, if_neg (by omega), mv_si_ap, if_neg (by omega)]
      rw [e] at k6
      exact k6
  have key6 : mv_V mv_ow mv_swf mv_t_X7_countOn (mv_cs [(101, sp_expected), (126, sp_over), (121, sp_moves), (96, sp_comes)]) (sp_countOn.2 [.ref 30, .ref r, .int (nI s), .int v] I J) 6 [(0, .ref 30), (1, .ref r), (2, .int (nI s)), (3, .int v), (4, .int (nI a))] [] I J := by
    have eu : mv_mx 0 (I r (nI a + 5).toNatClampNeg + v - mex I r (24 * (nI s).toNatClampNeg) (nI s).toNatClampNeg - I r (nI a + 0).toNatClampNeg) = mup I r a s v := by
      rw [c5, c0, cs, ← ha]
      rfl
    have ed : mv_mx 0 (I r (nI a + 6).toNatClampNeg + mex I r (24 * (nI s).toNatClampNeg) (nI s).toNatClampNeg - v - I r (nI a + 0).toNatClampNeg) = mdn I r a s v := by
      rw [c6, c0, cs, ← ha]
      rfl
    have eb : I r (nI a + 1).toNatClampNeg = I r (a + 1) := by rw [c1]
    refine mv_run_V (stop := [96]) 80 _ _ _ _ _ ?_
    refine ⟨rfl, rfl, ⟨r, s, hr, hs, hMB, rfl⟩, fun r1 I1 J1 hp => ?_⟩
    obtain ⟨rfl, rfl, hq⟩ := hp
    have hq : r1 = some (.int (mex I r (24 * (nI s).toNatClampNeg) (nI s).toNatClampNeg)) := hq
    subst hq
    refine ⟨_, lay, ixin (k := 5) (by omega), _, lay, ixin (k := 0) (by omega), rfl, ⟨_, rfl⟩, fun r1 I1 J1 hp => ?_⟩
    obtain ⟨rfl, rfl, hq⟩ := hp
    have hq : r1 = some (.int (mv_mx 0 (I r (nI a + 5).toNatClampNeg + v - mex I r (24 * (nI s).toNatClampNeg) (nI s).toNatClampNeg - I r (nI a + 0).toNatClampNeg))) := hq
    rw [eu] at hq
    subst hq
    refine ⟨_, lay, ixin (k := 6) (by omega), _, lay, ixin (k := 0) (by omega), rfl, ⟨_, rfl⟩, fun r1 I1 J1 hp => ?_⟩
    obtain ⟨rfl, rfl, hq⟩ := hp
    have hq : r1 = some (.int (mv_mx 0 (I r (nI a + 6).toNatClampNeg + mex I r (24 * (nI s).toNatClampNeg) (nI s).toNatClampNeg - v - I r (nI a + 0).toNatClampNeg))) := hq
    rw [ed] at hq
    subst hq
    refine ⟨_, lay, ixin (k := 1) (by omega), fun h1 => ?_, fun h1 => ?_⟩
    · have h1b := h1
      rw [eb] at h1b
      refine ⟨fun h2 => ?_, fun h2 => ?_⟩
      · have h2b := h2
        rw [eb] at h2b
        refine mv_keep [0, 1, 2, 3, 4, 6, 7, 8, 9] ?_
        exact key96 _ _ _ (0 + 0) rfl rfl eb (by unfold mkK; rw [if_pos h1b, if_pos h2b])
      · have h2b := h2
        rw [eb] at h2b
        refine mv_keep [0, 1, 2, 3, 4, 6, 7, 8, 9] ?_
        exact key96 _ _ _ (0 + 2) rfl rfl eb (by unfold mkK; rw [if_pos h1b, if_neg h2b])
    · have h1b := h1
      rw [eb] at h1b
      refine ⟨fun h2 => ?_, fun h2 => ?_⟩
      · have h2b := h2
        rw [eb] at h2b
        refine mv_keep [0, 1, 2, 3, 4, 6, 7, 8, 9] ?_
        exact key96 _ _ _ (1 + 0) rfl rfl eb (by unfold mkK; rw [if_neg h1b, if_pos h2b])
      · have h2b := h2
        rw [eb] at h2b
        refine mv_keep [0, 1, 2, 3, 4, 6, 7, 8, 9] ?_
        exact key96 _ _ _ (1 + 2) rfl rfl eb (by unfold mkK; rw [if_neg h1b, if_neg h2b])
  rw [ea] at key6
  refine ⟨rfl, mv_run_V (stop := [6]) 40 _ _ _ _ _ ?_⟩
  exact key6
theorem c_countOn {l : Launch} {G : mv_G} {A : Nat → Prop} (hG : mv_adk G A) : mv_Con l G A 98 sp_countOn := mv_con hG 98 mv_k_X7_countOn (by decide +kernel) (mv_cs_cons (c_expected hG) (mv_cs_cons (c_over hG) (mv_cs_cons (c_moves hG) (mv_cs_cons (c_comes hG) (mv_cs_nil))))) cb_countOn
end
section
/-! The reference: figures told, pages, small numbers. -/
def mtl (I : mv_I) (r a s k : Nat) : Int32 := if k = 12 then mex I r a s + 100 else if k = 13 then I r (a + 11) else I r (a + (k - 1))
def sp_tellOf : mv_SP := (fun as I _ => ∃ r s k : Nat, (r = 39 ∨ r = 40) ∧ s < 5 ∧ 1 ≤ k ∧ k ≤ 13 ∧ MB 99999 I r (24 * s) s ∧ as = [.ref 30, .ref r, .int (nI s), .int (nI k)],
  fun as I J r I' J' => I = I' ∧ J = J' ∧ match as with
    | [_, .ref o, .int s, .int k] => r = some (.int (mtl I o (24 * s.toNatClampNeg) s.toNatClampNeg k.toNatClampNeg))
    | _ => True)
theorem cb_tellOf : mv_body 140 mv_t_X7_tellOf (mv_cs [(101, sp_expected)]) sp_tellOf := by
  intro as I J h
  obtain ⟨r, s, k, hr, hs, hk1, hk2, hMB, rfl⟩ := h
  have cs : (nI s).toNatClampNeg = s := nI_clamp (by omega)
  have ck : (nI k).toNatClampNeg = k := nI_clamp (by omega)
  have lay := mv_lay_pt hr
  obtain ⟨a, ha, haa⟩ : ∃ a, a = 24 * s ∧ a ≤ 96 := ⟨_, rfl, by omega⟩
  have ea : nI a = nI 24 * nI s := by rw [ha, e24]
  have c11 : (nI a + 11).toNatClampNeg = a + 11 := ix (k := 11)
  have ek : nI a + nI k - 1 = nI (a + (k - 1)) := by
    rw [nI_add, show a + k = a + (k - 1) + 1 by omega, nI_pred]
  have fin : ∀ x : Int32, x = mtl I r a s k → sp_tellOf.2 [.ref 30, .ref r, .int (nI s), .int (nI k)] I J (some (.int x)) I J := by
    intro x hx
    refine ⟨rfl, rfl, ?_⟩
    show some (Value.int x) = some (Value.int (mtl I r (24 * (nI s).toNatClampNeg) (nI s).toNatClampNeg (nI k).toNatClampNeg))
    rw [cs, ck, ← ha, hx]
  have key6 : mv_V mv_ow mv_swf mv_t_X7_tellOf (mv_cs [(101, sp_expected)]) (sp_tellOf.2 [.ref 30, .ref r, .int (nI s), .int (nI k)] I J) 6 [(0, .ref 30), (1, .ref r), (2, .int (nI s)), (3, .int (nI k)), (4, .int (nI a))] [] I J := by
    refine mv_run_V (stop := []) 60 _ _ _ _ _ ?_
    refine ⟨fun h1 => ?_, fun h1 => ?_⟩
    · have h1 := (nI_eq (b := 12) (by omega) (by decide)).mp h1
      refine ⟨rfl, rfl, ⟨r, s, hr, hs, hMB, rfl⟩, fun r1 I1 J1 hp => ?_⟩
      obtain ⟨rfl, rfl, hq⟩ := hp
      have hq : r1 = some (.int (mex I r (24 * (nI s).toNatClampNeg) (nI s).toNatClampNeg)) := hq
      subst hq
      exact fin _ (by unfold mtl; rw [if_pos h1, cs, ← ha])
    · have h1 : ¬ k = 12 := fun z => h1 (by rw [z]; rfl)
      refine ⟨fun h2 => ?_, fun h2 => ?_⟩
      · have h2 := (nI_eq (b := 13) (by omega) (by decide)).mp h2
        exact ⟨_, lay, ixin (k := 11) (by omega), fin _ (by unfold mtl; rw [if_neg h1, if_pos h2, c11])⟩
      · have h2 : ¬ k = 13 := fun z => h2 (by rw [z]; rfl)
        refine ⟨_, lay, ?_, fin _ ?_⟩
        · show vp_in (nI a + nI k - 1) 121
          rw [ek]
          exact vp_in_nI (by omega) (by decide)
        · rw [ek, nI_clamp (by omega)]
          unfold mtl
          rw [if_neg h1, if_neg h2]
  rw [ea] at key6
  refine ⟨rfl, mv_run_V (stop := [6]) 40 _ _ _ _ _ ?_⟩
  exact key6
theorem c_tellOf {l : Launch} {G : mv_G} {A : Nat → Prop} (hG : mv_adk G A) : mv_Con l G A 140 sp_tellOf := mv_con hG 140 mv_k_X7_tellOf (by decide +kernel) (mv_cs_cons (c_expected hG) (mv_cs_nil)) cb_tellOf
def mlt (I : mv_I) : mv_I := mv_sr I 40 (fa_fill (I 39) (I 40) 121)
theorem mv_sr_self {I : mv_I} {r : Nat} {f : Nat → Int32} (h : ∀ b, f b = I r b) : mv_sr I r f = I := by
  funext x b
  rw [mv_sr_ap]
  by_cases hx : x = r
  · rw [if_pos hx, hx, h]
  · rw [if_neg hx]
theorem mv_si_sr {I : mv_I} {r k : Nat} {x : Int32} : mv_si I r k x = mv_sr I r (upd (I r) k x) := by
  funext y b
  rw [mv_sr_ap, mv_si_ap]
  unfold upd
  by_cases hx : y = r
  · subst hx
    simp only [true_and, if_true]
  · simp only [hx, false_and, if_false]
theorem mv_sr_sr {I : mv_I} {r : Nat} {f g : Nat → Int32} : mv_sr (mv_sr I r f) r g = mv_sr I r g := by
  funext y b
  rw [mv_sr_ap, mv_sr_ap, mv_sr_ap]
  split <;> rfl
theorem mv_si_srx {I : mv_I} {r k : Nat} {f : Nat → Int32} {x : Int32} : mv_si (mv_sr I r f) r k x = mv_sr I r (upd f k x) := by
  rw [mv_si_sr, mv_sr_sr]
  congr 2
  funext b
  rw [mv_sr_ap, if_pos rfl]
theorem mv_sr_at {I : mv_I} {r : Nat} {f : Nat → Int32} : mv_sr I r f r = f := by
  funext b
  rw [mv_sr_ap, if_pos rfl]
def sp_layTrial : mv_SP := (fun as _ _ => as = [.ref 30], fun _ I J r I' J' => r = none ∧ I' = mlt I ∧ J = J')
theorem cb_layTrial : mv_body 115 mv_t_X7_layTrial (mv_cs []) sp_layTrial := by
  intro as I J h
  have h : as = [.ref 30] := h
  subst h
  have key : ∀ q k : Nat, k + q = 121 → mv_V mv_ow mv_swf mv_t_X7_layTrial (mv_cs []) (sp_layTrial.2 [.ref 30] I J) 2 [(0, .ref 30), (1, .int (nI k))] [] (mv_sr I 40 (fa_fill (I 39) (I 40) k)) J := by
    intro q
    induction q with
    | zero =>
      intro k hk
      have hk : k = 121 := hk
      subst hk
      refine mv_run_V (stop := [2]) 30 _ _ _ _ _ ?_
      refine ⟨fun h1 => ?_, fun h1 => ?_⟩
      · exact ⟨rfl, rfl, rfl⟩
      · exact absurd h1 (by decide)
    | succ q ih =>
      intro k hk
      have ck : (nI k).toNatClampNeg = k := nI_clamp (by omega)
      refine mv_run_V (stop := [2]) 60 _ _ _ _ _ ?_
      refine ⟨fun h1 => ?_, fun h1 => ?_⟩
      · have h1 : ¬ nI k < nI 121 := h1
        exact absurd (nI_lt (by omega) (by decide)) h1
      · refine ⟨rfl, _, rfl, rfl, _, rfl, _, rfl, vp_in_nI (by omega) (by decide), _, rfl, vp_in_nI (by omega) (by decide), ?_⟩
        have k6 := ih (k + 1) (by omega)
        rw [← fa_fill_succ, ← mv_si_srx, nI_succ] at k6
        rw [ck]
        exact k6
  refine ⟨rfl, mv_run_V (stop := [2]) 40 _ _ _ _ _ ?_⟩
  have k6 := key 121 0 rfl
  rw [mv_sr_self (fun b => by rw [fa_fill_0])] at k6
  exact k6
theorem c_layTrial {l : Launch} {G : mv_G} {A : Nat → Prop} (hG : mv_adk G A) : mv_Con l G A 115 sp_layTrial := mv_con hG 115 mv_k_X7_layTrial (by decide +kernel) (mv_cs_nil) cb_layTrial
/-- how many acts can be undone before this one is noted, 13 at most -/
def mnE (I : mv_I) : Nat := if I 30 16 = 14 then 13 else (I 30 16).toNatClampNeg
def mnB (I : mv_I) : Nat → Int32 := fb_put (if I 30 16 = 14 then fa_fill (fun b => I 41 (b + 121)) (I 41) 1573 else I 41) (I 39) (121 * mnE I) 121
def mnt (I : mv_I) : mv_I := mv_si (mv_sr (mv_si I 30 16 (nI (mnE I))) 41 (mnB I)) 30 16 (nI (mnE I + 1))
def sp_note : mv_SP := (fun as I _ => as = [.ref 30] ∧ ∃ d : Nat, d ≤ 14 ∧ I 30 16 = nI d, fun _ I J r I' J' => r = none ∧ I' = mnt I ∧ J = J')
theorem cb_note : mv_body 124 mv_t_X7_note (mv_cs []) sp_note := by
  intro as I J h
  obtain ⟨rfl, d, hd, hdd⟩ := h
  have key51 : ∀ (f : Nat → Int32) (e : Nat), e ≤ 13 → e = mnE I → f = (if I 30 16 = 14 then fa_fill (fun b => I 41 (b + 121)) (I 41) 1573 else I 41) → ∀ q k : Nat, k + q = 121 → mv_V mv_ow mv_swf mv_t_X7_note (mv_cs []) (sp_note.2 [.ref 30] I J) 51 [(0, .ref 30), (1, .int (nI k))] [] (mv_sr (mv_si I 30 16 (nI e)) 41 (fb_put f (I 39) (121 * e) k)) J := by
    intro f e he hee hf q
    induction q with
    | zero =>
      intro k hk
      have hk : k = 121 := hk
      subst hk
      refine mv_run_V (stop := [51]) 40 _ _ _ _ _ ?_
      refine ⟨fun h1 => ?_, fun h1 => ?_⟩
      · refine ⟨rfl, rfl, rfl, rfl, ?_, rfl⟩
        unfold mnt mnB
        rw [← hee, ← hf, nI_succ]
        rfl
      · exact absurd h1 (by decide)
    | succ q ih =>
      intro k hk
      have ck : (nI k).toNatClampNeg = k := nI_clamp (by omega)
      have e121 : nI 121 * nI e + nI k = nI (121 * e + k) := by
        rw [← nI_add]
        congr 1
        exact (Int32.ofNat_mul 121 e).symm
      have cx : (121 * nI e + nI k).toNatClampNeg = 121 * e + k := by
        show (nI 121 * nI e + nI k).toNatClampNeg = 121 * e + k
        rw [e121]
        exact nI_clamp (by omega)
      refine mv_run_V (stop := [51]) 60 _ _ _ _ _ ?_
      refine ⟨fun h1 => ?_, fun h1 => ?_⟩
      · have h1 : ¬ nI k < nI 121 := h1
        exact absurd (nI_lt (by omega) (by decide)) h1
      · refine ⟨rfl, _, rfl, rfl, rfl, _, rfl, _, rfl, vp_in_nI (by omega) (by decide), _, rfl, ?_, ?_⟩
        · show vp_in (nI 121 * nI e + nI k) 1694
          rw [e121]
          exact vp_in_nI (by omega) (by decide)
        · have k6 := ih (k + 1) (by omega)
          rw [← fb_put_succ, ← mv_si_srx, nI_succ, ← cx] at k6
          rw [ck]
          exact k6
  have key11 : ∀ q k : Nat, k + q = 1573 → I 30 16 = 14 → mv_V mv_ow mv_swf mv_t_X7_note (mv_cs []) (sp_note.2 [.ref 30] I J) 11 [(0, .ref 30), (1, .int (nI k))] [] (mv_sr I 41 (fa_fill (fun b => I 41 (b + 121)) (I 41) k)) J := by
    intro q
    induction q with
    | zero =>
      intro k hk h14
      have hk : k = 1573 := hk
      subst hk
      refine mv_run_V (stop := [11, 51]) 40 _ _ _ _ _ ?_
      refine ⟨fun h1 => ?_, fun h1 => ?_⟩
      · refine ⟨rfl, rfl, rfl, ?_⟩
        have k6 := key51 _ 13 (Nat.le_refl _) (by unfold mnE; rw [if_pos h14]) rfl 121 0 rfl
        rw [fb_put_0, if_pos h14] at k6
        have e : mv_sr (mv_si I 30 16 (nI 13)) 41 (fa_fill (fun b => I 41 (b + 121)) (I 41) 1573) = mv_si (mv_sr I 41 (fa_fill (fun b => I 41 (b + 121)) (I 41) 1573)) 30 16 ((mv_sr I 41 (fa_fill (fun b => I 41 (b + 121)) (I 41) 1573)) 30 16 - 1) := by
          funext x b
          rw [mv_sr_ap, mv_si_ap, mv_si_ap, mv_sr_ap, mv_sr_ap, if_neg (by decide : ¬ 30 = 41), h14]
          by_cases hx : x = 41
          · rw [if_pos hx, if_neg (by omega), if_pos hx]
          · rw [if_neg hx, if_neg hx]
            rfl
        rw [e] at k6
        exact k6
      · exact absurd h1 (by decide)
    | succ q ih =>
      intro k hk h14
      have ck : (nI k).toNatClampNeg = k := nI_clamp (by omega)
      have cx : (nI k + 121).toNatClampNeg = k + 121 := ix (k := 121)
      refine mv_run_V (stop := [11]) 60 _ _ _ _ _ ?_
      refine ⟨fun h1 => ?_, fun h1 => ?_⟩
      · have h1 : ¬ nI k < nI 1573 := h1
        exact absurd (nI_lt (by omega) (by decide)) h1
      · refine ⟨rfl, _, rfl, rfl, _, rfl, _, rfl, ixin (k := 121) (by omega), _, rfl, vp_in_nI (by omega) (by decide), ?_⟩
        have k6 := ih (k + 1) (by omega) h14
        have e : mv_sr I 41 (fa_fill (fun b => I 41 (b + 121)) (I 41) (k + 1)) = mv_si (mv_sr I 41 (fa_fill (fun b => I 41 (b + 121)) (I 41) k)) 41 k ((mv_sr I 41 (fa_fill (fun b => I 41 (b + 121)) (I 41) k)) 41 (nI k + 121).toNatClampNeg) := by
          rw [mv_si_srx, mv_sr_at, cx, fa_fill_out (by omega), ← fa_fill_succ]
        rw [e, nI_succ] at k6
        rw [ck]
        exact k6
  refine ⟨rfl, mv_run_V (stop := [11, 51]) 40 _ _ _ _ _ ?_⟩
  refine ⟨rfl, fun h1 => ?_, fun h1 => ?_⟩
  · have h1 : ¬ I 30 16 = 14 := h1
    have hd14 : d ≠ 14 := fun z => h1 (by rw [hdd, z]; rfl)
    have k6 := key51 _ d (by omega) (by unfold mnE; rw [if_neg h1, hdd, nI_clamp (by omega)]) rfl 121 0 rfl
    rw [fb_put_0, if_neg h1] at k6
    have e : mv_sr (mv_si I 30 16 (nI d)) 41 (I 41) = I := by
      rw [← hdd]
      funext x b
      rw [mv_sr_ap, mv_si_ap]
      by_cases hx : x = 41
      · rw [if_pos hx, hx]
      · rw [if_neg hx]
        split
        · rename_i hh; rw [hh.1, hh.2]
        · rfl
    rw [e] at k6
    exact k6
  · have h1 : I 30 16 = 14 := h1
    have k6 := key11 1573 0 rfl h1
    rw [mv_sr_self (fun b => by rw [fa_fill_0])] at k6
    exact k6
theorem c_note {l : Launch} {G : mv_G} {A : Nat → Prop} (hG : mv_adk G A) : mv_Con l G A 124 sp_note := mv_con hG 124 mv_k_X7_note (by decide +kernel) (mv_cs_nil) cb_note
def sp_has : mv_SP := (fun as _ _ => ∃ x k : Int32, as = [.int x, .int k],
  fun as I J r I' J' => I = I' ∧ J = J' ∧ match as with
    | [.int x, .int k] => r = some (.int (mv_b ((x >>> (k &&& 31)) &&& 1 = 1)))
    | _ => True)
theorem cb_has : mv_body 108 mv_t_X7_has (mv_cs []) sp_has := by
  intro as I J h
  obtain ⟨x, k, rfl⟩ := h
  refine ⟨rfl, mv_run_V (stop := []) 30 _ _ _ _ _ ?_⟩
  refine ⟨fun h1 => ?_, fun h1 => ?_⟩
  · exact ⟨Or.inl rfl, rfl, rfl, by show _ = some (Value.int (mv_b _)); rw [mv_bf h1]⟩
  · exact ⟨Or.inr rfl, rfl, rfl, by show _ = some (Value.int (mv_b _)); rw [mv_bt h1]⟩
theorem c_has {l : Launch} {G : mv_G} {A : Nat → Prop} (hG : mv_adk G A) : mv_Con l G A 108 sp_has := mv_con hG 108 mv_k_X7_has (by decide +kernel) (mv_cs_nil) cb_has
def onF (x : Int32) : Nat → Int32
  | 0 => 0
  | k + 1 => onF x k + ((x >>> (nI k &&& 31)) &&& 1)
def sp_ones : mv_SP := (fun as _ _ => ∃ x : Int32, as = [.int x],
  fun as I J r I' J' => I = I' ∧ J = J' ∧ match as with
    | [.int x] => r = some (.int (onF x 8))
    | _ => True)
theorem cb_ones : mv_body 125 mv_t_X7_ones (mv_cs []) sp_ones := by
  intro as I J h
  obtain ⟨x, rfl⟩ := h
  have key : ∀ q k : Nat, k + q = 8 → mv_V mv_ow mv_swf mv_t_X7_ones (mv_cs []) (sp_ones.2 [.int x] I J) 4 [(0, .int x), (1, .int (onF x k)), (2, .int (nI k))] [] I J := by
    intro q
    induction q with
    | zero =>
      intro k hk
      have hk : k = 8 := hk
      subst hk
      refine mv_run_V (stop := [4]) 30 _ _ _ _ _ ?_
      refine ⟨fun h1 => ?_, fun h1 => ?_⟩
      · exact ⟨rfl, rfl, rfl⟩
      · exact absurd h1 (by decide)
    | succ q ih =>
      intro k hk
      refine mv_run_V (stop := [4]) 30 _ _ _ _ _ ?_
      refine ⟨fun h1 => ?_, fun h1 => ?_⟩
      · have h1 : ¬ nI k < nI 8 := h1
        exact absurd (nI_lt (by omega) (by decide)) h1
      · have k6 := ih (k + 1) (by omega)
        rw [nI_succ] at k6
        exact k6
  refine ⟨rfl, mv_run_V (stop := [4]) 30 _ _ _ _ _ ?_⟩
  exact key 8 0 rfl
theorem c_ones {l : Launch} {G : mv_G} {A : Nat → Prop} (hG : mv_adk G A) : mv_Con l G A 125 sp_ones := mv_con hG 125 mv_k_X7_ones (by decide +kernel) (mv_cs_nil) cb_ones
def pwF (x : Int32) : Nat → Int32
  | 0 => 1
  | k + 1 => pwF x k * x
def sp_power : mv_SP := (fun as _ _ => ∃ (x : Int32) (n : Nat), n < 1000 ∧ as = [.int x, .int (nI n)],
  fun as I J r I' J' => I = I' ∧ J = J' ∧ match as with
    | [.int x, .int n] => r = some (.int (pwF x n.toNatClampNeg))
    | _ => True)
theorem cb_power : mv_body 128 mv_t_X7_power (mv_cs []) sp_power := by
  intro as I J h
  obtain ⟨x, n, hn, rfl⟩ := h
  have cn : (nI n).toNatClampNeg = n := nI_clamp (by omega)
  have key : ∀ q k : Nat, k + q = n → mv_V mv_ow mv_swf mv_t_X7_power (mv_cs []) (sp_power.2 [.int x, .int (nI n)] I J) 4 [(0, .int x), (1, .int (nI n)), (2, .int (pwF x k)), (3, .int (nI k))] [] I J := by
    intro q
    induction q with
    | zero =>
      intro k hk
      have hk : k = n := hk
      subst hk
      refine mv_run_V (stop := [4]) 30 _ _ _ _ _ ?_
      refine ⟨fun h1 => ?_, fun h1 => ?_⟩
      · exact ⟨rfl, rfl, by show _ = some (Value.int (pwF x (nI k).toNatClampNeg)); rw [cn]⟩
      · exact absurd h1 (nI_nlt (Nat.le_refl _) (by omega))
    | succ q ih =>
      intro k hk
      refine mv_run_V (stop := [4]) 30 _ _ _ _ _ ?_
      refine ⟨fun h1 => ?_, fun h1 => ?_⟩
      · exact absurd (nI_lt (by omega) (by omega)) h1
      · have k6 := ih (k + 1) (by omega)
        rw [nI_succ] at k6
        exact k6
  refine ⟨rfl, mv_run_V (stop := [4]) 30 _ _ _ _ _ ?_⟩
  exact key n 0 (Nat.zero_add n)
theorem c_power {l : Launch} {G : mv_G} {A : Nat → Prop} (hG : mv_adk G A) : mv_Con l G A 128 sp_power := mv_con hG 128 mv_k_X7_power (by decide +kernel) (mv_cs_nil) cb_power
def lpF (x : Int64) : Nat → Int64
  | 0 => 1
  | k + 1 => lpF x k * x
def sp_longPower : mv_SP := (fun as _ _ => ∃ (x : Int64) (n : Nat), n < 1000 ∧ as = [.long x, .int (nI n)],
  fun as I J r I' J' => I = I' ∧ J = J' ∧ match as with
    | [.long x, .int n] => r = some (.long (lpF x n.toNatClampNeg))
    | _ => True)
theorem cb_longPower : mv_body 119 mv_t_X7_longPower (mv_cs []) sp_longPower := by
  intro as I J h
  obtain ⟨x, n, hn, rfl⟩ := h
  have cn : (nI n).toNatClampNeg = n := nI_clamp (by omega)
  have key : ∀ q k : Nat, k + q = n → mv_V mv_ow mv_swf mv_t_X7_longPower (mv_cs []) (sp_longPower.2 [.long x, .int (nI n)] I J) 5 [(0, .long x), (2, .int (nI n)), (3, .long (lpF x k)), (5, .int (nI k))] [] I J := by
    intro q
    induction q with
    | zero =>
      intro k hk
      have hk : k = n := hk
      subst hk
      refine mv_run_V (stop := [5]) 30 _ _ _ _ _ ?_
      refine ⟨fun h1 => ?_, fun h1 => ?_⟩
      · exact ⟨rfl, rfl, by show _ = some (Value.long (lpF x (nI k).toNatClampNeg)); rw [cn]⟩
      · exact absurd h1 (nI_nlt (Nat.le_refl _) (by omega))
    | succ q ih =>
      intro k hk
      refine mv_run_V (stop := [5]) 30 _ _ _ _ _ ?_
      refine ⟨fun h1 => ?_, fun h1 => ?_⟩
      · exact absurd (nI_lt (by omega) (by omega)) h1
      · have k6 := ih (k + 1) (by omega)
        rw [nI_succ] at k6
        exact k6
  refine ⟨rfl, mv_run_V (stop := [5]) 30 _ _ _ _ _ ?_⟩
  exact key n 0 (Nat.zero_add n)
theorem c_longPower {l : Launch} {G : mv_G} {A : Nat → Prop} (hG : mv_adk G A) : mv_Con l G A 119 sp_longPower := mv_con hG 119 mv_k_X7_longPower (by decide +kernel) (mv_cs_nil) cb_longPower
def sp_mFactorial : mv_SP := (fun as _ _ => ∃ n : Nat, n < 20 ∧ as = [.int (nI n)],
  fun as I J r I' J' => I = I' ∧ J = J' ∧ match as with
    | [.int n] => r = some (.int (nI (facN n.toNatClampNeg)))
    | _ => True)
theorem cb_mFactorial : mv_body 102 mv_t_X7_factorial (mv_cs []) sp_mFactorial := by
  intro as I J h
  obtain ⟨n, hn, rfl⟩ := h
  have cn : (nI n).toNatClampNeg = n := nI_clamp (by omega)
  have fin : ∀ k : Nat, facN k = facN n → sp_mFactorial.2 [.int (nI n)] I J (some (.int (nI (facN k)))) I J := by
    intro k hk
    refine ⟨rfl, rfl, ?_⟩
    show _ = some (Value.int (nI (facN (nI n).toNatClampNeg)))
    rw [cn, hk]
  have key : ∀ r k : Nat, k + r = n ∨ (r = 0 ∧ n ≤ k ∧ facN k = facN n ∧ k < 100) → mv_V mv_ow mv_swf mv_t_X7_factorial (mv_cs []) (sp_mFactorial.2 [.int (nI n)] I J) 4 [(0, .int (nI n)), (1, .int (nI (facN k))), (2, .int (nI (k + 1)))] [] I J := by
    intro r
    induction r with
    | zero =>
      intro k hk
      have hk : n ≤ k ∧ facN k = facN n ∧ k < 100 := by
        rcases hk with h | h
        · have : k = n := h
          subst this
          exact ⟨Nat.le_refl _, rfl, by omega⟩
        · exact h.2
      refine mv_run_V (stop := [4]) 20 _ _ _ _ _ ?_
      refine ⟨fun h1 => ?_, fun h1 => ?_⟩
      · exact fin k hk.2.1
      · exact absurd (nI_lt (by omega) (by omega)) h1
    | succ r ih =>
      intro k hk
      have hk : k + (r + 1) = n := by omega
      refine mv_run_V (stop := [4]) 20 _ _ _ _ _ ?_
      refine ⟨fun h1 => ?_, fun h1 => ?_⟩
      · exact absurd h1 (nI_nlt (by omega) (by omega))
      · have h2 := ih (k + 1) (Or.inl (by omega))
        have em : nI (facN k * (k + 1)) = nI (facN k) * nI (k + 1) := Int32.ofNat_mul _ _
        rw [facN, em, nI_succ (k + 1)] at h2
        exact h2
  refine ⟨rfl, mv_run_V (stop := [4]) 20 _ _ _ _ _ ?_⟩
  exact key (n - 1) 1 (by
    rcases n with _ | n
    · exact Or.inr ⟨rfl, by omega, rfl, by omega⟩
    · exact Or.inl (by omega))
theorem c_mFactorial {l : Launch} {G : mv_G} {A : Nat → Prop} (hG : mv_adk G A) : mv_Con l G A 102 sp_mFactorial := mv_con hG 102 mv_k_X7_factorial (by decide +kernel) (mv_cs_nil) cb_mFactorial
end
section
/-! The reference: divisors, sums. -/
theorem lg_ge0 {a : Nat} (h : a < 2 ^ 63) : ¬ lg_cmp (lN a) 0 < 0 := by
  rw [lg_cmp_lt]
  have : ¬ lN a < lN 0 := by
    rw [pk_lLT h (by decide)]
    omega
  exact this
def sp_longDivisor : mv_SP := (fun as _ _ => ∃ a b : Nat, a < 2 ^ 63 ∧ b < 2 ^ 63 ∧ as = [.long (lN a), .long (lN b)],
  fun as I J r I' J' => I = I' ∧ J = J' ∧ ∀ a b : Nat, a < 2 ^ 63 → b < 2 ^ 63 → as = [.long (lN a), .long (lN b)] → r = some (.long (lN (Nat.gcd a b))))
theorem cb_longDivisor : mv_body 118 mv_t_X7_longDivisor (mv_cs []) sp_longDivisor := by
  intro as I J h
  obtain ⟨a, b, ha, hb, rfl⟩ := h
  have fin : ∀ x : Int64, x = lN (Nat.gcd a b) → sp_longDivisor.2 [.long (lN a), .long (lN b)] I J (some (.long x)) I J := by
    intro x hx
    refine ⟨rfl, rfl, fun a' b' ha' hb' e => ?_⟩
    injection e with e1 e2
    injection e2 with e2 e3
    injection e1 with e1
    injection e2 with e2
    have : a = a' := (pk_lEQ ha ha').mp e1
    subst this
    have : b = b' := (pk_lEQ hb hb').mp e2
    subst this
    rw [hx]
  have key : ∀ n p q : Nat, q ≤ n → p < 2 ^ 63 → q < 2 ^ 63 → Nat.gcd p q = Nat.gcd a b → mv_V mv_ow mv_swf mv_t_X7_longDivisor (mv_cs []) (sp_longDivisor.2 [.long (lN a), .long (lN b)] I J) 28 [(4, .long (lN p)), (6, .long (lN q))] [] I J := by
    intro n
    induction n with
    | zero =>
      intro p q hq hp hq2 hg
      have hq : q = 0 := by omega
      subst hq
      refine mv_run_V (stop := [28]) 30 _ _ _ _ _ ?_
      refine ⟨fun h1 => ?_, fun h1 => ?_⟩
      · exact fin _ (by rw [← hg, Nat.gcd_zero_right])
      · exact absurd ((lg_cmp_eq _ _).mpr rfl) h1
    | succ n ih =>
      intro p q hq hp hq2 hg
      refine mv_run_V (stop := [28]) 30 _ _ _ _ _ ?_
      refine ⟨fun h1 => ?_, fun h1 => ?_⟩
      · have h1 := (lN_eq0 hq2).mp ((lg_cmp_eq _ _).mp h1)
        subst h1
        exact fin _ (by rw [← hg, Nat.gcd_zero_right])
      · have h1 : ¬ q = 0 := fun z => h1 ((lg_cmp_eq _ _).mpr ((lN_eq0 hq2).mpr z))
        refine ⟨fun z => h1 ((lN_eq0 hq2).mp z), ?_⟩
        refine mv_keep [4, 6] ?_
        have hlt : p % q < q := Nat.mod_lt _ (by omega)
        have k6 := ih q (p % q) (by omega) hq2 (by omega) (by rw [← hg, Nat.gcd_comm q (p % q), ← Nat.gcd_rec, Nat.gcd_comm])
        rw [← pk_lRem hp (by omega) hq2] at k6
        exact k6
  refine ⟨rfl, mv_run_V (stop := [28]) 60 _ _ _ _ _ ?_⟩
  refine ⟨fun h1 => ?_, fun h1 => absurd h1 (lg_ge0 ha)⟩
  refine ⟨fun h2 => ?_, fun h2 => absurd h2 (lg_ge0 hb)⟩
  refine mv_keep [4, 6] ?_
  exact key b a b (Nat.le_refl _) ha hb rfl
theorem c_longDivisor {l : Launch} {G : mv_G} {A : Nat → Prop} (hG : mv_adk G A) : mv_Con l G A 118 sp_longDivisor := mv_con hG 118 mv_k_X7_longDivisor (by decide +kernel) (mv_cs_nil) cb_longDivisor
def sp_fraction : mv_SP := (fun as _ _ => ∃ (a b : Nat) (u : Int32), a < 2 ^ 31 ∧ b < 2 ^ 31 ∧ 0 < b ∧ as = [.int (nI a), .int (nI b), .int u],
  fun as I J r I' J' => I = I' ∧ J = J' ∧ ∀ (a b : Nat) (u : Int32), a < 2 ^ 31 → b < 2 ^ 31 → 0 < b → as = [.int (nI a), .int (nI b), .int u] → r = some (.int (nI ((if u = 0 then b else a) / Nat.gcd a b))))
theorem cb_fraction : mv_body 106 mv_t_X7_fraction (mv_cs [(118, sp_longDivisor)]) sp_fraction := by
  intro as I J h
  obtain ⟨a, b, u, ha, hb, hb0, rfl⟩ := h
  have hg0 : 0 < Nat.gcd a b := Nat.gcd_pos_of_pos_right _ hb0
  have hgb : Nat.gcd a b < 2 ^ 31 := Nat.lt_of_le_of_lt (Nat.le_of_dvd hb0 (Nat.gcd_dvd_right a b)) hb
  have fin : ∀ x : Int32, x = nI ((if u = 0 then b else a) / Nat.gcd a b) → sp_fraction.2 [.int (nI a), .int (nI b), .int u] I J (some (.int x)) I J := by
    intro x hx
    refine ⟨rfl, rfl, fun a' b' u' ha' hb' _ e => ?_⟩
    injection e with e1 e2
    injection e2 with e2 e3
    injection e3 with e3 e4
    injection e1 with e1
    injection e2 with e2
    injection e3 with e3
    have : a = a' := (nI_eq ha ha').mp e1
    subst this
    have : b = b' := (nI_eq hb hb').mp e2
    subst this
    subst e3
    rw [hx]
  refine ⟨rfl, mv_run_V (stop := []) 60 _ _ _ _ _ ?_⟩
  refine ⟨rfl, ⟨a, b, by omega, by omega, by rw [nI_l ha, nI_l hb]; rfl⟩, fun r1 I1 J1 hp => ?_⟩
  obtain ⟨rfl, rfl, hq⟩ := hp
  have hq := hq a b (by omega) (by omega) (by rw [nI_l ha, nI_l hb]; rfl)
  subst hq
  have hn0 : ¬ (lN (Nat.gcd a b)).toInt32 = 0 := by
    rw [lN_i]
    exact nI_ne0 hg0 hgb
  refine ⟨fun h1 => ?_, fun h1 => ?_⟩
  · refine ⟨hn0, fin _ ?_⟩
    rw [if_pos h1, lN_i, pk_div hb hg0 hgb]
  · refine ⟨hn0, fin _ ?_⟩
    rw [if_neg h1, lN_i, pk_div ha hg0 hgb]
theorem c_fraction {l : Launch} {G : mv_G} {A : Nat → Prop} (hG : mv_adk G A) : mv_Con l G A 106 sp_fraction := mv_con hG 106 mv_k_X7_fraction (by decide +kernel) (mv_cs_cons (c_longDivisor hG) (mv_cs_nil)) cb_fraction
def msA (I : mv_I) : Nat → Int32
  | 0 => 0
  | k + 1 => msA I k + I 39 (24 * k + 7)
def sp_allAlarms : mv_SP := (fun as I _ => as = [.ref 30] ∧ ∃ m : Nat, m ≤ 5 ∧ I 30 4 = nI m, fun _ I J r I' J' => I = I' ∧ J = J' ∧ r = some (.int (msA I (I 30 4).toNatClampNeg)))
theorem cb_allAlarms : mv_body 90 mv_t_X7_allAlarms (mv_cs []) sp_allAlarms := by
  intro as I J h
  obtain ⟨rfl, m, hm, hmm⟩ := h
  have key : ∀ q k : Nat, k + q = m → mv_V mv_ow mv_swf mv_t_X7_allAlarms (mv_cs []) (sp_allAlarms.2 [.ref 30] I J) 4 [(0, .ref 30), (1, .int (msA I k)), (2, .int (nI k))] [] I J := by
    intro q
    induction q with
    | zero =>
      intro k hk
      have hk : k = m := hk
      subst hk
      refine mv_run_V (stop := [4]) 30 _ _ _ _ _ ?_
      refine ⟨rfl, fun h1 => ?_, fun h1 => ?_⟩
      · exact ⟨rfl, rfl, by rw [hmm, nI_clamp (by omega)]⟩
      · rw [hmm] at h1
        exact absurd h1 (nI_nlt (Nat.le_refl _) (by omega))
    | succ q ih =>
      intro k hk
      have c7 : (nI 24 * nI k + 7).toNatClampNeg = 24 * k + 7 := by rw [e24]; exact ix (k := 7)
      refine mv_run_V (stop := [4]) 30 _ _ _ _ _ ?_
      refine ⟨rfl, fun h1 => ?_, fun h1 => ?_⟩
      · rw [hmm] at h1
        exact absurd (nI_lt (by omega) (by omega)) h1
      · refine ⟨rfl, _, rfl, _, rfl, ?_, ?_⟩
        · show vp_in (nI 24 * nI k + nI 7) 121
          rw [e24]
          exact ixin (by omega)
        · have k6 := ih (k + 1) (by omega)
          rw [nI_succ, msA, ← c7] at k6
          exact k6
  refine ⟨rfl, mv_run_V (stop := [4]) 30 _ _ _ _ _ ?_⟩
  exact key m 0 (Nat.zero_add m)
theorem c_allAlarms {l : Launch} {G : mv_G} {A : Nat → Prop} (hG : mv_adk G A) : mv_Con l G A 90 sp_allAlarms := mv_con hG 90 mv_k_X7_allAlarms (by decide +kernel) (mv_cs_nil) cb_allAlarms
def mnr (I : mv_I) (s : Nat) : Int32 := mv_mx (I 39 (24 * s + 6)) (I 39 (24 * s + 5))
def sp_nearOf : mv_SP := (fun as _ _ => ∃ s : Nat, s < 5 ∧ as = [.ref 30, .int (nI s)],
  fun as I J r I' J' => I = I' ∧ J = J' ∧ match as with
    | [_, .int s] => r = some (.int (mnr I s.toNatClampNeg))
    | _ => True)
theorem cb_nearOf : mv_body 122 mv_t_X7_nearOf (mv_cs []) sp_nearOf := by
  intro as I J h
  obtain ⟨s, hs, rfl⟩ := h
  have cs : (nI s).toNatClampNeg = s := nI_clamp (by omega)
  have c5 : (nI 24 * nI s + 5).toNatClampNeg = 24 * s + 5 := by rw [e24]; exact ix (k := 5)
  have c6 : (nI 24 * nI s + 6).toNatClampNeg = 24 * s + 6 := by rw [e24]; exact ix (k := 6)
  have i5 : vp_in (nI 24 * nI s + nI 5) 121 := by rw [e24]; exact ixin (by omega)
  have i6 : vp_in (nI 24 * nI s + nI 6) 121 := by rw [e24]; exact ixin (by omega)
  have fin : ∀ x : Int32, x = mnr I s → sp_nearOf.2 [.ref 30, .int (nI s)] I J (some (.int x)) I J := by
    intro x hx
    refine ⟨rfl, rfl, ?_⟩
    show some (Value.int x) = some (Value.int (mnr I (nI s).toNatClampNeg))
    rw [cs, hx]
  refine ⟨rfl, mv_run_V (stop := []) 60 _ _ _ _ _ ?_⟩
  refine ⟨rfl, _, rfl, _, rfl, i5, rfl, _, rfl, _, rfl, i6, fun h1 => ?_, fun h1 => ?_⟩
  · have h1 : ¬ I 39 (nI 24 * nI s + 6).toNatClampNeg < I 39 (nI 24 * nI s + 5).toNatClampNeg := h1
    have e : I 39 (nI 24 * nI s + 6).toNatClampNeg = mnr I s := by
      rw [c5, c6] at h1
      rw [c6]
      unfold mnr mv_mx
      rw [if_neg h1]
    exact fin _ e
  · have h1 : I 39 (nI 24 * nI s + 6).toNatClampNeg < I 39 (nI 24 * nI s + 5).toNatClampNeg := h1
    have e : I 39 (nI 24 * nI s + 5).toNatClampNeg = mnr I s := by
      rw [c5, c6] at h1
      rw [c5]
      unfold mnr mv_mx
      rw [if_pos h1]
    exact fin _ e
theorem c_nearOf {l : Launch} {G : mv_G} {A : Nat → Prop} (hG : mv_adk G A) : mv_Con l G A 122 sp_nearOf := mv_con hG 122 mv_k_X7_nearOf (by decide +kernel) (mv_cs_nil) cb_nearOf
/-- the chance that stands at the place i of five, the first for -2 -/
def mch (w : Int32) (i : Nat) : Int32 := w / pwF 10 (4 - i) - w / pwF 10 (4 - i) / 10 * 10
theorem pw_nz : ∀ i, i < 5 → ¬ pwF 10 (4 - i) = 0 := by decide
def sp_chanceOf : mv_SP := (fun as _ _ => ∃ i : Nat, i < 5 ∧ as = [.ref 30, .int (nI i - 2)],
  fun as I J r I' J' => I = I' ∧ J = J' ∧ ∀ i : Nat, i < 5 → as = [.ref 30, .int (nI i - 2)] → r = some (.int (mch (I 39 120) i)))
theorem two_sub : ∀ i, i < 5 → (2 : Int32) - (nI i - 2) = nI (4 - i) := by decide
theorem sub2_inj : ∀ i, i < 5 → ∀ j, j < 5 → nI i - 2 = nI j - 2 → i = j := by decide
theorem cb_chanceOf : mv_body 91 mv_t_X7_chanceOf (mv_cs [(128, sp_power)]) sp_chanceOf := by
  intro as I J h
  obtain ⟨i, hi, rfl⟩ := h
  have c4 : (nI (4 - i)).toNatClampNeg = 4 - i := nI_clamp (by omega)
  refine ⟨rfl, mv_run_V (stop := []) 60 _ _ _ _ _ ?_⟩
  refine ⟨rfl, _, rfl, _, rfl, vp_in_nI (n := 120) (by decide) (by decide), rfl, ⟨10, 4 - i, by omega, congrArg (fun z => [Value.int 10, .int z]) (two_sub i hi)⟩, fun r1 I1 J1 hp => ?_⟩
  obtain ⟨rfl, rfl, hq⟩ := hp
  have hq : r1 = some (.int (pwF 10 ((2 : Int32) - (nI i - 2)).toNatClampNeg)) := hq
  rw [two_sub i hi, c4] at hq
  subst hq
  refine ⟨pw_nz i hi, mv_nz10, rfl, rfl, fun j hj e => ?_⟩
  injection e with e1 e2
  injection e2 with e2 e3
  injection e2 with e2
  have : i = j := sub2_inj i hi j hj e2
  subst this
  rfl
theorem c_chanceOf {l : Launch} {G : mv_G} {A : Nat → Prop} (hG : mv_adk G A) : mv_Con l G A 91 sp_chanceOf := mv_con hG 91 mv_k_X7_chanceOf (by decide +kernel) (mv_cs_cons (c_power hG) (mv_cs_nil)) cb_chanceOf
end
section
/-! The reference: the public methods on the text, the series and acts. -/
def th (I : mv_I) : mv_I := mv_si I 30 0 0
theorem th_ne {I : mv_I} {a : Nat} (h : a ≠ 30) : th I a = I a := by
  funext b
  show mv_si I 30 0 0 a b = I a b
  rw [mv_si_ap, if_neg (fun z => h z.1)]
theorem th_30 {I : mv_I} {b : Nat} (h : b ≠ 0) : th I 30 b = I 30 b := by
  show mv_si I 30 0 0 30 b = I 30 b
  rw [mv_si_ap, if_neg (fun z => h z.2)]
theorem MB_of {N r a s : Nat} {I I' : mv_I} (h1 : I' r = I r) (h2 : I' 34 = I 34) (h : MB N I r a s) : MB N I' r a s := by
  unfold MB at *
  rw [h1, h2]
  exact h
theorem MB_mono {N N' r a s : Nat} {I : mv_I} (hN : N ≤ N') (h : MB N I r a s) : MB N' I r a s := by
  obtain ⟨⟨d, hd, e⟩, h2, h3⟩ := h
  exact ⟨⟨d, by omega, e⟩, h2, h3⟩
/-- what the reference's methods need of its cells -/
def MH (N : Nat) (I : mv_I) : Prop := (∃ m : Nat, m ≤ 5 ∧ I 30 4 = nI m ∧ ∀ s, s < m → MB N I 39 (24 * s) s) ∧ (∃ t : Nat, t ≤ 80 ∧ I 30 2 = nI t) ∧ (∃ d : Nat, d ≤ 14 ∧ I 30 16 = nI d) ∧ ∃ q : Nat, q ≤ 6 ∧ I 30 19 = nI q ∧ ∀ i, i < q → ∃ n : Nat, n ≤ 9 ∧ I 45 i = nI n
theorem MH_th {N : Nat} {I : mv_I} (h : MH N I) : MH N (th I) := by
  obtain ⟨⟨m, hm, e, hb⟩, h2, h3, q, hq, eq, hs⟩ := h
  refine ⟨⟨m, hm, (th_30 (by decide)).trans e, fun s hs => MB_of (th_ne (by decide)) (th_ne (by decide)) (hb s hs)⟩, ?_, ?_, q, hq, (th_30 (by decide)).trans eq, fun i hi => ?_⟩
  · rw [th_30 (by decide)]
    exact h2
  · rw [th_30 (by decide)]
    exact h3
  · rw [th_ne (by decide)]
    exact hs i hi
abbrev msv (I : mv_I) (s : Int32) : Prop := 0 ≤ s ∧ s ≤ I 30 4 - 1
theorem MH_in {N : Nat} {I : mv_I} {s : Int32} (h : MH N I) (hs : msv I s) : ∃ j : Nat, j < 5 ∧ s = nI j ∧ s.toNatClampNeg = j ∧ MB N I 39 (24 * j) j := by
  obtain ⟨⟨m, hm, e, hb⟩, -⟩ := h
  obtain ⟨j, hj, rfl⟩ := mv_upto (m := m) (by omega) hs.1 (by rw [← e]; exact hs.2)
  exact ⟨j, by omega, rfl, nI_clamp (by omega), hb j hj⟩
theorem mnt_ne {I : mv_I} {a : Nat} (h1 : a ≠ 30) (h2 : a ≠ 41) : mnt I a = I a := by
  unfold mnt
  rw [mv_si_ne h1, mv_sr_ne h2, mv_si_ne h1]
theorem MB_mnt {N r a s : Nat} {I : mv_I} (hr : r = 39 ∨ r = 40) (h : MB N I r a s) : MB N (mnt I) r a s := MB_of (mnt_ne (by omega) (by omega)) (mnt_ne (by decide) (by decide)) h
def sp_mWrite : mv_SP := (fun as I _ => MH 9000 I ∧ ∃ x : Int32, as = [.ref 30, .int x],
  fun as I J r I' J' => J = J' ∧ ∀ x : Int32, as = [.ref 30, .int x] → if 0 ≤ x ∧ x ≤ 255 then (if th I 30 2 = 80 then r = some (.int (-4)) ∧ I' = th I else r = some (.int (th I 30 2 + 1)) ∧ I' = mv_si (mv_si (th I) 31 (th I 30 2).toNatClampNeg x) 30 2 (th I 30 2 + 1)) else r = some (.int (-2)) ∧ I' = th I)
theorem cb_mWrite : mv_body 148 mv_t_X7_write (mv_cs [(109, sp_in)]) sp_mWrite := by
  intro as I J h
  obtain ⟨hM, x, rfl⟩ := h
  have hM := MH_th hM
  obtain ⟨-, ⟨t, ht, htt⟩, -⟩ := hM
  have key : mv_V mv_ow mv_swf mv_t_X7_write (mv_cs [(109, sp_in)]) (sp_mWrite.2 [.ref 30, .int x] I J) 5 [(0, .ref 30), (1, .int x)] [] (th I) J := by
    refine mv_run_V (stop := []) 60 _ _ _ _ _ ?_
    refine ⟨rfl, ⟨_, _, _, rfl⟩, fun r1 I1 J1 hp => ?_⟩
    obtain ⟨rfl, rfl, hq⟩ := hp
    have hq : r1 = some (.int (mv_b ((0 : Int64) ≤ (x : Int32).toInt64 ∧ (x : Int32).toInt64 ≤ (255 : Int64)))) := hq
    rw [mv_bc (in_w (lo := 0) (hi := 255))] at hq
    subst hq
    refine ⟨fun h1 => ?_, fun h1 => ?_⟩
    · have h1 := b_yes h1
      refine ⟨rfl, fun h2 => ?_, fun h2 => ?_⟩
      · have h2n : t ≠ 80 := fun z => h2 (by rw [htt, z]; rfl)
        refine ⟨rfl, _, rfl, rfl, _, rfl, (by rw [htt]; exact vp_in_nI (by omega) (by decide)), rfl, rfl, rfl, rfl, rfl, fun x' e => ?_⟩
        cases e
        rw [if_pos h1, if_neg h2]
        exact ⟨rfl, rfl⟩
      · refine ⟨rfl, fun x' e => ?_⟩
        cases e
        rw [if_pos h1, if_pos h2]
        exact ⟨rfl, rfl⟩
    · have h1 := mv_b0.mp h1
      refine ⟨rfl, fun x' e => ?_⟩
      cases e
      rw [if_neg h1]
      exact ⟨rfl, rfl⟩
  refine ⟨rfl, mv_run_V (stop := [5]) 40 _ _ _ _ _ ?_⟩
  exact ⟨rfl, key⟩
theorem c_mWrite {l : Launch} {G : mv_G} {A : Nat → Prop} (hG : mv_adk G A) : mv_Con l G A 148 sp_mWrite := mv_con hG 148 mv_k_X7_write (by decide +kernel) (mv_cs_cons (c_in hG) (mv_cs_nil)) cb_mWrite
def sp_mWipe : mv_SP := (fun as _ _ => as = [.ref 30],
  fun _ I J r I' J' => J = J' ∧ r = some (.int (th I 30 2)) ∧ I' = mv_si (th I) 30 2 0)
theorem cb_mWipe : mv_body 146 mv_t_X7_wipe (mv_cs []) sp_mWipe := by
  intro as I J h
  have h : as = [.ref 30] := h
  subst h
  refine ⟨rfl, mv_run_V (stop := []) 40 _ _ _ _ _ ?_⟩
  exact ⟨rfl, rfl, rfl, rfl, rfl, rfl⟩
theorem c_mWipe {l : Launch} {G : mv_G} {A : Nat → Prop} (hG : mv_adk G A) : mv_Con l G A 146 sp_mWipe := mv_con hG 146 mv_k_X7_wipe (by decide +kernel) (mv_cs_nil) cb_mWipe
def sp_mSeries : mv_SP := (fun as I _ => MH 9000 I ∧ ∃ s w : Int32, as = [.ref 30, .int s, .int w],
  fun as I J r I' J' => J = J' ∧ I' = th I ∧ ∀ s w : Int32, as = [.ref 30, .int s, .int w] → r = some (.int (if msv (th I) s then (if 0 ≤ w ∧ w ≤ 13 then (if w = 0 then th I 32 s.toNatClampNeg else mtl (th I) 39 (24 * s.toNatClampNeg) s.toNatClampNeg w.toNatClampNeg) else -2) else -1)))
theorem cb_mSeries : mv_body 136 mv_t_X7_series (mv_cs [(123, sp_noSeries), (109, sp_in), (140, sp_tellOf)]) sp_mSeries := by
  intro as I J h
  obtain ⟨hM, s, w, rfl⟩ := h
  have hM := MH_th hM
  have key : mv_V mv_ow mv_swf mv_t_X7_series (mv_cs [(123, sp_noSeries), (109, sp_in), (140, sp_tellOf)]) (sp_mSeries.2 [.ref 30, .int s, .int w] I J) 5 [(0, .ref 30), (1, .int s), (2, .int w)] [] (th I) J := by
    refine mv_run_V (stop := []) 60 _ _ _ _ _ ?_
    refine ⟨rfl, rfl, ⟨_, rfl⟩, fun r1 I1 J1 hp => ?_⟩
    obtain ⟨rfl, rfl, hq⟩ := hp
    have hq : r1 = some (.int (mv_b (¬ msv (th I) s))) := hq
    subst hq
    refine ⟨fun h1 => ?_, fun h1 => ?_⟩
    · have h1 : msv (th I) s := Decidable.not_not.mp (mv_b0.mp h1)
      obtain ⟨j, hj, rfl, cj, hMB⟩ := MH_in hM h1
      refine ⟨rfl, ⟨_, _, _, rfl⟩, fun r1 I1 J1 hp => ?_⟩
      obtain ⟨rfl, rfl, hq⟩ := hp
      have hq : r1 = some (.int (mv_b ((0 : Int64) ≤ (w : Int32).toInt64 ∧ (w : Int32).toInt64 ≤ (13 : Int64)))) := hq
      rw [mv_bc (in_w (lo := 0) (hi := 13))] at hq
      subst hq
      refine ⟨fun h3 => ?_, fun h3 => ?_⟩
      · have h3 := b_yes h3
        refine ⟨fun h4 => ?_, fun h4 => ?_⟩
        · obtain ⟨k, hk, rfl⟩ := in_nat (M := 13) (by decide) h3
          have hk0 : k ≠ 0 := fun z => h4 (by rw [z]; rfl)
          refine ⟨rfl, _, rfl, rfl, rfl, ⟨39, j, k, Or.inl rfl, hj, by omega, hk, MB_mono (by decide) hMB, rfl⟩, fun r1 I1 J1 hp => ?_⟩
          obtain ⟨rfl, rfl, hq⟩ := hp
          have hq : r1 = some (.int (mtl (th I) 39 (24 * (nI j).toNatClampNeg) (nI j).toNatClampNeg (nI k).toNatClampNeg)) := hq
          subst hq
          refine ⟨rfl, rfl, fun s' w' e => ?_⟩
          cases e
          rw [if_pos h1, if_pos h3, if_neg h4]
        · refine ⟨rfl, _, rfl, _, rfl, vp_in_nI (by omega) (by decide), rfl, rfl, fun s' w' e => ?_⟩
          cases e
          rw [if_pos h1, if_pos h3, if_pos h4]
      · have h3 := mv_b0.mp h3
        refine ⟨rfl, rfl, fun s' w' e => ?_⟩
        cases e
        rw [if_pos h1, if_neg h3]
    · have h1 : ¬ msv (th I) s := b_yes h1
      refine ⟨rfl, rfl, fun s' w' e => ?_⟩
      cases e
      rw [if_neg h1]
  refine ⟨rfl, mv_run_V (stop := [5]) 40 _ _ _ _ _ ?_⟩
  exact ⟨rfl, key⟩
theorem c_mSeries {l : Launch} {G : mv_G} {A : Nat → Prop} (hG : mv_adk G A) : mv_Con l G A 136 sp_mSeries := mv_con hG 136 mv_k_X7_series (by decide +kernel) (mv_cs_cons (c_noSeries hG) (mv_cs_cons (c_in hG) (mv_cs_cons (c_tellOf hG) (mv_cs_nil)))) cb_mSeries
def sp_mPast : mv_SP := (fun as I _ => MH 9000 I ∧ ∃ s w : Int32, as = [.ref 30, .int s, .int w],
  fun as I J r I' J' => J = J' ∧ I' = th I ∧ ∀ s w : Int32, as = [.ref 30, .int s, .int w] → r = some (.int (if msv (th I) s then (if 0 ≤ w ∧ w ≤ th I 39 (24 * s.toNatClampNeg + 11) - 1 then th I 39 (24 * s.toNatClampNeg + 12 + w.toNatClampNeg) else -1) else -1)))
theorem cb_mPast : mv_body 127 mv_t_X7_past (mv_cs [(123, sp_noSeries), (109, sp_in)]) sp_mPast := by
  intro as I J h
  obtain ⟨hM, s, w, rfl⟩ := h
  have hM := MH_th hM
  have key : mv_V mv_ow mv_swf mv_t_X7_past (mv_cs [(123, sp_noSeries), (109, sp_in)]) (sp_mPast.2 [.ref 30, .int s, .int w] I J) 5 [(0, .ref 30), (1, .int s), (2, .int w)] [] (th I) J := by
    refine mv_run_V (stop := []) 60 _ _ _ _ _ ?_
    refine ⟨rfl, rfl, ⟨_, rfl⟩, fun r1 I1 J1 hp => ?_⟩
    obtain ⟨rfl, rfl, hq⟩ := hp
    have hq : r1 = some (.int (mv_b (¬ msv (th I) s))) := hq
    subst hq
    refine ⟨fun h1 => ?_, fun h1 => ?_⟩
    · have h1 : ¬ msv (th I) s := b_yes h1
      refine ⟨rfl, rfl, fun s' w' e => ?_⟩
      cases e
      rw [if_neg h1]
    · have h1 : msv (th I) s := Decidable.not_not.mp (mv_b0.mp h1)
      obtain ⟨j, hj, rfl, cj, hMB⟩ := MH_in hM h1
      obtain ⟨-, ⟨n, hn, hnn⟩, -⟩ := hMB
      have c11 : (nI 24 * nI j + 11).toNatClampNeg = 24 * j + 11 := by rw [e24]; exact ix (k := 11)
      refine ⟨rfl, _, rfl, _, rfl, (by show vp_in (nI 24 * nI j + nI 11) 121; rw [e24]; exact ixin (by omega)), ?_⟩
      refine ⟨rfl, ⟨_, _, _, rfl⟩, fun r1 I1 J1 hp => ?_⟩
      obtain ⟨rfl, rfl, hq⟩ := hp
      have hq : r1 = some (.int (mv_b ((0 : Int64) ≤ (w : Int32).toInt64 ∧ (w : Int32).toInt64 ≤ (th I 39 (nI 24 * nI j + 11).toNatClampNeg - 1 : Int32).toInt64))) := hq
      rw [mv_bc (in_w (lo := 0) (hi := th I 39 (nI 24 * nI j + 11).toNatClampNeg - 1))] at hq
      subst hq
      refine ⟨fun h3 => ?_, fun h3 => ?_⟩
      · have h3 := b_yes h3
        rw [c11] at h3
        have h3b := h3
        rw [hnn] at h3b
        obtain ⟨k, hk, rfl⟩ := mv_upto (m := n) (by omega) h3b.1 h3b.2
        have ek : nI 24 * nI j + 12 + nI k = nI (24 * j + 12 + k) := by
          rw [e24]
          show nI (24 * j) + nI 12 + nI k = _
          rw [nI_add, nI_add]
        refine ⟨rfl, _, rfl, _, rfl, ?_, rfl, rfl, fun s' w' e => ?_⟩
        · show vp_in (nI 24 * nI j + 12 + nI k) 121
          rw [ek]
          exact vp_in_nI (by omega) (by decide)
        · cases e
          rw [if_pos h1, cj, if_pos h3, nI_clamp (n := k) (by omega)]
          show some (Value.int (th I 39 (nI 24 * nI j + 12 + nI k).toNatClampNeg)) = _
          rw [ek, nI_clamp (by omega)]
      · have h3 := mv_b0.mp h3
        rw [c11] at h3
        refine ⟨rfl, rfl, fun s' w' e => ?_⟩
        cases e
        rw [if_pos h1, cj, if_neg h3]
  refine ⟨rfl, mv_run_V (stop := [5]) 40 _ _ _ _ _ ?_⟩
  exact ⟨rfl, key⟩
theorem c_mPast {l : Launch} {G : mv_G} {A : Nat → Prop} (hG : mv_adk G A) : mv_Con l G A 127 sp_mPast := mv_con hG 127 mv_k_X7_past (by decide +kernel) (mv_cs_cons (c_noSeries hG) (mv_cs_cons (c_in hG) (mv_cs_nil))) cb_mPast
def sp_mTell : mv_SP := (fun as I _ => MH 9000 I ∧ ∃ s v : Int32, as = [.ref 30, .int s, .int v],
  fun as I J r I' J' => J = J' ∧ ∀ s v : Int32, as = [.ref 30, .int s, .int v] → if msv (th I) s then (if 0 ≤ v ∧ v ≤ 99 then r = some (.int (mkK (mnt (th I)) 39 (24 * s.toNatClampNeg) s.toNatClampNeg v)) ∧ I' = mct (mnt (th I)) 39 (24 * s.toNatClampNeg) s.toNatClampNeg v else r = some (.int (-2)) ∧ I' = th I) else r = some (.int (-1)) ∧ I' = th I)
theorem cb_mTell : mv_body 139 mv_t_X7_tell (mv_cs [(123, sp_noSeries), (109, sp_in), (124, sp_note), (98, sp_countOn)]) sp_mTell := by
  intro as I J h
  obtain ⟨hM, s, v, rfl⟩ := h
  have hM := MH_th hM
  have key : mv_V mv_ow mv_swf mv_t_X7_tell (mv_cs [(123, sp_noSeries), (109, sp_in), (124, sp_note), (98, sp_countOn)]) (sp_mTell.2 [.ref 30, .int s, .int v] I J) 5 [(0, .ref 30), (1, .int s), (2, .int v)] [] (th I) J := by
    refine mv_run_V (stop := []) 60 _ _ _ _ _ ?_
    refine ⟨rfl, rfl, ⟨_, rfl⟩, fun r1 I1 J1 hp => ?_⟩
    obtain ⟨rfl, rfl, hq⟩ := hp
    have hq : r1 = some (.int (mv_b (¬ msv (th I) s))) := hq
    subst hq
    refine ⟨fun h1 => ?_, fun h1 => ?_⟩
    · have h1 : msv (th I) s := Decidable.not_not.mp (mv_b0.mp h1)
      obtain ⟨j, hj, rfl, cj, hMB⟩ := MH_in hM h1
      refine ⟨rfl, ⟨_, _, _, rfl⟩, fun r1 I1 J1 hp => ?_⟩
      obtain ⟨rfl, rfl, hq⟩ := hp
      have hq : r1 = some (.int (mv_b ((0 : Int64) ≤ (v : Int32).toInt64 ∧ (v : Int32).toInt64 ≤ (99 : Int64)))) := hq
      rw [mv_bc (in_w (lo := 0) (hi := 99))] at hq
      subst hq
      refine ⟨fun h3 => ?_, fun h3 => ?_⟩
      · have h3 := b_yes h3
        refine ⟨rfl, rfl, ⟨rfl, hM.2.2.1⟩, fun r1 I1 J1 hp => ?_⟩
        obtain ⟨rfl, rfl, rfl⟩ := hp
        refine ⟨rfl, _, rfl, rfl, rfl, ⟨39, j, v, Or.inl rfl, hj, MB_mnt (Or.inl rfl) (MB_mono (by decide) hMB), rfl⟩, fun r1 I1 J1 hp => ?_⟩
        obtain ⟨rfl, hq⟩ := hp
        have hq : r1 = some (.int (mkK (mnt (th I)) 39 (24 * (nI j).toNatClampNeg) (nI j).toNatClampNeg v)) ∧ I1 = mct (mnt (th I)) 39 (24 * (nI j).toNatClampNeg) (nI j).toNatClampNeg v := hq
        obtain ⟨rfl, rfl⟩ := hq
        refine ⟨rfl, fun s' v' e => ?_⟩
        cases e
        rw [if_pos h1, if_pos h3]
        exact ⟨rfl, rfl⟩
      · have h3 := mv_b0.mp h3
        refine ⟨rfl, fun s' v' e => ?_⟩
        cases e
        rw [if_pos h1, if_neg h3]
        exact ⟨rfl, rfl⟩
    · have h1 : ¬ msv (th I) s := b_yes h1
      refine ⟨rfl, fun s' v' e => ?_⟩
      cases e
      rw [if_neg h1]
      exact ⟨rfl, rfl⟩
  refine ⟨rfl, mv_run_V (stop := [5]) 40 _ _ _ _ _ ?_⟩
  exact ⟨rfl, key⟩
theorem c_mTell {l : Launch} {G : mv_G} {A : Nat → Prop} (hG : mv_adk G A) : mv_Con l G A 139 sp_mTell := mv_con hG 139 mv_k_X7_tell (by decide +kernel) (mv_cs_cons (c_noSeries hG) (mv_cs_cons (c_in hG) (mv_cs_cons (c_note hG) (mv_cs_cons (c_countOn hG) (mv_cs_nil))))) cb_mTell
def sp_mGap : mv_SP := (fun as I _ => MH 9000 I ∧ ∃ s : Int32, as = [.ref 30, .int s],
  fun as I J r I' J' => J = J' ∧ ∀ s : Int32, as = [.ref 30, .int s] → if msv (th I) s then r = some (.int (mcm (mnt (th I)) 39 (24 * s.toNatClampNeg) (-9) 39 (24 * s.toNatClampNeg + 4))) ∧ I' = mcm (mnt (th I)) 39 (24 * s.toNatClampNeg) (-9) else r = some (.int (-1)) ∧ I' = th I)
theorem cb_mGap : mv_body 107 mv_t_X7_gap (mv_cs [(123, sp_noSeries), (124, sp_note), (96, sp_comes)]) sp_mGap := by
  intro as I J h
  obtain ⟨hM, s, rfl⟩ := h
  have hM := MH_th hM
  have key : mv_V mv_ow mv_swf mv_t_X7_gap (mv_cs [(123, sp_noSeries), (124, sp_note), (96, sp_comes)]) (sp_mGap.2 [.ref 30, .int s] I J) 5 [(0, .ref 30), (1, .int s)] [] (th I) J := by
    refine mv_run_V (stop := []) 60 _ _ _ _ _ ?_
    refine ⟨rfl, rfl, ⟨_, rfl⟩, fun r1 I1 J1 hp => ?_⟩
    obtain ⟨rfl, rfl, hq⟩ := hp
    have hq : r1 = some (.int (mv_b (¬ msv (th I) s))) := hq
    subst hq
    refine ⟨fun h1 => ?_, fun h1 => ?_⟩
    · have h1 : msv (th I) s := Decidable.not_not.mp (mv_b0.mp h1)
      obtain ⟨j, hj, rfl, cj, hMB⟩ := MH_in hM h1
      have c4 : (nI 24 * nI j + 4).toNatClampNeg = 24 * j + 4 := by rw [e24]; exact ix (k := 4)
      refine ⟨rfl, rfl, ⟨rfl, hM.2.2.1⟩, fun r1 I1 J1 hp => ?_⟩
      obtain ⟨rfl, rfl, rfl⟩ := hp
      refine ⟨rfl, _, rfl, rfl, ⟨39, j, -9, Or.inl rfl, hj, (MB_mnt (Or.inl rfl) hMB).2.1, rfl⟩, fun r1 I1 J1 hp => ?_⟩
      obtain ⟨rfl, rfl, hq⟩ := hp
      have hq : I1 = mcm (mnt (th I)) 39 (24 * (nI j).toNatClampNeg) (-9) := hq
      refine ⟨rfl, _, rfl, _, rfl, (by show vp_in (nI 24 * nI j + nI 4) 121; rw [e24]; exact ixin (by omega)), rfl, fun s' e => ?_⟩
      cases e
      rw [if_pos h1]
      refine ⟨?_, hq⟩
      show some (Value.int (I1 39 (nI 24 * nI j + 4).toNatClampNeg)) = _
      rw [c4, hq, cj]
    · have h1 : ¬ msv (th I) s := b_yes h1
      refine ⟨rfl, fun s' e => ?_⟩
      cases e
      rw [if_neg h1]
      exact ⟨rfl, rfl⟩
  refine ⟨rfl, mv_run_V (stop := [5]) 40 _ _ _ _ _ ?_⟩
  exact ⟨rfl, key⟩
theorem c_mGap {l : Launch} {G : mv_G} {A : Nat → Prop} (hG : mv_adk G A) : mv_Con l G A 107 sp_mGap := mv_con hG 107 mv_k_X7_gap (by decide +kernel) (mv_cs_cons (c_noSeries hG) (mv_cs_cons (c_note hG) (mv_cs_cons (c_comes hG) (mv_cs_nil)))) cb_mGap
def mdr (I : mv_I) (a : Nat) : mv_I := mv_si (mv_si I 39 (a + 5) 0) 39 (a + 6) 0
def sp_mClear : mv_SP := (fun as I _ => MH 9000 I ∧ ∃ s : Int32, as = [.ref 30, .int s],
  fun as I J r I' J' => J = J' ∧ ∀ s : Int32, as = [.ref 30, .int s] → if msv (th I) s then r = some (.int (mnt (th I) 39 (24 * s.toNatClampNeg + 5) + mnt (th I) 39 (24 * s.toNatClampNeg + 6))) ∧ I' = mdr (mnt (th I)) (24 * s.toNatClampNeg) else r = some (.int (-1)) ∧ I' = th I)
theorem cb_mClear : mv_body 94 mv_t_X7_clear (mv_cs [(123, sp_noSeries), (124, sp_note)]) sp_mClear := by
  intro as I J h
  obtain ⟨hM, s, rfl⟩ := h
  have hM := MH_th hM
  have key : mv_V mv_ow mv_swf mv_t_X7_clear (mv_cs [(123, sp_noSeries), (124, sp_note)]) (sp_mClear.2 [.ref 30, .int s] I J) 5 [(0, .ref 30), (1, .int s)] [] (th I) J := by
    refine mv_run_V (stop := []) 80 _ _ _ _ _ ?_
    refine ⟨rfl, rfl, ⟨_, rfl⟩, fun r1 I1 J1 hp => ?_⟩
    obtain ⟨rfl, rfl, hq⟩ := hp
    have hq : r1 = some (.int (mv_b (¬ msv (th I) s))) := hq
    subst hq
    refine ⟨fun h1 => ?_, fun h1 => ?_⟩
    · have h1 : msv (th I) s := Decidable.not_not.mp (mv_b0.mp h1)
      obtain ⟨j, hj, rfl, cj, hMB⟩ := MH_in hM h1
      have c5 : (nI 24 * nI j + 5).toNatClampNeg = 24 * j + 5 := by rw [e24]; exact ix (k := 5)
      have c6 : (nI 24 * nI j + 6).toNatClampNeg = 24 * j + 6 := by rw [e24]; exact ix (k := 6)
      have i5 : vp_in (nI 24 * nI j + nI 5) 121 := by rw [e24]; exact ixin (by omega)
      have i6 : vp_in (nI 24 * nI j + nI 6) 121 := by rw [e24]; exact ixin (by omega)
      refine ⟨rfl, rfl, ⟨rfl, hM.2.2.1⟩, fun r1 I1 J1 hp => ?_⟩
      obtain ⟨rfl, rfl, rfl⟩ := hp
      refine ⟨rfl, _, rfl, _, rfl, i5, rfl, _, rfl, _, rfl, i6, rfl, _, rfl, _, rfl, i5, rfl, _, rfl, _, rfl, i6, rfl, fun s' e => ?_⟩
      cases e
      rw [if_pos h1, cj, ← c5, ← c6]
      refine ⟨rfl, ?_⟩
      unfold mdr
      rw [← c5, ← c6]
      rfl
    · have h1 : ¬ msv (th I) s := b_yes h1
      refine ⟨rfl, fun s' e => ?_⟩
      cases e
      rw [if_neg h1]
      exact ⟨rfl, rfl⟩
  refine ⟨rfl, mv_run_V (stop := [5]) 40 _ _ _ _ _ ?_⟩
  exact ⟨rfl, key⟩
theorem c_mClear {l : Launch} {G : mv_G} {A : Nat → Prop} (hG : mv_adk G A) : mv_Con l G A 94 sp_mClear := mv_con hG 94 mv_k_X7_clear (by decide +kernel) (mv_cs_cons (c_noSeries hG) (mv_cs_cons (c_note hG) (mv_cs_nil))) cb_mClear
end
section
/-! The reference: set, chances, undo, keep, again, see, unsee, seed, count. -/
def sp_mSet : mv_SP := (fun as I _ => MH 9000 I ∧ ∃ s w v : Int32, as = [.ref 30, .int s, .int w, .int v],
  fun as I J r I' J' => J = J' ∧ ∀ s w v : Int32, as = [.ref 30, .int s, .int w, .int v] → (msv (th I) s → alwP w v → r = some (.int (mnt (th I) 39 (24 * s.toNatClampNeg + w.toNatClampNeg))) ∧ I' = mv_si (mnt (th I)) 39 (24 * s.toNatClampNeg + w.toNatClampNeg) v) ∧ (msv (th I) s → ¬ alwP w v → r = some (.int (-2)) ∧ I' = th I) ∧ (¬ msv (th I) s → r = some (.int (-1)) ∧ I' = th I))
theorem cb_mSet : mv_body 137 mv_t_X7_set (mv_cs [(123, sp_noSeries), (109, sp_in), (124, sp_note)]) sp_mSet := by
  intro as I J h
  obtain ⟨hM, s, w, v, rfl⟩ := h
  have hM := MH_th hM
  have key : mv_V mv_ow mv_swf mv_t_X7_set (mv_cs [(123, sp_noSeries), (109, sp_in), (124, sp_note)]) (sp_mSet.2 [.ref 30, .int s, .int w, .int v] I J) 5 [(0, .ref 30), (1, .int s), (2, .int w), (3, .int v)] [] (th I) J := by
    refine mv_run_V (stop := [72]) 60 _ _ _ _ _ ?_
    refine ⟨rfl, rfl, ⟨_, rfl⟩, fun r1 I1 J1 hp => ?_⟩
    obtain ⟨rfl, rfl, hq⟩ := hp
    have hq : r1 = some (.int (mv_b (¬ msv (th I) s))) := hq
    subst hq
    refine ⟨fun h1 => ?_, fun h1 => ?_⟩
    · have h1 : msv (th I) s := Decidable.not_not.mp (mv_b0.mp h1)
      obtain ⟨j, hj, rfl, cj, hMB⟩ := MH_in hM h1
      have no : ¬ alwP w v → sp_mSet.2 [.ref 30, .int (nI j), .int w, .int v] I J (some (.int (-2))) (th I) J := by
        intro hw
        refine ⟨rfl, fun s' w' v' e => ?_⟩
        cases e
        exact ⟨fun _ z => absurd z hw, fun _ _ => ⟨rfl, rfl⟩, fun z => absurd h1 z⟩
      refine ⟨rfl, ⟨_, _, _, rfl⟩, fun r1 I1 J1 hp => ?_⟩
      obtain ⟨rfl, rfl, hq⟩ := hp
      have hq : r1 = some (.int (mv_b ((0 : Int64) ≤ (w : Int32).toInt64 ∧ (w : Int32).toInt64 ≤ (3 : Int64)))) := hq
      rw [mv_bc (in_w (lo := 0) (hi := 3))] at hq
      subst hq
      refine ⟨fun h3 => ?_, fun h3 => ?_⟩
      · have h3 := mv_b0.mp h3
        refine no ?_
        intro z
        unfold alwP at z
        split at z
        · rename_i q; subst q; exact h3 ⟨by decide, by decide⟩
        · split at z
          · rename_i q; subst q; exact h3 ⟨by decide, by decide⟩
          · split at z
            · rename_i q; subst q; exact h3 ⟨by decide, by decide⟩
            · split at z
              · rename_i q; subst q; exact h3 ⟨by decide, by decide⟩
              · exact z
      · have h3 := b_yes h3
        obtain ⟨k, hk, rfl⟩ := in_nat (M := 3) (by decide) h3
        have ck : (nI k).toNatClampNeg = k := nI_clamp (by omega)
        have key72 : ∀ (lo hi : Int64) (lo' hi' : Int32), lo = lo'.toInt64 → hi = hi'.toInt64 → ((lo' ≤ v ∧ v ≤ hi') ↔ alwP (nI k) v) → mv_V mv_ow mv_swf mv_t_X7_set (mv_cs [(123, sp_noSeries), (109, sp_in), (124, sp_note)]) (sp_mSet.2 [.ref 30, .int (nI j), .int (nI k), .int v] I J) 72 [(0, .ref 30), (1, .int (nI j)), (2, .int (nI k)), (3, .int v)] [.long hi, .long lo, .long v.toInt64] (th I) J := by
          intro lo hi lo' hi' hlo hhi hal
          have ek : nI 24 * nI j + nI k = nI (24 * j + k) := by rw [e24, nI_add]
          have ik : vp_in (nI 24 * nI j + nI k) 121 := by rw [ek]; exact vp_in_nI (by omega) (by decide)
          have ckk : (nI 24 * nI j + nI k).toNatClampNeg = 24 * j + k := by rw [ek]; exact nI_clamp (by omega)
          refine mv_run_V (stop := []) 60 _ _ _ _ _ ?_
          refine ⟨rfl, ⟨_, _, _, rfl⟩, fun r1 I1 J1 hp => ?_⟩
          obtain ⟨rfl, rfl, hq⟩ := hp
          have hq : r1 = some (.int (mv_b (lo ≤ v.toInt64 ∧ v.toInt64 ≤ hi))) := hq
          rw [mv_bc (in_w (lo := lo') (hi := hi') hlo hhi)] at hq
          subst hq
          refine ⟨fun h4 => ?_, fun h4 => ?_⟩
          · have h4 := hal.mp (b_yes h4)
            refine ⟨rfl, rfl, ⟨rfl, hM.2.2.1⟩, fun r1 I1 J1 hp => ?_⟩
            obtain ⟨rfl, rfl, rfl⟩ := hp
            refine ⟨rfl, _, rfl, _, rfl, ik, rfl, _, rfl, _, rfl, ik, rfl, fun s' w' v' e => ?_⟩
            cases e
            refine ⟨fun _ _ => ?_, fun _ z => absurd h4 z, fun z => absurd h1 z⟩
            rw [cj, ck, ← ckk]
            exact ⟨rfl, rfl⟩
          · exact no (fun z => mv_b0.mp h4 (hal.mpr z))
        refine ⟨fun h4 => ?_, fun h4 => ?_⟩
        · refine ⟨fun h5 => ?_, fun h5 => ?_⟩
          · refine ⟨fun h6 => ?_, fun h6 => ?_⟩
            · refine ⟨fun h7 => ?_, fun h7 => ?_⟩
              · have hk3 : k = 3 := by
                  have a0 : k ≠ 0 := fun z => h5 (by rw [z]; rfl)
                  have a1 : k ≠ 1 := fun z => h4 (by rw [z]; rfl)
                  have a2 : k ≠ 2 := fun z => h7 (by rw [z]; rfl)
                  omega
                subst hk3
                exact key72 _ _ 0 1 rfl rfl Iff.rfl
              · have hk2 : k = 2 := (nI_eq (b := 2) (by omega) (by decide)).mp h7
                subst hk2
                exact key72 _ _ 0 4 rfl rfl Iff.rfl
            · exact absurd h6 h4
          · have hk0 : k = 0 := (nI_eq (b := 0) (by omega) (by decide)).mp h5
            subst hk0
            exact key72 _ _ 0 9 rfl rfl Iff.rfl
        · have hk1 : k = 1 := (nI_eq (b := 1) (by omega) (by decide)).mp h4
          subst hk1
          refine ⟨fun h5 => ?_, fun h5 => absurd h5 (by decide)⟩
          refine ⟨fun h6 => absurd rfl h6, fun h6 => ?_⟩
          exact key72 _ _ 1 99 rfl rfl Iff.rfl
    · have h1 : ¬ msv (th I) s := b_yes h1
      refine ⟨rfl, fun s' w' v' e => ?_⟩
      cases e
      exact ⟨fun z => absurd z h1, fun z => absurd z h1, fun _ => ⟨rfl, rfl⟩⟩
  refine ⟨rfl, mv_run_V (stop := [5]) 40 _ _ _ _ _ ?_⟩
  exact ⟨rfl, key⟩
theorem c_mSet {l : Launch} {G : mv_G} {A : Nat → Prop} (hG : mv_adk G A) : mv_Con l G A 137 sp_mSet := mv_con hG 137 mv_k_X7_set (by decide +kernel) (mv_cs_cons (c_noSeries hG) (mv_cs_cons (c_in hG) (mv_cs_cons (c_note hG) (mv_cs_nil)))) cb_mSet
def mds (w : Int32) : Int32 := w / 10000 + (w / 1000 - w / 1000 / 10 * 10) + (w / 100 - w / 100 / 10 * 10) + (w / 10 - w / 10 / 10 * 10) + (w - w / 10 * 10)
abbrev mdgP (w : Int32) : Prop := (0 ≤ w ∧ w ≤ 99999) ∧ mds w = 10
def sp_mChances : mv_SP := (fun as I _ => MH 9000 I ∧ ∃ w : Int32, as = [.ref 30, .int w],
  fun as I J r I' J' => J = J' ∧ ∀ w : Int32, as = [.ref 30, .int w] → if mdgP w then r = some (.int (mnt (th I) 39 120)) ∧ I' = mv_si (mnt (th I)) 39 120 w else r = some (.int (-2)) ∧ I' = th I)
theorem mv_nz100 : ¬ (100 : Int32) = 0 := by decide
theorem mv_nz1000 : ¬ (1000 : Int32) = 0 := by decide
theorem mv_nz10000 : ¬ (10000 : Int32) = 0 := by decide
theorem cb_mChances : mv_body 92 mv_t_X7_chances (mv_cs [(109, sp_in), (124, sp_note)]) sp_mChances := by
  intro as I J h
  obtain ⟨hM, w, rfl⟩ := h
  have hM := MH_th hM
  have key : mv_V mv_ow mv_swf mv_t_X7_chances (mv_cs [(109, sp_in), (124, sp_note)]) (sp_mChances.2 [.ref 30, .int w] I J) 5 [(0, .ref 30), (1, .int w)] [] (th I) J := by
    refine mv_run_V (stop := []) 80 _ _ _ _ _ ?_
    refine ⟨rfl, ⟨_, _, _, rfl⟩, fun r1 I1 J1 hp => ?_⟩
    obtain ⟨rfl, rfl, hq⟩ := hp
    have hq : r1 = some (.int (mv_b ((0 : Int64) ≤ (w : Int32).toInt64 ∧ (w : Int32).toInt64 ≤ (99999 : Int64)))) := hq
    rw [mv_bc (in_w (lo := 0) (hi := 99999))] at hq
    subst hq
    refine ⟨fun h1 => ?_, fun h1 => ?_⟩
    · have h1 := mv_b0.mp h1
      refine ⟨rfl, fun w' e => ?_⟩
      cases e
      rw [if_neg (fun z => h1 z.1)]
      exact ⟨rfl, rfl⟩
    · have h1 := b_yes h1
      refine ⟨mv_nz10000, mv_nz1000, mv_nz10, mv_nz100, mv_nz10, mv_nz10, mv_nz10, mv_nz10, fun h2 => ?_, fun h2 => ?_⟩
      · refine ⟨rfl, rfl, ⟨rfl, hM.2.2.1⟩, fun r1 I1 J1 hp => ?_⟩
        obtain ⟨rfl, rfl, rfl⟩ := hp
        refine ⟨rfl, _, rfl, _, rfl, vp_in_nI (n := 120) (by decide) (by decide), rfl, _, rfl, _, rfl, vp_in_nI (n := 120) (by decide) (by decide), rfl, fun w' e => ?_⟩
        cases e
        rw [if_pos ⟨h1, h2⟩]
        exact ⟨rfl, rfl⟩
      · refine ⟨rfl, fun w' e => ?_⟩
        cases e
        rw [if_neg (fun z => h2 z.2)]
        exact ⟨rfl, rfl⟩
  refine ⟨rfl, mv_run_V (stop := [5]) 40 _ _ _ _ _ ?_⟩
  exact ⟨rfl, key⟩
theorem c_mChances {l : Launch} {G : mv_G} {A : Nat → Prop} (hG : mv_adk G A) : mv_Con l G A 92 sp_mChances := mv_con hG 92 mv_k_X7_chances (by decide +kernel) (mv_cs_cons (c_in hG) (mv_cs_cons (c_note hG) (mv_cs_nil))) cb_mChances
def mun (I : mv_I) : mv_I := mv_sr (mv_si I 30 16 (I 30 16 - 1)) 39 (fa_fill (fun k => I 41 (121 * (I 30 16 - 1).toNatClampNeg + k)) (I 39) 121)
def sp_mUndo : mv_SP := (fun as I _ => MH 9000 I ∧ as = [.ref 30],
  fun _ I J r I' J' => J = J' ∧ if th I 30 16 = 0 then r = some (.int (-3)) ∧ I' = th I else r = some (.int (th I 30 16 - 1)) ∧ I' = mun (th I))
theorem cb_mUndo : mv_body 142 mv_t_X7_undo (mv_cs []) sp_mUndo := by
  intro as I J h
  obtain ⟨hM, rfl⟩ := h
  have hM := MH_th hM
  obtain ⟨-, -, ⟨d, hd, hdd⟩, -⟩ := hM
  have key27 : ∀ e : Nat, e < 14 → ¬ th I 30 16 = 0 → nI e = th I 30 16 - 1 → ∀ q k : Nat, k + q = 121 → mv_V mv_ow mv_swf mv_t_X7_undo (mv_cs []) (sp_mUndo.2 [.ref 30] I J) 27 [(0, .ref 30), (1, .int (nI k))] [] (mv_sr (mv_si (th I) 30 16 (nI e)) 39 (fa_fill (fun k => th I 41 (121 * e + k)) (th I 39) k)) J := by
    intro e he hne hee q
    have ce : (th I 30 16 - 1).toNatClampNeg = e := by rw [← hee]; exact nI_clamp (by omega)
    induction q with
    | zero =>
      intro k hk
      have hk : k = 121 := hk
      subst hk
      refine mv_run_V (stop := [27]) 40 _ _ _ _ _ ?_
      refine ⟨fun h1 => ?_, fun h1 => ?_⟩
      · refine ⟨rfl, rfl, ?_⟩
        rw [if_neg hne]
        unfold mun
        rw [ce, ← hee]
        exact ⟨rfl, rfl⟩
      · exact absurd h1 (by decide)
    | succ q ih =>
      intro k hk
      have ck : (nI k).toNatClampNeg = k := nI_clamp (by omega)
      have e121 : nI 121 * nI e + nI k = nI (121 * e + k) := by
        rw [← nI_add]
        congr 1
        exact (Int32.ofNat_mul 121 e).symm
      have cx : (121 * nI e + nI k).toNatClampNeg = 121 * e + k := by
        show (nI 121 * nI e + nI k).toNatClampNeg = 121 * e + k
        rw [e121]
        exact nI_clamp (by omega)
      refine mv_run_V (stop := [27]) 60 _ _ _ _ _ ?_
      refine ⟨fun h1 => ?_, fun h1 => ?_⟩
      · have h1 : ¬ nI k < nI 121 := h1
        exact absurd (nI_lt (by omega) (by decide)) h1
      · refine ⟨rfl, _, rfl, rfl, _, rfl, rfl, _, rfl, ?_, _, rfl, vp_in_nI (by omega) (by decide), ?_⟩
        · show vp_in (nI 121 * nI e + nI k) 1694
          rw [e121]
          exact vp_in_nI (by omega) (by decide)
        · have k6 := ih (k + 1) (by omega)
          rw [← fa_fill_succ, ← mv_si_srx, nI_succ, ← cx] at k6
          rw [ck]
          exact k6
  have key : mv_V mv_ow mv_swf mv_t_X7_undo (mv_cs []) (sp_mUndo.2 [.ref 30] I J) 5 [(0, .ref 30)] [] (th I) J := by
    refine mv_run_V (stop := [27]) 40 _ _ _ _ _ ?_
    refine ⟨rfl, fun h1 => ?_, fun h1 => ?_⟩
    · have h1 : ¬ th I 30 16 = 0 := h1
      have hd0 : d ≠ 0 := fun z => h1 (by rw [hdd, z]; rfl)
      have hee : nI (d - 1) = th I 30 16 - 1 := by
        rw [hdd]
        have e : d = d - 1 + 1 := by omega
        rw [e, nI_pred]
        rfl
      refine ⟨rfl, rfl, rfl, ?_⟩
      have k6 := key27 (d - 1) (by omega) h1 hee 121 0 rfl
      rw [fa_fill_0, mv_sr_self (fun b => by rw [mv_si_ne (by decide)]), hee] at k6
      exact k6
    · have h1 : th I 30 16 = 0 := h1
      refine ⟨rfl, ?_⟩
      rw [if_pos h1]
      exact ⟨rfl, rfl⟩
  refine ⟨rfl, mv_run_V (stop := [5]) 40 _ _ _ _ _ ?_⟩
  exact ⟨rfl, key⟩
theorem c_mUndo {l : Launch} {G : mv_G} {A : Nat → Prop} (hG : mv_adk G A) : mv_Con l G A 142 sp_mUndo := mv_con hG 142 mv_k_X7_undo (by decide +kernel) (mv_cs_nil) cb_mUndo
def mkp (I : mv_I) (s : Nat) : mv_I := mv_sr (mv_si I 43 s 1) 42 (fb_put (I 42) (I 39) (121 * s) 121)
def sp_mKeep : mv_SP := (fun as I _ => MH 9000 I ∧ ∃ s : Int32, as = [.ref 30, .int s],
  fun as I J r I' J' => J = J' ∧ ∀ s : Int32, as = [.ref 30, .int s] → if 0 ≤ s ∧ s ≤ 1 then r = some (.int (msA (mkp (th I) s.toNatClampNeg) (th I 30 4).toNatClampNeg)) ∧ I' = mkp (th I) s.toNatClampNeg else r = some (.int (-1)) ∧ I' = th I)
theorem cb_mKeep : mv_body 113 mv_t_X7_keep (mv_cs [(109, sp_in), (90, sp_allAlarms)]) sp_mKeep := by
  intro as I J h
  obtain ⟨hM, s, rfl⟩ := h
  have hM := MH_th hM
  obtain ⟨⟨m, hm, hmm, -⟩, -⟩ := hM
  have key26 : ∀ e : Nat, e ≤ 1 → s = nI e → ∀ q k : Nat, k + q = 121 → mv_V mv_ow mv_swf mv_t_X7_keep (mv_cs [(109, sp_in), (90, sp_allAlarms)]) (sp_mKeep.2 [.ref 30, .int s] I J) 26 [(0, .ref 30), (1, .int (nI e)), (2, .int (nI k))] [] (mv_sr (mv_si (th I) 43 e 1) 42 (fb_put (th I 42) (th I 39) (121 * e) k)) J := by
    intro e he hse q
    have ce : (nI e).toNatClampNeg = e := nI_clamp (by omega)
    induction q with
    | zero =>
      intro k hk
      have hk : k = 121 := hk
      subst hk
      refine mv_run_V (stop := [26]) 40 _ _ _ _ _ ?_
      refine ⟨fun h1 => ?_, fun h1 => ?_⟩
      · refine ⟨rfl, rfl, ⟨rfl, m, hm, hmm⟩, fun r1 I1 J1 hp => ?_⟩
        obtain ⟨rfl, rfl, rfl⟩ := hp
        refine ⟨rfl, fun s' e' => ?_⟩
        cases e'
        rw [hse, if_pos ⟨(nI_leI (a := 0) (by decide) (by omega)).mpr (by omega), (nI_leI (b := 1) (by omega) (by decide)).mpr he⟩, ce]
        exact ⟨rfl, rfl⟩
      · exact absurd h1 (by decide)
    | succ q ih =>
      intro k hk
      have ck : (nI k).toNatClampNeg = k := nI_clamp (by omega)
      have e121 : nI 121 * nI e + nI k = nI (121 * e + k) := by
        rw [← nI_add]
        congr 1
        exact (Int32.ofNat_mul 121 e).symm
      have cx : (121 * nI e + nI k).toNatClampNeg = 121 * e + k := by
        show (nI 121 * nI e + nI k).toNatClampNeg = 121 * e + k
        rw [e121]
        exact nI_clamp (by omega)
      refine mv_run_V (stop := [26]) 60 _ _ _ _ _ ?_
      refine ⟨fun h1 => ?_, fun h1 => ?_⟩
      · have h1 : ¬ nI k < nI 121 := h1
        exact absurd (nI_lt (by omega) (by decide)) h1
      · refine ⟨rfl, _, rfl, rfl, _, rfl, _, rfl, vp_in_nI (by omega) (by decide), _, rfl, ?_, ?_⟩
        · show vp_in (nI 121 * nI e + nI k) 242
          rw [e121]
          exact vp_in_nI (by omega) (by decide)
        · have k6 := ih (k + 1) (by omega)
          rw [← fb_put_succ, ← mv_si_srx, nI_succ, ← cx] at k6
          rw [ck]
          exact k6
  have key : mv_V mv_ow mv_swf mv_t_X7_keep (mv_cs [(109, sp_in), (90, sp_allAlarms)]) (sp_mKeep.2 [.ref 30, .int s] I J) 5 [(0, .ref 30), (1, .int s)] [] (th I) J := by
    refine mv_run_V (stop := [26]) 60 _ _ _ _ _ ?_
    refine ⟨rfl, ⟨_, _, _, rfl⟩, fun r1 I1 J1 hp => ?_⟩
    obtain ⟨rfl, rfl, hq⟩ := hp
    have hq : r1 = some (.int (mv_b ((0 : Int64) ≤ (s : Int32).toInt64 ∧ (s : Int32).toInt64 ≤ (1 : Int64)))) := hq
    rw [mv_bc (in_w (lo := 0) (hi := 1))] at hq
    subst hq
    refine ⟨fun h1 => ?_, fun h1 => ?_⟩
    · have h1 := b_yes h1
      obtain ⟨e, he, hse⟩ := in_nat (M := 1) (by decide) h1
      have cs : s.toNatClampNeg = e := by rw [hse]; exact nI_clamp (by omega)
      have k6 := key26 e he hse 121 0 rfl
      rw [fb_put_0, mv_sr_self (fun b => by rw [mv_si_ne (by decide)]), ← hse, ← cs] at k6
      refine ⟨rfl, _, rfl, _, rfl, (by rw [hse]; exact vp_in_nI (by omega) (by decide)), Or.inr rfl, ?_⟩
      exact k6
    · have h1 := mv_b0.mp h1
      refine ⟨rfl, fun s' e => ?_⟩
      cases e
      rw [if_neg h1]
      exact ⟨rfl, rfl⟩
  refine ⟨rfl, mv_run_V (stop := [5]) 40 _ _ _ _ _ ?_⟩
  exact ⟨rfl, key⟩
theorem c_mKeep {l : Launch} {G : mv_G} {A : Nat → Prop} (hG : mv_adk G A) : mv_Con l G A 113 sp_mKeep := mv_con hG 113 mv_k_X7_keep (by decide +kernel) (mv_cs_cons (c_in hG) (mv_cs_cons (c_allAlarms hG) (mv_cs_nil))) cb_mKeep
def mgn (I : mv_I) (s : Nat) : mv_I := mv_si (mv_sr I 39 (fa_fill (fun k => I 42 (121 * s + k)) (I 39) 121)) 30 16 0
def sp_mAgain : mv_SP := (fun as I _ => MH 9000 I ∧ ∃ s : Int32, as = [.ref 30, .int s],
  fun as I J r I' J' => J = J' ∧ ∀ s : Int32, as = [.ref 30, .int s] → if 0 ≤ s ∧ s ≤ 1 then (if th I 43 s.toNatClampNeg = 0 then r = some (.int (-3)) ∧ I' = th I else r = some (.int (msA (mgn (th I) s.toNatClampNeg) (th I 30 4).toNatClampNeg)) ∧ I' = mgn (th I) s.toNatClampNeg) else r = some (.int (-1)) ∧ I' = th I)
theorem cb_mAgain : mv_body 88 mv_t_X7_again (mv_cs [(109, sp_in), (90, sp_allAlarms)]) sp_mAgain := by
  intro as I J h
  obtain ⟨hM, s, rfl⟩ := h
  have hM := MH_th hM
  obtain ⟨⟨m, hm, hmm, -⟩, -⟩ := hM
  have key31 : ∀ e : Nat, e ≤ 1 → s = nI e → ¬ th I 43 e = 0 → ∀ q k : Nat, k + q = 121 → mv_V mv_ow mv_swf mv_t_X7_again (mv_cs [(109, sp_in), (90, sp_allAlarms)]) (sp_mAgain.2 [.ref 30, .int s] I J) 31 [(0, .ref 30), (1, .int (nI e)), (2, .int (nI k))] [] (mv_sr (th I) 39 (fa_fill (fun k => th I 42 (121 * e + k)) (th I 39) k)) J := by
    intro e he hse hk0 q
    have ce : (nI e).toNatClampNeg = e := nI_clamp (by omega)
    induction q with
    | zero =>
      intro k hk
      have hk : k = 121 := hk
      subst hk
      refine mv_run_V (stop := [31]) 40 _ _ _ _ _ ?_
      refine ⟨fun h1 => ?_, fun h1 => ?_⟩
      · refine ⟨rfl, rfl, rfl, ⟨rfl, m, hm, hmm⟩, fun r1 I1 J1 hp => ?_⟩
        obtain ⟨rfl, rfl, rfl⟩ := hp
        refine ⟨rfl, fun s' e' => ?_⟩
        cases e'
        rw [hse, if_pos ⟨(nI_leI (a := 0) (by decide) (by omega)).mpr (by omega), (nI_leI (b := 1) (by omega) (by decide)).mpr he⟩, ce, if_neg hk0]
        exact ⟨rfl, rfl⟩
      · exact absurd h1 (by decide)
    | succ q ih =>
      intro k hk
      have ck : (nI k).toNatClampNeg = k := nI_clamp (by omega)
      have e121 : nI 121 * nI e + nI k = nI (121 * e + k) := by
        rw [← nI_add]
        congr 1
        exact (Int32.ofNat_mul 121 e).symm
      have cx : (121 * nI e + nI k).toNatClampNeg = 121 * e + k := by
        show (nI 121 * nI e + nI k).toNatClampNeg = 121 * e + k
        rw [e121]
        exact nI_clamp (by omega)
      refine mv_run_V (stop := [31]) 60 _ _ _ _ _ ?_
      refine ⟨fun h1 => ?_, fun h1 => ?_⟩
      · have h1 : ¬ nI k < nI 121 := h1
        exact absurd (nI_lt (by omega) (by decide)) h1
      · refine ⟨rfl, _, rfl, rfl, _, rfl, _, rfl, ?_, _, rfl, vp_in_nI (by omega) (by decide), ?_⟩
        · show vp_in (nI 121 * nI e + nI k) 242
          rw [e121]
          exact vp_in_nI (by omega) (by decide)
        · have k6 := ih (k + 1) (by omega)
          rw [← fa_fill_succ, ← mv_si_srx, nI_succ, ← cx] at k6
          rw [ck]
          exact k6
  have key : mv_V mv_ow mv_swf mv_t_X7_again (mv_cs [(109, sp_in), (90, sp_allAlarms)]) (sp_mAgain.2 [.ref 30, .int s] I J) 5 [(0, .ref 30), (1, .int s)] [] (th I) J := by
    refine mv_run_V (stop := [31]) 60 _ _ _ _ _ ?_
    refine ⟨rfl, ⟨_, _, _, rfl⟩, fun r1 I1 J1 hp => ?_⟩
    obtain ⟨rfl, rfl, hq⟩ := hp
    have hq : r1 = some (.int (mv_b ((0 : Int64) ≤ (s : Int32).toInt64 ∧ (s : Int32).toInt64 ≤ (1 : Int64)))) := hq
    rw [mv_bc (in_w (lo := 0) (hi := 1))] at hq
    subst hq
    refine ⟨fun h1 => ?_, fun h1 => ?_⟩
    · have h1 := b_yes h1
      obtain ⟨e, he, hse⟩ := in_nat (M := 1) (by decide) h1
      have ce : s.toNatClampNeg = e := by rw [hse]; exact nI_clamp (by omega)
      refine ⟨rfl, _, rfl, _, rfl, (by rw [hse]; exact vp_in_nI (by omega) (by decide)), fun h2 => ?_, fun h2 => ?_⟩
      · have h2 : ¬ th I 43 s.toNatClampNeg = 0 := h2
        rw [ce] at h2
        have k6 := key31 e he hse h2 121 0 rfl
        rw [mv_sr_self (fun b => by rw [fa_fill_0]), ← hse] at k6
        exact k6
      · have h2 : th I 43 s.toNatClampNeg = 0 := h2
        refine ⟨rfl, fun s' e' => ?_⟩
        cases e'
        rw [if_pos h1, if_pos h2]
        exact ⟨rfl, rfl⟩
    · have h1 := mv_b0.mp h1
      refine ⟨rfl, fun s' e => ?_⟩
      cases e
      rw [if_neg h1]
      exact ⟨rfl, rfl⟩
  refine ⟨rfl, mv_run_V (stop := [5]) 40 _ _ _ _ _ ?_⟩
  exact ⟨rfl, key⟩
theorem c_mAgain {l : Launch} {G : mv_G} {A : Nat → Prop} (hG : mv_adk G A) : mv_Con l G A 88 sp_mAgain := mv_con hG 88 mv_k_X7_again (by decide +kernel) (mv_cs_cons (c_in hG) (mv_cs_cons (c_allAlarms hG) (mv_cs_nil))) cb_mAgain
def mse (I : mv_I) (s n k w : Int32) : mv_I := mv_si (mv_si (mv_si (mv_si (mv_si I 44 (I 30 19).toNatClampNeg s) 45 (I 30 19).toNatClampNeg n) 46 (I 30 19).toNatClampNeg k) 47 (I 30 19).toNatClampNeg w) 30 19 (I 30 19 + 1)
def sp_mSee : mv_SP := (fun as I _ => MH 9000 I ∧ ∃ s n k w : Int32, as = [.ref 30, .int s, .int n, .int k, .int w],
  fun as I J r I' J' => J = J' ∧ ∀ s n k w : Int32, as = [.ref 30, .int s, .int n, .int k, .int w] → if msv (th I) s then (if seeP n k w then (if th I 30 19 = 6 then r = some (.int (-4)) ∧ I' = th I else r = some (.int (th I 30 19 + 1)) ∧ I' = mse (th I) s n k w) else r = some (.int (-2)) ∧ I' = th I) else r = some (.int (-1)) ∧ I' = th I)
theorem see_fin {I : mv_I} {J : mv_J} {s n k w : Int32} {q : Nat} (hq6 : q ≤ 6) (hqq : th I 30 19 = nI q) : ∀ (x : Int32) (I1 : mv_I), msv (th I) s → seeP n k w → ¬ th I 30 19 = 6 → x = th I 30 19 + 1 → I1 = mse (th I) s n k w → sp_mSee.2 [.ref 30, .int s, .int n, .int k, .int w] I J (some (.int x)) I1 J := by
  rintro x I1 h1 h2 h6 rfl rfl
  refine ⟨rfl, fun s' n' k' w' e => ?_⟩
  cases e
  rw [if_pos h1, if_pos h2, if_neg h6]
  exact ⟨rfl, rfl⟩
theorem see_106 {I : mv_I} {J : mv_J} {s n k w : Int32} {q : Nat} (hq6 : q ≤ 6) (hqq : th I 30 19 = nI q) : ∀ B : mv_I, msv (th I) s → seeP n k w → ¬ th I 30 19 = 6 → B 30 19 = th I 30 19 → B = mv_si (mv_si (mv_si (mv_si (th I) 44 (th I 30 19).toNatClampNeg s) 45 (th I 30 19).toNatClampNeg n) 46 (th I 30 19).toNatClampNeg k) 47 (th I 30 19).toNatClampNeg w → mv_V mv_ow mv_swf mv_t_X7_see (mv_cs [(123, sp_noSeries), (109, sp_in)]) (sp_mSee.2 [.ref 30, .int s, .int n, .int k, .int w] I J) 106 [(0, .ref 30), (1, .int s), (2, .int n), (3, .int k), (4, .int w)] [] B J := by
  intro B h1 h2 h6 h30 hB
  refine mv_run_V (stop := []) 30 _ _ _ _ _ ?_
  refine ⟨rfl, rfl, rfl, rfl, see_fin hq6 hqq _ _ h1 h2 h6 ?_ ?_⟩
  · rw [mv_si_ap, if_pos ⟨rfl, rfl⟩, h30]
  · rw [h30, hB]
    rfl
theorem see_85 {I : mv_I} {J : mv_J} {s n k w : Int32} {q : Nat} (hq6 : q ≤ 6) (hqq : th I 30 19 = nI q) : ∀ B : mv_I, msv (th I) s → seeP n k w → ¬ th I 30 19 = 6 → B 30 19 = th I 30 19 → B = mv_si (mv_si (th I) 44 (th I 30 19).toNatClampNeg s) 45 (th I 30 19).toNatClampNeg n → mv_V mv_ow mv_swf mv_t_X7_see (mv_cs [(123, sp_noSeries), (109, sp_in)]) (sp_mSee.2 [.ref 30, .int s, .int n, .int k, .int w] I J) 85 [(0, .ref 30), (1, .int s), (2, .int n), (3, .int k), (4, .int w)] [] B J := by
  intro B h1 h2 h6 h30 hB
  have hq5 : q ≠ 6 := fun z => h6 (by rw [hqq, z]; rfl)
  have iq : vp_in (B 30 19) 6 := by rw [h30, hqq]; exact vp_in_nI (by omega) (by decide)
  have e1 : mv_si B 46 (B 30 19).toNatClampNeg k 30 19 = B 30 19 := by rw [mv_si_ne (by decide)]
  have iq2 : vp_in (mv_si B 46 (B 30 19).toNatClampNeg k 30 19) 6 := by rw [e1]; exact iq
  refine mv_run_V (stop := [106]) 30 _ _ _ _ _ ?_
  refine ⟨rfl, _, rfl, rfl, _, rfl, iq, rfl, _, rfl, rfl, _, rfl, iq2, ?_⟩
  refine see_106 hq6 hqq _ h1 h2 h6 ?_ ?_
  · rw [mv_si_ne (by decide), e1, h30]
  · rw [e1, h30, hB]
theorem see_65 {I : mv_I} {J : mv_J} {s n k w : Int32} {q : Nat} (hq6 : q ≤ 6) (hqq : th I 30 19 = nI q) : msv (th I) s → seeP n k w → ¬ th I 30 19 = 6 → mv_V mv_ow mv_swf mv_t_X7_see (mv_cs [(123, sp_noSeries), (109, sp_in)]) (sp_mSee.2 [.ref 30, .int s, .int n, .int k, .int w] I J) 65 [(0, .ref 30), (1, .int s), (2, .int n), (3, .int k), (4, .int w)] [] (th I) J := by
  intro h1 h2 h6
  have hq5 : q ≠ 6 := fun z => h6 (by rw [hqq, z]; rfl)
  have iq : vp_in (th I 30 19) 6 := by rw [hqq]; exact vp_in_nI (by omega) (by decide)
  have e1 : mv_si (th I) 44 (th I 30 19).toNatClampNeg s 30 19 = th I 30 19 := by rw [mv_si_ne (by decide)]
  have iq2 : vp_in (mv_si (th I) 44 (th I 30 19).toNatClampNeg s 30 19) 6 := by rw [e1]; exact iq
  refine mv_run_V (stop := [85]) 30 _ _ _ _ _ ?_
  refine ⟨rfl, _, rfl, rfl, _, rfl, iq, rfl, _, rfl, rfl, _, rfl, iq2, ?_⟩
  refine see_85 hq6 hqq _ h1 h2 h6 ?_ ?_
  · rw [mv_si_ne (by decide), e1]
  · rw [e1]
theorem see_no {I : mv_I} {J : mv_J} {s n k w : Int32} (h1 : msv (th I) s) : ¬ seeP n k w → sp_mSee.2 [.ref 30, .int s, .int n, .int k, .int w] I J (some (.int (-2))) (th I) J := by
  intro hw
  refine ⟨rfl, fun s' n' k' w' e => ?_⟩
  cases e
  rw [if_pos h1, if_neg hw]
  exact ⟨rfl, rfl⟩
theorem see_53 {I : mv_I} {J : mv_J} {s n k w : Int32} {q : Nat} (hq6 : q ≤ 6) (hqq : th I 30 19 = nI q) (h1 : msv (th I) s) (h2 : seeP n k w) : mv_V mv_ow mv_swf mv_t_X7_see (mv_cs [(123, sp_noSeries), (109, sp_in)]) (sp_mSee.2 [.ref 30, .int s, .int n, .int k, .int w] I J) 53 [(0, .ref 30), (1, .int s), (2, .int n), (3, .int k), (4, .int w)] [] (th I) J := by
  refine mv_run_V (stop := [65]) 30 _ _ _ _ _ ?_
  refine ⟨rfl, fun h6 => ?_, fun h6 => ?_⟩
  · have h6 : ¬ th I 30 19 = 6 := h6
    exact see_65 hq6 hqq h1 h2 h6
  · have h6 : th I 30 19 = 6 := h6
    refine ⟨rfl, fun s' n' k' w' e => ?_⟩
    cases e
    rw [if_pos h1, if_pos h2, if_pos h6]
    exact ⟨rfl, rfl⟩
theorem see_39 {I : mv_I} {J : mv_J} {s n k w : Int32} {q : Nat} (hq6 : q ≤ 6) (hqq : th I 30 19 = nI q) (h1 : msv (th I) s) (h3 : 0 ≤ n ∧ n ≤ 9) (h4 : 0 ≤ k ∧ k ≤ 9) : mv_V mv_ow mv_swf mv_t_X7_see (mv_cs [(123, sp_noSeries), (109, sp_in)]) (sp_mSee.2 [.ref 30, .int s, .int n, .int k, .int w] I J) 39 [(0, .ref 30), (1, .int s), (2, .int n), (3, .int k), (4, .int w)] [] (th I) J := by
  refine mv_run_V (stop := [53]) 30 _ _ _ _ _ ?_
  refine ⟨rfl, ⟨_, _, _, rfl⟩, fun r1 I1 J1 hp => ?_⟩
  obtain ⟨rfl, rfl, hq⟩ := hp
  have hq : r1 = some (.int (mv_b ((0 : Int64) ≤ (w : Int32).toInt64 ∧ (w : Int32).toInt64 ≤ (1 : Int64)))) := hq
  rw [mv_bc (in_w (lo := 0) (hi := 1))] at hq
  subst hq
  refine ⟨fun h5 => ?_, fun h5 => ?_⟩
  · exact see_53 hq6 hqq h1 ⟨h3, h4, b_yes h5⟩
  · exact see_no h1 (fun z => mv_b0.mp h5 z.2.2)
theorem see_27 {I : mv_I} {J : mv_J} {s n k w : Int32} {q : Nat} (hq6 : q ≤ 6) (hqq : th I 30 19 = nI q) (h1 : msv (th I) s) (h3 : 0 ≤ n ∧ n ≤ 9) : mv_V mv_ow mv_swf mv_t_X7_see (mv_cs [(123, sp_noSeries), (109, sp_in)]) (sp_mSee.2 [.ref 30, .int s, .int n, .int k, .int w] I J) 27 [(0, .ref 30), (1, .int s), (2, .int n), (3, .int k), (4, .int w)] [] (th I) J := by
  refine mv_run_V (stop := [39]) 30 _ _ _ _ _ ?_
  refine ⟨rfl, ⟨_, _, _, rfl⟩, fun r1 I1 J1 hp => ?_⟩
  obtain ⟨rfl, rfl, hq⟩ := hp
  have hq : r1 = some (.int (mv_b ((0 : Int64) ≤ (k : Int32).toInt64 ∧ (k : Int32).toInt64 ≤ (9 : Int64)))) := hq
  rw [mv_bc (in_w (lo := 0) (hi := 9))] at hq
  subst hq
  refine ⟨fun h5 => ?_, fun h5 => ?_⟩
  · exact see_no h1 (fun z => mv_b0.mp h5 z.2.1)
  · exact see_39 hq6 hqq h1 h3 (b_yes h5)
theorem see_15 {I : mv_I} {J : mv_J} {s n k w : Int32} {q : Nat} (hq6 : q ≤ 6) (hqq : th I 30 19 = nI q) (h1 : msv (th I) s) : mv_V mv_ow mv_swf mv_t_X7_see (mv_cs [(123, sp_noSeries), (109, sp_in)]) (sp_mSee.2 [.ref 30, .int s, .int n, .int k, .int w] I J) 15 [(0, .ref 30), (1, .int s), (2, .int n), (3, .int k), (4, .int w)] [] (th I) J := by
  refine mv_run_V (stop := [27]) 30 _ _ _ _ _ ?_
  refine ⟨rfl, ⟨_, _, _, rfl⟩, fun r1 I1 J1 hp => ?_⟩
  obtain ⟨rfl, rfl, hq⟩ := hp
  have hq : r1 = some (.int (mv_b ((0 : Int64) ≤ (n : Int32).toInt64 ∧ (n : Int32).toInt64 ≤ (9 : Int64)))) := hq
  rw [mv_bc (in_w (lo := 0) (hi := 9))] at hq
  subst hq
  refine ⟨fun h5 => ?_, fun h5 => ?_⟩
  · exact see_no h1 (fun z => mv_b0.mp h5 z.1)
  · exact see_27 hq6 hqq h1 (b_yes h5)
theorem cb_mSee : mv_body 134 mv_t_X7_see (mv_cs [(123, sp_noSeries), (109, sp_in)]) sp_mSee := by
  intro as I J h
  obtain ⟨hM, s, n, k, w, rfl⟩ := h
  have hM := MH_th hM
  obtain ⟨-, -, -, q, hq6, hqq, -⟩ := hM
  have key : mv_V mv_ow mv_swf mv_t_X7_see (mv_cs [(123, sp_noSeries), (109, sp_in)]) (sp_mSee.2 [.ref 30, .int s, .int n, .int k, .int w] I J) 5 [(0, .ref 30), (1, .int s), (2, .int n), (3, .int k), (4, .int w)] [] (th I) J := by
    refine mv_run_V (stop := [15]) 30 _ _ _ _ _ ?_
    refine ⟨rfl, rfl, ⟨_, rfl⟩, fun r1 I1 J1 hp => ?_⟩
    obtain ⟨rfl, rfl, hq⟩ := hp
    have hq : r1 = some (.int (mv_b (¬ msv (th I) s))) := hq
    subst hq
    refine ⟨fun h1 => ?_, fun h1 => ?_⟩
    · exact see_15 hq6 hqq (Decidable.not_not.mp (mv_b0.mp h1))
    · have h1 : ¬ msv (th I) s := b_yes h1
      refine ⟨rfl, fun s' n' k' w' e => ?_⟩
      cases e
      rw [if_neg h1]
      exact ⟨rfl, rfl⟩
  refine ⟨rfl, mv_run_V (stop := [5]) 40 _ _ _ _ _ ?_⟩
  exact ⟨rfl, key⟩
theorem c_mSee {l : Launch} {G : mv_G} {A : Nat → Prop} (hG : mv_adk G A) : mv_Con l G A 134 sp_mSee := mv_con hG 134 mv_k_X7_see (by decide +kernel) (mv_cs_cons (c_noSeries hG) (mv_cs_cons (c_in hG) (mv_cs_nil))) cb_mSee
def sp_mUnsee : mv_SP := (fun as _ _ => as = [.ref 30], fun _ I J r I' J' => J = J' ∧ r = some (.int (th I 30 19)) ∧ I' = mv_si (th I) 30 19 0)
theorem cb_mUnsee : mv_body 143 mv_t_X7_unsee (mv_cs []) sp_mUnsee := by
  intro as I J h
  have h : as = [.ref 30] := h
  subst h
  refine ⟨rfl, mv_run_V (stop := []) 40 _ _ _ _ _ ?_⟩
  exact ⟨rfl, rfl, rfl, rfl, rfl, rfl⟩
theorem c_mUnsee {l : Launch} {G : mv_G} {A : Nat → Prop} (hG : mv_adk G A) : mv_Con l G A 143 sp_mUnsee := mv_con hG 143 mv_k_X7_unsee (by decide +kernel) (mv_cs_nil) cb_mUnsee
def sp_mSeed : mv_SP := (fun as _ _ => ∃ v : Int64, as = [.ref 30, .long v], fun as I J r I' J' => I' = th I ∧ ∀ v : Int64, as = [.ref 30, .long v] → r = some (.long (J 30 24)) ∧ J' = mv_sj J 30 24 v)
theorem cb_mSeed : mv_body 135 mv_t_X7_seed (mv_cs []) sp_mSeed := by
  intro as I J h
  obtain ⟨v, rfl⟩ := h
  refine ⟨rfl, mv_run_V (stop := []) 40 _ _ _ _ _ ?_⟩
  refine ⟨rfl, rfl, rfl, rfl, fun v' e => ?_⟩
  cases e
  exact ⟨rfl, rfl⟩
theorem c_mSeed {l : Launch} {G : mv_G} {A : Nat → Prop} (hG : mv_adk G A) : mv_Con l G A 135 sp_mSeed := mv_con hG 135 mv_k_X7_seed (by decide +kernel) (mv_cs_nil) cb_mSeed
def mcnF (I : mv_I) (w : Int32) : Int32 := if w = 0 then I 30 2 else if w = 1 then I 30 4 else if w = 2 then msA I (I 30 4).toNatClampNeg else if w = 3 then I 39 120 else if w = 4 then I 30 16 else if w = 5 then I 30 19 else -2
def sp_mCount : mv_SP := (fun as I _ => MH 9000 I ∧ ∃ w : Int32, as = [.ref 30, .int w],
  fun as I J r I' J' => J = J' ∧ I' = th I ∧ ∀ w : Int32, as = [.ref 30, .int w] → r = some (.int (mcnF (th I) w)))
theorem cb_mCount : mv_body 97 mv_t_X7_count (mv_cs [(90, sp_allAlarms)]) sp_mCount := by
  intro as I J h
  obtain ⟨hM, w, rfl⟩ := h
  have hM := MH_th hM
  obtain ⟨⟨m, hm, hmm, -⟩, -⟩ := hM
  have fin : ∀ x : Int32, x = mcnF (th I) w → sp_mCount.2 [.ref 30, .int w] I J (some (.int x)) (th I) J := by
    intro x hx
    refine ⟨rfl, rfl, fun w' e => ?_⟩
    cases e
    rw [hx]
  have key : mv_V mv_ow mv_swf mv_t_X7_count (mv_cs [(90, sp_allAlarms)]) (sp_mCount.2 [.ref 30, .int w] I J) 5 [(0, .ref 30), (1, .int w)] [] (th I) J := by
    refine mv_run_V (stop := []) 60 _ _ _ _ _ ?_
    refine ⟨fun h0 => ?_, fun h0 => ?_⟩
    · exact ⟨rfl, fin _ (by unfold mcnF; rw [if_pos h0])⟩
    refine ⟨fun h1 => ?_, fun h1 => ?_⟩
    · exact ⟨rfl, fin _ (by unfold mcnF; rw [if_neg h0, if_pos h1])⟩
    refine ⟨fun h2 => ?_, fun h2 => ?_⟩
    · refine ⟨rfl, rfl, ⟨rfl, m, hm, hmm⟩, fun r1 I1 J1 hp => ?_⟩
      obtain ⟨rfl, rfl, rfl⟩ := hp
      exact fin _ (by unfold mcnF; rw [if_neg h0, if_neg h1, if_pos h2])
    refine ⟨fun h3 => ?_, fun h3 => ?_⟩
    · exact ⟨rfl, _, rfl, _, rfl, vp_in_nI (n := 120) (by decide) (by decide), fin _ (by unfold mcnF; rw [if_neg h0, if_neg h1, if_neg h2, if_pos h3]; rfl)⟩
    refine ⟨fun h4 => ?_, fun h4 => ?_⟩
    · exact ⟨rfl, fin _ (by unfold mcnF; rw [if_neg h0, if_neg h1, if_neg h2, if_neg h3, if_pos h4])⟩
    refine ⟨fun h5 => ?_, fun h5 => ?_⟩
    · exact ⟨rfl, fin _ (by unfold mcnF; rw [if_neg h0, if_neg h1, if_neg h2, if_neg h3, if_neg h4, if_pos h5])⟩
    exact fin _ (by unfold mcnF; rw [if_neg h0, if_neg h1, if_neg h2, if_neg h3, if_neg h4, if_neg h5])
  refine ⟨rfl, mv_run_V (stop := [5]) 40 _ _ _ _ _ ?_⟩
  exact ⟨rfl, key⟩
theorem c_mCount {l : Launch} {G : mv_G} {A : Nat → Prop} (hG : mv_adk G A) : mv_Con l G A 97 sp_mCount := mv_con hG 97 mv_k_X7_count (by decide +kernel) (mv_cs_cons (c_allAlarms hG) (mv_cs_nil)) cb_mCount
end
section
/-! The reference: what is tried. -/
theorem mcm_ne {I : mv_I} {r a x : Nat} {v : Int32} (h : x ≠ r) : mcm I r a v x = I x := by
  unfold mcm
  rw [mv_sr_ne h]
theorem mcm_4 {I : mv_I} {r a : Nat} {v : Int32} : mcm I r a v r (a + 4) = I r (a + 4) + 1 := by
  unfold mcm mcf
  rw [mv_sr_ap, if_pos rfl, if_pos rfl]
  split
  · unfold msf
    rw [if_neg (by omega), if_neg (by omega)]
  · rfl
theorem mcm_11 {I : mv_I} {r a : Nat} {v : Int32} : mcm I r a v r (a + 11) = if I r (a + 11) = 12 then 12 else I r (a + 11) + 1 := by
  unfold mcm mcf
  rw [mv_sr_ap, if_pos rfl, if_neg (by omega), if_pos rfl]
  by_cases h : I r (a + 11) = 12
  · rw [if_pos h, if_pos h]
    unfold msf
    rw [if_pos rfl]
    rfl
  · rw [if_neg h, if_neg h]
theorem MB_mcm {N r a s : Nat} {I : mv_I} {v : Int32} (hr : r ≠ 34) (h : MB N I r a s) : MB (N + 1) (mcm I r a v) r a s := by
  obtain ⟨⟨d, hd, e⟩, ⟨n, hn, en⟩, hL⟩ := h
  refine ⟨⟨d + 1, by omega, ?_⟩, ?_, ?_⟩
  · rw [mcm_4, e, nI_succ]
  · rw [mcm_11, en]
    by_cases h : nI n = 12
    · exact ⟨12, by omega, if_pos h⟩
    · have : n ≠ 12 := fun z => h (by rw [z]; rfl)
      exact ⟨n + 1, by omega, (if_neg h).trans (nI_1 n)⟩
  · rw [mcm_ne (by omega)]
    exact hL
theorem mca_ne {I : mv_I} {r a s x : Nat} {v : Int32} (h : x ≠ r) : mca I r a s v x = I x := by
  unfold mca
  split
  · split
    · unfold mmv
      rw [mv_si_ne h]
    · rfl
  · rw [mv_si_ne h, mv_si_ne h, mv_si_ne h]
theorem mct_ne {I : mv_I} {r a s x : Nat} {v : Int32} (h : x ≠ r) : mct I r a s v x = I x := by
  unfold mct
  rw [mcm_ne h, mv_si_ne h, mv_si_ne h, mca_ne h]
theorem MB_mct {N r a s : Nat} {I : mv_I} {v : Int32} (hr : r ≠ 34) (h : MB N I r a s) : MB (N + 1) (mct I r a s v) r a s := by
  unfold mct
  refine MB_mcm hr ?_
  obtain ⟨h1, h2, h3⟩ := h
  refine ⟨?_, ?_, ?_⟩
  · rw [mv_si_ap, if_neg (by omega), mv_si_ap, if_neg (by omega), mca_k (by decide) (by decide) (by decide) (by decide)]
    exact h1
  · rw [mv_si_ap, if_neg (by omega), mv_si_ap, if_neg (by omega), mca_k (by decide) (by decide) (by decide) (by decide)]
    exact h2
  · rw [mv_si_ne (by omega), mv_si_ne (by omega), mca_ne (by omega)]
    exact h3
/-- out of the row's 24 places nothing changes -/
theorem mcm_out {N I r a s b} {v : Int32} (h : MB N I r a s) (hb : b < a ∨ a + 24 ≤ b) : mcm I r a v r b = I r b := by
  obtain ⟨-, ⟨n, hn, en⟩, -⟩ := h
  unfold mcm mcf
  rw [mv_sr_ap, if_pos rfl, if_neg (by omega), if_neg (by omega)]
  by_cases h : I r (a + 11) = 12
  · rw [if_pos h]
    unfold msf
    rw [if_pos rfl, if_neg (by have e11 : (11 : Int32).toNatClampNeg = 11 := rfl; omega), if_neg (by omega), if_neg (by omega)]
  · rw [if_neg h, en, nI_clamp (by omega)]
    have : n ≠ 12 := fun z => h (by rw [en, z]; rfl)
    rw [if_neg (by omega)]
theorem mca_out {I : mv_I} {r a s b : Nat} {v : Int32} (hb : b < a ∨ a + 24 ≤ b) : mca I r a s v r b = I r b := by
  unfold mca
  split
  · split
    · unfold mmv
      rw [mv_si_ap, if_neg (by omega)]
    · rfl
  · rw [mv_si_ap, if_neg (by omega), mv_si_ap, if_neg (by omega), mv_si_ap, if_neg (by omega)]
theorem mct_out {N I r a s b} {v : Int32} (hr : r ≠ 34) (h : MB N I r a s) (hb : b < a ∨ a + 24 ≤ b) : mct I r a s v r b = I r b := by
  unfold mct
  have h0 : MB N (mv_si (mv_si (mca I r a s v) r (a + 5) (mcu I r a s v)) r (a + 6) (mcd I r a s v)) r a s := by
    obtain ⟨h1, h2, h3⟩ := h
    refine ⟨?_, ?_, ?_⟩
    · rw [mv_si_ap, if_neg (by omega), mv_si_ap, if_neg (by omega), mca_k (by decide) (by decide) (by decide) (by decide)]
      exact h1
    · rw [mv_si_ap, if_neg (by omega), mv_si_ap, if_neg (by omega), mca_k (by decide) (by decide) (by decide) (by decide)]
      exact h2
    · rw [mv_si_ne (by omega), mv_si_ne (by omega), mca_ne (by omega)]
      exact h3
  rw [mcm_out h0 hb, mv_si_ap, if_neg (by omega), mv_si_ap, if_neg (by omega), mca_out hb]
/-- all cells but the trial's page are as they were -/
def TF (I I' : mv_I) : Prop := (∀ a, a ≠ 40 → I' a = I a) ∧ ∀ b, 121 ≤ b → I' 40 b = I 40 b
theorem TF_rfl {I : mv_I} : TF I I := ⟨fun _ _ => rfl, fun _ _ => rfl⟩
theorem TF_trans {I I' I2 : mv_I} (h : TF I I') (h2 : TF I' I2) : TF I I2 := ⟨fun a ha => (h2.1 a ha).trans (h.1 a ha), fun b hb => (h2.2 b hb).trans (h.2 b hb)⟩
theorem TF_mlt {I : mv_I} : TF I (mlt I) := by
  refine ⟨fun a ha => ?_, fun b hb => ?_⟩
  · unfold mlt
    rw [mv_sr_ne ha]
  · unfold mlt
    rw [mv_sr_at, fa_fill_out hb]
theorem mlt_TF {I I' : mv_I} (h : TF I I') : mlt I' = mlt I := by
  unfold mlt
  funext a b
  rw [mv_sr_ap, mv_sr_ap]
  by_cases ha : a = 40
  · rw [if_pos ha, if_pos ha, h.1 39 (by decide)]
    by_cases hb : b < 121
    · rw [fa_fill_in hb, fa_fill_in hb]
    · rw [fa_fill_out (by omega), fa_fill_out (by omega), h.2 b (by omega)]
  · rw [if_neg ha, if_neg ha, h.1 a ha]
theorem MB_mlt {N s : Nat} {I : mv_I} (hs : s < 5) (h : MB N I 39 (24 * s) s) : MB N (mlt I) 40 (24 * s) s := by
  have e : ∀ b, b < 121 → mlt I 40 b = I 39 b := fun b hb => by
    unfold mlt
    rw [mv_sr_at, fa_fill_in hb]
  unfold MB at *
  rw [e _ (by omega), e _ (by omega), TF_mlt.1 34 (by decide)]
  exact h
theorem TF_mct {N s : Nat} {I I' : mv_I} {v : Int32} (hs : s < 5) (hM : MB N I' 40 (24 * s) s) (h : TF I I') : TF I (mct I' 40 (24 * s) s v) :=
  ⟨fun a ha => (mct_ne ha).trans (h.1 a ha), fun b hb => (mct_out (by decide) hM (Or.inr (by omega))).trans (h.2 b hb)⟩
theorem TF_mcm {N s : Nat} {I I' : mv_I} {v : Int32} (hs : s < 5) (hM : MB N I' 40 (24 * s) s) (h : TF I I') : TF I (mcm I' 40 (24 * s) v) :=
  ⟨fun a ha => (mcm_ne ha).trans (h.1 a ha), fun b hb => (mcm_out hM (Or.inr (by omega))).trans (h.2 b hb)⟩
/-- k counts of v on the trial -/
def mcN (s : Nat) (v : Int32) : Nat → mv_I → mv_I
  | 0, T => T
  | k + 1, T => mct (mcN s v k T) 40 (24 * s) s v
theorem MB_mcN {N s : Nat} {T : mv_I} {v : Int32} (h : MB N T 40 (24 * s) s) : ∀ k, MB (N + k) (mcN s v k T) 40 (24 * s) s
  | 0 => h
  | k + 1 => MB_mct (by decide) (MB_mcN h k)
theorem TF_mcN {N s : Nat} {I T : mv_I} {v : Int32} (hs : s < 5) (h : MB N T 40 (24 * s) s) (hT : TF I T) : ∀ k, TF I (mcN s v k T)
  | 0 => hT
  | k + 1 => TF_mct hs (MB_mcN h k) (TF_mcN hs h hT k)
/-- the first of q counts behind k counts that has an alarm -/
def mfr (T : mv_I) (s : Nat) (v : Int32) : Nat → Nat → Int32
  | 0, _ => -9
  | q + 1, k => if 0 < mkK (mcN s v k T) 40 (24 * s) s v then nI (k + 1) else mfr T s v q (k + 1)
def sp_ringsBy : mv_SP := (fun as I _ => ∃ (s : Nat) (v : Int32), s < 5 ∧ MB 9000 I 39 (24 * s) s ∧ as = [.ref 30, .int (nI s), .int v],
  fun as I J r I' J' => J = J' ∧ TF I I' ∧ match as with
    | [_, .int s, .int v] => r = some (.int (mfr (mlt I) s.toNatClampNeg v 60 0))
    | _ => True)
theorem cb_ringsBy : mv_body 133 mv_t_X7_ringsBy (mv_cs [(115, sp_layTrial), (98, sp_countOn)]) sp_ringsBy := by
  intro as I J h
  obtain ⟨s, v, hs, hMB, rfl⟩ := h
  have cs : (nI s).toNatClampNeg = s := nI_clamp (by omega)
  have hM := MB_mlt hs hMB
  have fin : ∀ (x : Int32) (I1 : mv_I), TF I I1 → x = mfr (mlt I) s v 60 0 → sp_ringsBy.2 [.ref 30, .int (nI s), .int v] I J (some (.int x)) I1 J := by
    intro x I1 h1 hx
    refine ⟨rfl, h1, ?_⟩
    show some (Value.int x) = some (Value.int (mfr (mlt I) (nI s).toNatClampNeg v 60 0))
    rw [cs, hx]
  have key : ∀ q k : Nat, k + q = 60 → mfr (mlt I) s v q k = mfr (mlt I) s v 60 0 → mv_V mv_ow mv_swf mv_t_X7_ringsBy (mv_cs [(115, sp_layTrial), (98, sp_countOn)]) (sp_ringsBy.2 [.ref 30, .int (nI s), .int v] I J) 6 [(0, .ref 30), (1, .int (nI s)), (2, .int v), (3, .int (nI (k + 1)))] [] (mcN s v k (mlt I)) J := by
    intro q
    induction q with
    | zero =>
      intro k hk hf
      have hk : k = 60 := hk
      subst hk
      refine mv_run_V (stop := [6]) 30 _ _ _ _ _ ?_
      refine ⟨fun h1 => ?_, fun h1 => ?_⟩
      · exact fin _ _ (TF_mcN hs hM TF_mlt _) hf
      · exact absurd (by decide) h1
    | succ q ih =>
      intro k hk hf
      rw [mfr] at hf
      refine mv_run_V (stop := [6]) 60 _ _ _ _ _ ?_
      refine ⟨fun h1 => ?_, fun h1 => ?_⟩
      · have h1 : nI 60 < nI (k + 1) := h1
        exact absurd h1 (nI_nlt (by omega) (by decide))
      · refine ⟨rfl, _, rfl, rfl, rfl, ⟨40, s, v, Or.inr rfl, hs, MB_mono (by omega) (MB_mcN hM k), rfl⟩, fun r1 I1 J1 hp => ?_⟩
        obtain ⟨rfl, hq⟩ := hp
        have hq : r1 = some (.int (mkK (mcN s v k (mlt I)) 40 (24 * (nI s).toNatClampNeg) (nI s).toNatClampNeg v)) ∧ I1 = mct (mcN s v k (mlt I)) 40 (24 * (nI s).toNatClampNeg) (nI s).toNatClampNeg v := hq
        rw [cs] at hq
        obtain ⟨rfl, rfl⟩ := hq
        refine ⟨fun h3 => ?_, fun h3 => ?_⟩
        · rw [if_neg h3] at hf
          have h4 := ih (k + 1) (by omega) hf
          rw [nI_succ (k + 1)] at h4
          exact h4
        · rw [if_pos h3] at hf
          exact fin _ _ (TF_mcN hs hM TF_mlt (k + 1)) hf
  refine ⟨rfl, mv_run_V (stop := [6]) 40 _ _ _ _ _ ?_⟩
  refine ⟨rfl, rfl, rfl, fun r1 I1 J1 hp => ?_⟩
  obtain ⟨rfl, rfl, rfl⟩ := hp
  exact key 60 0 rfl rfl
theorem c_ringsBy {l : Launch} {G : mv_G} {A : Nat → Prop} (hG : mv_adk G A) : mv_Con l G A 133 sp_ringsBy := mv_con hG 133 mv_k_X7_ringsBy (by decide +kernel) (mv_cs_cons (c_layTrial hG) (mv_cs_cons (c_countOn hG) (mv_cs_nil))) cb_ringsBy
def sp_mRings : mv_SP := (fun as I _ => MH 9000 I ∧ ∃ s v : Int32, as = [.ref 30, .int s, .int v],
  fun as I J r I' J' => J = J' ∧ TF (th I) I' ∧ ∀ s v : Int32, as = [.ref 30, .int s, .int v] → r = some (.int (if msv (th I) s then (if 0 ≤ v ∧ v ≤ 99 then mfr (mlt (th I)) s.toNatClampNeg v 60 0 else -2) else -1)))
theorem cb_mRings : mv_body 132 mv_t_X7_rings (mv_cs [(123, sp_noSeries), (109, sp_in), (133, sp_ringsBy)]) sp_mRings := by
  intro as I J h
  obtain ⟨hM, s, v, rfl⟩ := h
  have hM := MH_th hM
  have key : mv_V mv_ow mv_swf mv_t_X7_rings (mv_cs [(123, sp_noSeries), (109, sp_in), (133, sp_ringsBy)]) (sp_mRings.2 [.ref 30, .int s, .int v] I J) 5 [(0, .ref 30), (1, .int s), (2, .int v)] [] (th I) J := by
    refine mv_run_V (stop := []) 60 _ _ _ _ _ ?_
    refine ⟨rfl, rfl, ⟨_, rfl⟩, fun r1 I1 J1 hp => ?_⟩
    obtain ⟨rfl, rfl, hq⟩ := hp
    have hq : r1 = some (.int (mv_b (¬ msv (th I) s))) := hq
    subst hq
    refine ⟨fun h1 => ?_, fun h1 => ?_⟩
    · have h1 : msv (th I) s := Decidable.not_not.mp (mv_b0.mp h1)
      obtain ⟨j, hj, rfl, cj, hMB⟩ := MH_in hM h1
      refine ⟨rfl, ⟨_, _, _, rfl⟩, fun r1 I1 J1 hp => ?_⟩
      obtain ⟨rfl, rfl, hq⟩ := hp
      have hq : r1 = some (.int (mv_b ((0 : Int64) ≤ (v : Int32).toInt64 ∧ (v : Int32).toInt64 ≤ (99 : Int64)))) := hq
      rw [mv_bc (in_w (lo := 0) (hi := 99))] at hq
      subst hq
      refine ⟨fun h3 => ?_, fun h3 => ?_⟩
      · have h3 := mv_b0.mp h3
        refine ⟨rfl, TF_rfl, fun s' v' e => ?_⟩
        cases e
        rw [if_pos h1, if_neg h3]
      · have h3 := b_yes h3
        refine ⟨rfl, rfl, ⟨j, v, hj, hMB, rfl⟩, fun r1 I1 J1 hp => ?_⟩
        obtain ⟨rfl, hT, hq⟩ := hp
        have hq : r1 = some (.int (mfr (mlt (th I)) (nI j).toNatClampNeg v 60 0)) := hq
        subst hq
        refine ⟨rfl, hT, fun s' v' e => ?_⟩
        cases e
        rw [if_pos h1, if_pos h3]
    · have h1 : ¬ msv (th I) s := b_yes h1
      refine ⟨rfl, TF_rfl, fun s' v' e => ?_⟩
      cases e
      rw [if_neg h1]
  refine ⟨rfl, mv_run_V (stop := [5]) 40 _ _ _ _ _ ?_⟩
  exact ⟨rfl, key⟩
theorem c_mRings {l : Launch} {G : mv_G} {A : Nat → Prop} (hG : mv_adk G A) : mv_Con l G A 132 sp_mRings := mv_con hG 132 mv_k_X7_rings (by decide +kernel) (mv_cs_cons (c_noSeries hG) (mv_cs_cons (c_in hG) (mv_cs_cons (c_ringsBy hG) (mv_cs_nil)))) cb_mRings
/-- the lowest number, from k on, whose alarm comes within n counts -/
def mls (T : mv_I) (s : Nat) (n : Int32) : Nat → Nat → Int32
  | 0, _ => -9
  | q + 1, k => if 0 < mfr T s (nI k) 60 0 ∧ ¬ n < mfr T s (nI k) 60 0 then nI k else mls T s n q (k + 1)
def sp_mLeast : mv_SP := (fun as I _ => MH 9000 I ∧ ∃ s n : Int32, as = [.ref 30, .int s, .int n],
  fun as I J r I' J' => J = J' ∧ TF (th I) I' ∧ ∀ s n : Int32, as = [.ref 30, .int s, .int n] → r = some (.int (if msv (th I) s then (if 1 ≤ n ∧ n ≤ 30 then mls (mlt (th I)) s.toNatClampNeg n 100 0 else -2) else -1)))
theorem cb_mLeast : mv_body 116 mv_t_X7_least (mv_cs [(123, sp_noSeries), (109, sp_in), (133, sp_ringsBy)]) sp_mLeast := by
  intro as I J h
  obtain ⟨hM, s, n, rfl⟩ := h
  have hM := MH_th hM
  have key32 : ∀ j : Nat, j < 5 → s = nI j → MB 9000 (th I) 39 (24 * j) j → msv (th I) s → 1 ≤ n ∧ n ≤ 30 → ∀ q k : Nat, k + q = 100 → mls (mlt (th I)) j n q k = mls (mlt (th I)) j n 100 0 → ∀ I1, TF (th I) I1 → mv_V mv_ow mv_swf mv_t_X7_least (mv_cs [(123, sp_noSeries), (109, sp_in), (133, sp_ringsBy)]) (sp_mLeast.2 [.ref 30, .int s, .int n] I J) 32 [(0, .ref 30), (1, .int (nI j)), (2, .int n), (3, .int (nI k))] [] I1 J := by
    intro j hj hsj hMB h1 h3 q
    have cj : (nI j).toNatClampNeg = j := nI_clamp (by omega)
    have fin : ∀ (x : Int32) (I1 : mv_I), TF (th I) I1 → x = mls (mlt (th I)) j n 100 0 → sp_mLeast.2 [.ref 30, .int s, .int n] I J (some (.int x)) I1 J := by
      intro x I1 hT hx
      refine ⟨rfl, hT, fun s' n' e => ?_⟩
      cases e
      rw [if_pos h1, if_pos h3, hsj, cj, hx]
    induction q with
    | zero =>
      intro k hk hf I1 hT
      have hk : k = 100 := hk
      subst hk
      refine mv_run_V (stop := [32]) 30 _ _ _ _ _ ?_
      refine ⟨fun h1 => ?_, fun h1 => ?_⟩
      · exact fin _ _ hT hf
      · exact absurd h1 (by decide)
    | succ q ih =>
      intro k hk hf I1 hT
      rw [mls] at hf
      refine mv_run_V (stop := [32]) 60 _ _ _ _ _ ?_
      refine ⟨fun h4 => ?_, fun h4 => ?_⟩
      · have h4 : ¬ nI k < nI 100 := h4
        exact absurd (nI_lt (by omega) (by decide)) h4
      · refine ⟨rfl, rfl, ⟨j, nI k, hj, MB_of (hT.1 _ (by decide)) (hT.1 _ (by decide)) hMB, rfl⟩, fun r1 I2 J2 hp => ?_⟩
        obtain ⟨rfl, hT2, hq⟩ := hp
        have hq : r1 = some (.int (mfr (mlt I1) (nI j).toNatClampNeg (nI k) 60 0)) := hq
        rw [cj, mlt_TF hT] at hq
        subst hq
        have hT3 := TF_trans hT hT2
        have nx : ¬ (0 < mfr (mlt (th I)) j (nI k) 60 0 ∧ ¬ n < mfr (mlt (th I)) j (nI k) 60 0) → mv_V mv_ow mv_swf mv_t_X7_least (mv_cs [(123, sp_noSeries), (109, sp_in), (133, sp_ringsBy)]) (sp_mLeast.2 [.ref 30, .int s, .int n] I J) 32 [(0, .ref 30), (1, .int (nI j)), (2, .int n), (3, .int (nI k + 1)), (4, .int (mfr (mlt (th I)) j (nI k) 60 0))] [] I2 J := by
          intro hn
          rw [if_neg hn] at hf
          refine mv_keep [0, 1, 2, 3] ?_
          have h5 := ih (k + 1) (by omega) hf I2 hT3
          rw [nI_succ] at h5
          exact h5
        refine ⟨fun h5 => ?_, fun h5 => ?_⟩
        · exact nx (fun z => h5 z.1)
        · refine ⟨fun h6 => ?_, fun h6 => ?_⟩
          · exact nx (fun z => z.2 h6)
          · rw [if_pos ⟨h5, h6⟩] at hf
            exact fin _ _ hT3 hf
  have key : mv_V mv_ow mv_swf mv_t_X7_least (mv_cs [(123, sp_noSeries), (109, sp_in), (133, sp_ringsBy)]) (sp_mLeast.2 [.ref 30, .int s, .int n] I J) 5 [(0, .ref 30), (1, .int s), (2, .int n)] [] (th I) J := by
    refine mv_run_V (stop := [32]) 60 _ _ _ _ _ ?_
    refine ⟨rfl, rfl, ⟨_, rfl⟩, fun r1 I1 J1 hp => ?_⟩
    obtain ⟨rfl, rfl, hq⟩ := hp
    have hq : r1 = some (.int (mv_b (¬ msv (th I) s))) := hq
    subst hq
    refine ⟨fun h1 => ?_, fun h1 => ?_⟩
    · have h1 : msv (th I) s := Decidable.not_not.mp (mv_b0.mp h1)
      obtain ⟨j, hj, hsj, cj, hMB⟩ := MH_in hM h1
      refine ⟨rfl, ⟨_, _, _, rfl⟩, fun r1 I1 J1 hp => ?_⟩
      obtain ⟨rfl, rfl, hq⟩ := hp
      have hq : r1 = some (.int (mv_b ((1 : Int64) ≤ (n : Int32).toInt64 ∧ (n : Int32).toInt64 ≤ (30 : Int64)))) := hq
      rw [mv_bc (in_w (lo := 1) (hi := 30))] at hq
      subst hq
      refine ⟨fun h3 => ?_, fun h3 => ?_⟩
      · have h3 := b_yes h3
        have k6 := key32 j hj hsj hMB h1 h3 100 0 rfl rfl _ TF_rfl
        rw [← hsj] at k6
        exact k6
      · have h3 := mv_b0.mp h3
        refine ⟨rfl, TF_rfl, fun s' v' e => ?_⟩
        cases e
        rw [if_pos h1, if_neg h3]
    · have h1 : ¬ msv (th I) s := b_yes h1
      refine ⟨rfl, TF_rfl, fun s' v' e => ?_⟩
      cases e
      rw [if_neg h1]
  refine ⟨rfl, mv_run_V (stop := [5]) 40 _ _ _ _ _ ?_⟩
  exact ⟨rfl, key⟩
theorem c_mLeast {l : Launch} {G : mv_G} {A : Nat → Prop} (hG : mv_adk G A) : mv_Con l G A 116 sp_mLeast := mv_con hG 116 mv_k_X7_least (by decide +kernel) (mv_cs_cons (c_noSeries hG) (mv_cs_cons (c_in hG) (mv_cs_cons (c_ringsBy hG) (mv_cs_nil)))) cb_mLeast
end
section
/-! The reference: ahead, which. -/
def sp_mAhead : mv_SP := (fun as I _ => MH 9000 I ∧ ∃ n v s w : Int32, as = [.ref 30, .int n, .int v, .int s, .int w],
  fun as I J r I' J' => J = J' ∧ TF (th I) I' ∧ ∀ n v s w : Int32, as = [.ref 30, .int n, .int v, .int s, .int w] → r = some (.int (if msv (th I) s then (if (0 ≤ n ∧ n ≤ 60) ∧ (0 ≤ v ∧ v ≤ 99) ∧ (5 ≤ w ∧ w ≤ 13) then mtl (mcN s.toNatClampNeg v n.toNatClampNeg (mlt (th I))) 40 (24 * s.toNatClampNeg) s.toNatClampNeg w.toNatClampNeg else -2) else -1)))
theorem ahead_no {I : mv_I} {J : mv_J} {n v s w : Int32} (h1 : msv (th I) s) (h : ¬ ((0 ≤ n ∧ n ≤ 60) ∧ (0 ≤ v ∧ v ≤ 99) ∧ (5 ≤ w ∧ w ≤ 13))) : sp_mAhead.2 [.ref 30, .int n, .int v, .int s, .int w] I J (some (.int (-2))) (th I) J := by
  refine ⟨rfl, TF_rfl, fun n' v' s' w' e => ?_⟩
  cases e
  rw [if_pos h1, if_neg h]
theorem ahead_64 {I : mv_I} {J : mv_J} {v : Int32} {n j w : Nat} (hj : j < 5) (hMB : MB 9000 (th I) 39 (24 * j) j) (h1 : msv (th I) (nI j)) (hn : n ≤ 60) (hw : w ≤ 13) (h2 : (0 ≤ nI n ∧ nI n ≤ 60) ∧ (0 ≤ v ∧ v ≤ 99) ∧ (5 ≤ nI w ∧ nI w ≤ 13)) : ∀ q k : Nat, k + q = n → mv_V mv_ow mv_swf mv_t_X7_ahead (mv_cs [(123, sp_noSeries), (109, sp_in), (115, sp_layTrial), (98, sp_countOn), (140, sp_tellOf)]) (sp_mAhead.2 [.ref 30, .int (nI n), .int v, .int (nI j), .int (nI w)] I J) 64 [(0, .ref 30), (1, .int (nI n)), (2, .int v), (3, .int (nI j)), (4, .int (nI w)), (5, .int (nI k))] [] (mcN j v k (mlt (th I))) J := by
  have cj : (nI j).toNatClampNeg = j := nI_clamp (by omega)
  have cn : (nI n).toNatClampNeg = n := nI_clamp (by omega)
  have cw : (nI w).toNatClampNeg = w := nI_clamp (by omega)
  have hM := MB_mlt hj hMB
  have hw5 : 5 ≤ w := by
    have := h2.2.2.1
    exact (nI_leI (a := 5) (by decide) (by omega)).mp this
  intro q
  induction q with
  | zero =>
    intro k hk
    have hk : k = n := hk
    subst hk
    refine mv_run_V (stop := [64]) 40 _ _ _ _ _ ?_
    refine ⟨fun h3 => ?_, fun h3 => ?_⟩
    · refine ⟨rfl, _, rfl, rfl, rfl, ⟨40, j, w, Or.inr rfl, hj, by omega, hw, MB_mono (by omega) (MB_mcN hM k), rfl⟩, fun r1 I1 J1 hp => ?_⟩
      obtain ⟨rfl, rfl, hq⟩ := hp
      have hq : r1 = some (.int (mtl (mcN j v k (mlt (th I))) 40 (24 * (nI j).toNatClampNeg) (nI j).toNatClampNeg (nI w).toNatClampNeg)) := hq
      subst hq
      refine ⟨rfl, TF_mcN hj hM TF_mlt k, fun n' v' s' w' e => ?_⟩
      cases e
      rw [if_pos h1, if_pos h2, cj, cn]
    · exact absurd h3 (nI_nlt (Nat.le_refl _) (by omega))
  | succ q ih =>
    intro k hk
    refine mv_run_V (stop := [64]) 40 _ _ _ _ _ ?_
    refine ⟨fun h3 => ?_, fun h3 => ?_⟩
    · exact absurd (nI_lt (by omega) (by omega)) h3
    · refine ⟨rfl, _, rfl, rfl, rfl, ⟨40, j, v, Or.inr rfl, hj, MB_mono (by omega) (MB_mcN hM k), rfl⟩, fun r1 I1 J1 hp => ?_⟩
      obtain ⟨rfl, hq⟩ := hp
      have hq : r1 = some (.int (mkK (mcN j v k (mlt (th I))) 40 (24 * (nI j).toNatClampNeg) (nI j).toNatClampNeg v)) ∧ I1 = mct (mcN j v k (mlt (th I))) 40 (24 * (nI j).toNatClampNeg) (nI j).toNatClampNeg v := hq
      rw [cj] at hq
      obtain ⟨rfl, rfl⟩ := hq
      refine ⟨rfl, ?_⟩
      have h4 := ih (k + 1) (by omega)
      rw [nI_succ k] at h4
      exact h4
theorem ahead_39 {I : mv_I} {J : mv_J} {n v w : Int32} {j : Nat} (hj : j < 5) (hMB : MB 9000 (th I) 39 (24 * j) j) (h1 : msv (th I) (nI j)) (h2 : 0 ≤ n ∧ n ≤ 60) (h3 : 0 ≤ v ∧ v ≤ 99) : mv_V mv_ow mv_swf mv_t_X7_ahead (mv_cs [(123, sp_noSeries), (109, sp_in), (115, sp_layTrial), (98, sp_countOn), (140, sp_tellOf)]) (sp_mAhead.2 [.ref 30, .int n, .int v, .int (nI j), .int w] I J) 39 [(0, .ref 30), (1, .int n), (2, .int v), (3, .int (nI j)), (4, .int w)] [] (th I) J := by
  refine mv_run_V (stop := [64]) 40 _ _ _ _ _ ?_
  refine ⟨rfl, ⟨_, _, _, rfl⟩, fun r1 I1 J1 hp => ?_⟩
  obtain ⟨rfl, rfl, hqz⟩ := hp
  have hqy : r1 = some (.int (mv_b ((5 : Int64) ≤ (w : Int32).toInt64 ∧ (w : Int32).toInt64 ≤ (13 : Int64)))) := hqz
  clear hqz
  rw [mv_bc (in_w (lo := 5) (hi := 13))] at hqy
  subst hqy
  refine ⟨fun h4 => ?_, fun h4 => ?_⟩
  · have h4 := b_yes h4
    refine ⟨rfl, rfl, rfl, fun r1 I1 J1 hp => ?_⟩
    obtain ⟨rfl, rfl, rfl⟩ := hp
    obtain ⟨q, hq, rfl⟩ := in_nat (M := 60) (by decide) h2
    obtain ⟨w', hw', rfl⟩ := in_nat (M := 13) (by decide) (n := w) ⟨by
      have := h4.1
      rw [fa_le] at this ⊢
      have e5 : (5 : Int32).toInt = 5 := rfl
      have e0 : (0 : Int32).toInt = 0 := rfl
      omega, h4.2⟩
    exact ahead_64 hj hMB h1 hq hw' ⟨h2, h3, h4⟩ q 0 (Nat.zero_add q)
  · exact ahead_no h1 (fun z => mv_b0.mp h4 z.2.2)
theorem ahead_15 {I : mv_I} {J : mv_J} {n v w : Int32} {j : Nat} (hj : j < 5) (hMB : MB 9000 (th I) 39 (24 * j) j) (h1 : msv (th I) (nI j)) : mv_V mv_ow mv_swf mv_t_X7_ahead (mv_cs [(123, sp_noSeries), (109, sp_in), (115, sp_layTrial), (98, sp_countOn), (140, sp_tellOf)]) (sp_mAhead.2 [.ref 30, .int n, .int v, .int (nI j), .int w] I J) 15 [(0, .ref 30), (1, .int n), (2, .int v), (3, .int (nI j)), (4, .int w)] [] (th I) J := by
  refine mv_run_V (stop := [39]) 40 _ _ _ _ _ ?_
  refine ⟨rfl, ⟨_, _, _, rfl⟩, fun r1 I1 J1 hp => ?_⟩
  obtain ⟨rfl, rfl, hqz⟩ := hp
  have hqy : r1 = some (.int (mv_b ((0 : Int64) ≤ (n : Int32).toInt64 ∧ (n : Int32).toInt64 ≤ (60 : Int64)))) := hqz
  clear hqz
  rw [mv_bc (in_w (lo := 0) (hi := 60))] at hqy
  subst hqy
  refine ⟨fun h4 => ?_, fun h4 => ?_⟩
  · exact ahead_no h1 (fun z => mv_b0.mp h4 z.1)
  · refine ⟨rfl, ⟨_, _, _, rfl⟩, fun r1 I1 J1 hp => ?_⟩
    obtain ⟨rfl, rfl, hqz⟩ := hp
    have hqy : r1 = some (.int (mv_b ((0 : Int64) ≤ (v : Int32).toInt64 ∧ (v : Int32).toInt64 ≤ (99 : Int64)))) := hqz
    clear hqz
    rw [mv_bc (in_w (lo := 0) (hi := 99))] at hqy
    subst hqy
    refine ⟨fun h5 => ?_, fun h5 => ?_⟩
    · exact ahead_no h1 (fun z => mv_b0.mp h5 z.2.1)
    · exact ahead_39 hj hMB h1 (b_yes h4) (b_yes h5)
theorem cb_mAhead : mv_body 89 mv_t_X7_ahead (mv_cs [(123, sp_noSeries), (109, sp_in), (115, sp_layTrial), (98, sp_countOn), (140, sp_tellOf)]) sp_mAhead := by
  intro as I J h
  obtain ⟨hM, n, v, s, w, rfl⟩ := h
  have hM := MH_th hM
  have key : mv_V mv_ow mv_swf mv_t_X7_ahead (mv_cs [(123, sp_noSeries), (109, sp_in), (115, sp_layTrial), (98, sp_countOn), (140, sp_tellOf)]) (sp_mAhead.2 [.ref 30, .int n, .int v, .int s, .int w] I J) 5 [(0, .ref 30), (1, .int n), (2, .int v), (3, .int s), (4, .int w)] [] (th I) J := by
    refine mv_run_V (stop := [15]) 40 _ _ _ _ _ ?_
    refine ⟨rfl, rfl, ⟨_, rfl⟩, fun r1 I1 J1 hp => ?_⟩
    obtain ⟨rfl, rfl, hqz⟩ := hp
    have hqy : r1 = some (.int (mv_b (¬ msv (th I) s))) := hqz
    clear hqz
    subst hqy
    refine ⟨fun h1 => ?_, fun h1 => ?_⟩
    · have h1 : msv (th I) s := Decidable.not_not.mp (mv_b0.mp h1)
      obtain ⟨j, hj, rfl, cj, hMB⟩ := MH_in hM h1
      exact ahead_15 hj hMB h1
    · have h1 : ¬ msv (th I) s := b_yes h1
      refine ⟨rfl, TF_rfl, fun n' v' s' w' e => ?_⟩
      cases e
      rw [if_neg h1]
  refine ⟨rfl, mv_run_V (stop := [5]) 40 _ _ _ _ _ ?_⟩
  exact ⟨rfl, key⟩
theorem c_mAhead {l : Launch} {G : mv_G} {A : Nat → Prop} (hG : mv_adk G A) : mv_Con l G A 89 sp_mAhead := mv_con hG 89 mv_k_X7_ahead (by decide +kernel) (mv_cs_cons (c_noSeries hG) (mv_cs_cons (c_in hG) (mv_cs_cons (c_layTrial hG) (mv_cs_cons (c_countOn hG) (mv_cs_cons (c_tellOf hG) (mv_cs_nil)))))) cb_mAhead
/-- how many of k counts have an alarm -/
def mmr (T : mv_I) (s : Nat) (v : Int32) : Nat → Int32
  | 0 => 0
  | k + 1 => mmr T s v k + (if 0 < mkK (mcN s v k T) 40 (24 * s) s v then 1 else 0)
def mis (I : mv_I) (v : Int32) (k : Nat) : Int32 := if msv I (I 44 k) then mv_b (mv_b (mmr (mlt I) (I 44 k).toNatClampNeg v (I 45 k).toNatClampNeg = I 46 k) = mv_b (I 47 k = 1)) else 1
def sp_isSo : mv_SP := (fun as I _ => MH 9000 I ∧ ∃ (v : Int32) (k q : Nat), I 30 19 = nI q ∧ k < q ∧ q ≤ 6 ∧ as = [.ref 30, .int v, .int (nI k)],
  fun as I J r I' J' => J = J' ∧ TF I I' ∧ match as with
    | [_, .int v, .int k] => r = some (.int (mis I v k.toNatClampNeg))
    | _ => True)
theorem iso_67 {I I1 : mv_I} {J : mv_J} {v : Int32} {k s : Nat} {M x5 : Int32} (hk : k < 6) (hT : TF I I1) (h1 : msv I (I 44 k)) (hM : M = mmr (mlt I) (I 44 k).toNatClampNeg v (I 45 k).toNatClampNeg) : mv_V mv_ow mv_swf mv_t_X7_isSo (mv_cs [(123, sp_noSeries), (115, sp_layTrial), (98, sp_countOn)]) (sp_isSo.2 [.ref 30, .int v, .int (nI k)] I J) 67 [(0, .ref 30), (1, .int v), (2, .int (nI k)), (3, .int (nI s)), (4, .int M), (5, .int x5)] [] I1 J := by
  have ck : (nI k).toNatClampNeg = k := nI_clamp (by omega)
  have e46 : I1 46 (nI k).toNatClampNeg = I 46 k := by rw [ck, hT.1 46 (by decide)]
  have e47 : I1 47 (nI k).toNatClampNeg = I 47 k := by rw [ck, hT.1 47 (by decide)]
  have fin : ∀ x : Int32, x = mv_b (mv_b (M = I 46 k) = mv_b (I 47 k = 1)) → sp_isSo.2 [.ref 30, .int v, .int (nI k)] I J (some (.int x)) I1 J := by
    intro x hx
    refine ⟨rfl, hT, ?_⟩
    show some (Value.int x) = some (Value.int (mis I v (nI k).toNatClampNeg))
    rw [ck]
    unfold mis
    rw [if_pos h1, ← hM, hx]
  refine mv_run_V (stop := []) 60 _ _ _ _ _ ?_
  refine ⟨rfl, _, rfl, _, rfl, vp_in_nI hk (by decide), fun h2 => ?_, fun h2 => ?_⟩
  · have h2 : ¬ M = I1 46 (nI k).toNatClampNeg := h2
    rw [e46] at h2
    refine ⟨rfl, _, rfl, _, rfl, vp_in_nI hk (by decide), fun h3 => ?_, fun h3 => ?_⟩
    · have h3 : ¬ I1 47 (nI k).toNatClampNeg = 1 := h3
      rw [e47] at h3
      refine ⟨fun h4 => absurd rfl h4, fun _ => ?_⟩
      exact ⟨Or.inr rfl, fin 1 (by rw [mv_bf h2, mv_bf h3]; rfl)⟩
    · have h3 : I1 47 (nI k).toNatClampNeg = 1 := h3
      rw [e47] at h3
      refine ⟨fun _ => ?_, fun h4 => absurd h4 (by decide)⟩
      exact ⟨Or.inl rfl, fin 0 (by rw [mv_bf h2, mv_bt h3]; rfl)⟩
  · have h2 : M = I1 46 (nI k).toNatClampNeg := h2
    rw [e46] at h2
    refine ⟨rfl, _, rfl, _, rfl, vp_in_nI hk (by decide), fun h3 => ?_, fun h3 => ?_⟩
    · have h3 : ¬ I1 47 (nI k).toNatClampNeg = 1 := h3
      rw [e47] at h3
      refine ⟨fun _ => ?_, fun h4 => absurd h4 (by decide)⟩
      exact ⟨Or.inl rfl, fin 0 (by rw [mv_bt h2, mv_bf h3]; rfl)⟩
    · have h3 : I1 47 (nI k).toNatClampNeg = 1 := h3
      rw [e47] at h3
      refine ⟨fun h4 => absurd rfl h4, fun _ => ?_⟩
      exact ⟨Or.inr rfl, fin 1 (by rw [mv_bt h2, mv_bt h3]; rfl)⟩
theorem iso_27 {I : mv_I} {J : mv_J} {v : Int32} {k s n : Nat} (hk : k < 6) (hs : s < 5) (hs2 : (I 44 k).toNatClampNeg = s) (hMB : MB 9000 I 39 (24 * s) s) (h1 : msv I (I 44 k)) (hn : n ≤ 9) (hnn : I 45 k = nI n) : ∀ q t : Nat, t + q = n → mv_V mv_ow mv_swf mv_t_X7_isSo (mv_cs [(123, sp_noSeries), (115, sp_layTrial), (98, sp_countOn)]) (sp_isSo.2 [.ref 30, .int v, .int (nI k)] I J) 27 [(0, .ref 30), (1, .int v), (2, .int (nI k)), (3, .int (nI s)), (4, .int (mmr (mlt I) s v t)), (5, .int (nI t))] [] (mcN s v t (mlt I)) J := by
  have ck : (nI k).toNatClampNeg = k := nI_clamp (by omega)
  have cs : (nI s).toNatClampNeg = s := nI_clamp (by omega)
  have hM := MB_mlt hs hMB
  have e45 : ∀ t, mcN s v t (mlt I) 45 (nI k).toNatClampNeg = nI n := fun t => by rw [ck, (TF_mcN hs hM TF_mlt t).1 45 (by decide), hnn]
  intro q
  induction q with
  | zero =>
    intro t ht
    have ht : t = n := ht
    subst ht
    refine mv_run_V (stop := [27, 67]) 40 _ _ _ _ _ ?_
    refine ⟨rfl, _, rfl, _, rfl, vp_in_nI hk (by decide), fun h2 => ?_, fun h2 => ?_⟩
    · exact iso_67 hk (TF_mcN hs hM TF_mlt t) h1 (by rw [hs2, hnn, nI_clamp (by omega)])
    · have h2 : nI t < mcN s v t (mlt I) 45 (nI k).toNatClampNeg := h2
      rw [e45] at h2
      exact absurd h2 (nI_nlt (Nat.le_refl _) (by omega))
  | succ q ih =>
    intro t ht
    refine mv_run_V (stop := [27, 67]) 40 _ _ _ _ _ ?_
    refine ⟨rfl, _, rfl, _, rfl, vp_in_nI hk (by decide), fun h2 => ?_, fun h2 => ?_⟩
    · have h2 : ¬ nI t < mcN s v t (mlt I) 45 (nI k).toNatClampNeg := h2
      rw [e45] at h2
      exact absurd (nI_lt (by omega) (by omega)) h2
    · refine ⟨rfl, _, rfl, rfl, rfl, ⟨40, s, v, Or.inr rfl, hs, MB_mono (by omega) (MB_mcN hM t), rfl⟩, fun r1 I1 J1 hp => ?_⟩
      obtain ⟨rfl, hq⟩ := hp
      have hq : r1 = some (.int (mkK (mcN s v t (mlt I)) 40 (24 * (nI s).toNatClampNeg) (nI s).toNatClampNeg v)) ∧ I1 = mct (mcN s v t (mlt I)) 40 (24 * (nI s).toNatClampNeg) (nI s).toNatClampNeg v := hq
      rw [cs] at hq
      obtain ⟨rfl, rfl⟩ := hq
      have h4 := ih (t + 1) (by omega)
      rw [mmr, nI_succ t] at h4
      refine ⟨fun h3 => ?_, fun h3 => ?_⟩
      · rw [if_neg h3] at h4
        exact h4
      · rw [if_pos h3] at h4
        exact h4
theorem cb_isSo : mv_body 111 mv_t_X7_isSo (mv_cs [(123, sp_noSeries), (115, sp_layTrial), (98, sp_countOn)]) sp_isSo := by
  intro as I J h
  obtain ⟨hM, v, k, q, hq, hkq, hq6, rfl⟩ := h
  have ck : (nI k).toNatClampNeg = k := nI_clamp (by omega)
  refine ⟨rfl, mv_run_V (stop := [27]) 40 _ _ _ _ _ ?_⟩
  refine ⟨rfl, _, rfl, _, rfl, vp_in_nI (by omega) (by decide), ?_⟩
  rw [ck]
  refine ⟨rfl, rfl, ⟨_, rfl⟩, fun r1 I1 J1 hp => ?_⟩
  obtain ⟨rfl, rfl, hqz⟩ := hp
  have hqy : r1 = some (.int (mv_b (¬ msv I (I 44 k)))) := hqz
  clear hqz
  subst hqy
  refine ⟨fun h1 => ?_, fun h1 => ?_⟩
  · have h1 : msv I (I 44 k) := Decidable.not_not.mp (mv_b0.mp h1)
    obtain ⟨j, hj, ej, cj, hMB⟩ := MH_in hM h1
    obtain ⟨-, -, -, q', hq6', hq', hn⟩ := hM
    obtain ⟨n, hn9, hnn⟩ := hn k (by
      have : nI q = nI q' := by rw [← hq, hq']
      have := (nI_eq (by omega) (by omega)).mp this
      omega)
    refine ⟨rfl, rfl, rfl, fun r1 I1 J1 hp => ?_⟩
    obtain ⟨rfl, rfl, rfl⟩ := hp
    rw [ej]
    exact iso_27 (by omega) hj cj hMB h1 hn9 hnn n 0 (Nat.zero_add n)
  · have h1 : ¬ msv I (I 44 k) := b_yes h1
    refine ⟨Or.inr rfl, rfl, TF_rfl, ?_⟩
    show some (Value.int 1) = some (Value.int (mis I v (nI k).toNatClampNeg))
    rw [ck]
    unfold mis
    rw [if_neg h1]
theorem c_isSo {l : Launch} {G : mv_G} {A : Nat → Prop} (hG : mv_adk G A) : mv_Con l G A 111 sp_isSo := mv_con hG 111 mv_k_X7_isSo (by decide +kernel) (mv_cs_cons (c_noSeries hG) (mv_cs_cons (c_layTrial hG) (mv_cs_cons (c_countOn hG) (mv_cs_nil)))) cb_isSo
theorem mis_TF {I I1 : mv_I} (h : TF I I1) (v : Int32) (k : Nat) : mis I1 v k = mis I v k := by
  unfold mis
  rw [mlt_TF h, h.1 44 (by decide), h.1 45 (by decide), h.1 46 (by decide), h.1 47 (by decide)]
  have e : I1 30 4 = I 30 4 := by rw [h.1 30 (by decide)]
  by_cases hh : msv I (I 44 k)
  · have hh1 : msv I1 (I 44 k) := by
      show 0 ≤ _ ∧ _ ≤ I1 30 4 - 1
      rw [e]
      exact hh
    rw [if_pos hh, if_pos hh1]
  · have hh1 : ¬ msv I1 (I 44 k) := by
      show ¬ (0 ≤ _ ∧ _ ≤ I1 30 4 - 1)
      rw [e]
      exact hh
    rw [if_neg hh, if_neg hh1]
theorem MH_TF {N : Nat} {I I1 : mv_I} (h : TF I I1) (hM : MH N I) : MH N I1 := by
  unfold MH at *
  rw [h.1 30 (by decide), h.1 45 (by decide)]
  obtain ⟨⟨m, hm, e, hb⟩, h2⟩ := hM
  exact ⟨⟨m, hm, e, fun s hs => MB_of (h.1 _ (by decide)) (h.1 _ (by decide)) (hb s hs)⟩, h2⟩
/-- whether the first k observations agree -/
def mmy (I : mv_I) (v : Int32) : Nat → Int32
  | 0 => 1
  | k + 1 => if mmy I v k = 0 then 0 else if mis I v k = 0 then 0 else 1
def mwh (I : mv_I) (q : Nat) : Nat → Int32
  | 0 => 0
  | v + 1 => mwh I q v ||| (if mmy I (nI v) q = 0 then (0 : Int32) else (1 : Int32) <<< (nI v &&& 31))
def sp_mWhich : mv_SP := (fun as I _ => MH 9000 I ∧ as = [.ref 30],
  fun _ I J r I' J' => J = J' ∧ TF (th I) I' ∧ r = some (.int (mwh (th I) (th I 30 19).toNatClampNeg 32)))
theorem which_20 {I : mv_I} {J : mv_J} {S : Int32} {v q : Nat} (hM : MH 9000 I) (hv : v < 32) (hq : I 30 19 = nI q) (hq6 : q ≤ 6) {K : mv_K} (hK : ∀ I1, TF I I1 → mv_V mv_ow mv_swf mv_t_X7_which (mv_cs [(111, sp_isSo)]) K 9 [(0, .ref 30), (1, .int (S ||| (if mmy I (nI v) q = 0 then (0 : Int32) else (1 : Int32) <<< (nI v &&& 31)))), (2, .int (nI v + 1))] [] I1 J) : ∀ p k : Nat, k + p = q → ∀ I1, TF I I1 → mv_V mv_ow mv_swf mv_t_X7_which (mv_cs [(111, sp_isSo)]) K 20 [(0, .ref 30), (1, .int S), (2, .int (nI v)), (3, .int (mmy I (nI v) k)), (4, .int (nI k))] [] I1 J := by
  intro p
  induction p with
  | zero =>
    intro k hk I1 hT
    have hk : k = q := hk
    subst hk
    have hn : ¬ nI k < I1 30 19 := by
      rw [hT.1 30 (by decide), hq]
      exact nI_nlt (Nat.le_refl _) (by omega)
    refine mv_run_V (stop := [9, 20]) 40 _ _ _ _ _ ?_
    refine ⟨rfl, fun h1 => ?_, fun h1 => absurd h1 hn⟩
    have h9 := hK I1 hT
    refine ⟨fun h2 => ?_, fun h2 => ?_⟩
    · rw [if_pos h2] at h9
      exact mv_keep [0, 1, 2] h9
    · rw [if_neg h2] at h9
      exact mv_keep [0, 1, 2] h9
  | succ p ih =>
    intro k hk I1 hT
    have ck : (nI k).toNatClampNeg = k := nI_clamp (by omega)
    have hn : nI k < I1 30 19 := by
      rw [hT.1 30 (by decide), hq]
      exact nI_lt (by omega) (by omega)
    have hx := ih (k + 1) (by omega)
    rw [mmy, nI_succ k] at hx
    refine mv_run_V (stop := [9, 20]) 40 _ _ _ _ _ ?_
    refine ⟨rfl, fun h1 => absurd hn h1, fun h1 => ?_⟩
    refine ⟨fun h2 => ?_, fun h2 => ?_⟩
    · rw [if_pos h2] at hx
      exact hx I1 hT
    · rw [if_neg h2] at hx
      refine ⟨rfl, rfl, ⟨MH_TF hT hM, nI v, k, q, (by rw [hT.1 30 (by decide)]; exact hq), by omega, hq6, rfl⟩, fun r1 I2 J2 hp => ?_⟩
      obtain ⟨rfl, hT2, hr⟩ := hp
      have hr : r1 = some (.int (mis I1 (nI v) (nI k).toNatClampNeg)) := hr
      rw [ck, mis_TF hT] at hr
      subst hr
      refine ⟨fun h3 => ?_, fun h3 => ?_⟩
      · rw [if_pos h3] at hx
        exact hx I2 (TF_trans hT hT2)
      · rw [if_neg h3] at hx
        exact hx I2 (TF_trans hT hT2)
theorem cb_mWhich : mv_body 145 mv_t_X7_which (mv_cs [(111, sp_isSo)]) sp_mWhich := by
  intro as I J h
  obtain ⟨hM, rfl⟩ := h
  have hM := MH_th hM
  have hM2 := hM
  obtain ⟨-, -, -, q, hq6, hq, -⟩ := hM2
  have key9 : ∀ p v : Nat, v + p = 32 → ∀ I1, TF (th I) I1 → mv_V mv_ow mv_swf mv_t_X7_which (mv_cs [(111, sp_isSo)]) (sp_mWhich.2 [.ref 30] I J) 9 [(0, .ref 30), (1, .int (mwh (th I) q v)), (2, .int (nI v))] [] I1 J := by
    intro p
    induction p with
    | zero =>
      intro v hv I1 hT
      have hv : v = 32 := hv
      subst hv
      refine mv_run_V (stop := [9, 20]) 40 _ _ _ _ _ ?_
      refine ⟨fun h1 => ?_, fun h1 => absurd h1 (by decide)⟩
      exact ⟨rfl, hT, by rw [hq, nI_clamp (by omega)]⟩
    | succ p ih =>
      intro v hv I1 hT
      refine mv_run_V (stop := [9, 20]) 40 _ _ _ _ _ ?_
      refine ⟨fun h1 => ?_, fun h1 => ?_⟩
      · have h1 : ¬ nI v < nI 32 := h1
        exact absurd (nI_lt (by omega) (by decide)) h1
      · refine which_20 (S := mwh (th I) q v) hM (by omega) hq hq6 (fun I2 hT2 => ?_) q 0 (Nat.zero_add q) I1 hT
        have h2 := ih (v + 1) (by omega) I2 hT2
        rw [mwh, nI_succ] at h2
        exact h2
  have key : mv_V mv_ow mv_swf mv_t_X7_which (mv_cs [(111, sp_isSo)]) (sp_mWhich.2 [.ref 30] I J) 5 [(0, .ref 30)] [] (th I) J := by
    refine mv_run_V (stop := [9]) 40 _ _ _ _ _ ?_
    exact key9 32 0 rfl _ TF_rfl
  refine ⟨rfl, mv_run_V (stop := [5]) 40 _ _ _ _ _ ?_⟩
  exact ⟨rfl, key⟩
theorem c_mWhich {l : Launch} {G : mv_G} {A : Nat → Prop} (hG : mv_adk G A) : mv_Con l G A 145 sp_mWhich := mv_con hG 145 mv_k_X7_which (by decide +kernel) (mv_cs_cons (c_isSo hG) (mv_cs_nil)) cb_mWhich
end
section
/-! The reference: would, ranked. -/
/-- what was expected at the place p of the past -/
def mrE (I : mv_I) (a s p : Nat) : Int32 := (I 39 (a + 10) >>> ((4 : Int32) &&& 31)) + mfg I s (I 39 (a + 4) - I 39 (a + 11) + nI p).toNatClampNeg - 5
def mrp (I : mv_I) (a s : Nat) (k h : Int32) : Nat → Nat → Int32 → Int32 → Int32
  | 0, _, _, _ => -9
  | q + 1, p, u, d =>
    if I 39 (a + 12 + p) = -9 then mrp I a s k h q (p + 1) u d
    else if ¬ mv_mx 0 (u + I 39 (a + 12 + p) - mrE I a s p - k) < h then nI p
    else if ¬ mv_mx 0 (d + mrE I a s p - I 39 (a + 12 + p) - k) < h then nI p
    else mrp I a s k h q (p + 1) (mv_mx 0 (u + I 39 (a + 12 + p) - mrE I a s p - k)) (mv_mx 0 (d + mrE I a s p - I 39 (a + 12 + p) - k))
def sp_mWould : mv_SP := (fun as I _ => MH 9000 I ∧ ∃ s k h : Int32, as = [.ref 30, .int s, .int k, .int h] ∧ (msv I s → ∃ n d : Nat, n ≤ d ∧ d ≤ 9000 ∧ n ≤ 12 ∧ I 39 (24 * s.toNatClampNeg + 11) = nI n ∧ I 39 (24 * s.toNatClampNeg + 4) = nI d),
  fun as I J r I' J' => J = J' ∧ I' = th I ∧ ∀ s k h : Int32, as = [.ref 30, .int s, .int k, .int h] → r = some (.int (if msv (th I) s then (if (0 ≤ k ∧ k ≤ 9) ∧ (1 ≤ h ∧ h ≤ 99) then mrp (th I) (24 * s.toNatClampNeg) s.toNatClampNeg k h (th I 39 (24 * s.toNatClampNeg + 11)).toNatClampNeg 0 0 0 else -2) else -1)))
theorem would_no {I : mv_I} {J : mv_J} {s k h : Int32} (h1 : msv (th I) s) (h2 : ¬ ((0 ≤ k ∧ k ≤ 9) ∧ (1 ≤ h ∧ h ≤ 99))) : sp_mWould.2 [.ref 30, .int s, .int k, .int h] I J (some (.int (-2))) (th I) J := by
  refine ⟨rfl, rfl, fun s' k' h' e => ?_⟩
  cases e
  rw [if_pos h1, if_neg h2]
theorem would_57 {I : mv_I} {J : mv_J} {k h : Int32} {a s n d : Nat} {K : mv_K} (hs : s < 5) (ha : a ≤ 96) (hn : n ≤ 12) (hd : d ≤ 9000) (hnd : n ≤ d) (hL : ∃ L : Nat, 1 ≤ L ∧ L ≤ 5 ∧ I 34 s = nI L) (h11 : I 39 (a + 11) = nI n) (h4 : I 39 (a + 4) = nI d) (fin : ∀ x : Int32, x = mrp I a s k h n 0 0 0 → K (some (.int x)) I J) : ∀ q p : Nat, p + q = n → ∀ u dn : Int32, mrp I a s k h q p u dn = mrp I a s k h n 0 0 0 → mv_V mv_ow mv_swf mv_t_X7_would (mv_cs [(123, sp_noSeries), (109, sp_in), (105, sp_figureOf), (126, sp_over)]) K 57 [(0, .ref 30), (1, .int (nI s)), (2, .int k), (3, .int h), (4, .int (nI a)), (5, .int u), (6, .int dn), (7, .int (nI p))] [] I J := by
  have cs : (nI s).toNatClampNeg = s := nI_clamp (by omega)
  have c4 : (nI a + 4).toNatClampNeg = a + 4 := ix (k := 4)
  have c10 : (nI a + 10).toNatClampNeg = a + 10 := ix (k := 10)
  have c11 : (nI a + 11).toNatClampNeg = a + 11 := ix (k := 11)
  intro q
  induction q with
  | zero =>
    intro p hp u dn hf
    have hp : p = n := hp
    subst hp
    have hn2 : ¬ nI p < I 39 (nI a + 11).toNatClampNeg := by
      rw [c11, h11]
      exact nI_nlt (Nat.le_refl _) (by omega)
    refine mv_run_V (stop := [57]) 40 _ _ _ _ _ ?_
    refine ⟨rfl, _, rfl, _, rfl, ixin (k := 11) (by omega), fun h1 => fin _ hf, fun h1 => absurd h1 hn2⟩
  | succ q ih =>
    intro p hp u dn hf
    rw [mrp] at hf
    have hn2 : nI p < I 39 (nI a + 11).toNatClampNeg := by
      rw [c11, h11]
      exact nI_lt (by omega) (by omega)
    have e12 : nI a + 12 + nI p = nI (a + 12 + p) := by
      show nI a + nI 12 + nI p = _
      rw [nI_add, nI_add]
    have c12 : (nI a + 12 + nI p).toNatClampNeg = a + 12 + p := by rw [e12]; exact nI_clamp (by omega)
    have i12 : vp_in (nI a + 12 + nI p) 121 := by rw [e12]; exact vp_in_nI (by omega) (by decide)
    have eday : I 39 (nI a + 4).toNatClampNeg - I 39 (nI a + 11).toNatClampNeg + nI p = nI (d - n + p) := by
      rw [c4, c11, h4, h11, pk_sub hnd, nI_add]
    have nx : ∀ x8 x9 : Value, ∀ u' d' : Int32, mrp I a s k h q (p + 1) u' d' = mrp I a s k h n 0 0 0 → mv_V mv_ow mv_swf mv_t_X7_would (mv_cs [(123, sp_noSeries), (109, sp_in), (105, sp_figureOf), (126, sp_over)]) K 57 [(0, .ref 30), (1, .int (nI s)), (2, .int k), (3, .int h), (4, .int (nI a)), (5, .int u'), (6, .int d'), (7, .int (nI p + 1)), (8, x8), (9, x9)] [] I J := by
      intro x8 x9 u' d' h'
      have h6 := ih (p + 1) (by omega) u' d' h'
      rw [nI_succ] at h6
      exact mv_keep [0, 1, 2, 3, 4, 5, 6, 7] h6
    have nx8 : ∀ x8 : Value, ∀ u' d' : Int32, mrp I a s k h q (p + 1) u' d' = mrp I a s k h n 0 0 0 → mv_V mv_ow mv_swf mv_t_X7_would (mv_cs [(123, sp_noSeries), (109, sp_in), (105, sp_figureOf), (126, sp_over)]) K 57 [(0, .ref 30), (1, .int (nI s)), (2, .int k), (3, .int h), (4, .int (nI a)), (5, .int u'), (6, .int d'), (7, .int (nI p + 1)), (8, x8)] [] I J := by
      intro x8 u' d' h'
      have h6 := ih (p + 1) (by omega) u' d' h'
      rw [nI_succ] at h6
      exact mv_keep [0, 1, 2, 3, 4, 5, 6, 7] h6
    have key139 : ¬ I 39 (a + 12 + p) = -9 → mv_V mv_ow mv_swf mv_t_X7_would (mv_cs [(123, sp_noSeries), (109, sp_in), (105, sp_figureOf), (126, sp_over)]) K 139 [(0, .ref 30), (1, .int (nI s)), (2, .int k), (3, .int h), (4, .int (nI a)), (5, .int u), (6, .int dn), (7, .int (nI p)), (8, .int (I 39 (a + 12 + p))), (9, .int (mrE I a s p))] [] I J := by
      intro h9
      rw [if_neg h9] at hf
      refine mv_run_V (stop := [57]) 60 _ _ _ _ _ ?_
      refine ⟨rfl, ⟨_, rfl⟩, fun r1 I1 J1 hp => ?_⟩
      obtain ⟨rfl, rfl, hq⟩ := hp
      have hq : r1 = some (.int (mv_mx 0 (u + I 39 (a + 12 + p) - mrE I a s p - k))) := hq
      subst hq
      refine ⟨rfl, ⟨_, rfl⟩, fun r1 I1 J1 hp => ?_⟩
      obtain ⟨rfl, rfl, hq⟩ := hp
      have hq : r1 = some (.int (mv_mx 0 (dn + mrE I a s p - I 39 (a + 12 + p) - k))) := hq
      subst hq
      refine ⟨fun h1 => ?_, fun h1 => ?_⟩
      · rw [if_pos h1] at hf
        exact fin _ hf
      · rw [if_neg (fun z => z h1)] at hf
        refine ⟨fun h2 => ?_, fun h2 => ?_⟩
        · rw [if_neg (fun z => z h2)] at hf
          exact nx _ _ _ _ hf
        · rw [if_pos h2] at hf
          exact fin _ hf
    refine mv_run_V (stop := [57, 139]) 60 _ _ _ _ _ ?_
    refine ⟨rfl, _, rfl, _, rfl, ixin (k := 11) (by omega), fun h1 => absurd hn2 h1, fun _ => ?_⟩
    refine ⟨rfl, _, rfl, _, rfl, i12, fun h9 => ?_, fun h9 => ?_⟩
    · have h9 : I 39 (nI a + 12 + nI p).toNatClampNeg = -9 := h9
      rw [c12] at h9
      rw [if_pos h9] at hf
      exact nx8 _ _ _ hf
    · have h9 : ¬ I 39 (nI a + 12 + nI p).toNatClampNeg = -9 := h9
      rw [c12] at h9
      have k6 := key139 h9
      refine ⟨rfl, _, rfl, _, rfl, ixin (k := 10) (by omega), rfl, _, rfl, _, rfl, ixin (k := 4) (by omega), rfl, _, rfl, _, rfl, ixin (k := 11) (by omega), rfl, rfl, ⟨s, d - n + p, hs, by omega, hL, congrArg (fun z => [Value.ref 30, .int (nI s), .int z]) eday⟩, fun r1 I1 J1 hp => ?_⟩
      obtain ⟨rfl, rfl, hq⟩ := hp
      have hq : r1 = some (.int (mfg I (nI s).toNatClampNeg (I 39 (nI a + 4).toNatClampNeg - I 39 (nI a + 11).toNatClampNeg + nI p).toNatClampNeg)) := hq
      subst hq
      have e : mrE I a s p = (I 39 (nI a + 10).toNatClampNeg >>> ((4 : Int32) &&& 31)) + mfg I (nI s).toNatClampNeg (I 39 (nI a + 4).toNatClampNeg - I 39 (nI a + 11).toNatClampNeg + nI p).toNatClampNeg - 5 := by
        rw [c4, c10, c11, cs]
        rfl
      rw [e, ← c12] at k6
      exact k6
theorem cb_mWould : mv_body 147 mv_t_X7_would (mv_cs [(123, sp_noSeries), (109, sp_in), (105, sp_figureOf), (126, sp_over)]) sp_mWould := by
  intro as I J h
  obtain ⟨hM, s, k, h, rfl, hnd⟩ := h
  have hM := MH_th hM
  have key : mv_V mv_ow mv_swf mv_t_X7_would (mv_cs [(123, sp_noSeries), (109, sp_in), (105, sp_figureOf), (126, sp_over)]) (sp_mWould.2 [.ref 30, .int s, .int k, .int h] I J) 5 [(0, .ref 30), (1, .int s), (2, .int k), (3, .int h)] [] (th I) J := by
    refine mv_run_V (stop := [42]) 60 _ _ _ _ _ ?_
    refine ⟨rfl, rfl, ⟨_, rfl⟩, fun r1 I1 J1 hp => ?_⟩
    obtain ⟨rfl, rfl, hqz⟩ := hp
    have hqy : r1 = some (.int (mv_b (¬ msv (th I) s))) := hqz
    clear hqz
    subst hqy
    refine ⟨fun h1 => ?_, fun h1 => ?_⟩
    · have h1 : msv (th I) s := Decidable.not_not.mp (mv_b0.mp h1)
      obtain ⟨n, d, hn1, hd1, hn12, e11, e4⟩ := hnd h1
      obtain ⟨j, hj, rfl, cj, hMB⟩ := MH_in hM h1
      rw [cj] at e11 e4
      refine ⟨rfl, ⟨_, _, _, rfl⟩, fun r1 I1 J1 hp => ?_⟩
      obtain ⟨rfl, rfl, hqz⟩ := hp
      have hqy : r1 = some (.int (mv_b ((0 : Int64) ≤ (k : Int32).toInt64 ∧ (k : Int32).toInt64 ≤ (9 : Int64)))) := hqz
      clear hqz
      rw [mv_bc (in_w (lo := 0) (hi := 9))] at hqy
      subst hqy
      refine ⟨fun h3 => ?_, fun h3 => ?_⟩
      · exact would_no h1 (fun z => mv_b0.mp h3 z.1)
      · have h3 := b_yes h3
        refine ⟨rfl, ⟨_, _, _, rfl⟩, fun r1 I1 J1 hp => ?_⟩
        obtain ⟨rfl, rfl, hqz⟩ := hp
        have hqy : r1 = some (.int (mv_b ((1 : Int64) ≤ (h : Int32).toInt64 ∧ (h : Int32).toInt64 ≤ (99 : Int64)))) := hqz
        clear hqz
        rw [mv_bc (in_w (lo := 1) (hi := 99))] at hqy
        subst hqy
        refine ⟨fun h4 => ?_, fun h4 => ?_⟩
        · have h4 := b_yes h4
          have key42 : mv_V mv_ow mv_swf mv_t_X7_would (mv_cs [(123, sp_noSeries), (109, sp_in), (105, sp_figureOf), (126, sp_over)]) (sp_mWould.2 [.ref 30, .int (nI j), .int k, .int h] I J) 42 [(0, .ref 30), (1, .int (nI j)), (2, .int k), (3, .int h)] [] (th I) J := by
            have k6 := would_57 (I := th I) (J := J) (k := k) (h := h) (K := sp_mWould.2 [.ref 30, .int (nI j), .int k, .int h] I J) hj (a := 24 * j) (by omega) hn12 hd1 hn1 hMB.2.2 (by rw [th_ne (by decide)]; exact e11) (by rw [th_ne (by decide)]; exact e4) (fun x hx => ⟨rfl, rfl, fun s' k' h' e => by
              cases e
              rw [if_pos h1, if_pos ⟨h3, h4⟩, cj, hx, th_ne (by decide), e11, nI_clamp (by omega)]⟩) n 0 (Nat.zero_add n) 0 0 rfl
            rw [← e24 j] at k6
            refine mv_run_V (stop := [57]) 30 _ _ _ _ _ ?_
            exact k6
          exact key42
        · exact would_no h1 (fun z => mv_b0.mp h4 z.2)
    · have h1 : ¬ msv (th I) s := b_yes h1
      refine ⟨rfl, rfl, fun s' k' h' e => ?_⟩
      cases e
      rw [if_neg h1]
  refine ⟨rfl, mv_run_V (stop := [5]) 40 _ _ _ _ _ ?_⟩
  exact ⟨rfl, key⟩
theorem c_mWould {l : Launch} {G : mv_G} {A : Nat → Prop} (hG : mv_adk G A) : mv_Con l G A 147 sp_mWould := mv_con hG 147 mv_k_X7_would (by decide +kernel) (mv_cs_cons (c_noSeries hG) (mv_cs_cons (c_in hG) (mv_cs_cons (c_figureOf hG) (mv_cs_cons (c_over hG) (mv_cs_nil))))) cb_mWould
def mby (I : mv_I) (s o : Nat) : Int32 := mnr I o * I 39 (24 * s + 1) - mnr I s * I 39 (24 * o + 1)
/-- how many of the first o series stand before the series s -/
def mrkA (I : mv_I) (s : Nat) : Nat → Int32
  | 0 => 0
  | o + 1 => mrkA I s o + (if 0 < mby I s o ∨ (mby I s o = 0 ∧ nI o < nI s) then 1 else 0)
def mrkF (I : mv_I) (k : Int32) (m : Nat) : Nat → Int32
  | 0 => 0
  | s + 1 => if mrkA I s m = k then nI s else mrkF I k m s
def sp_mRanked : mv_SP := (fun as I _ => MH 9000 I ∧ ∃ k : Int32, as = [.ref 30, .int k],
  fun as I J r I' J' => J = J' ∧ I' = th I ∧ ∀ k : Int32, as = [.ref 30, .int k] → r = some (.int (if msv (th I) k then mrkF (th I) k (th I 30 4).toNatClampNeg (th I 30 4).toNatClampNeg else -1)))
theorem ranked_41 {I : mv_I} {J : mv_J} {k F : Int32} {s m : Nat} {K : mv_K} (hm5 : m ≤ 5) (hs : s < m) (hm : I 30 4 = nI m) (hK : mv_V mv_ow mv_swf mv_t_X7_ranked (mv_cs [(109, sp_in), (122, sp_nearOf)]) K 27 [(0, .ref 30), (1, .int k), (2, .int (if mrkA I s m = k then nI s else F)), (3, .int (nI s + 1))] [] I J) : ∀ q o : Nat, o + q = m → mv_V mv_ow mv_swf mv_t_X7_ranked (mv_cs [(109, sp_in), (122, sp_nearOf)]) K 41 [(0, .ref 30), (1, .int k), (2, .int F), (3, .int (nI s)), (4, .int (mrkA I s o)), (5, .int (nI o))] [] I J := by
  have cs : (nI s).toNatClampNeg = s := nI_clamp (by omega)
  intro q
  induction q with
  | zero =>
    intro o ho
    have ho : o = m := ho
    subst ho
    refine mv_run_V (stop := [27, 41]) 40 _ _ _ _ _ ?_
    refine ⟨rfl, fun h1 => ?_, fun h1 => ?_⟩
    · refine ⟨fun h2 => ?_, fun h2 => ?_⟩
      · rw [if_neg h2] at hK
        exact mv_keep [0, 1, 2, 3] hK
      · rw [if_pos h2] at hK
        exact mv_keep [0, 1, 2, 3] hK
    · rw [hm] at h1
      exact absurd h1 (nI_nlt (Nat.le_refl _) (by omega))
  | succ q ih =>
    intro o ho
    have co : (nI o).toNatClampNeg = o := nI_clamp (by omega)
    have cs1 : (nI 24 * nI s + 1).toNatClampNeg = 24 * s + 1 := by rw [e24]; exact ix (k := 1)
    have co1 : (nI 24 * nI o + 1).toNatClampNeg = 24 * o + 1 := by rw [e24]; exact ix (k := 1)
    have is1 : vp_in (nI 24 * nI s + nI 1) 121 := by rw [e24]; exact ixin (by omega)
    have io1 : vp_in (nI 24 * nI o + nI 1) 121 := by rw [e24]; exact ixin (by omega)
    have hx := ih (o + 1) (by omega)
    rw [mrkA, nI_succ o] at hx
    refine mv_run_V (stop := [27, 41]) 60 _ _ _ _ _ ?_
    refine ⟨rfl, fun h1 => ?_, fun h1 => ?_⟩
    · rw [hm] at h1
      exact absurd (nI_lt (by omega) (by omega)) h1
    · refine ⟨rfl, rfl, ⟨o, by omega, rfl⟩, fun r1 I1 J1 hp => ?_⟩
      obtain ⟨rfl, rfl, hq⟩ := hp
      have hq : r1 = some (.int (mnr I (nI o).toNatClampNeg)) := hq
      rw [co] at hq
      subst hq
      refine ⟨rfl, _, rfl, _, rfl, is1, rfl, rfl, ⟨s, by omega, rfl⟩, fun r1 I1 J1 hp => ?_⟩
      obtain ⟨rfl, rfl, hq⟩ := hp
      have hq : r1 = some (.int (mnr I (nI s).toNatClampNeg)) := hq
      rw [cs] at hq
      subst hq
      have eb : mnr I o * I 39 (nI 24 * nI s + 1).toNatClampNeg - mnr I s * I 39 (nI 24 * nI o + 1).toNatClampNeg = mby I s o := by
        rw [cs1, co1]
        rfl
      refine ⟨rfl, _, rfl, _, rfl, io1, fun h2 => ?_, fun h2 => ?_⟩
      · have h2 : 0 < mnr I o * I 39 (nI 24 * nI s + 1).toNatClampNeg - mnr I s * I 39 (nI 24 * nI o + 1).toNatClampNeg := h2
        rw [eb] at h2
        rw [if_pos (Or.inl h2)] at hx
        exact mv_keep [0, 1, 2, 3, 4, 5] hx
      · have h2 : ¬ 0 < mnr I o * I 39 (nI 24 * nI s + 1).toNatClampNeg - mnr I s * I 39 (nI 24 * nI o + 1).toNatClampNeg := h2
        rw [eb] at h2
        refine ⟨fun h3 => ?_, fun h3 => ?_⟩
        · have h3 : ¬ mnr I o * I 39 (nI 24 * nI s + 1).toNatClampNeg - mnr I s * I 39 (nI 24 * nI o + 1).toNatClampNeg = 0 := h3
          rw [eb] at h3
          rw [if_neg (fun z => z.elim h2 (fun z => h3 z.1))] at hx
          exact mv_keep [0, 1, 2, 3, 4, 5] hx
        · have h3 : mnr I o * I 39 (nI 24 * nI s + 1).toNatClampNeg - mnr I s * I 39 (nI 24 * nI o + 1).toNatClampNeg = 0 := h3
          rw [eb] at h3
          refine ⟨fun h4 => ?_, fun h4 => ?_⟩
          · rw [if_neg (fun z => z.elim h2 (fun z => h4 z.2))] at hx
            exact mv_keep [0, 1, 2, 3, 4, 5] hx
          · rw [if_pos (Or.inr ⟨h3, h4⟩)] at hx
            exact mv_keep [0, 1, 2, 3, 4, 5] hx
theorem cb_mRanked : mv_body 129 mv_t_X7_ranked (mv_cs [(109, sp_in), (122, sp_nearOf)]) sp_mRanked := by
  intro as I J h
  obtain ⟨hM, k, rfl⟩ := h
  have hM := MH_th hM
  obtain ⟨⟨m, hm5, hm, -⟩, -⟩ := hM
  have key27 : msv (th I) k → ∀ q s : Nat, s + q = m → mv_V mv_ow mv_swf mv_t_X7_ranked (mv_cs [(109, sp_in), (122, sp_nearOf)]) (sp_mRanked.2 [.ref 30, .int k] I J) 27 [(0, .ref 30), (1, .int k), (2, .int (mrkF (th I) k m s)), (3, .int (nI s))] [] (th I) J := by
    intro h1 q
    induction q with
    | zero =>
      intro s hs
      have hs : s = m := hs
      subst hs
      refine mv_run_V (stop := [27, 41]) 40 _ _ _ _ _ ?_
      refine ⟨rfl, fun h2 => ?_, fun h2 => ?_⟩
      · refine ⟨rfl, rfl, fun k' e => ?_⟩
        cases e
        rw [if_pos h1, hm, nI_clamp (by omega)]
      · rw [hm] at h2
        exact absurd h2 (nI_nlt (Nat.le_refl _) (by omega))
    | succ q ih =>
      intro s hs
      have hx := ih (s + 1) (by omega)
      rw [mrkF, nI_succ s] at hx
      refine mv_run_V (stop := [27, 41]) 40 _ _ _ _ _ ?_
      refine ⟨rfl, fun h2 => ?_, fun h2 => ?_⟩
      · rw [hm] at h2
        exact absurd (nI_lt (by omega) (by omega)) h2
      · exact ranked_41 hm5 (by omega) hm hx m 0 (Nat.zero_add m)
  have key : mv_V mv_ow mv_swf mv_t_X7_ranked (mv_cs [(109, sp_in), (122, sp_nearOf)]) (sp_mRanked.2 [.ref 30, .int k] I J) 5 [(0, .ref 30), (1, .int k)] [] (th I) J := by
    refine mv_run_V (stop := [27]) 60 _ _ _ _ _ ?_
    refine ⟨rfl, ?_⟩
    refine ⟨rfl, ⟨_, _, _, rfl⟩, fun r1 I1 J1 hp => ?_⟩
    obtain ⟨rfl, rfl, hqz⟩ := hp
    have hqy : r1 = some (.int (mv_b ((0 : Int64) ≤ (k : Int32).toInt64 ∧ (k : Int32).toInt64 ≤ (th I 30 4 - 1 : Int32).toInt64))) := hqz
    clear hqz
    rw [mv_bc (in_w (lo := 0) (hi := th I 30 4 - 1))] at hqy
    subst hqy
    refine ⟨fun h1 => ?_, fun h1 => ?_⟩
    · exact key27 (b_yes h1) m 0 (Nat.zero_add m)
    · have h1 := mv_b0.mp h1
      refine ⟨rfl, rfl, fun k' e => ?_⟩
      cases e
      rw [if_neg h1]
  refine ⟨rfl, mv_run_V (stop := [5]) 40 _ _ _ _ _ ?_⟩
  exact ⟨rfl, key⟩
theorem c_mRanked {l : Launch} {G : mv_G} {A : Nat → Prop} (hG : mv_adk G A) : mv_Con l G A 129 sp_mRanked := mv_con hG 129 mv_k_X7_ranked (by decide +kernel) (mv_cs_cons (c_in hG) (mv_cs_cons (c_nearOf hG) (mv_cs_nil))) cb_mRanked
end
section
/-! The reference: judge, drawn. -/
def mdt (I : mv_I) (a : Nat) : mv_I := mv_si (mv_si I 40 (a + 5) 0) 40 (a + 6) 0
/-- a statement of the kind h, of the series s, with the value v -/
def mdI (h s v : Nat) (I : mv_I) : mv_I := if (I 30 4).toNatClampNeg ≤ s then I else if h = 1 then mct I 40 (24 * s) s (nI v) else if h = 2 then (if v = 0 then mcm I 40 (24 * s) (-9) else I) else if h = 3 then (if v = 0 then mdt I (24 * s) else I) else I
def mdB (h s v : Nat) (I : mv_I) : Int32 := if (I 30 4).toNatClampNeg ≤ s then 0 else if h = 1 then 1 else if h = 2 then mv_b (v = 0) else if h = 3 then mv_b (v = 0) else if h = 4 then mv_b (I 40 (24 * s + 5) = nI v) else if h = 5 then mv_b (I 40 (24 * s + 6) = nI v) else if h = 6 then mv_b (I 40 (24 * s + 8) = nI v) else if h = 7 then mv_b (mex I 40 (24 * s) s = nI v) else 0
/-- every series of the trial is in range -/
def MT (N m : Nat) (I : mv_I) : Prop := ∀ s, s < m → MB N I 40 (24 * s) s
theorem MT_mct {N m s : Nat} {I : mv_I} {v : Int32} (hm : m ≤ 5) (hs : s < m) (h : MT N m I) : MT (N + 1) m (mct I 40 (24 * s) s v) := by
  intro s' hs'
  by_cases e : s' = s
  · subst e
    exact MB_mct (by decide) (h s' hs')
  · have q4 : mct I 40 (24 * s) s v 40 (24 * s' + 4) = I 40 (24 * s' + 4) := mct_out (by decide) (h s hs) (by omega)
    have q11 : mct I 40 (24 * s) s v 40 (24 * s' + 11) = I 40 (24 * s' + 11) := mct_out (by decide) (h s hs) (by omega)
    have q34 : mct I 40 (24 * s) s v 34 = I 34 := mct_ne (by decide)
    have := MB_mono (Nat.le_succ N) (h s' hs')
    unfold MB at *
    rw [q4, q11, q34]
    exact this
theorem MT_mcm {N m s : Nat} {I : mv_I} {v : Int32} (hm : m ≤ 5) (hs : s < m) (h : MT N m I) : MT (N + 1) m (mcm I 40 (24 * s) v) := by
  intro s' hs'
  by_cases e : s' = s
  · subst e
    exact MB_mcm (by decide) (h s' hs')
  · have q4 : mcm I 40 (24 * s) v 40 (24 * s' + 4) = I 40 (24 * s' + 4) := mcm_out (h s hs) (by omega)
    have q11 : mcm I 40 (24 * s) v 40 (24 * s' + 11) = I 40 (24 * s' + 11) := mcm_out (h s hs) (by omega)
    have q34 : mcm I 40 (24 * s) v 34 = I 34 := mcm_ne (by decide)
    have := MB_mono (Nat.le_succ N) (h s' hs')
    unfold MB at *
    rw [q4, q11, q34]
    exact this
theorem MT_mdt {N m s : Nat} {I : mv_I} (h : MT N m I) : MT (N + 1) m (mdt I (24 * s)) := by
  intro s' hs'
  have q4 : mdt I (24 * s) 40 (24 * s' + 4) = I 40 (24 * s' + 4) := by
    unfold mdt
    rw [mv_si_ap, if_neg (by omega), mv_si_ap, if_neg (by omega)]
  have q11 : mdt I (24 * s) 40 (24 * s' + 11) = I 40 (24 * s' + 11) := by
    unfold mdt
    rw [mv_si_ap, if_neg (by omega), mv_si_ap, if_neg (by omega)]
  have q34 : mdt I (24 * s) 34 = I 34 := by
    unfold mdt
    rw [mv_si_ne (by decide), mv_si_ne (by decide)]
  have := MB_mono (Nat.le_succ N) (h s' hs')
  unfold MB at *
  rw [q4, q11, q34]
  exact this
theorem MT_mono {N N' m : Nat} {I : mv_I} (hN : N ≤ N') (h : MT N m I) : MT N' m I := fun s hs => MB_mono hN (h s hs)
theorem MT_mlt {N : Nat} {I : mv_I} (h : MH N I) : ∃ m : Nat, m ≤ 5 ∧ I 30 4 = nI m ∧ MT N m (mlt I) := by
  obtain ⟨⟨m, hm, e, hb⟩, -⟩ := h
  exact ⟨m, hm, e, fun s hs => MB_mlt (by omega) (hb s hs)⟩
theorem mdI_ok {N m h s v : Nat} {I I' : mv_I} (hm : m ≤ 5) (h4 : I 30 4 = nI m) (hT : TF I I') (hM : MT N m I') : TF I (mdI h s v I') ∧ MT (N + 1) m (mdI h s v I') := by
  have e4 : (I' 30 4).toNatClampNeg = m := by rw [hT.1 30 (by decide), h4]; exact nI_clamp (by omega)
  unfold mdI
  rw [e4]
  by_cases hs : m ≤ s
  · rw [if_pos hs]
    exact ⟨hT, MT_mono (by omega) hM⟩
  rw [if_neg hs]
  by_cases h1 : h = 1
  · rw [if_pos h1]
    exact ⟨TF_mct (by omega) (hM s (by omega)) hT, MT_mct hm (by omega) hM⟩
  rw [if_neg h1]
  by_cases h2 : h = 2
  · rw [if_pos h2]
    by_cases hv : v = 0
    · rw [if_pos hv]
      exact ⟨TF_mcm (by omega) (hM s (by omega)) hT, MT_mcm hm (by omega) hM⟩
    · rw [if_neg hv]
      exact ⟨hT, MT_mono (by omega) hM⟩
  rw [if_neg h2]
  by_cases h3 : h = 3
  · rw [if_pos h3]
    by_cases hv : v = 0
    · rw [if_pos hv]
      refine ⟨⟨fun a ha => ?_, fun b hb => ?_⟩, MT_mdt hM⟩
      · unfold mdt
        rw [mv_si_ne ha, mv_si_ne ha]
        exact hT.1 a ha
      · unfold mdt
        rw [mv_si_ap, if_neg (by omega), mv_si_ap, if_neg (by omega)]
        exact hT.2 b hb
    · rw [if_neg hv]
      exact ⟨hT, MT_mono (by omega) hM⟩
  rw [if_neg h3]
  exact ⟨hT, MT_mono (by omega) hM⟩
def sp_does : mv_SP := (fun as I _ => ∃ m h s v : Nat, m ≤ 5 ∧ I 30 4 = nI m ∧ MT 9900 m I ∧ h < 10 ∧ s < 10 ∧ v < 100 ∧ as = [.ref 30, .int (nI h), .int (nI s), .int (nI v)],
  fun as I J r I' J' => J = J' ∧ match as with
    | [_, .int h, .int s, .int v] => r = some (.int (mdB h.toNatClampNeg s.toNatClampNeg v.toNatClampNeg I)) ∧ I' = mdI h.toNatClampNeg s.toNatClampNeg v.toNatClampNeg I
    | _ => True)
theorem cb_does : mv_body 99 mv_t_X7_does (mv_cs [(123, sp_noSeries), (98, sp_countOn), (96, sp_comes), (101, sp_expected)]) sp_does := by
  intro as I J hpre
  obtain ⟨m, h, s, v, hm, h4, hMT, hh, hs, hv, rfl⟩ := hpre
  have ch : (nI h).toNatClampNeg = h := nI_clamp (by omega)
  have cs : (nI s).toNatClampNeg = s := nI_clamp (by omega)
  have cv : (nI v).toNatClampNeg = v := nI_clamp (by omega)
  have cm : (I 30 4).toNatClampNeg = m := by rw [h4]; exact nI_clamp (by omega)
  have fin : ∀ (x : Int32) (I1 : mv_I), x = mdB h s v I → I1 = mdI h s v I → sp_does.2 [.ref 30, .int (nI h), .int (nI s), .int (nI v)] I J (some (.int x)) I1 J := by
    intro x I1 hx hI
    refine ⟨rfl, ?_⟩
    show some (Value.int x) = some (Value.int (mdB (nI h).toNatClampNeg (nI s).toNatClampNeg (nI v).toNatClampNeg I)) ∧ I1 = mdI (nI h).toNatClampNeg (nI s).toNatClampNeg (nI v).toNatClampNeg I
    rw [ch, cs, cv]
    exact ⟨by rw [hx], hI⟩
  have ne : ∀ {x k : Nat}, x < 100 → k < 100 → (nI x = nI k ↔ x = k) := fun h1 h2 => nI_eq (by omega) (by omega)
  have key16 : ¬ m ≤ s → mv_V mv_ow mv_swf mv_t_X7_does (mv_cs [(123, sp_noSeries), (98, sp_countOn), (96, sp_comes), (101, sp_expected)]) (sp_does.2 [.ref 30, .int (nI h), .int (nI s), .int (nI v)] I J) 16 [(0, .ref 30), (1, .int (nI h)), (2, .int (nI s)), (3, .int (nI v)), (4, .int (nI (24 * s)))] [] I J := by
    intro hsm
    have hMB := hMT s (by omega)
    have c5 : (nI (24 * s) + 5).toNatClampNeg = 24 * s + 5 := ix (k := 5)
    have c6 : (nI (24 * s) + 6).toNatClampNeg = 24 * s + 6 := ix (k := 6)
    have c8 : (nI (24 * s) + 8).toNatClampNeg = 24 * s + 8 := ix (k := 8)
    have fin : ∀ (x : Int32) (I1 : mv_I), x = (if h = 1 then 1 else if h = 2 then mv_b (v = 0) else if h = 3 then mv_b (v = 0) else if h = 4 then mv_b (I 40 (24 * s + 5) = nI v) else if h = 5 then mv_b (I 40 (24 * s + 6) = nI v) else if h = 6 then mv_b (I 40 (24 * s + 8) = nI v) else if h = 7 then mv_b (mex I 40 (24 * s) s = nI v) else 0) → I1 = (if h = 1 then mct I 40 (24 * s) s (nI v) else if h = 2 then (if v = 0 then mcm I 40 (24 * s) (-9) else I) else if h = 3 then (if v = 0 then mdt I (24 * s) else I) else I) → sp_does.2 [.ref 30, .int (nI h), .int (nI s), .int (nI v)] I J (some (.int x)) I1 J := by
      intro x I1 hx hI
      refine fin x I1 ?_ ?_
      · unfold mdB
        rw [cm, if_neg hsm, hx]
      · unfold mdI
        rw [cm, if_neg hsm, hI]
    refine mv_run_V (stop := []) 60 _ _ _ _ _ ?_
    refine ⟨fun h1 => ?_, fun h1 => ?_⟩
    · have h1 := (ne (k := 1) (by omega) (by decide)).mp h1
      refine ⟨rfl, _, rfl, rfl, rfl, ⟨40, s, nI v, Or.inr rfl, by omega, MB_mono (by omega) hMB, rfl⟩, fun r1 I1 J1 hp => ?_⟩
      obtain ⟨rfl, hq⟩ := hp
      have hq : r1 = some (.int (mkK I 40 (24 * (nI s).toNatClampNeg) (nI s).toNatClampNeg (nI v))) ∧ I1 = mct I 40 (24 * (nI s).toNatClampNeg) (nI s).toNatClampNeg (nI v) := hq
      rw [cs] at hq
      obtain ⟨rfl, rfl⟩ := hq
      exact ⟨rfl, Or.inr rfl, fin _ _ (by rw [if_pos h1]) (by rw [if_pos h1])⟩
    have h1 : ¬ h = 1 := fun z => h1 (by rw [z]; rfl)
    refine ⟨fun h2 => ?_, fun h2 => ?_⟩
    · have h2 := (ne (k := 2) (by omega) (by decide)).mp h2
      refine ⟨fun h3 => ?_, fun h3 => ?_⟩
      · have h3 := (ne (k := 0) (by omega) (by decide)).mp h3
        refine ⟨rfl, _, rfl, rfl, ⟨40, s, -9, Or.inr rfl, by omega, hMB.2.1, rfl⟩, fun r1 I1 J1 hp => ?_⟩
        obtain ⟨rfl, rfl, hq⟩ := hp
        have hq : I1 = mcm I 40 (24 * (nI s).toNatClampNeg) (-9) := hq
        rw [cs] at hq
        subst hq
        exact ⟨Or.inr rfl, fin _ _ (by rw [if_neg h1, if_pos h2, mv_bt h3]) (by rw [if_neg h1, if_pos h2, if_pos h3])⟩
      · have h3 : ¬ v = 0 := fun z => h3 (by rw [z]; rfl)
        exact ⟨Or.inl rfl, fin _ _ (by rw [if_neg h1, if_pos h2, mv_bf h3]) (by rw [if_neg h1, if_pos h2, if_neg h3])⟩
    have h2 : ¬ h = 2 := fun z => h2 (by rw [z]; rfl)
    refine ⟨fun h3 => ?_, fun h3 => ?_⟩
    · have h3 := (ne (k := 3) (by omega) (by decide)).mp h3
      refine ⟨fun h4 => ?_, fun h4 => ?_⟩
      · have h4 := (ne (k := 0) (by omega) (by decide)).mp h4
        refine ⟨rfl, _, rfl, _, rfl, ixin (k := 5) (by omega), rfl, _, rfl, _, rfl, ixin (k := 6) (by omega), Or.inr rfl, fin _ _ (by rw [if_neg h1, if_neg h2, if_pos h3, mv_bt h4]) ?_⟩
        rw [if_neg h1, if_neg h2, if_pos h3, if_pos h4, c5, c6]
        rfl
      · have h4 : ¬ v = 0 := fun z => h4 (by rw [z]; rfl)
        exact ⟨Or.inl rfl, fin _ _ (by rw [if_neg h1, if_neg h2, if_pos h3, mv_bf h4]) (by rw [if_neg h1, if_neg h2, if_pos h3, if_neg h4])⟩
    have h3 : ¬ h = 3 := fun z => h3 (by rw [z]; rfl)
    have eI : I = (if h = 1 then mct I 40 (24 * s) s (nI v) else if h = 2 then (if v = 0 then mcm I 40 (24 * s) (-9) else I) else if h = 3 then (if v = 0 then mdt I (24 * s) else I) else I) := by
      rw [if_neg h1, if_neg h2, if_neg h3]
    refine ⟨fun h4 => ?_, fun h4 => ?_⟩
    · have h4 := (ne (k := 4) (by omega) (by decide)).mp h4
      refine ⟨rfl, _, rfl, _, rfl, ixin (k := 5) (by omega), fun h5 => ?_, fun h5 => ?_⟩
      · have h5 : ¬ I 40 (nI (24 * s) + 5).toNatClampNeg = nI v := h5
        rw [c5] at h5
        exact ⟨Or.inl rfl, fin _ _ (by rw [if_neg h1, if_neg h2, if_neg h3, if_pos h4, mv_bf h5]) eI⟩
      · have h5 : I 40 (nI (24 * s) + 5).toNatClampNeg = nI v := h5
        rw [c5] at h5
        exact ⟨Or.inr rfl, fin _ _ (by rw [if_neg h1, if_neg h2, if_neg h3, if_pos h4, mv_bt h5]) eI⟩
    have h4 : ¬ h = 4 := fun z => h4 (by rw [z]; rfl)
    refine ⟨fun h5 => ?_, fun h5 => ?_⟩
    · have h5 := (ne (k := 5) (by omega) (by decide)).mp h5
      refine ⟨rfl, _, rfl, _, rfl, ixin (k := 6) (by omega), fun h6 => ?_, fun h6 => ?_⟩
      · have h6 : ¬ I 40 (nI (24 * s) + 6).toNatClampNeg = nI v := h6
        rw [c6] at h6
        exact ⟨Or.inl rfl, fin _ _ (by rw [if_neg h1, if_neg h2, if_neg h3, if_neg h4, if_pos h5, mv_bf h6]) eI⟩
      · have h6 : I 40 (nI (24 * s) + 6).toNatClampNeg = nI v := h6
        rw [c6] at h6
        exact ⟨Or.inr rfl, fin _ _ (by rw [if_neg h1, if_neg h2, if_neg h3, if_neg h4, if_pos h5, mv_bt h6]) eI⟩
    have h5 : ¬ h = 5 := fun z => h5 (by rw [z]; rfl)
    refine ⟨fun h6 => ?_, fun h6 => ?_⟩
    · have h6 := (ne (k := 6) (by omega) (by decide)).mp h6
      refine ⟨rfl, _, rfl, _, rfl, ixin (k := 8) (by omega), fun h7 => ?_, fun h7 => ?_⟩
      · have h7 : ¬ I 40 (nI (24 * s) + 8).toNatClampNeg = nI v := h7
        rw [c8] at h7
        exact ⟨Or.inl rfl, fin _ _ (by rw [if_neg h1, if_neg h2, if_neg h3, if_neg h4, if_neg h5, if_pos h6, mv_bf h7]) eI⟩
      · have h7 : I 40 (nI (24 * s) + 8).toNatClampNeg = nI v := h7
        rw [c8] at h7
        exact ⟨Or.inr rfl, fin _ _ (by rw [if_neg h1, if_neg h2, if_neg h3, if_neg h4, if_neg h5, if_pos h6, mv_bt h7]) eI⟩
    have h6 : ¬ h = 6 := fun z => h6 (by rw [z]; rfl)
    refine ⟨fun h7 => ?_, fun h7 => ?_⟩
    · have h7 := (ne (k := 7) (by omega) (by decide)).mp h7
      refine ⟨rfl, _, rfl, rfl, rfl, ⟨40, s, Or.inr rfl, by omega, MB_mono (by omega) hMB, rfl⟩, fun r1 I1 J1 hp => ?_⟩
      obtain ⟨rfl, rfl, hq⟩ := hp
      have hq : r1 = some (.int (mex I 40 (24 * (nI s).toNatClampNeg) (nI s).toNatClampNeg)) := hq
      rw [cs] at hq
      subst hq
      refine ⟨fun h8 => ?_, fun h8 => ?_⟩
      · exact ⟨Or.inl rfl, fin _ _ (by rw [if_neg h1, if_neg h2, if_neg h3, if_neg h4, if_neg h5, if_neg h6, if_pos h7, mv_bf h8]) eI⟩
      · exact ⟨Or.inr rfl, fin _ _ (by rw [if_neg h1, if_neg h2, if_neg h3, if_neg h4, if_neg h5, if_neg h6, if_pos h7, mv_bt h8]) eI⟩
    have h7 : ¬ h = 7 := fun z => h7 (by rw [z]; rfl)
    exact ⟨Or.inl rfl, fin _ _ (by rw [if_neg h1, if_neg h2, if_neg h3, if_neg h4, if_neg h5, if_neg h6, if_neg h7]) eI⟩
  refine ⟨rfl, mv_run_V (stop := [16]) 40 _ _ _ _ _ ?_⟩
  refine ⟨rfl, rfl, ⟨_, rfl⟩, fun r1 I1 J1 hp => ?_⟩
  obtain ⟨rfl, rfl, hqz⟩ := hp
  have hqy : r1 = some (.int (mv_b (¬ msv I (nI s)))) := hqz
  clear hqz
  subst hqy
  refine ⟨fun h1 => ?_, fun h1 => ?_⟩
  · have h1 : msv I (nI s) := Decidable.not_not.mp (mv_b0.mp h1)
    have hsm : ¬ m ≤ s := by
      obtain ⟨j, hj, e⟩ := mv_upto (m := m) (by omega) h1.1 (by rw [← h4]; exact h1.2)
      have := (ne (x := s) (k := j) (by omega) (by omega)).mp e
      omega
    have k6 := key16 hsm
    rw [← e24 s] at k6
    exact k6
  · have h1 : ¬ msv I (nI s) := b_yes h1
    have hsm : m ≤ s := by
      rcases Nat.lt_or_ge s m with z | z
      · have := mv_upto2 (m := m) (by omega) z
        rw [← h4] at this
        exact absurd this h1
      · exact z
    exact ⟨Or.inl rfl, fin _ _ (by unfold mdB; rw [cm, if_pos hsm]) (by unfold mdI; rw [cm, if_pos hsm])⟩
theorem c_does {l : Launch} {G : mv_G} {A : Nat → Prop} (hG : mv_adk G A) : mv_Con l G A 99 sp_does := mv_con hG 99 mv_k_X7_does (by decide +kernel) (mv_cs_cons (c_noSeries hG) (mv_cs_cons (c_countOn hG) (mv_cs_cons (c_comes hG) (mv_cs_cons (c_expected hG) (mv_cs_nil))))) cb_does
end
section
/-! The reference: judge, drawn. -/
theorem lpF_nat (k : Nat) : lpF 10000 k = lN (10000 ^ k) := by
  induction k with
  | zero => rfl
  | succ k ih =>
    rw [lpF, ih, show (10000 : Int64) = lN 10000 from rfl, lN_mul, Nat.pow_succ]
theorem lN_inL {R P : Nat} (hR : R < 2 ^ 63) (hP : P < 2 ^ 62) (hP0 : 0 < P) : (0 ≤ lN R ∧ lN R ≤ lN P - 1) ↔ R < P := by
  have e : lN P - 1 = lN (P - 1) := lN_sub (b := 1) hP0
  rw [e, pk_lLE hR (by omega)]
  have h0 : (0 : Int64) ≤ lN R := (pk_lLE (a := 0) (by decide) hR).mpr (Nat.zero_le _)
  exact ⟨fun z => by have := z.2; omega, fun z => ⟨h0, by omega⟩⟩
def mjd (R n : Nat) : Nat → Nat → mv_I → Int32
  | 0, _, _ => -9
  | q + 1, k, T => if mdB (stD R n k / 1000) (stD R n k / 100 % 10) (stD R n k % 100) T = 0 then nI k else mjd R n q (k + 1) (mdI (stD R n k / 1000) (stD R n k / 100 % 10) (stD R n k % 100) T)
def sp_mJudge : mv_SP := (fun as I _ => MH 9000 I ∧ ∃ (n : Int32) (row : Int64), as = [.ref 30, .int n, .long row],
  fun as I J r I' J' => J = J' ∧ TF (th I) I' ∧ ∀ (n : Int32) (row : Int64), as = [.ref 30, .int n, .long row] → if 1 ≤ n ∧ n ≤ 4 then (∀ R : Nat, R < 2 ^ 63 → row = lN R → if R / 10000 ^ n.toNatClampNeg = 0 then r = some (.int (mjd R n.toNatClampNeg n.toNatClampNeg 0 (mlt (th I)))) else r = some (.int (-2))) ∧ (row < 0 → r = some (.int (-2))) else r = some (.int (-2)))
theorem judge_44 {I : mv_I} {J : mv_J} {R n m : Nat} {K : mv_K} (hR : R < 2 ^ 63) (hn : n ≤ 4) (hm : m ≤ 5) (h4 : th I 30 4 = nI m) (fin : ∀ (x : Int32) (I1 : mv_I), TF (th I) I1 → x = mjd R n n 0 (mlt (th I)) → K (some (.int x)) I1 J) : ∀ q k : Nat, k + q = n → ∀ I1, TF (th I) I1 → MT (9000 + k) m I1 → mjd R n q k I1 = mjd R n n 0 (mlt (th I)) → mv_V mv_ow mv_swf mv_t_X7_judge (mv_cs [(109, sp_in), (119, sp_longPower), (115, sp_layTrial), (99, sp_does)]) K 44 [(0, .ref 30), (1, .int (nI n)), (2, .long (lN R)), (4, .int (nI k))] [] I1 J := by
  intro q
  induction q with
  | zero =>
    intro k hk I1 hT hM hf
    have hk : k = n := hk
    subst hk
    refine mv_run_V (stop := [44]) 40 _ _ _ _ _ ?_
    refine ⟨fun h1 => fin _ _ hT hf, fun h1 => absurd h1 (nI_nlt (Nat.le_refl _) (by omega))⟩
  | succ q ih =>
    intro k hk I1 hT hM hf
    rw [mjd] at hf
    have ej : nI n - 1 - nI k = nI (n - 1 - k) := by
      rw [show (1 : Int32) = nI 1 from rfl, pk_sub (by omega), pk_sub (by omega)]
    have cj : (nI (n - 1 - k)).toNatClampNeg = n - 1 - k := nI_clamp (by omega)
    have hp0 : 0 < 10000 ^ (n - 1 - k) := Nat.pow_pos (by decide)
    have hp1 : 10000 ^ (n - 1 - k) < 2 ^ 63 := by
      have : 10000 ^ (n - 1 - k) ≤ 10000 ^ 3 := Nat.pow_le_pow_right (by decide) (by omega)
      omega
    have hq1 : R / 10000 ^ (n - 1 - k) < 2 ^ 63 := Nat.lt_of_le_of_lt (Nat.div_le_self _ _) hR
    have hD := stD_lt R n k
    have ed : (lN R / lN (10000 ^ (n - 1 - k)) - lN R / lN (10000 ^ (n - 1 - k)) / 10000 * 10000).toInt32 = nI (stD R n k) := by
      rw [pk_lDiv hR hp0 hp1, show (10000 : Int64) = lN 10000 from rfl, pk_lRem hq1 (by decide) (by decide), lN_i]
      rfl
    have key71 : mv_V mv_ow mv_swf mv_t_X7_judge (mv_cs [(109, sp_in), (119, sp_longPower), (115, sp_layTrial), (99, sp_does)]) K 71 [(0, .ref 30), (1, .int (nI n)), (2, .long (lN R)), (4, .int (nI k)), (5, .int (nI (stD R n k)))] [] I1 J := by
      have q1 : nI (stD R n k) / 1000 = nI (stD R n k / 1000) := pk_div (d := 1000) (by omega) (by decide) (by decide)
      have q2 : nI (stD R n k) / 100 - nI (stD R n k) / 100 / 10 * 10 = nI (stD R n k / 100 % 10) := by
        rw [show nI (stD R n k) / 100 = nI (stD R n k / 100) from pk_div (d := 100) (by omega) (by decide) (by decide)]
        exact pk_rem (d := 10) (by omega) (by decide) (by decide)
      have q3 : nI (stD R n k) - nI (stD R n k) / 100 * 100 = nI (stD R n k % 100) := pk_rem (d := 100) (by omega) (by decide) (by decide)
      have c1 : (nI (stD R n k / 1000)).toNatClampNeg = stD R n k / 1000 := nI_clamp (by omega)
      have c2 : (nI (stD R n k / 100 % 10)).toNatClampNeg = stD R n k / 100 % 10 := nI_clamp (by omega)
      have c3 : (nI (stD R n k % 100)).toNatClampNeg = stD R n k % 100 := nI_clamp (by omega)
      have eas : [Value.ref 30, .int (nI (stD R n k) / 1000), .int (nI (stD R n k) / 100 - nI (stD R n k) / 100 / 10 * 10), .int (nI (stD R n k) - nI (stD R n k) / 100 * 100)] = [Value.ref 30, .int (nI (stD R n k / 1000)), .int (nI (stD R n k / 100 % 10)), .int (nI (stD R n k % 100))] := by rw [q1, q2, q3]
      refine mv_run_V (stop := [44]) 40 _ _ _ _ _ ?_
      refine ⟨mv_nz1000, mv_nz100, mv_nz10, mv_nz100, rfl, rfl, ⟨m, _, _, _, hm, (by rw [hT.1 30 (by decide)]; exact h4), MT_mono (by omega) hM, (by omega), (by omega), (by omega), eas⟩, fun r1 I2 J2 hp => ?_⟩
      obtain ⟨rfl, hq⟩ := hp
      have hq : r1 = some (.int (mdB (nI (stD R n k) / 1000).toNatClampNeg (nI (stD R n k) / 100 - nI (stD R n k) / 100 / 10 * 10).toNatClampNeg (nI (stD R n k) - nI (stD R n k) / 100 * 100).toNatClampNeg I1)) ∧ I2 = mdI (nI (stD R n k) / 1000).toNatClampNeg (nI (stD R n k) / 100 - nI (stD R n k) / 100 / 10 * 10).toNatClampNeg (nI (stD R n k) - nI (stD R n k) / 100 * 100).toNatClampNeg I1 := hq
      rw [q1, q2, q3, c1, c2, c3] at hq
      obtain ⟨rfl, rfl⟩ := hq
      have hok := mdI_ok (h := stD R n k / 1000) (s := stD R n k / 100 % 10) (v := stD R n k % 100) hm h4 hT hM
      refine ⟨fun h1 => ?_, fun h1 => ?_⟩
      · rw [if_neg h1] at hf
        have h6 := ih (k + 1) (by omega) _ hok.1 (MT_mono (by omega) hok.2) hf
        rw [nI_succ] at h6
        exact mv_keep [0, 1, 2, 4] h6
      · rw [if_pos h1] at hf
        exact fin _ _ hok.1 hf
    refine mv_run_V (stop := [44, 71]) 40 _ _ _ _ _ ?_
    refine ⟨fun h1 => absurd (nI_lt (by omega) (by omega)) h1, fun h1 => ?_⟩
    refine ⟨rfl, ⟨10000, n - 1 - k, by omega, congrArg (fun z => [Value.long 10000, .int z]) ej⟩, fun r1 I2 J2 hp => ?_⟩
    obtain ⟨rfl, rfl, hq⟩ := hp
    have hq : r1 = some (.long (lpF 10000 (nI n - 1 - nI k).toNatClampNeg)) := hq
    rw [ej, cj, lpF_nat] at hq
    subst hq
    rw [← ed] at key71
    exact ⟨fun z => absurd ((lN_eq0 hp1).mp z) (by omega), by decide, key71⟩
theorem cb_mJudge : mv_body 112 mv_t_X7_judge (mv_cs [(109, sp_in), (119, sp_longPower), (115, sp_layTrial), (99, sp_does)]) sp_mJudge := by
  intro as I J h
  obtain ⟨hM, n, row, rfl⟩ := h
  have hM := MH_th hM
  obtain ⟨m, hm, h4, hMT⟩ := MT_mlt hM
  have key17 : 1 ≤ n ∧ n ≤ 4 → mv_V mv_ow mv_swf mv_t_X7_judge (mv_cs [(109, sp_in), (119, sp_longPower), (115, sp_layTrial), (99, sp_does)]) (sp_mJudge.2 [.ref 30, .int n, .long row] I J) 17 [(0, .ref 30), (1, .int n), (2, .long row)] [] (th I) J := by
    intro h1
    obtain ⟨q, hq1, hq, rfl⟩ := in_nat1 (M := 4) (by decide) h1
    have cq : (nI q).toNatClampNeg = q := nI_clamp (by omega)
    have hp0 : 0 < 10000 ^ q := Nat.pow_pos (by decide)
    have hp1 : 10000 ^ q < 2 ^ 62 := by
      have : 10000 ^ q ≤ 10000 ^ 4 := Nat.pow_le_pow_right (by decide) (by omega)
      omega
    refine mv_run_V (stop := [44]) 40 _ _ _ _ _ ?_
    refine ⟨rfl, ⟨10000, q, by omega, rfl⟩, fun r1 I1 J1 hp => ?_⟩
    obtain ⟨rfl, rfl, hz⟩ := hp
    have hz : r1 = some (.long (lpF 10000 (nI q).toNatClampNeg)) := hz
    rw [cq, lpF_nat] at hz
    subst hz
    refine ⟨rfl, ⟨_, _, _, rfl⟩, fun r1 I1 J1 hp => ?_⟩
    obtain ⟨rfl, rfl, hz⟩ := hp
    have hz : r1 = some (.int (mv_b (0 ≤ row ∧ row ≤ lN (10000 ^ q) - 1))) := hz
    subst hz
    refine ⟨fun h2 => ?_, fun h2 => ?_⟩
    · have h2 := b_yes h2
      obtain ⟨R, hR, rfl⟩ := pk_lOf (Int64.not_lt.mpr h2.1)
      have hlt := (lN_inL hR hp1 hp0).mp h2
      refine ⟨rfl, rfl, rfl, fun r1 I1 J1 hp => ?_⟩
      obtain ⟨rfl, rfl, rfl⟩ := hp
      refine judge_44 hR (by omega) hm h4 (fun x I1 hT hx => ⟨rfl, hT, fun n' row' e => ?_⟩) q 0 (Nat.zero_add q) _ TF_mlt hMT rfl
      cases e
      rw [if_pos h1, cq]
      refine ⟨fun R' hR' e => ?_, fun z => absurd z (Int64.not_lt.mpr h2.1)⟩
      have e := (pk_lEQ hR hR').mp e
      subst e
      rw [if_pos (Nat.div_eq_of_lt hlt), hx]
    · have h2 := mv_b0.mp h2
      refine ⟨rfl, TF_rfl, fun n' row' e => ?_⟩
      cases e
      rw [if_pos h1, cq]
      refine ⟨fun R hR e => ?_, fun _ => rfl⟩
      subst e
      have hlt := fun z => h2 ((lN_inL hR hp1 hp0).mpr z)
      rw [if_neg]
      intro z
      have := Nat.lt_of_div_eq_zero hp0 z
      exact hlt this
  have key : mv_V mv_ow mv_swf mv_t_X7_judge (mv_cs [(109, sp_in), (119, sp_longPower), (115, sp_layTrial), (99, sp_does)]) (sp_mJudge.2 [.ref 30, .int n, .long row] I J) 5 [(0, .ref 30), (1, .int n), (2, .long row)] [] (th I) J := by
    refine mv_run_V (stop := [17]) 40 _ _ _ _ _ ?_
    refine ⟨rfl, ⟨_, _, _, rfl⟩, fun r1 I1 J1 hp => ?_⟩
    obtain ⟨rfl, rfl, hqz⟩ := hp
    have hqy : r1 = some (.int (mv_b ((1 : Int64) ≤ (n : Int32).toInt64 ∧ (n : Int32).toInt64 ≤ (4 : Int64)))) := hqz
    clear hqz
    rw [mv_bc (in_w (lo := 1) (hi := 4))] at hqy
    subst hqy
    refine ⟨fun h1 => ?_, fun h1 => ?_⟩
    · have h1 := mv_b0.mp h1
      refine ⟨rfl, TF_rfl, fun n' row' e => ?_⟩
      cases e
      rw [if_neg h1]
    · exact key17 (b_yes h1)
  refine ⟨rfl, mv_run_V (stop := [5]) 40 _ _ _ _ _ ?_⟩
  exact ⟨rfl, key⟩
theorem c_mJudge {l : Launch} {G : mv_G} {A : Nat → Prop} (hG : mv_adk G A) : mv_Con l G A 112 sp_mJudge := mv_con hG 112 mv_k_X7_judge (by decide +kernel) (mv_cs_cons (c_in hG) (mv_cs_cons (c_longPower hG) (mv_cs_cons (c_layTrial hG) (mv_cs_cons (c_does hG) (mv_cs_nil))))) cb_mJudge
def mdw (m : Nat) : Nat → Int64 → mv_I → Int32 → Int32
  | 0, _, _, al => al
  | q + 1, x, T, al => if m = 0 then mdw m q (lcgF x) T al else mdw m q (lcgF x) (mct T 40 (24 * (wOf (lcgF x) / 64 % m)) (wOf (lcgF x) / 64 % m) (nI (wOf (lcgF x) % 40))) (al + (if 0 < mkK T 40 (24 * (wOf (lcgF x) / 64 % m)) (wOf (lcgF x) / 64 % m) (nI (wOf (lcgF x) % 40)) then 1 else 0))
def sp_mDrawn : mv_SP := (fun as I _ => MH 9000 I ∧ ∃ n : Int32, as = [.ref 30, .int n],
  fun as I J r I' J' => TF (th I) I' ∧ match as with
    | [_, .int n] => if 1 ≤ n ∧ n ≤ 20 then J' = mv_sj J 30 24 (sdN (J 30 24) n.toNatClampNeg) ∧ r = some (.int (mdw (th I 30 4).toNatClampNeg n.toNatClampNeg (J 30 24) (mlt (th I)) 0)) else J' = J ∧ r = some (.int (-2))
    | _ => True)
theorem drawn_59 {I I1 : mv_I} {J : mv_J} {m w n k : Nat} {al W : Int32} {x : Int64} {K : mv_K} (hm : m ≤ 5) (h4 : I 30 4 = nI m) (hT : TF I I1) {N : Nat} (hN : N ≤ 9900) (hM : MT N m I1) (hW : W = nI w) (hw : w < 2 ^ 31)
    (h0 : m = 0 → mv_V mv_ow mv_swf mv_t_X7_drawn (mv_cs [(109, sp_in), (115, sp_layTrial), (98, sp_countOn)]) K 28 [(0, .ref 30), (1, .int (nI n)), (2, .int al), (3, .int (nI k + 1))] [] I1 (mv_sj J 30 24 x))
    (h1 : 0 < m → TF I (mct I1 40 (24 * (w / 64 % m)) (w / 64 % m) (nI (w % 40))) → MT (N + 1) m (mct I1 40 (24 * (w / 64 % m)) (w / 64 % m) (nI (w % 40))) → mv_V mv_ow mv_swf mv_t_X7_drawn (mv_cs [(109, sp_in), (115, sp_layTrial), (98, sp_countOn)]) K 28 [(0, .ref 30), (1, .int (nI n)), (2, .int (al + (if 0 < mkK I1 40 (24 * (w / 64 % m)) (w / 64 % m) (nI (w % 40)) then 1 else 0))), (3, .int (nI k + 1))] [] (mct I1 40 (24 * (w / 64 % m)) (w / 64 % m) (nI (w % 40))) (mv_sj J 30 24 x)) : mv_V mv_ow mv_swf mv_t_X7_drawn (mv_cs [(109, sp_in), (115, sp_layTrial), (98, sp_countOn)]) K 59 [(0, .ref 30), (1, .int (nI n)), (2, .int al), (3, .int (nI k)), (4, .int W)] [] I1 (mv_sj J 30 24 x) := by
  subst hW
  have h4' : I1 30 4 = nI m := by rw [hT.1 30 (by decide), h4]
  have e64 : ¬ (64 : Int32) = 0 := by decide
  have e40 : ¬ (40 : Int32) = 0 := by decide
  refine mv_run_V (stop := [28]) 80 _ _ _ _ _ ?_
  refine ⟨rfl, fun h2 => ?_, fun h2 => ?_⟩
  · rw [h4'] at h2
    have hm0 : m = 0 := by
      rcases Nat.eq_zero_or_pos m with z | z
      · exact z
      · exact absurd (nI_lt (a := 0) z (by omega)) h2
    exact mv_keep [0, 1, 2, 3] (h0 hm0)
  · have hm0 : 0 < m := by
      rcases Nat.eq_zero_or_pos m with z | z
      · rw [h4', z] at h2
        exact absurd h2 (by decide)
      · exact z
    have hnz : ¬ I1 30 4 = 0 := by
      rw [h4']
      exact nI_ne0 hm0 (by omega)
    have hlt : w / 64 % m < m := Nat.mod_lt _ hm0
    have q1 : nI w / 64 - nI w / 64 / I1 30 4 * I1 30 4 = nI (w / 64 % m) := by
      rw [show nI w / 64 = nI (w / 64) from pk_div (d := 64) hw (by decide) (by decide), h4']
      exact pk_rem (by omega) hm0 (by omega)
    have q2 : nI w - nI w / 40 * 40 = nI (w % 40) := pk_rem (d := 40) hw (by decide) (by decide)
    have eas : [Value.ref 30, .ref 40, .int (nI w / 64 - nI w / 64 / I1 30 4 * I1 30 4), .int (nI w - nI w / 40 * 40)] = [Value.ref 30, .ref 40, .int (nI (w / 64 % m)), .int (nI (w % 40))] := by rw [q1, q2]
    have cs : (nI (w / 64 % m)).toNatClampNeg = w / 64 % m := nI_clamp (by omega)
    have hx := h1 hm0 (TF_mct (by omega) (hM _ hlt) hT) (MT_mct hm hlt hM)
    refine ⟨rfl, _, rfl, e64, rfl, hnz, e40, rfl, rfl, ⟨40, w / 64 % m, nI (w % 40), Or.inr rfl, by omega, MB_mono (by omega) (hM _ hlt), eas⟩, fun r1 I2 J2 hp => ?_⟩
    obtain ⟨rfl, hq⟩ := hp
    have hq : r1 = some (.int (mkK I1 40 (24 * (nI w / 64 - nI w / 64 / I1 30 4 * I1 30 4).toNatClampNeg) (nI w / 64 - nI w / 64 / I1 30 4 * I1 30 4).toNatClampNeg (nI w - nI w / 40 * 40))) ∧ I2 = mct I1 40 (24 * (nI w / 64 - nI w / 64 / I1 30 4 * I1 30 4).toNatClampNeg) (nI w / 64 - nI w / 64 / I1 30 4 * I1 30 4).toNatClampNeg (nI w - nI w / 40 * 40) := hq
    rw [q1, q2, cs] at hq
    obtain ⟨rfl, rfl⟩ := hq
    refine ⟨fun h7 => ?_, fun h7 => ?_⟩
    · rw [if_neg h7] at hx
      exact mv_keep [0, 1, 2, 3] hx
    · rw [if_pos h7] at hx
      exact mv_keep [0, 1, 2, 3] hx
theorem cb_mDrawn : mv_body 100 mv_t_X7_drawn (mv_cs [(109, sp_in), (115, sp_layTrial), (98, sp_countOn)]) sp_mDrawn := by
  intro as I J h
  obtain ⟨hM, n, rfl⟩ := h
  have hM := MH_th hM
  obtain ⟨m, hm, h4, hMT⟩ := MT_mlt hM
  have key28 : ∀ n0 : Nat, n = nI n0 → n0 ≤ 20 → 1 ≤ n ∧ n ≤ 20 → ∀ q k : Nat, k + q = n0 → ∀ I1 al, TF (th I) I1 → MT (9000 + k) m I1 → mdw m q (sdN (J 30 24) k) I1 al = mdw m n0 (J 30 24) (mlt (th I)) 0 → mv_V mv_ow mv_swf mv_t_X7_drawn (mv_cs [(109, sp_in), (115, sp_layTrial), (98, sp_countOn)]) (sp_mDrawn.2 [.ref 30, .int n] I J) 28 [(0, .ref 30), (1, .int (nI n0)), (2, .int al), (3, .int (nI k))] [] I1 (mv_sj J 30 24 (sdN (J 30 24) k)) := by
    intro n0 hn hn20 h1 q
    have cn : (nI n0).toNatClampNeg = n0 := nI_clamp (by omega)
    induction q with
    | zero =>
      intro k hk I1 al hT hM1 hf
      have hk : k = n0 := hk
      subst hk
      refine mv_run_V (stop := [28]) 40 _ _ _ _ _ ?_
      refine ⟨fun h2 => ?_, fun h2 => absurd h2 (nI_nlt (Nat.le_refl _) (by omega))⟩
      refine ⟨hT, ?_⟩
      show if 1 ≤ n ∧ n ≤ 20 then _ else _
      rw [if_pos h1, hn, cn, h4, nI_clamp (by omega)]
      exact ⟨rfl, by rw [← hf]; rfl⟩
    | succ q ih =>
      intro k hk I1 al hT hM1 hf
      rw [mdw] at hf
      have hsd : lcgF (sdN (J 30 24) k) = sdN (J 30 24) (k + 1) := rfl
      have hw := wOf_lt (sdN (J 30 24) (k + 1))
      have hJ : mv_sj (mv_sj J 30 24 (sdN (J 30 24) k)) 30 24 (mv_sj J 30 24 (sdN (J 30 24) k) 30 24 * 6364136223846793005 + 1442695040888963407) = mv_sj J 30 24 (sdN (J 30 24) (k + 1)) := by
        rw [mv_sj_two, show mv_sj J 30 24 (sdN (J 30 24) k) 30 24 = sdN (J 30 24) k from if_pos ⟨rfl, rfl⟩, sdN, lcgF]
      rw [hsd] at hf
      have hsj : mv_sj J 30 24 (sdN (J 30 24) (k + 1)) 30 24 = sdN (J 30 24) (k + 1) := if_pos ⟨rfl, rfl⟩
      refine mv_run_V (stop := [28, 59]) 80 _ _ _ _ _ ?_
      refine ⟨fun h2 => absurd (nI_lt (by omega) (by omega)) h2, fun h2 => ?_⟩
      refine ⟨rfl, rfl, ?_⟩
      rw [hJ]
      refine ⟨rfl, drawn_59 hm h4 hT (N := 9000 + k) (by omega) hM1 (w := wOf (sdN (J 30 24) (k + 1))) ?_ hw (fun hm0 => ?_) (fun hm0 hT2 hM2 => ?_)⟩
      · rw [hsj]
        exact wOf_ok _
      · rw [if_pos hm0] at hf
        have h6 := ih (k + 1) (by omega) I1 al hT (MT_mono (by omega) hM1) hf
        rw [nI_succ] at h6
        exact h6
      · rw [if_neg (by omega)] at hf
        have h6 := ih (k + 1) (by omega) _ _ hT2 (MT_mono (by omega) hM2) hf
        rw [nI_succ] at h6
        exact h6
  have key : mv_V mv_ow mv_swf mv_t_X7_drawn (mv_cs [(109, sp_in), (115, sp_layTrial), (98, sp_countOn)]) (sp_mDrawn.2 [.ref 30, .int n] I J) 5 [(0, .ref 30), (1, .int n)] [] (th I) J := by
    refine mv_run_V (stop := [28]) 40 _ _ _ _ _ ?_
    refine ⟨rfl, ⟨_, _, _, rfl⟩, fun r1 I1 J1 hp => ?_⟩
    obtain ⟨rfl, rfl, hqz⟩ := hp
    have hqy : r1 = some (.int (mv_b ((1 : Int64) ≤ (n : Int32).toInt64 ∧ (n : Int32).toInt64 ≤ (20 : Int64)))) := hqz
    clear hqz
    rw [mv_bc (in_w (lo := 1) (hi := 20))] at hqy
    subst hqy
    refine ⟨fun h1 => ?_, fun h1 => ?_⟩
    · have h1 := b_yes h1
      obtain ⟨q, hq1, hq, hnq⟩ := in_nat1 (M := 20) (by decide) h1
      refine ⟨rfl, rfl, rfl, fun r1 I1 J1 hp => ?_⟩
      obtain ⟨rfl, rfl, rfl⟩ := hp
      have h6 := key28 q hnq hq h1 q 0 (Nat.zero_add q) (mlt (th I)) 0 TF_mlt hMT rfl
      rw [show sdN (J 30 24) 0 = J 30 24 from rfl, mv_sj_self, ← hnq] at h6
      exact h6
    · have h1 := mv_b0.mp h1
      refine ⟨TF_rfl, ?_⟩
      show if 1 ≤ n ∧ n ≤ 20 then _ else _
      rw [if_neg h1]
      exact ⟨rfl, rfl⟩
  refine ⟨rfl, mv_run_V (stop := [5]) 40 _ _ _ _ _ ?_⟩
  exact ⟨rfl, key⟩
theorem c_mDrawn {l : Launch} {G : mv_G} {A : Nat → Prop} (hG : mv_adk G A) : mv_Con l G A 100 sp_mDrawn := mv_con hG 100 mv_k_X7_drawn (by decide +kernel) (mv_cs_cons (c_in hG) (mv_cs_cons (c_layTrial hG) (mv_cs_cons (c_countOn hG) (mv_cs_nil)))) cb_mDrawn
end
section
/-! The reference: share, lost. -/
theorem onF_5 : ∀ b, b < 32 → onF (nI b) 8 = nI (pcN b) := by decide +kernel
def pcS (b : Nat) : Nat := pcN b + b / 32 % 2
theorem onF_6 : ∀ b, b < 64 → onF (nI b) 8 = nI (pcS b) := by decide +kernel
theorem pcS_le : ∀ n, n ≤ 6 → ∀ b, b < 2 ^ n → pcS b ≤ n := by decide +kernel
theorem pcN_lt2 : ∀ m, m ≤ 5 → ∀ b, b < 2 ^ m → ∀ j, j < m → ¬ (nI b >>> (nI j &&& 31)) &&& 1 = 1 → pcN b ≤ m - 1 := by decide +kernel
theorem facN_5 : ∀ n, n ≤ 5 → 0 < facN n ∧ facN n ≤ 120 := by decide +kernel
theorem two_5 : ∀ n, n ≤ 5 → 2 ^ n ≤ 32 := by decide +kernel
theorem two_6 : ∀ n, n ≤ 6 → 2 ^ n ≤ 64 := by decide +kernel
def msU (I : mv_I) (set : Int32) : Nat → Int32
  | 0 => 0
  | k + 1 => msU I set k + (if (set >>> (nI k &&& 31)) &&& 1 = 1 then I 39 (24 * k + 5) else 0)
abbrev mshP (I : mv_I) (j : Nat) (q : Int32) (m b : Nat) : Prop := ¬ (nI b >>> (nI j &&& 31)) &&& 1 = 1 ∧ msU I (nI b) m < q ∧ ¬ msU I (nI b) m + I 39 (24 * j + 5) < q
def mshN (I : mv_I) (j : Nat) (q : Int32) (m : Nat) : Nat → Nat
  | 0 => 0
  | b + 1 => mshN I j q m b + (if mshP I j q m b then facN (pcN b) * facN (m - 1 - pcN b) else 0)
theorem mshN_le {I : mv_I} {j m : Nat} {q : Int32} (hm : m ≤ 5) (hj : j < m) : ∀ b, b ≤ 2 ^ m → mshN I j q m b ≤ b * 14400
  | 0, _ => Nat.zero_le _
  | b + 1, hb => by
    have h := mshN_le (I := I) (q := q) hm hj b (by omega)
    rw [mshN]
    split
    · rename_i hp
      have hpc := pcN_lt2 m hm b (by omega) j hj hp.1
      have f1 := (facN_5 (pcN b) (by omega)).2
      have f2 := (facN_5 (m - 1 - pcN b) (by omega)).2
      have : facN (pcN b) * facN (m - 1 - pcN b) ≤ 120 * 120 := Nat.mul_le_mul f1 f2
      omega
    · exact Nat.le_trans h (Nat.mul_le_mul_right _ (Nat.le_succ b))
def sp_mShare : mv_SP := (fun as I _ => MH 9000 I ∧ ∃ s q u : Int32, as = [.ref 30, .int s, .int q, .int u],
  fun as I J r I' J' => J = J' ∧ I' = th I ∧ ∀ s q u : Int32, as = [.ref 30, .int s, .int q, .int u] → r = some (.int (if msv (th I) s then (if 1 ≤ q ∧ q ≤ 99 then nI ((if u = 0 then facN (th I 30 4).toNatClampNeg else mshN (th I) s.toNatClampNeg q (th I 30 4).toNatClampNeg (2 ^ (th I 30 4).toNatClampNeg)) / Nat.gcd (mshN (th I) s.toNatClampNeg q (th I 30 4).toNatClampNeg (2 ^ (th I 30 4).toNatClampNeg)) (facN (th I 30 4).toNatClampNeg)) else -2) else -1)))
theorem share_139 {I : mv_I} {J : mv_J} {s b m S : Nat} {q u sum : Int32} {K : mv_K} {t : Int32} (hm : m ≤ 5) (h4 : I 30 4 = nI m) (hb : b < 32) (hm0 : 0 < m) (ht : ¬ t = 0 → pcN b ≤ m - 1)
    (hK : mv_V mv_ow mv_swf mv_t_X7_share (mv_cs [(123, sp_noSeries), (109, sp_in), (108, sp_has), (125, sp_ones), (102, sp_mFactorial), (106, sp_fraction)]) K 36 [(0, .ref 30), (1, .int (nI s)), (2, .int q), (3, .int u), (4, .int (nI (S + (if t = 0 then 0 else facN (pcN b) * facN (m - 1 - pcN b))))), (5, .int (nI b + 1))] [] I J) : mv_V mv_ow mv_swf mv_t_X7_share (mv_cs [(123, sp_noSeries), (109, sp_in), (108, sp_has), (125, sp_ones), (102, sp_mFactorial), (106, sp_fraction)]) K 139 [(0, .ref 30), (1, .int (nI s)), (2, .int q), (3, .int u), (4, .int (nI S)), (5, .int (nI b)), (6, .int sum), (7, .int t)] [] I J := by
  have hp5 : pcN b ≤ 5 := pcN_5 b hb
  have cp : (nI (pcN b)).toNatClampNeg = pcN b := nI_clamp (by omega)
  rw [← nI_add] at hK
  refine mv_run_V (stop := [36]) 80 _ _ _ _ _ ?_
  refine ⟨fun h1 => ?_, fun h1 => ?_⟩
  · rw [if_pos h1] at hK
    exact mv_keep [0, 1, 2, 3, 4, 5] hK
  · have hpc := ht h1
    have cq : (nI (m - 1 - pcN b)).toNatClampNeg = m - 1 - pcN b := nI_clamp (by omega)
    have em : nI m - 1 - nI (pcN b) = nI (m - 1 - pcN b) := by
      rw [show (1 : Int32) = nI 1 from rfl, pk_sub (by omega), pk_sub (by omega)]
    rw [if_neg h1] at hK
    refine ⟨rfl, ⟨_, rfl⟩, fun r1 I1 J1 hp => ?_⟩
    obtain ⟨rfl, rfl, hq⟩ := hp
    have hq : r1 = some (.int (onF (nI b) 8)) := hq
    rw [onF_5 b hb] at hq
    subst hq
    refine ⟨rfl, ⟨pcN b, by omega, rfl⟩, fun r1 I1 J1 hp => ?_⟩
    obtain ⟨rfl, rfl, hq⟩ := hp
    have hq : r1 = some (.int (nI (facN (nI (pcN b)).toNatClampNeg))) := hq
    rw [cp] at hq
    subst hq
    refine ⟨rfl, rfl, ⟨_, rfl⟩, fun r1 I1 J1 hp => ?_⟩
    obtain ⟨rfl, rfl, hq⟩ := hp
    have hq : r1 = some (.int (onF (nI b) 8)) := hq
    rw [onF_5 b hb] at hq
    subst hq
    have em2 : I 30 4 - 1 - nI (pcN b) = nI (m - 1 - pcN b) := by rw [h4, em]
    refine ⟨rfl, ⟨m - 1 - pcN b, by omega, congrArg (fun z => [Value.int z]) em2⟩, fun r1 I1 J1 hp => ?_⟩
    obtain ⟨rfl, rfl, hq⟩ := hp
    have hq : r1 = some (.int (nI (facN (I 30 4 - 1 - nI (pcN b)).toNatClampNeg))) := hq
    rw [em2, cq] at hq
    subst hq
    have emul : nI (facN (pcN b) * facN (m - 1 - pcN b)) = nI (facN (pcN b)) * nI (facN (m - 1 - pcN b)) := Int32.ofNat_mul _ _
    rw [emul] at hK
    exact mv_keep [0, 1, 2, 3, 4, 5] hK
theorem share_53 {I : mv_I} {J : mv_J} {s b m S : Nat} {q u : Int32} {K : mv_K} (hm : m ≤ 5) (hs : s < m) (h4 : I 30 4 = nI m) (hb : b < 2 ^ m)
    (hK : mv_V mv_ow mv_swf mv_t_X7_share (mv_cs [(123, sp_noSeries), (109, sp_in), (108, sp_has), (125, sp_ones), (102, sp_mFactorial), (106, sp_fraction)]) K 36 [(0, .ref 30), (1, .int (nI s)), (2, .int q), (3, .int u), (4, .int (nI (S + (if mshP I s q m b then facN (pcN b) * facN (m - 1 - pcN b) else 0)))), (5, .int (nI b + 1))] [] I J) : ∀ p k : Nat, k + p = m → mv_V mv_ow mv_swf mv_t_X7_share (mv_cs [(123, sp_noSeries), (109, sp_in), (108, sp_has), (125, sp_ones), (102, sp_mFactorial), (106, sp_fraction)]) K 53 [(0, .ref 30), (1, .int (nI s)), (2, .int q), (3, .int u), (4, .int (nI S)), (5, .int (nI b)), (6, .int (msU I (nI b) k)), (7, .int (nI k))] [] I J := by
  have hb5 := two_5 m hm
  intro p
  induction p with
  | zero =>
    intro k hk
    have hk : k = m := hk
    subst hk
    have c5 : (nI 24 * nI s + 5).toNatClampNeg = 24 * s + 5 := by rw [e24]; exact ix (k := 5)
    have k0 : ∀ t : Int32, t = 0 → ¬ mshP I s q k b → mv_V mv_ow mv_swf mv_t_X7_share (mv_cs [(123, sp_noSeries), (109, sp_in), (108, sp_has), (125, sp_ones), (102, sp_mFactorial), (106, sp_fraction)]) K 139 [(0, .ref 30), (1, .int (nI s)), (2, .int q), (3, .int u), (4, .int (nI S)), (5, .int (nI b)), (6, .int (msU I (nI b) k)), (7, .int t)] [] I J := by
      intro t ht hn
      refine share_139 hm h4 (by omega) (by omega) (fun z => absurd ht z) ?_
      rw [if_neg hn] at hK
      rw [if_pos ht]
      exact hK
    refine mv_run_V (stop := [53, 139]) 60 _ _ _ _ _ ?_
    refine ⟨rfl, fun h1 => ?_, fun h1 => ?_⟩
    · refine ⟨rfl, ⟨_, _, rfl⟩, fun r1 I1 J1 hp => ?_⟩
      obtain ⟨rfl, rfl, hq⟩ := hp
      have hq : r1 = some (.int (mv_b ((nI b >>> (nI s &&& 31)) &&& 1 = 1))) := hq
      subst hq
      refine ⟨fun h2 => ?_, fun h2 => ?_⟩
      · exact k0 0 rfl (fun z => z.1 (b_yes h2))
      · have h2 := mv_b0.mp h2
        refine ⟨fun h3 => ?_, fun h3 => ?_⟩
        · exact k0 0 rfl (fun z => h3 z.2.1)
        · refine ⟨rfl, _, rfl, _, rfl, (by show vp_in (nI 24 * nI s + nI 5) 121; rw [e24]; exact ixin (by omega)), fun h5 => ?_, fun h5 => ?_⟩
          · have h5 : msU I (nI b) k + I 39 (nI 24 * nI s + 5).toNatClampNeg < q := h5
            rw [c5] at h5
            exact k0 0 rfl (fun z => z.2.2 h5)
          · have h5 : ¬ msU I (nI b) k + I 39 (nI 24 * nI s + 5).toNatClampNeg < q := h5
            rw [c5] at h5
            refine share_139 (t := 1) hm h4 (by omega) (by omega) (fun _ => pcN_lt2 k hm b hb s hs h2) ?_
            rw [if_pos ⟨h2, h3, h5⟩] at hK
            rw [if_neg (by decide)]
            exact hK
    · rw [h4] at h1
      exact absurd h1 (nI_nlt (Nat.le_refl _) (by omega))
  | succ p ih =>
    intro k hk
    have c5 : (nI 24 * nI k + 5).toNatClampNeg = 24 * k + 5 := by rw [e24]; exact ix (k := 5)
    have hx := ih (k + 1) (by omega)
    rw [msU, nI_succ k] at hx
    refine mv_run_V (stop := [53, 139]) 60 _ _ _ _ _ ?_
    refine ⟨rfl, fun h1 => ?_, fun h1 => ?_⟩
    · rw [h4] at h1
      exact absurd (nI_lt (by omega) (by omega)) h1
    · refine ⟨rfl, ⟨_, _, rfl⟩, fun r1 I1 J1 hp => ?_⟩
      obtain ⟨rfl, rfl, hq⟩ := hp
      have hq : r1 = some (.int (mv_b ((nI b >>> (nI k &&& 31)) &&& 1 = 1))) := hq
      subst hq
      refine ⟨fun h2 => ?_, fun h2 => ?_⟩
      · rw [if_neg (mv_b0.mp h2)] at hx
        exact hx
      · rw [if_pos (b_yes h2), ← c5] at hx
        exact ⟨rfl, _, rfl, _, rfl, (by show vp_in (nI 24 * nI k + nI 5) 121; rw [e24]; exact ixin (by omega)), hx⟩
theorem cb_mShare : mv_body 138 mv_t_X7_share (mv_cs [(123, sp_noSeries), (109, sp_in), (108, sp_has), (125, sp_ones), (102, sp_mFactorial), (106, sp_fraction)]) sp_mShare := by
  intro as I J h
  obtain ⟨hM, s, q, u, rfl⟩ := h
  have hM := MH_th hM
  obtain ⟨⟨m, hm, h4, -⟩, -⟩ := hM
  have cm : (th I 30 4).toNatClampNeg = m := by rw [h4]; exact nI_clamp (by omega)
  have hb5 := two_5 m hm
  have key36 : ∀ j : Nat, j < m → s = nI j → 1 ≤ q ∧ q ≤ 99 → ∀ p b : Nat, b + p = 2 ^ m → mv_V mv_ow mv_swf mv_t_X7_share (mv_cs [(123, sp_noSeries), (109, sp_in), (108, sp_has), (125, sp_ones), (102, sp_mFactorial), (106, sp_fraction)]) (sp_mShare.2 [.ref 30, .int s, .int q, .int u] I J) 36 [(0, .ref 30), (1, .int (nI j)), (2, .int q), (3, .int u), (4, .int (nI (mshN (th I) j q m b))), (5, .int (nI b))] [] (th I) J := by
    intro j hj hsj h3 p
    have cj : (nI j).toNatClampNeg = j := nI_clamp (by omega)
    have h1 : msv (th I) s := by
      rw [hsj]
      show 0 ≤ nI j ∧ nI j ≤ th I 30 4 - 1
      rw [h4]
      exact mv_upto2 (by omega) hj
    induction p with
    | zero =>
      intro b hb
      have hb : b = 2 ^ m := hb
      have hle := mshN_le (I := th I) (q := q) hm hj (2 ^ m) (Nat.le_refl _)
      have hf := facN_5 m hm
      refine mv_run_V (stop := [36, 53]) 40 _ _ _ _ _ ?_
      refine ⟨rfl, fun h2 => ?_, fun h2 => ?_⟩
      · refine ⟨rfl, rfl, ⟨m, by omega, congrArg (fun z => [Value.int z]) h4⟩, fun r1 I1 J1 hp => ?_⟩
        obtain ⟨rfl, rfl, hz⟩ := hp
        have hz : r1 = some (.int (nI (facN (th I 30 4).toNatClampNeg))) := hz
        rw [cm] at hz
        subst hz
        refine ⟨rfl, ⟨mshN (th I) j q m b, facN m, u, by rw [hb]; omega, by omega, hf.1, rfl⟩, fun r1 I1 J1 hp => ?_⟩
        obtain ⟨rfl, rfl, hz⟩ := hp
        have hz := hz (mshN (th I) j q m b) (facN m) u (by rw [hb]; omega) (by omega) hf.1 rfl
        subst hz
        refine ⟨rfl, rfl, fun s' q' u' e => ?_⟩
        cases e
        rw [if_pos h1, if_pos h3, cm, hsj, cj, ← hb]
      · have h2 : nI b < 1 <<< (th I 30 4 &&& 31) := h2
        rw [h4, two_pow m (by omega), hb] at h2
        exact absurd h2 (nI_nlt (Nat.le_refl _) (by omega))
    | succ p ih =>
      intro b hb
      have hx := ih (b + 1) (by omega)
      rw [mshN, nI_succ b] at hx
      refine mv_run_V (stop := [36, 53]) 40 _ _ _ _ _ ?_
      refine ⟨rfl, fun h2 => ?_, fun h2 => ?_⟩
      · have h2 : ¬ nI b < 1 <<< (th I 30 4 &&& 31) := h2
        rw [h4, two_pow m (by omega)] at h2
        exact absurd (nI_lt (by omega) (by omega)) h2
      · exact share_53 hm hj h4 (by omega) hx m 0 (Nat.zero_add m)
  have key : mv_V mv_ow mv_swf mv_t_X7_share (mv_cs [(123, sp_noSeries), (109, sp_in), (108, sp_has), (125, sp_ones), (102, sp_mFactorial), (106, sp_fraction)]) (sp_mShare.2 [.ref 30, .int s, .int q, .int u] I J) 5 [(0, .ref 30), (1, .int s), (2, .int q), (3, .int u)] [] (th I) J := by
    refine mv_run_V (stop := [36]) 60 _ _ _ _ _ ?_
    refine ⟨rfl, rfl, ⟨_, rfl⟩, fun r1 I1 J1 hp => ?_⟩
    obtain ⟨rfl, rfl, hqz⟩ := hp
    have hqy : r1 = some (.int (mv_b (¬ msv (th I) s))) := hqz
    clear hqz
    subst hqy
    refine ⟨fun h1 => ?_, fun h1 => ?_⟩
    · have h1 : msv (th I) s := Decidable.not_not.mp (mv_b0.mp h1)
      obtain ⟨j, hj, rfl⟩ := mv_upto (m := m) (by omega) h1.1 (by rw [← h4]; exact h1.2)
      refine ⟨rfl, ⟨_, _, _, rfl⟩, fun r1 I1 J1 hp => ?_⟩
      obtain ⟨rfl, rfl, hqz⟩ := hp
      have hqy : r1 = some (.int (mv_b ((1 : Int64) ≤ (q : Int32).toInt64 ∧ (q : Int32).toInt64 ≤ (99 : Int64)))) := hqz
      clear hqz
      rw [mv_bc (in_w (lo := 1) (hi := 99))] at hqy
      subst hqy
      refine ⟨fun h3 => ?_, fun h3 => ?_⟩
      · exact key36 j hj rfl (b_yes h3) (2 ^ m) 0 (Nat.zero_add _)
      · have h3 := mv_b0.mp h3
        refine ⟨rfl, rfl, fun s' q' u' e => ?_⟩
        cases e
        rw [if_pos h1, if_neg h3]
    · have h1 : ¬ msv (th I) s := b_yes h1
      refine ⟨rfl, rfl, fun s' q' u' e => ?_⟩
      cases e
      rw [if_neg h1]
  refine ⟨rfl, mv_run_V (stop := [5]) 40 _ _ _ _ _ ?_⟩
  exact ⟨rfl, key⟩
theorem c_mShare {l : Launch} {G : mv_G} {A : Nat → Prop} (hG : mv_adk G A) : mv_Con l G A 138 sp_mShare := mv_con hG 138 mv_k_X7_share (by decide +kernel) (mv_cs_cons (c_noSeries hG) (mv_cs_cons (c_in hG) (mv_cs_cons (c_has hG) (mv_cs_cons (c_ones hG) (mv_cs_cons (c_mFactorial hG) (mv_cs_cons (c_fraction hG) (mv_cs_nil))))))) cb_mShare
end
section
/-! The reference: lost. -/
/-- the trial behind t days, of which g tells the missing ones -/
def mlT (s : Nat) (v g : Int32) : Nat → mv_I → mv_I
  | 0, T => T
  | t + 1, T => if (g >>> (nI t &&& 31)) &&& 1 = 1 then mcm (mlT s v g t T) 40 (24 * s) (-9) else mct (mlT s v g t T) 40 (24 * s) s v
def mlR (s : Nat) (v g : Int32) (T : mv_I) : Nat → Int32
  | 0 => 0
  | t + 1 => if (g >>> (nI t &&& 31)) &&& 1 = 1 then mlR s v g T t else if 0 < mkK (mlT s v g t T) 40 (24 * s) s v then 1 else if mlR s v g T t = 0 then 0 else 1
theorem MB_mlT {N s : Nat} {T : mv_I} {v g : Int32} (h : MB N T 40 (24 * s) s) : ∀ t, MB (N + t) (mlT s v g t T) 40 (24 * s) s
  | 0 => h
  | t + 1 => by
    rw [mlT]
    split
    · exact MB_mcm (by decide) (MB_mlT h t)
    · exact MB_mct (by decide) (MB_mlT h t)
theorem TF_mlT {N s : Nat} {I T : mv_I} {v g : Int32} (hs : s < 5) (h : MB N T 40 (24 * s) s) (hT : TF I T) : ∀ t, TF I (mlT s v g t T)
  | 0 => hT
  | t + 1 => by
    rw [mlT]
    split
    · exact TF_mcm hs (MB_mlT h t) (TF_mlT hs h hT t)
    · exact TF_mct hs (MB_mlT h t) (TF_mlT hs h hT t)
def mloN (T : mv_I) (s : Nat) (v : Int32) (n X : Nat) : Nat → Nat
  | 0 => 0
  | b + 1 => mloN T s v n X b + (if mlR s v (nI b) T n = 0 then 0 else X ^ pcS b * (10 - X) ^ (n - pcS b))
theorem pw_le {X n k : Nat} (hX : X ≤ 10) (hk : k ≤ n) : X ^ k * (10 - X) ^ (n - k) ≤ 10 ^ n := by
  have h1 : X ^ k ≤ 10 ^ k := Nat.pow_le_pow_left hX k
  have h2 : (10 - X) ^ (n - k) ≤ 10 ^ (n - k) := Nat.pow_le_pow_left (by omega) _
  have h3 := Nat.mul_le_mul h1 h2
  rw [← Nat.pow_add, show k + (n - k) = n by omega] at h3
  exact h3
theorem ten_6 : ∀ n, n ≤ 6 → 0 < 10 ^ n ∧ 10 ^ n ≤ 1000000 := by decide +kernel
theorem mloN_le {T : mv_I} {s n X : Nat} {v : Int32} (hn : n ≤ 6) (hX : X ≤ 10) : ∀ b, b ≤ 2 ^ n → mloN T s v n X b ≤ b * 1000000
  | 0, _ => Nat.zero_le _
  | b + 1, hb => by
    have h := mloN_le (T := T) (s := s) (v := v) hn hX b (by omega)
    rw [mloN]
    split
    · exact Nat.le_trans h (Nat.mul_le_mul_right _ (Nat.le_succ b))
    · have h1 := pw_le (n := n) hX (pcS_le n hn b (by omega))
      have h2 := (ten_6 n hn).2
      omega
theorem pwF_nat (X : Nat) : ∀ k, pwF (nI X) k = nI (X ^ k)
  | 0 => rfl
  | k + 1 => by
    rw [pwF, pwF_nat X k, Nat.pow_succ]
    exact (Int32.ofNat_mul _ _).symm
def sp_mLost : mv_SP := (fun as I _ => MH 9000 I ∧ ∃ s v n x u : Int32, as = [.ref 30, .int s, .int v, .int n, .int x, .int u],
  fun as I J r I' J' => J = J' ∧ TF (th I) I' ∧ ∀ s v n x u : Int32, as = [.ref 30, .int s, .int v, .int n, .int x, .int u] → r = some (.int (if msv (th I) s then (if (0 ≤ v ∧ v ≤ 99) ∧ (1 ≤ n ∧ n ≤ 6) ∧ (0 ≤ x ∧ x ≤ 10) then nI ((if u = 0 then 10 ^ n.toNatClampNeg else mloN (mlt (th I)) s.toNatClampNeg v n.toNatClampNeg x.toNatClampNeg (2 ^ n.toNatClampNeg)) / Nat.gcd (mloN (mlt (th I)) s.toNatClampNeg v n.toNatClampNeg x.toNatClampNeg (2 ^ n.toNatClampNeg)) (10 ^ n.toNatClampNeg)) else -2) else -1)))
theorem lost_no {I : mv_I} {J : mv_J} {s v n x u : Int32} (h1 : msv (th I) s) (h : ¬ ((0 ≤ v ∧ v ≤ 99) ∧ (1 ≤ n ∧ n ≤ 6) ∧ (0 ≤ x ∧ x ≤ 10))) : sp_mLost.2 [.ref 30, .int s, .int v, .int n, .int x, .int u] I J (some (.int (-2))) (th I) J := by
  refine ⟨rfl, TF_rfl, fun s' v' n' x' u' e => ?_⟩
  cases e
  rw [if_pos h1, if_neg h]
theorem lost_139 {I1 : mv_I} {J : mv_J} {s n X b S : Nat} {v u R x9 : Int32} {K : mv_K} (hn : n ≤ 6) (hX : X ≤ 10) (hb : b < 2 ^ n)
    (hK : mv_V mv_ow mv_swf mv_t_X7_lost (mv_cs [(123, sp_noSeries), (109, sp_in), (115, sp_layTrial), (108, sp_has), (96, sp_comes), (98, sp_countOn), (125, sp_ones), (128, sp_power), (106, sp_fraction)]) K 61 [(0, .ref 30), (1, .int (nI s)), (2, .int v), (3, .int (nI n)), (4, .int (nI X)), (5, .int u), (6, .int (nI (S + (if R = 0 then 0 else X ^ pcS b * (10 - X) ^ (n - pcS b))))), (7, .int (nI b + 1))] [] I1 J) : mv_V mv_ow mv_swf mv_t_X7_lost (mv_cs [(123, sp_noSeries), (109, sp_in), (115, sp_layTrial), (108, sp_has), (96, sp_comes), (98, sp_countOn), (125, sp_ones), (128, sp_power), (106, sp_fraction)]) K 139 [(0, .ref 30), (1, .int (nI s)), (2, .int v), (3, .int (nI n)), (4, .int (nI X)), (5, .int u), (6, .int (nI S)), (7, .int (nI b)), (8, .int R), (9, .int x9)] [] I1 J := by
  have h64 := two_6 n hn
  have hpc := pcS_le n hn b hb
  have cp : (nI (pcS b)).toNatClampNeg = pcS b := nI_clamp (by omega)
  have cq : (nI (n - pcS b)).toNatClampNeg = n - pcS b := nI_clamp (by omega)
  rw [← nI_add] at hK
  refine mv_run_V (stop := [61]) 80 _ _ _ _ _ ?_
  refine ⟨fun h1 => ?_, fun h1 => ?_⟩
  · rw [if_pos h1] at hK
    exact mv_keep [0, 1, 2, 3, 4, 5, 6, 7] hK
  · rw [if_neg h1] at hK
    refine ⟨rfl, ⟨_, rfl⟩, fun r1 I1 J1 hp => ?_⟩
    obtain ⟨rfl, rfl, hq⟩ := hp
    have hq : r1 = some (.int (onF (nI b) 8)) := hq
    rw [onF_6 b (by omega)] at hq
    subst hq
    refine ⟨rfl, ⟨nI X, pcS b, by omega, rfl⟩, fun r1 I1 J1 hp => ?_⟩
    obtain ⟨rfl, rfl, hq⟩ := hp
    have hq : r1 = some (.int (pwF (nI X) (nI (pcS b)).toNatClampNeg)) := hq
    rw [cp, pwF_nat] at hq
    subst hq
    refine ⟨rfl, ⟨_, rfl⟩, fun r1 I1 J1 hp => ?_⟩
    obtain ⟨rfl, rfl, hq⟩ := hp
    have hq : r1 = some (.int (onF (nI b) 8)) := hq
    rw [onF_6 b (by omega)] at hq
    subst hq
    have e10 : (10 : Int32) - nI X = nI (10 - X) := pk_sub (a := 10) hX
    have en : nI n - nI (pcS b) = nI (n - pcS b) := pk_sub hpc
    have eas : [Value.int ((10 : Int32) - nI X), Value.int (nI n - nI (pcS b))] = [Value.int (nI (10 - X)), Value.int (nI (n - pcS b))] := by rw [e10, en]
    refine ⟨rfl, ⟨nI (10 - X), n - pcS b, by omega, eas⟩, fun r1 I1 J1 hp => ?_⟩
    obtain ⟨rfl, rfl, hq⟩ := hp
    have hq : r1 = some (.int (pwF ((10 : Int32) - nI X) (nI n - nI (pcS b)).toNatClampNeg)) := hq
    rw [e10, en, cq, pwF_nat] at hq
    subst hq
    have emul : nI (X ^ pcS b * (10 - X) ^ (n - pcS b)) = nI (X ^ pcS b) * nI ((10 - X) ^ (n - pcS b)) := Int32.ofNat_mul _ _
    rw [emul] at hK
    exact mv_keep [0, 1, 2, 3, 4, 5, 6, 7] hK
theorem lost_79 {I : mv_I} {J : mv_J} {s n X b S : Nat} {v u : Int32} {K : mv_K} (hs : s < 5) (hMB : MB 9000 I 39 (24 * s) s) (hn : n ≤ 6) (hX : X ≤ 10) (hb : b < 2 ^ n)
    (hK : ∀ I1, TF I I1 → mv_V mv_ow mv_swf mv_t_X7_lost (mv_cs [(123, sp_noSeries), (109, sp_in), (115, sp_layTrial), (108, sp_has), (96, sp_comes), (98, sp_countOn), (125, sp_ones), (128, sp_power), (106, sp_fraction)]) K 61 [(0, .ref 30), (1, .int (nI s)), (2, .int v), (3, .int (nI n)), (4, .int (nI X)), (5, .int u), (6, .int (nI (S + (if mlR s v (nI b) (mlt I) n = 0 then 0 else X ^ pcS b * (10 - X) ^ (n - pcS b))))), (7, .int (nI b + 1))] [] I1 J) : ∀ p t : Nat, t + p = n → mv_V mv_ow mv_swf mv_t_X7_lost (mv_cs [(123, sp_noSeries), (109, sp_in), (115, sp_layTrial), (108, sp_has), (96, sp_comes), (98, sp_countOn), (125, sp_ones), (128, sp_power), (106, sp_fraction)]) K 79 [(0, .ref 30), (1, .int (nI s)), (2, .int v), (3, .int (nI n)), (4, .int (nI X)), (5, .int u), (6, .int (nI S)), (7, .int (nI b)), (8, .int (mlR s v (nI b) (mlt I) t)), (9, .int (nI t))] [] (mlT s v (nI b) t (mlt I)) J := by
  have hM := MB_mlt hs hMB
  have cs : (nI s).toNatClampNeg = s := nI_clamp (by omega)
  intro p
  induction p with
  | zero =>
    intro t ht
    have ht : t = n := ht
    subst ht
    refine mv_run_V (stop := [79, 139]) 60 _ _ _ _ _ ?_
    refine ⟨fun h1 => ?_, fun h1 => absurd h1 (nI_nlt (Nat.le_refl _) (by omega))⟩
    exact lost_139 hn hX hb (hK _ (TF_mlT hs hM TF_mlt t))
  | succ p ih =>
    intro t ht
    have hx := ih (t + 1) (by omega)
    rw [mlR, mlT, nI_succ t] at hx
    refine mv_run_V (stop := [79, 139]) 60 _ _ _ _ _ ?_
    refine ⟨fun h1 => absurd (nI_lt (by omega) (by omega)) h1, fun h1 => ?_⟩
    refine ⟨rfl, ⟨_, _, rfl⟩, fun r1 I1 J1 hp => ?_⟩
    obtain ⟨rfl, rfl, hq⟩ := hp
    have hq : r1 = some (.int (mv_b ((nI b >>> (nI t &&& 31)) &&& 1 = 1))) := hq
    subst hq
    refine ⟨fun h2 => ?_, fun h2 => ?_⟩
    · have h2 := mv_b0.mp h2
      rw [if_neg h2, if_neg h2] at hx
      refine ⟨rfl, _, rfl, rfl, rfl, ⟨40, s, v, Or.inr rfl, hs, MB_mono (by omega) (MB_mlT hM t), rfl⟩, fun r1 I1 J1 hp => ?_⟩
      obtain ⟨rfl, hq⟩ := hp
      have hq : r1 = some (.int (mkK (mlT s v (nI b) t (mlt I)) 40 (24 * (nI s).toNatClampNeg) (nI s).toNatClampNeg v)) ∧ I1 = mct (mlT s v (nI b) t (mlt I)) 40 (24 * (nI s).toNatClampNeg) (nI s).toNatClampNeg v := hq
      rw [cs] at hq
      obtain ⟨rfl, rfl⟩ := hq
      refine ⟨fun h3 => ?_, fun h3 => ?_⟩
      · rw [if_pos h3] at hx
        exact hx
      · rw [if_neg h3] at hx
        refine ⟨fun h4 => ?_, fun h4 => ?_⟩
        · rw [if_pos h4] at hx
          exact hx
        · rw [if_neg h4] at hx
          exact hx
    · have h2 := b_yes h2
      rw [if_pos h2, if_pos h2] at hx
      refine ⟨rfl, _, rfl, rfl, ⟨40, s, -9, Or.inr rfl, hs, (MB_mlT hM t).2.1, rfl⟩, fun r1 I1 J1 hp => ?_⟩
      obtain ⟨rfl, rfl, hq⟩ := hp
      have hq : I1 = mcm (mlT s v (nI b) t (mlt I)) 40 (24 * (nI s).toNatClampNeg) (-9) := hq
      rw [cs] at hq
      subst hq
      exact hx
theorem lost_61 {I : mv_I} {J : mv_J} {s n X : Nat} {v u : Int32} {K : mv_K} (hs : s < 5) (hMB : MB 9000 I 39 (24 * s) s) (hn : n ≤ 6) (hX : X ≤ 10)
    (fin : ∀ (x : Int32) (I1 : mv_I), TF I I1 → x = nI ((if u = 0 then 10 ^ n else mloN (mlt I) s v n X (2 ^ n)) / Nat.gcd (mloN (mlt I) s v n X (2 ^ n)) (10 ^ n)) → K (some (.int x)) I1 J) : ∀ p b : Nat, b + p = 2 ^ n → ∀ I1, TF I I1 → mv_V mv_ow mv_swf mv_t_X7_lost (mv_cs [(123, sp_noSeries), (109, sp_in), (115, sp_layTrial), (108, sp_has), (96, sp_comes), (98, sp_countOn), (125, sp_ones), (128, sp_power), (106, sp_fraction)]) K 61 [(0, .ref 30), (1, .int (nI s)), (2, .int v), (3, .int (nI n)), (4, .int (nI X)), (5, .int u), (6, .int (nI (mloN (mlt I) s v n X b))), (7, .int (nI b))] [] I1 J := by
  have h64 := two_6 n hn
  have cn : (nI n).toNatClampNeg = n := nI_clamp (by omega)
  intro p
  induction p with
  | zero =>
    intro b hb I1 hT
    have hb : b = 2 ^ n := hb
    have hle := mloN_le (T := mlt I) (s := s) (v := v) hn hX (2 ^ n) (Nat.le_refl _)
    have ht := ten_6 n hn
    refine mv_run_V (stop := [61, 79]) 40 _ _ _ _ _ ?_
    refine ⟨fun h1 => ?_, fun h1 => ?_⟩
    · refine ⟨rfl, ⟨10, n, by omega, rfl⟩, fun r1 I2 J1 hp => ?_⟩
      obtain ⟨rfl, rfl, hq⟩ := hp
      have hq : r1 = some (.int (pwF (nI 10) (nI n).toNatClampNeg)) := hq
      rw [cn, pwF_nat] at hq
      subst hq
      refine ⟨rfl, ⟨mloN (mlt I) s v n X b, 10 ^ n, u, by rw [hb]; omega, by omega, ht.1, rfl⟩, fun r1 I2 J1 hp => ?_⟩
      obtain ⟨rfl, rfl, hz⟩ := hp
      have hz := hz (mloN (mlt I) s v n X b) (10 ^ n) u (by rw [hb]; omega) (by omega) ht.1 rfl
      subst hz
      exact fin _ _ hT (by rw [hb])
    · have h1 : nI b < 1 <<< (nI n &&& 31) := h1
      rw [two_pow n hn, hb] at h1
      exact absurd h1 (nI_nlt (Nat.le_refl _) (by omega))
  | succ p ih =>
    intro b hb I1 hT
    refine mv_run_V (stop := [61, 79]) 40 _ _ _ _ _ ?_
    refine ⟨fun h1 => ?_, fun h1 => ?_⟩
    · have h1 : ¬ nI b < 1 <<< (nI n &&& 31) := h1
      rw [two_pow n hn] at h1
      exact absurd (nI_lt (by omega) (by omega)) h1
    · refine ⟨rfl, rfl, rfl, fun r1 I2 J2 hp => ?_⟩
      obtain ⟨rfl, rfl, rfl⟩ := hp
      have hMB1 : MB 9000 I1 39 (24 * s) s := MB_of (hT.1 39 (by decide)) (hT.1 34 (by decide)) hMB
      refine lost_79 (S := mloN (mlt I) s v n X b) hs hMB1 hn hX (by omega) (fun I3 hT3 => ?_) n 0 (Nat.zero_add n)
      have hx := ih (b + 1) (by omega) I3 (TF_trans hT hT3)
      rw [mloN, nI_succ b] at hx
      rw [mlt_TF hT]
      exact hx
theorem lost_39 {I : mv_I} {J : mv_J} {v n x u : Int32} {j : Nat} (hj : j < 5) (hMB : MB 9000 (th I) 39 (24 * j) j) (h1 : msv (th I) (nI j)) (h2 : 0 ≤ v ∧ v ≤ 99) (h3 : 1 ≤ n ∧ n ≤ 6) : mv_V mv_ow mv_swf mv_t_X7_lost (mv_cs [(123, sp_noSeries), (109, sp_in), (115, sp_layTrial), (108, sp_has), (96, sp_comes), (98, sp_countOn), (125, sp_ones), (128, sp_power), (106, sp_fraction)]) (sp_mLost.2 [.ref 30, .int (nI j), .int v, .int n, .int x, .int u] I J) 39 [(0, .ref 30), (1, .int (nI j)), (2, .int v), (3, .int n), (4, .int x), (5, .int u)] [] (th I) J := by
  have cj : (nI j).toNatClampNeg = j := nI_clamp (by omega)
  refine mv_run_V (stop := [61]) 40 _ _ _ _ _ ?_
  refine ⟨rfl, ⟨_, _, _, rfl⟩, fun r1 I1 J1 hp => ?_⟩
  obtain ⟨rfl, rfl, hqz⟩ := hp
  have hqy : r1 = some (.int (mv_b ((0 : Int64) ≤ (x : Int32).toInt64 ∧ (x : Int32).toInt64 ≤ (10 : Int64)))) := hqz
  clear hqz
  rw [mv_bc (in_w (lo := 0) (hi := 10))] at hqy
  subst hqy
  refine ⟨fun h4 => ?_, fun h4 => ?_⟩
  · have h4 := b_yes h4
    obtain ⟨q, hq1, hq, rfl⟩ := in_nat1 (M := 6) (by decide) h3
    obtain ⟨X, hX, rfl⟩ := in_nat (M := 10) (by decide) h4
    have cq : (nI q).toNatClampNeg = q := nI_clamp (by omega)
    have cX : (nI X).toNatClampNeg = X := nI_clamp (by omega)
    refine lost_61 hj hMB hq hX (fun y I1 hT hy => ?_) (2 ^ q) 0 (Nat.zero_add _) _ TF_rfl
    refine ⟨rfl, hT, fun s' v' n' x' u' e => ?_⟩
    cases e
    rw [if_pos h1, if_pos ⟨h2, h3, h4⟩, cj, cq, cX, hy]
  · exact lost_no h1 (fun z => mv_b0.mp h4 z.2.2)
theorem lost_15 {I : mv_I} {J : mv_J} {v n x u : Int32} {j : Nat} (hj : j < 5) (hMB : MB 9000 (th I) 39 (24 * j) j) (h1 : msv (th I) (nI j)) : mv_V mv_ow mv_swf mv_t_X7_lost (mv_cs [(123, sp_noSeries), (109, sp_in), (115, sp_layTrial), (108, sp_has), (96, sp_comes), (98, sp_countOn), (125, sp_ones), (128, sp_power), (106, sp_fraction)]) (sp_mLost.2 [.ref 30, .int (nI j), .int v, .int n, .int x, .int u] I J) 15 [(0, .ref 30), (1, .int (nI j)), (2, .int v), (3, .int n), (4, .int x), (5, .int u)] [] (th I) J := by
  refine mv_run_V (stop := [39]) 40 _ _ _ _ _ ?_
  refine ⟨rfl, ⟨_, _, _, rfl⟩, fun r1 I1 J1 hp => ?_⟩
  obtain ⟨rfl, rfl, hqz⟩ := hp
  have hqy : r1 = some (.int (mv_b ((0 : Int64) ≤ (v : Int32).toInt64 ∧ (v : Int32).toInt64 ≤ (99 : Int64)))) := hqz
  clear hqz
  rw [mv_bc (in_w (lo := 0) (hi := 99))] at hqy
  subst hqy
  refine ⟨fun h4 => ?_, fun h4 => ?_⟩
  · exact lost_no h1 (fun z => mv_b0.mp h4 z.1)
  · refine ⟨rfl, ⟨_, _, _, rfl⟩, fun r1 I1 J1 hp => ?_⟩
    obtain ⟨rfl, rfl, hqz⟩ := hp
    have hqy : r1 = some (.int (mv_b ((1 : Int64) ≤ (n : Int32).toInt64 ∧ (n : Int32).toInt64 ≤ (6 : Int64)))) := hqz
    clear hqz
    rw [mv_bc (in_w (lo := 1) (hi := 6))] at hqy
    subst hqy
    refine ⟨fun h5 => ?_, fun h5 => ?_⟩
    · exact lost_no h1 (fun z => mv_b0.mp h5 z.2.1)
    · exact lost_39 hj hMB h1 (b_yes h4) (b_yes h5)
theorem cb_mLost : mv_body 120 mv_t_X7_lost (mv_cs [(123, sp_noSeries), (109, sp_in), (115, sp_layTrial), (108, sp_has), (96, sp_comes), (98, sp_countOn), (125, sp_ones), (128, sp_power), (106, sp_fraction)]) sp_mLost := by
  intro as I J h
  obtain ⟨hM, s, v, n, x, u, rfl⟩ := h
  have hM := MH_th hM
  have key : mv_V mv_ow mv_swf mv_t_X7_lost (mv_cs [(123, sp_noSeries), (109, sp_in), (115, sp_layTrial), (108, sp_has), (96, sp_comes), (98, sp_countOn), (125, sp_ones), (128, sp_power), (106, sp_fraction)]) (sp_mLost.2 [.ref 30, .int s, .int v, .int n, .int x, .int u] I J) 5 [(0, .ref 30), (1, .int s), (2, .int v), (3, .int n), (4, .int x), (5, .int u)] [] (th I) J := by
    refine mv_run_V (stop := [15]) 40 _ _ _ _ _ ?_
    refine ⟨rfl, rfl, ⟨_, rfl⟩, fun r1 I1 J1 hp => ?_⟩
    obtain ⟨rfl, rfl, hqz⟩ := hp
    have hqy : r1 = some (.int (mv_b (¬ msv (th I) s))) := hqz
    clear hqz
    subst hqy
    refine ⟨fun h1 => ?_, fun h1 => ?_⟩
    · have h1 : msv (th I) s := Decidable.not_not.mp (mv_b0.mp h1)
      obtain ⟨j, hj, rfl, cj, hMB⟩ := MH_in hM h1
      exact lost_15 hj hMB h1
    · have h1 : ¬ msv (th I) s := b_yes h1
      refine ⟨rfl, TF_rfl, fun s' v' n' x' u' e => ?_⟩
      cases e
      rw [if_neg h1]
  refine ⟨rfl, mv_run_V (stop := [5]) 40 _ _ _ _ _ ?_⟩
  exact ⟨rfl, key⟩
theorem c_mLost {l : Launch} {G : mv_G} {A : Nat → Prop} (hG : mv_adk G A) : mv_Con l G A 120 sp_mLost := mv_con hG 120 mv_k_X7_lost (by decide +kernel) (mv_cs_cons (c_noSeries hG) (mv_cs_cons (c_in hG) (mv_cs_cons (c_layTrial hG) (mv_cs_cons (c_has hG) (mv_cs_cons (c_comes hG) (mv_cs_cons (c_countOn hG) (mv_cs_cons (c_ones hG) (mv_cs_cons (c_power hG) (mv_cs_cons (c_fraction hG) (mv_cs_nil)))))))))) cb_mLost
end
section
/-! The reference: figures of the text. -/
def PL (I : mv_I) (q : Nat) : mv_I := mv_si I 30 3 (nI q)
theorem PL_PL {I : mv_I} {q r : Nat} : mv_si (PL I q) 30 3 (nI r) = PL I r := by
  funext a b
  unfold PL
  rw [mv_si_ap, mv_si_ap, mv_si_ap]
  split <;> rfl
theorem PL_ne {I : mv_I} {q a : Nat} (h : a ≠ 30) : PL I q a = I a := by
  unfold PL
  rw [mv_si_ne h]
theorem PL_30 {I : mv_I} {q b : Nat} (h : b ≠ 3) : PL I q 30 b = I 30 b := by
  unfold PL
  rw [mv_si_ap, if_neg (fun z => h z.2)]
theorem PL_3 {I : mv_I} {q : Nat} : PL I q 30 3 = nI q := by
  unfold PL
  rw [mv_si_ap, if_pos ⟨rfl, rfl⟩]
theorem PL_self {I : mv_I} {q : Nat} (h : I 30 3 = nI q) : PL I q = I := by
  funext a b
  unfold PL
  rw [mv_si_ap]
  split
  · rename_i hh; rw [hh.1, hh.2, h]
  · rfl
abbrev tdP (T : Nat → Int32) (n p : Nat) (lo hi : Int32) : Prop := p < n ∧ lo ≤ T p - 48 ∧ T p - 48 ≤ hi
def sp_figure : mv_SP := (fun as I _ => (∃ p n : Nat, p ≤ n ∧ n ≤ 80 ∧ I 30 3 = nI p ∧ I 30 2 = nI n) ∧ ∃ lo hi : Int32, 0 ≤ lo ∧ as = [.ref 30, .int lo, .int hi],
  fun as I J r I' J' => J = J' ∧ ∀ (p n : Nat) (lo hi : Int32), p ≤ n → n ≤ 80 → I 30 3 = nI p → I 30 2 = nI n → as = [.ref 30, .int lo, .int hi] → if tdP (I 31) n p lo hi then r = some (.int (I 31 p - 48)) ∧ I' = PL I (p + 1) else r = some (.int (-9)) ∧ I' = I)
theorem cb_figure : mv_body 104 mv_t_X7_figure (mv_cs [(109, sp_in)]) sp_figure := by
  intro as I J h
  obtain ⟨⟨p, n, hp, hn, h3, h2⟩, lo, hi, hlo, rfl⟩ := h
  have cp : (nI p).toNatClampNeg = p := nI_clamp (by omega)
  have e3 : I 30 3 + 1 = nI (p + 1) := by rw [h3, nI_1]
  have uniq : ∀ {p' n' : Nat}, n' ≤ 80 → p' ≤ n' → I 30 3 = nI p' → I 30 2 = nI n' → p' = p ∧ n' = n := by
    intro p' n' hn' hp' h3' h2'
    exact ⟨(nI_eq (by omega) (by omega)).mp (h3'.symm.trans h3), (nI_eq (by omega) (by omega)).mp (h2'.symm.trans h2)⟩
  have yes : tdP (I 31) n p lo hi → sp_figure.2 [.ref 30, .int lo, .int hi] I J (some (.int (I 31 p - 48))) (mv_si I 30 3 (I 30 3 + 1)) J := by
    intro ht
    refine ⟨rfl, fun p' n' lo' hi' hp' hn' h3' h2' e => ?_⟩
    obtain ⟨rfl, rfl⟩ := uniq hn' hp' h3' h2'
    cases e
    rw [if_pos ht, e3]
    exact ⟨rfl, rfl⟩
  have no : ¬ tdP (I 31) n p lo hi → sp_figure.2 [.ref 30, .int lo, .int hi] I J (some (.int (-9))) I J := by
    intro ht
    refine ⟨rfl, fun p' n' lo' hi' hp' hn' h3' h2' e => ?_⟩
    obtain ⟨rfl, rfl⟩ := uniq hn' hp' h3' h2'
    cases e
    rw [if_neg ht]
    exact ⟨rfl, rfl⟩
  have key28 : ∀ v : Int32, v = (if p < n then I 31 p - 48 else -9) → mv_V mv_ow mv_swf mv_t_X7_figure (mv_cs [(109, sp_in)]) (sp_figure.2 [.ref 30, .int lo, .int hi] I J) 28 [(0, .ref 30), (1, .int lo), (2, .int hi)] [.int v] I J := by
    intro v hv
    refine mv_run_V (stop := []) 60 _ _ _ _ _ ?_
    refine ⟨rfl, ⟨_, _, _, rfl⟩, fun r1 I1 J1 hp => ?_⟩
    obtain ⟨rfl, rfl, hq⟩ := hp
    have hq : r1 = some (.int (mv_b (lo.toInt64 ≤ v.toInt64 ∧ v.toInt64 ≤ hi.toInt64))) := hq
    rw [mv_bc (in_w (lo := lo) (hi := hi))] at hq
    subst hq
    refine ⟨fun h4 => ?_, fun h4 => ?_⟩
    · have h4 := b_yes h4
      by_cases hpn : p < n
      · rw [if_pos hpn] at hv
        subst hv
        exact ⟨rfl, rfl, rfl, yes ⟨hpn, h4⟩⟩
      · rw [if_neg hpn] at hv
        subst hv
        have := h4.1
        rw [fa_le] at this hlo
        have e0 : (0 : Int32).toInt = 0 := rfl
        have e9 : (-9 : Int32).toInt = -9 := rfl
        omega
    · have h4 := mv_b0.mp h4
      refine no (fun z => h4 ?_)
      rw [if_pos z.1] at hv
      rw [hv]
      exact z.2
  refine ⟨rfl, mv_run_V (stop := [28]) 40 _ _ _ _ _ ?_⟩
  refine ⟨rfl, rfl, fun h1 => ?_, fun h1 => ?_⟩
  · refine key28 (-9) ?_
    rw [h3, h2] at h1
    rw [if_neg (fun z => h1 (nI_lt z (by omega)))]
  · rw [h3, h2] at h1
    have h1 := (nI_ltI (by omega) (by omega)).mp h1
    refine ⟨rfl, _, rfl, rfl, _, rfl, (by rw [h3]; exact vp_in_nI (by omega) (by decide)), ?_⟩
    rw [h3, cp]
    exact key28 _ (by rw [if_pos h1])
theorem c_figure {l : Launch} {G : mv_G} {A : Nat → Prop} (hG : mv_adk G A) : mv_Con l G A 104 sp_figure := mv_con hG 104 mv_k_X7_figure (by decide +kernel) (mv_cs_cons (c_in hG) (mv_cs_nil)) cb_figure
theorem td_0 {T : Nat → Int32} {n p : Nat} {lo hi : Int32} (hlo : 0 ≤ lo) (h : tdP T n p lo hi) : ¬ T p - 48 = -9 := by
  intro z
  have := h.2.1
  rw [z, fa_le] at this
  rw [fa_le] at hlo
  have e0 : (0 : Int32).toInt = 0 := rfl
  have e9 : (-9 : Int32).toInt = -9 := rfl
  omega
theorem td_nat {T : Nat → Int32} {n p : Nat} {lo : Int32} {M : Nat} (hlo : 0 ≤ lo) (hM : M < 1000) (h : tdP T n p lo (nI M)) : ∃ d : Nat, d ≤ M ∧ T p - 48 = nI d := in_nat hM ⟨Int32.le_trans hlo h.2.1, h.2.2⟩
def sp_two : mv_SP := (fun as I _ => (∃ p n : Nat, p ≤ n ∧ n ≤ 80 ∧ I 30 3 = nI p ∧ I 30 2 = nI n) ∧ ∃ lo : Int32, 0 ≤ lo ∧ as = [.ref 30, .int lo],
  fun as I J r I' J' => J = J' ∧ ∀ (p n : Nat) (lo : Int32), p ≤ n → n ≤ 80 → I 30 3 = nI p → I 30 2 = nI n → as = [.ref 30, .int lo] → if tdP (I 31) n p 0 9 then (if tdP (I 31) n (p + 1) (if I 31 p - 48 = 0 then lo else 0) 9 then r = some (.int (10 * (I 31 p - 48) + (I 31 (p + 1) - 48))) ∧ I' = PL I (p + 2) else r = some (.int (-9)) ∧ I' = PL I (p + 1)) else r = some (.int (-9)) ∧ I' = I)
theorem cb_two : mv_body 141 mv_t_X7_two (mv_cs [(104, sp_figure)]) sp_two := by
  intro as I J h
  obtain ⟨⟨p, n, hp, hn, h3, h2⟩, lo, hlo, rfl⟩ := h
  have uniq : ∀ {p' n' : Nat}, n' ≤ 80 → p' ≤ n' → I 30 3 = nI p' → I 30 2 = nI n' → p' = p ∧ n' = n := by
    intro p' n' hn' hp' h3' h2'
    exact ⟨(nI_eq (by omega) (by omega)).mp (h3'.symm.trans h3), (nI_eq (by omega) (by omega)).mp (h2'.symm.trans h2)⟩
  have fin : ∀ (x : Int32) (I1 : mv_I), (if tdP (I 31) n p 0 9 then (if tdP (I 31) n (p + 1) (if I 31 p - 48 = 0 then lo else 0) 9 then some (Value.int x) = some (.int (10 * (I 31 p - 48) + (I 31 (p + 1) - 48))) ∧ I1 = PL I (p + 2) else some (Value.int x) = some (.int (-9)) ∧ I1 = PL I (p + 1)) else some (Value.int x) = some (.int (-9)) ∧ I1 = I) → sp_two.2 [.ref 30, .int lo] I J (some (.int x)) I1 J := by
    intro x I1 hx
    refine ⟨rfl, fun p' n' lo' hp' hn' h3' h2' e => ?_⟩
    obtain ⟨rfl, rfl⟩ := uniq hn' hp' h3' h2'
    cases e
    exact hx
  refine ⟨rfl, mv_run_V (stop := [31]) 40 _ _ _ _ _ ?_⟩
  refine ⟨rfl, rfl, ⟨⟨p, n, hp, hn, h3, h2⟩, 0, 9, by decide, rfl⟩, fun r1 I1 J1 hp1 => ?_⟩
  obtain ⟨rfl, hq⟩ := hp1
  have hq := hq p n 0 9 hp hn h3 h2 rfl
  by_cases ht : tdP (I 31) n p 0 9
  · rw [if_pos ht] at hq
    obtain ⟨rfl, rfl⟩ := hq
    have e31 : PL I (p + 1) 31 = I 31 := PL_ne (by decide)
    have key31 : ∀ l : Int32, l = (if I 31 p - 48 = 0 then lo else 0) → mv_V mv_ow mv_swf mv_t_X7_two (mv_cs [(104, sp_figure)]) (sp_two.2 [.ref 30, .int lo] I J) 31 [(0, .ref 30), (1, .int lo), (2, .int (I 31 p - 48))] [.int 9, .int l, .ref 30] (PL I (p + 1)) J := by
      intro l hl
      have hl0 : 0 ≤ l := by
        rw [hl]
        split
        · exact hlo
        · decide
      refine mv_run_V (stop := []) 40 _ _ _ _ _ ?_
      refine ⟨rfl, rfl, ⟨⟨p + 1, n, by have := ht.1; omega, hn, PL_3, (PL_30 (by decide)).trans h2⟩, l, 9, hl0, rfl⟩, fun r1 I1 J1 hp1 => ?_⟩
      obtain ⟨rfl, hq⟩ := hp1
      have hq := hq (p + 1) n l 9 (by have := ht.1; omega) hn PL_3 ((PL_30 (by decide)).trans h2) rfl
      rw [e31] at hq
      by_cases ht2 : tdP (I 31) n (p + 1) l 9
      · rw [if_pos ht2] at hq
        obtain ⟨rfl, rfl⟩ := hq
        refine ⟨fun h5 => ?_, fun h5 => absurd h5 (td_0 hl0 ht2)⟩
        refine fin _ _ ?_
        rw [if_pos ht, ← hl, if_pos ht2]
        exact ⟨rfl, PL_PL⟩
      · rw [if_neg ht2] at hq
        obtain ⟨rfl, rfl⟩ := hq
        refine ⟨fun h5 => absurd rfl h5, fun _ => ?_⟩
        refine fin _ _ ?_
        rw [if_pos ht, ← hl, if_neg ht2]
        exact ⟨rfl, rfl⟩
    refine ⟨fun h4 => ?_, fun h4 => absurd h4 (td_0 (by decide) ht)⟩
    refine ⟨fun h5 => ?_, fun h5 => ?_⟩
    · exact key31 0 (by rw [if_neg h5])
    · exact key31 lo (by rw [if_pos h5])
  · rw [if_neg ht] at hq
    obtain ⟨rfl, rfl⟩ := hq
    refine ⟨fun h4 => absurd rfl h4, fun _ => ?_⟩
    refine ⟨fun h4 => absurd rfl h4, fun _ => ?_⟩
    refine fin _ _ ?_
    rw [if_neg ht]
    exact ⟨rfl, rfl⟩
theorem c_two {l : Launch} {G : mv_G} {A : Nat → Prop} (hG : mv_adk G A) : mv_Con l G A 141 sp_two := mv_con hG 141 mv_k_X7_two (by decide +kernel) (mv_cs_cons (c_figure hG) (mv_cs_nil)) cb_two
/-! what the class's search for a fault says at each letter -/
theorem ff_step {T : Nat → Int32} {n k pl co : Nat} (hk : k < n) (hco : ¬ co = 5) (hf : fitP pl (T k) (T (k - 1))) (h46 : ¬ T k = 46) : ffF T n (n - k) k pl co = ffF T n (n - (k + 1)) (k + 1) (pl + 1) co := by
  rw [show n - k = (n - (k + 1)) + 1 by omega, ffF, if_neg (fun z => z.elim hco (fun z => z hf)), if_neg h46]
theorem ff_dot {T : Nat → Int32} {n k pl co : Nat} (hk : k < n) (hco : ¬ co = 5) (hf : fitP pl (T k) (T (k - 1))) (h46 : T k = 46) : ffF T n (n - k) k pl co = ffF T n (n - (k + 1)) (k + 1) 0 (co + 1) := by
  rw [show n - k = (n - (k + 1)) + 1 by omega, ffF, if_neg (fun z => z.elim hco (fun z => z hf)), if_pos h46]
theorem ff_fail {T : Nat → Int32} {n k pl co : Nat} (hk : k ≤ n) (h0 : pl ≠ 0 ∨ k < n) (h : k < n → co = 5 ∨ ¬ fitP pl (T k) (T (k - 1))) : ffF T n (n - k) k pl co = nI k := by
  rcases Nat.lt_or_ge k n with hlt | hge
  · rw [show n - k = (n - (k + 1)) + 1 by omega, ffF, if_pos (h hlt)]
  · have : k = n := by omega
    subst this
    rw [Nat.sub_self, ffF, if_neg (by omega)]
theorem td_iff {x : Int32} {lo hi : Nat} (hlo : lo ≤ 9) (hhi : hi ≤ 9) : (nI lo ≤ x - 48 ∧ x - 48 ≤ nI hi) ↔ (nI (48 + lo) ≤ x ∧ x ≤ nI (48 + hi)) := by
  have e48 : (48 : Int32).toInt = 48 := rfl
  have r1 := fb_rng x
  have r2 := fb_rng (x - 48)
  rw [fa_le, fa_le, fa_le, fa_le, nI_toInt (by omega), nI_toInt (by omega), nI_toInt (by omega), nI_toInt (by omega)]
  constructor
  · intro h
    have hx : x.toInt = (x - 48).toInt + 48 := by
      have e : x = (x - 48) + 48 := (Int32.sub_add_cancel x 48).symm
      conv => lhs; rw [e]
      rw [fb_addI (by omega) (by omega), e48]
    omega
  · intro h
    rw [fb_subI (by omega) (by omega), e48]
    omega
theorem fit_n46 {T : Nat → Int32} {n p : Nat} {lo hi : Int32} (hlo : 0 ≤ lo) (h : tdP T n p lo hi) : ¬ T p = 46 := by
  intro z
  have h1 := h.2.1
  rw [z] at h1
  have : (46 : Int32) - 48 = -2 := rfl
  rw [this, fa_le] at h1
  rw [fa_le] at hlo
  have e0 : (0 : Int32).toInt = 0 := rfl
  have e9 : (-2 : Int32).toInt = -2 := rfl
  omega
/-- the figure that may stand at a place, by td's -/
theorem fit_def {pl : Nat} {x b : Int32} (h : (1 ≤ pl ∧ pl ≤ 4) ∨ pl = 8) : fitP pl x b ↔ (0 ≤ x - 48 ∧ x - 48 ≤ 9) := by
  have e := td_iff (x := x) (lo := 0) (hi := 9) (by decide) (by decide)
  unfold fitP
  rw [if_neg (by omega), if_neg (by omega), if_neg (by omega), if_neg (by omega), if_neg (by omega), if_neg (by omega)]
  exact e.symm
theorem fit_5 {x b : Int32} : fitP 5 x b ↔ ((if b - 48 = 0 then (1 : Int32) else 0) ≤ x - 48 ∧ x - 48 ≤ 9) := by
  have e := td_iff (x := x) (lo := 0) (hi := 9) (by decide) (by decide)
  have e1 := td_iff (x := x) (lo := 1) (hi := 9) (by decide) (by decide)
  unfold fitP
  rw [if_neg (by decide), if_pos rfl]
  by_cases hb : b = 48
  · rw [if_pos hb, if_pos (by rw [hb]; rfl)]
    exact e1.symm
  · have hb2 : ¬ b - 48 = 0 := by
      intro z
      apply hb
      have q := Int32.sub_add_cancel b 48
      rw [z] at q
      rw [← q]
      rfl
    rw [if_neg hb, if_neg hb2]
    exact e.symm
theorem fit_6 {x b : Int32} : fitP 6 x b ↔ (0 ≤ x - 48 ∧ x - 48 ≤ 4) := by
  have e := td_iff (x := x) (lo := 0) (hi := 4) (by decide) (by decide)
  unfold fitP
  rw [if_neg (by decide), if_neg (by decide), if_pos rfl]
  exact e.symm
theorem fit_7 {x b : Int32} : fitP 7 x b ↔ (0 ≤ x - 48 ∧ x - 48 ≤ 1) := by
  have e := td_iff (x := x) (lo := 0) (hi := 1) (by decide) (by decide)
  unfold fitP
  rw [if_neg (by decide), if_neg (by decide), if_neg (by decide), if_pos rfl]
  exact e.symm
theorem fit_s {pl : Nat} {x b : Int32} (h : 9 ≤ pl ∧ pl ≤ 12) : fitP pl x b ↔ (x = 46 ∨ (0 ≤ x - 48 ∧ x - 48 ≤ 9)) := by
  have e := td_iff (x := x) (lo := 0) (hi := 9) (by decide) (by decide)
  unfold fitP
  rw [if_neg (by omega), if_neg (by omega), if_neg (by omega), if_neg (by omega), if_pos h]
  exact ⟨fun z => z.imp id e.mpr, fun z => z.imp id e.mp⟩
theorem fit_13 {x b : Int32} : fitP 13 x b ↔ x = 46 := by
  unfold fitP
  rw [if_neg (by decide), if_neg (by decide), if_neg (by decide), if_neg (by decide), if_neg (by decide), if_pos rfl]
end
section
/-! The reference: reading a series. -/
def FRt (I I' : mv_I) : Prop := (∀ a, a ≠ 30 → (a < 35 ∨ 39 ≤ a) → I' a = I a) ∧ ∀ b, b ≠ 3 → b ≠ 8 → I' 30 b = I 30 b
def rsA (B : mv_I) (i : Nat) (lv sl bd mo re : Int32) : mv_I := mv_si (mv_si (mv_si (mv_si (mv_si B 35 i lv) 38 (24 * i + 0) sl) 38 (24 * i + 1) bd) 38 (24 * i + 2) mo) 38 (24 * i + 3) re
def rsB (B : mv_I) (i : Nat) (lv : Int32) : mv_I := mv_si (mv_si (mv_si B 38 (24 * i + 9) (-9)) 38 (24 * i + 10) (16 * lv)) 30 8 (B 30 8 + 1)
abbrev rs_cs : Nat → mv_SP := mv_cs [(104, sp_figure), (141, sp_two)]
theorem rs_311 {B : mv_I} {J : mv_J} {K : mv_K} {i : Nat} {lv sl bd mo re : Int32} (hi : i < 5) (fin : K (some (.int 1)) (rsB B i lv) J) : mv_V mv_ow mv_swf mv_t_X7_readSeries rs_cs K 311 [(0, .ref 30), (1, .int (nI i)), (2, .int (nI (24 * i))), (3, .int lv), (4, .int sl), (5, .int bd), (6, .int mo), (7, .int re)] [] B J := by
  have c9 : (nI (24 * i) + 9).toNatClampNeg = 24 * i + 9 := ix (k := 9)
  have c10 : (nI (24 * i) + 10).toNatClampNeg = 24 * i + 10 := ix (k := 10)
  refine mv_run_V (stop := []) 60 _ _ _ _ _ ?_
  refine ⟨rfl, _, rfl, _, rfl, ixin (k := 9) (by omega), rfl, _, rfl, _, rfl, ixin (k := 10) (by omega), rfl, rfl, rfl, Or.inr rfl, ?_⟩
  have e : mv_si (mv_si (mv_si B 38 (nI (24 * i) + 9).toNatClampNeg (-9)) 38 (nI (24 * i) + 10).toNatClampNeg (16 * lv)) 30 8 ((mv_si (mv_si B 38 (nI (24 * i) + 9).toNatClampNeg (-9)) 38 (nI (24 * i) + 10).toNatClampNeg (16 * lv)) 30 8 + 1) = rsB B i lv := by
    rw [c9, c10]
    unfold rsB
    rw [mv_si_ap, if_neg (by omega), mv_si_ap, if_neg (by omega)]
  rw [← e] at fin
  exact fin
theorem rs_264 {B : mv_I} {J : mv_J} {K : mv_K} {i : Nat} {lv sl bd mo re : Int32} (hi : i < 5) (fin : K (some (.int 1)) (rsB (rsA B i lv sl bd mo re) i lv) J) : mv_V mv_ow mv_swf mv_t_X7_readSeries rs_cs K 264 [(0, .ref 30), (1, .int (nI i)), (2, .int (nI (24 * i))), (3, .int lv), (4, .int sl), (5, .int bd), (6, .int mo), (7, .int re)] [] B J := by
  have ci : (nI i).toNatClampNeg = i := nI_clamp (by omega)
  have c0 : (nI (24 * i) + 0).toNatClampNeg = 24 * i + 0 := ix (k := 0)
  have c1 : (nI (24 * i) + 1).toNatClampNeg = 24 * i + 1 := ix (k := 1)
  have c2 : (nI (24 * i) + 2).toNatClampNeg = 24 * i + 2 := ix (k := 2)
  have c3 : (nI (24 * i) + 3).toNatClampNeg = 24 * i + 3 := ix (k := 3)
  have k6 := rs_311 (B := rsA B i lv sl bd mo re) (sl := sl) (bd := bd) (mo := mo) (re := re) hi fin
  refine mv_run_V (stop := [311]) 60 _ _ _ _ _ ?_
  refine ⟨rfl, _, rfl, _, rfl, vp_in_nI hi (by decide), rfl, _, rfl, _, rfl, ixin (k := 0) (by omega), rfl, _, rfl, _, rfl, ixin (k := 1) (by omega), rfl, _, rfl, _, rfl, ixin (k := 2) (by omega), rfl, _, rfl, _, rfl, ixin (k := 3) (by omega), ?_⟩
  have e : rsA B i lv sl bd mo re = mv_si (mv_si (mv_si (mv_si (mv_si B 35 (nI i).toNatClampNeg lv) 38 (nI (24 * i) + 0).toNatClampNeg sl) 38 (nI (24 * i) + 1).toNatClampNeg bd) 38 (nI (24 * i) + 2).toNatClampNeg mo) 38 (nI (24 * i) + 3).toNatClampNeg re := by
    rw [ci, c0, c1, c2, c3]
    rfl
  rw [e] at k6
  exact k6
/-- the season's first k figures are read -/
def SS (I B : mv_I) (i p k : Nat) : Prop := FRt I B ∧ B 35 = I 35 ∧ B 38 = I 38 ∧ B 30 8 = I 30 8 ∧ (∀ j, j ≠ i → B 37 j = I 37 j) ∧ (∀ b, (b < 5 * i ∨ 5 * i + 5 ≤ b) → B 36 b = I 36 b) ∧ B 37 i = nI k ∧ ∀ j, j < k → B 36 (5 * i + j) = I 31 (p + 8 + j) - 48
theorem SS_PL {I B : mv_I} {i p k q : Nat} (h : SS I B i p k) : SS I (PL B q) i p k := by
  obtain ⟨⟨f1, f2⟩, h35, h38, h8, h37, h36, hk, hj⟩ := h
  refine ⟨⟨fun a ha hb => (PL_ne ha).trans (f1 a ha hb), fun b hb hb8 => (PL_30 hb).trans (f2 b hb hb8)⟩, (PL_ne (by decide)).trans h35, (PL_ne (by decide)).trans h38, (PL_30 (by decide)).trans h8, ?_, ?_, ?_, ?_⟩
  · rw [PL_ne (by decide)]; exact h37
  · rw [PL_ne (by decide)]; exact h36
  · rw [PL_ne (by decide)]; exact hk
  · rw [PL_ne (by decide)]; exact hj
theorem rs_227 {I B : mv_I} {J : mv_J} {K : mv_K} {i p n q k : Nat} {lv sl bd mo re x8 : Int32} (hi : i < 5) (hn : n ≤ 80) (h2 : I 30 2 = nI n) (hk1 : 1 ≤ k) (hk5 : k ≤ 5) (hq : q = p + 8 + k) (hqn : q ≤ n) (hS : SS I B i p k) (h3 : B 30 3 = nI q) (hk : k = 5 ∨ ¬ tdP (I 31) n q 0 9) (hff : ffF (I 31) n (n - p) p 0 i = ffF (I 31) n (n - q) q (8 + k) i)
    (fin0 : ∀ I1 q, FRt I I1 → q ≤ n → I1 30 3 = nI q → ffF (I 31) n (n - p) p 0 i = nI q → K (some (.int 0)) I1 J)
    (fin1 : q < n → I 31 q = 46 → ffF (I 31) n (n - p) p 0 i = ffF (I 31) n (n - (q + 1)) (q + 1) 0 (i + 1) → mv_V mv_ow mv_swf mv_t_X7_readSeries rs_cs K 264 [(0, .ref 30), (1, .int (nI i)), (2, .int (nI (24 * i))), (3, .int lv), (4, .int sl), (5, .int bd), (6, .int mo), (7, .int re)] [] (PL B (q + 1)) J) : mv_V mv_ow mv_swf mv_t_X7_readSeries rs_cs K 227 [(0, .ref 30), (1, .int (nI i)), (2, .int (nI (24 * i))), (3, .int lv), (4, .int sl), (5, .int bd), (6, .int mo), (7, .int re), (8, .int x8)] [] B J := by
  have cq : (nI q).toNatClampNeg = q := nI_clamp (by omega)
  have hB2 : B 30 2 = nI n := (hS.1.2 2 (by decide) (by decide)).trans h2
  have hB31 : B 31 = I 31 := hS.1.1 31 (by decide) (by decide)
  have nofit : q < n → ¬ I 31 q = 46 → ¬ fitP (8 + k) (I 31 q) (I 31 (q - 1)) := by
    intro hlt h46 hf
    rcases Nat.lt_or_ge k 5 with h5 | h5
    · rcases hk with h | h
      · omega
      · rcases (fit_s (by omega)).mp hf with z | z
        · exact h46 z
        · exact h ⟨hlt, z⟩
    · have : k = 5 := by omega
      subst this
      exact h46 (fit_13.mp hf)
  refine mv_run_V (stop := [264]) 60 _ _ _ _ _ ?_
  refine ⟨rfl, rfl, fun h4 => ?_, fun h4 => ?_⟩
  · rw [h3, hB2] at h4
    have h4 := (nI_eq (by omega) (by omega)).mp h4
    refine ⟨Or.inl rfl, fin0 _ q hS.1 hqn h3 ?_⟩
    rw [hff]
    exact ff_fail hqn (Or.inl (by omega)) (fun z => by omega)
  · rw [h3, hB2] at h4
    have h4 : q < n := by
      have : q ≠ n := fun z => h4 (by rw [z])
      omega
    refine ⟨rfl, _, rfl, rfl, _, rfl, (by rw [h3]; exact vp_in_nI (by omega) (by decide)), ?_⟩
    rw [h3, cq, hB31]
    refine ⟨fun h5 => ?_, fun h5 => ?_⟩
    · refine ⟨rfl, rfl, rfl, ?_⟩
      have hfit : fitP (8 + k) (I 31 q) (I 31 (q - 1)) := by
        rcases Nat.lt_or_ge k 5 with h6 | h6
        · exact (fit_s (by omega)).mpr (Or.inl h5)
        · have : k = 5 := by omega
          subst this
          exact fit_13.mpr h5
      have k6 := fin1 h4 h5 (by rw [hff]; exact ff_dot h4 (by omega) hfit h5)
      have e : PL B (q + 1) = mv_si B 30 3 (B 30 3 + 1) := by
        unfold PL
        rw [h3, nI_1]
      rw [e] at k6
      exact mv_keep [0, 1, 2, 3, 4, 5, 6, 7] k6
    · refine ⟨Or.inl rfl, fin0 _ q hS.1 hqn h3 ?_⟩
      rw [hff]
      exact ff_fail hqn (Or.inl (by omega)) (fun z => Or.inr (nofit z h5))
theorem e5 (s : Nat) : nI 5 * nI s = nI (5 * s) := (Int32.ofNat_mul 5 s).symm
theorem SS_put {I B : mv_I} {i p k : Nat} (h : SS I B i p k) (hk : k < 5) : SS I (mv_si (mv_si B 36 (5 * i + k) (I 31 (p + 8 + k) - 48)) 37 i (nI (k + 1))) i p (k + 1) := by
  obtain ⟨⟨f1, f2⟩, h35, h38, h8, h37, h36, hk0, hj⟩ := h
  refine ⟨⟨fun a ha hb => ?_, fun b hb hb8 => ?_⟩, ?_, ?_, ?_, fun j hji => ?_, fun b hb => ?_, ?_, fun j hjk => ?_⟩
  · rw [mv_si_ne (by omega), mv_si_ne (by omega)]; exact f1 a ha hb
  · rw [mv_si_ne (by decide), mv_si_ne (by decide)]; exact f2 b hb hb8
  · rw [mv_si_ne (by decide), mv_si_ne (by decide)]; exact h35
  · rw [mv_si_ne (by decide), mv_si_ne (by decide)]; exact h38
  · rw [mv_si_ne (by decide), mv_si_ne (by decide)]; exact h8
  · rw [mv_si_ap, if_neg (fun z => hji z.2), mv_si_ne (by decide)]; exact h37 j hji
  · rw [mv_si_ne (by decide), mv_si_ap, if_neg (fun z => by omega)]; exact h36 b hb
  · rw [mv_si_ap, if_pos ⟨rfl, rfl⟩]
  · rw [mv_si_ne (by decide), mv_si_ap]
    by_cases e : j = k
    · rw [if_pos ⟨rfl, by omega⟩, e]
    · rw [if_neg (fun z => by omega)]; exact hj j (by omega)
theorem rs_166 {I : mv_I} {J : mv_J} {K : mv_K} {i p n : Nat} {lv sl bd mo re : Int32} (hi : i < 5) (hn : n ≤ 80) (h2 : I 30 2 = nI n)
    (ex : ∀ (B : mv_I) (k : Nat) (x8 : Int32), 1 ≤ k → k ≤ 5 → SS I B i p k → p + 8 + k ≤ n → B 30 3 = nI (p + 8 + k) → (k = 5 ∨ ¬ tdP (I 31) n (p + 8 + k) 0 9) → ffF (I 31) n (n - p) p 0 i = ffF (I 31) n (n - (p + 8 + k)) (p + 8 + k) (8 + k) i → (∀ j, j < k → tdP (I 31) n (p + 8 + j) 0 9) → mv_V mv_ow mv_swf mv_t_X7_readSeries rs_cs K 227 [(0, .ref 30), (1, .int (nI i)), (2, .int (nI (24 * i))), (3, .int lv), (4, .int sl), (5, .int bd), (6, .int mo), (7, .int re), (8, .int x8)] [] B J) : ∀ r k : Nat, k + r = 4 → ∀ B, SS I B i p k → B 30 3 = nI (p + 9 + k) → tdP (I 31) n (p + 8 + k) 0 9 → (∀ j, j < k → tdP (I 31) n (p + 8 + j) 0 9) → ffF (I 31) n (n - p) p 0 i = ffF (I 31) n (n - (p + 9 + k)) (p + 9 + k) (9 + k) i → mv_V mv_ow mv_swf mv_t_X7_readSeries rs_cs K 166 [(0, .ref 30), (1, .int (nI i)), (2, .int (nI (24 * i))), (3, .int lv), (4, .int sl), (5, .int bd), (6, .int mo), (7, .int re), (8, .int (I 31 (p + 8 + k) - 48))] [] B J := by
  have ci : (nI i).toNatClampNeg = i := nI_clamp (by omega)
  have nend : ∀ B, mv_V mv_ow mv_swf mv_t_X7_readSeries rs_cs K 227 [(0, .ref 30), (1, .int (nI i)), (2, .int (nI (24 * i))), (3, .int lv), (4, .int sl), (5, .int bd), (6, .int mo), (7, .int re), (8, .int (-9))] [] B J → mv_V mv_ow mv_swf mv_t_X7_readSeries rs_cs K 166 [(0, .ref 30), (1, .int (nI i)), (2, .int (nI (24 * i))), (3, .int lv), (4, .int sl), (5, .int bd), (6, .int mo), (7, .int re), (8, .int (-9))] [] B J := by
    intro B hB
    refine mv_run_V (stop := [227]) 20 _ _ _ _ _ ?_
    exact ⟨fun _ => hB, fun z => absurd rfl z⟩
  intro r
  induction r with
  | zero =>
    intro k hk B hS h3 ht hall hff
    have hk : k = 4 := hk
    subst hk
    have hb : ∀ j, j < 4 + 1 → tdP (I 31) n (p + 8 + j) 0 9 := fun j hj => by
      by_cases e : j = 4
      · rw [e]; exact ht
      · exact hall j (by omega)
    have h37 : B 37 (nI i).toNatClampNeg = nI 4 := by rw [ci]; exact hS.2.2.2.2.2.2.1
    have e36 : nI 5 * nI i + B 37 (nI i).toNatClampNeg = nI (5 * i + 4) := by rw [h37, e5, nI_add]
    have c36 : (nI 5 * nI i + B 37 (nI i).toNatClampNeg).toNatClampNeg = 5 * i + 4 := by rw [e36]; exact nI_clamp (by omega)
    have k200 : mv_V mv_ow mv_swf mv_t_X7_readSeries rs_cs K 200 [(0, .ref 30), (1, .int (nI i)), (2, .int (nI (24 * i))), (3, .int lv), (4, .int sl), (5, .int bd), (6, .int mo), (7, .int re), (8, .int (I 31 (p + 8 + 4) - 48))] [] (mv_si (mv_si B 36 (5 * i + 4) (I 31 (p + 8 + 4) - 48)) 37 i (nI (4 + 1))) J := by
      refine mv_run_V (stop := [166]) 40 _ _ _ _ _ ?_
      refine ⟨rfl, _, rfl, _, rfl, vp_in_nI hi (by decide), ?_⟩
      rw [ci, mv_si_ap, if_pos ⟨rfl, rfl⟩]
      refine ⟨fun _ => ?_, fun z => absurd z (by decide)⟩
      refine nend _ ?_
      have hl := ht.1
      exact ex _ 5 _ (by decide) (by decide) (SS_put hS (by decide)) (by omega) (by rw [mv_si_ne (by decide), mv_si_ne (by decide)]; exact h3) (Or.inl rfl) hff hb
    refine mv_run_V (stop := [166, 200, 227]) 60 _ _ _ _ _ ?_
    refine ⟨fun z => absurd z (td_0 (by decide) ht), fun _ => ?_⟩
    refine ⟨rfl, _, rfl, rfl, _, rfl, _, rfl, vp_in_nI hi (by decide), _, rfl, (by rw [show (5 : Int32) * nI i + B 37 (nI i).toNatClampNeg = nI (5 * i + 4) from e36]; exact vp_in_nI (by omega) (by decide)), rfl, _, rfl, _, rfl, vp_in_nI hi (by decide), _, rfl, vp_in_nI hi (by decide), ?_⟩
    have e : mv_si (mv_si B 36 (nI 5 * nI i + B 37 (nI i).toNatClampNeg).toNatClampNeg (I 31 (p + 8 + 4) - 48)) 37 (nI i).toNatClampNeg ((mv_si B 36 (nI 5 * nI i + B 37 (nI i).toNatClampNeg).toNatClampNeg (I 31 (p + 8 + 4) - 48)) 37 (nI i).toNatClampNeg + 1) = mv_si (mv_si B 36 (5 * i + 4) (I 31 (p + 8 + 4) - 48)) 37 i (nI (4 + 1)) := by
      rw [c36, mv_si_ne (by decide), h37, ci]
      rfl
    rw [← e] at k200
    exact k200
  | succ r ih =>
    intro k hk B hS h3 ht hall hff
    have hb : ∀ j, j < k + 1 → tdP (I 31) n (p + 8 + j) 0 9 := fun j hj => by
      by_cases e : j = k
      · rw [e]; exact ht
      · exact hall j (by omega)
    have h37 : B 37 (nI i).toNatClampNeg = nI k := by rw [ci]; exact hS.2.2.2.2.2.2.1
    have e36 : nI 5 * nI i + B 37 (nI i).toNatClampNeg = nI (5 * i + k) := by rw [h37, e5, nI_add]
    have c36 : (nI 5 * nI i + B 37 (nI i).toNatClampNeg).toNatClampNeg = 5 * i + k := by rw [e36]; exact nI_clamp (by omega)
    have hl := ht.1
    have k200 : ∀ B', SS I B' i p (k + 1) → B' 30 3 = nI (p + 9 + k) → mv_V mv_ow mv_swf mv_t_X7_readSeries rs_cs K 200 [(0, .ref 30), (1, .int (nI i)), (2, .int (nI (24 * i))), (3, .int lv), (4, .int sl), (5, .int bd), (6, .int mo), (7, .int re), (8, .int (I 31 (p + 8 + k) - 48))] [] B' J := by
      intro B' hS' h3'
      have hB2 : B' 30 2 = nI n := (hS'.1.2 2 (by decide) (by decide)).trans h2
      have hB31 : B' 31 = I 31 := hS'.1.1 31 (by decide) (by decide)
      have hB37 : B' 37 (nI i).toNatClampNeg = nI (k + 1) := by rw [ci]; exact hS'.2.2.2.2.2.2.1
      refine mv_run_V (stop := [166]) 40 _ _ _ _ _ ?_
      refine ⟨rfl, _, rfl, _, rfl, vp_in_nI hi (by decide), ?_⟩
      rw [hB37]
      refine ⟨fun z => ?_, fun _ => ?_⟩
      · have z : ¬ nI (k + 1) < nI 5 := z
        exact absurd (nI_lt (by omega) (by decide)) z
      · refine ⟨rfl, rfl, ⟨⟨p + 9 + k, n, by omega, hn, h3', hB2⟩, 0, 9, by decide, rfl⟩, fun r1 I1 J1 hp1 => ?_⟩
        obtain ⟨rfl, hq⟩ := hp1
        have hq := hq (p + 9 + k) n 0 9 (by omega) hn h3' hB2 rfl
        rw [hB31] at hq
        by_cases ht2 : tdP (I 31) n (p + 9 + k) 0 9
        · rw [if_pos ht2] at hq
          obtain ⟨rfl, rfl⟩ := hq
          have hl2 := ht2.1
          have e8 : p + 8 + (k + 1) = p + 9 + k := by omega
          have k6 := ih (k + 1) (by omega) (PL B' (p + 9 + k + 1)) (SS_PL hS') (by rw [PL_3, show p + 9 + k + 1 = p + 9 + (k + 1) by omega]) (by rw [e8]; exact ht2) hb (by
            have q := ff_step (T := I 31) (n := n) (pl := 9 + k) (co := i) hl2 (by omega) ((fit_s (by omega)).mpr (Or.inr ht2.2)) (fit_n46 (by decide) ht2)
            rw [hff, q, show p + 9 + k + 1 = p + 9 + (k + 1) by omega, show 9 + k + 1 = 9 + (k + 1) by omega])
          rw [e8] at k6
          exact k6
        · rw [if_neg ht2] at hq
          obtain ⟨rfl, rfl⟩ := hq
          refine nend _ ?_
          have e8 : p + 8 + (k + 1) = p + 9 + k := by omega
          have e9 : 8 + (k + 1) = 9 + k := by omega
          exact ex _ (k + 1) _ (by omega) (by omega) hS' (by omega) (by rw [e8]; exact h3') (Or.inr (by rw [e8]; exact ht2)) (by rw [e8, e9]; exact hff) hb
    have k6 := k200 _ (SS_put hS (by omega)) (by rw [mv_si_ne (by decide), mv_si_ne (by decide)]; exact h3)
    refine mv_run_V (stop := [166, 200, 227]) 60 _ _ _ _ _ ?_
    refine ⟨fun z => absurd z (td_0 (by decide) ht), fun _ => ?_⟩
    refine ⟨rfl, _, rfl, rfl, _, rfl, _, rfl, vp_in_nI hi (by decide), _, rfl, (by rw [show (5 : Int32) * nI i + B 37 (nI i).toNatClampNeg = nI (5 * i + k) from e36]; exact vp_in_nI (by omega) (by decide)), rfl, _, rfl, _, rfl, vp_in_nI hi (by decide), _, rfl, vp_in_nI hi (by decide), ?_⟩
    have e : mv_si (mv_si B 36 (nI 5 * nI i + B 37 (nI i).toNatClampNeg).toNatClampNeg (I 31 (p + 8 + k) - 48)) 37 (nI i).toNatClampNeg ((mv_si B 36 (nI 5 * nI i + B 37 (nI i).toNatClampNeg).toNatClampNeg (I 31 (p + 8 + k) - 48)) 37 (nI i).toNatClampNeg + 1) = mv_si (mv_si B 36 (5 * i + k) (I 31 (p + 8 + k) - 48)) 37 i (nI (k + 1)) := by
      rw [c36, mv_si_ne (by decide), h37, ci, nI_1]
    rw [← e] at k6
    exact k6
end
section
/-! The reference: reading a series, the contract. -/
theorem slN_is {T : Nat → Int32} {n st L : Nat} (h1 : ∀ j, j < L → st + j < n ∧ ¬ T (st + j) = 46) (h2 : stN T n (st + L)) : ∀ r k : Nat, k ≤ L → L ≤ k + r → slN T n st r k = L := by
  intro r
  induction r with
  | zero =>
    intro k hk hL
    rw [slN]
    omega
  | succ r ih =>
    intro k hk hL
    rw [slN]
    by_cases e : k = L
    · rw [e, if_pos h2]
    · have h := h1 k (by omega)
      rw [if_neg (fun z => z.elim (fun z => z h.1) h.2)]
      exact ih (k + 1) (by omega) (by omega)
/-- others than the series s are as they were -/
def FRs (I I' : mv_I) (s : Nat) : Prop := (∀ j, j ≠ s → I' 35 j = I 35 j ∧ I' 37 j = I 37 j) ∧ (∀ b, (b < 5 * s ∨ 5 * s + 5 ≤ b) → I' 36 b = I 36 b) ∧ (∀ b, (b < 24 * s ∨ 24 * s + 24 ≤ b) → I' 38 b = I 38 b) ∧ ∀ k, (4 ≤ k ∧ k < 9) ∨ (11 ≤ k ∧ k < 24) → I' 38 (24 * s + k) = I 38 (24 * s + k)
/-- what is read of the series s, whose c stands at p -/
def RS (I' : mv_I) (T : Nat → Int32) (n s p : Nat) : Prop := (∃ L : Nat, 1 ≤ L ∧ L ≤ 5 ∧ slN T n (p + 8) 5 0 = L ∧ I' 37 s = nI L ∧ ∀ j, j < L → I' 36 (5 * s + j) = dgN T n (p + 8 + j)) ∧
  I' 35 s = 10 * dgN T n (p + 1) + dgN T n (p + 2) ∧ I' 38 (24 * s + 0) = dgN T n (p + 3) ∧ I' 38 (24 * s + 1) = 10 * dgN T n (p + 4) + dgN T n (p + 5) ∧ I' 38 (24 * s + 2) = dgN T n (p + 6) ∧ I' 38 (24 * s + 3) = dgN T n (p + 7) ∧ I' 38 (24 * s + 9) = -9 ∧ I' 38 (24 * s + 10) = 16 * (10 * dgN T n (p + 1) + dgN T n (p + 2)) ∧
  (∃ x : Nat, x ≤ 9 ∧ dgN T n (p + 3) = nI x) ∧ ∃ y : Nat, 1 ≤ y ∧ y ≤ 99 ∧ 10 * dgN T n (p + 4) + dgN T n (p + 5) = nI y
theorem RS_final {I B : mv_I} {T : Nat → Int32} {n i p L : Nat} (hT : I 31 = T) (hi : i < 5) (hL1 : 1 ≤ L) (hL5 : L ≤ 5) (hS : SS I B i p L) (hqn : p + 8 + L < n) (h46 : T (p + 8 + L) = 46) (hall : ∀ j, j < L → tdP T n (p + 8 + j) 0 9)
    (t3 : tdP T n (p + 3) 0 9) (t4 : tdP T n (p + 4) 0 9) (t5 : tdP T n (p + 5) (if T (p + 4) - 48 = 0 then 1 else 0) 9) :
    slN T n (p + 8) 5 0 = L ∧ FRt I (rsB (rsA (PL B (p + 8 + L + 1)) i (10 * (T (p + 1) - 48) + (T (p + 2) - 48)) (T (p + 3) - 48) (10 * (T (p + 4) - 48) + (T (p + 5) - 48)) (T (p + 6) - 48) (T (p + 7) - 48)) i (10 * (T (p + 1) - 48) + (T (p + 2) - 48))) ∧
    FRs I (rsB (rsA (PL B (p + 8 + L + 1)) i (10 * (T (p + 1) - 48) + (T (p + 2) - 48)) (T (p + 3) - 48) (10 * (T (p + 4) - 48) + (T (p + 5) - 48)) (T (p + 6) - 48) (T (p + 7) - 48)) i (10 * (T (p + 1) - 48) + (T (p + 2) - 48))) i ∧
    RS (rsB (rsA (PL B (p + 8 + L + 1)) i (10 * (T (p + 1) - 48) + (T (p + 2) - 48)) (T (p + 3) - 48) (10 * (T (p + 4) - 48) + (T (p + 5) - 48)) (T (p + 6) - 48) (T (p + 7) - 48)) i (10 * (T (p + 1) - 48) + (T (p + 2) - 48))) T n i p ∧
    (rsB (rsA (PL B (p + 8 + L + 1)) i (10 * (T (p + 1) - 48) + (T (p + 2) - 48)) (T (p + 3) - 48) (10 * (T (p + 4) - 48) + (T (p + 5) - 48)) (T (p + 6) - 48) (T (p + 7) - 48)) i (10 * (T (p + 1) - 48) + (T (p + 2) - 48))) 30 3 = nI (p + 8 + L + 1) ∧
    (rsB (rsA (PL B (p + 8 + L + 1)) i (10 * (T (p + 1) - 48) + (T (p + 2) - 48)) (T (p + 3) - 48) (10 * (T (p + 4) - 48) + (T (p + 5) - 48)) (T (p + 6) - 48) (T (p + 7) - 48)) i (10 * (T (p + 1) - 48) + (T (p + 2) - 48))) 30 8 = B 30 8 + 1 := by
  have hsl : slN T n (p + 8) 5 0 = L := slN_is (fun j hj => ⟨(hall j hj).1, fit_n46 (by decide) (hall j hj)⟩) (Or.inr h46) 5 0 (Nat.zero_le _) (by omega)
  obtain ⟨⟨f1, f2⟩, h35, h38, h8, h37, h36, hk, hj⟩ := hS
  have dg : ∀ a, a < n → dgN T n a = T a - 48 := fun a ha => by unfold dgN; rw [if_pos ha]
  generalize hlv : (10 * (T (p + 1) - 48) + (T (p + 2) - 48)) = lv
  generalize hsl2 : T (p + 3) - 48 = sl
  generalize hbd : (10 * (T (p + 4) - 48) + (T (p + 5) - 48)) = bd
  generalize hmo : T (p + 6) - 48 = mo
  generalize hre : T (p + 7) - 48 = re
  have v : ∀ a b, rsB (rsA (PL B (p + 8 + L + 1)) i lv sl bd mo re) i lv a b = if a = 30 ∧ b = 8 then B 30 8 + 1 else if a = 38 ∧ b = 24 * i + 10 then 16 * lv else if a = 38 ∧ b = 24 * i + 9 then -9 else if a = 38 ∧ b = 24 * i + 3 then re else if a = 38 ∧ b = 24 * i + 2 then mo else if a = 38 ∧ b = 24 * i + 1 then bd else if a = 38 ∧ b = 24 * i + 0 then sl else if a = 35 ∧ b = i then lv else if a = 30 ∧ b = 3 then nI (p + 8 + L + 1) else B a b := by
    intro a b
    unfold rsB rsA PL
    simp only [mv_si_ap]
    by_cases q : a = 30 ∧ b = 8
    · rw [if_pos q, if_pos q]
      simp
    · rw [if_neg q, if_neg q]
  refine ⟨hsl, ⟨fun a ha hb => ?_, fun b hb hb8 => ?_⟩, ⟨fun j hji => ⟨?_, ?_⟩, fun b hb => ?_, fun b hb => ?_, fun k hk2 => ?_⟩, ⟨⟨L, hL1, hL5, hsl, ?_, fun j hjL => ?_⟩, ?_, ?_, ?_, ?_, ?_, ?_, ?_, ?_, ?_⟩, ?_, ?_⟩
  · funext b
    rw [v, if_neg (by omega), if_neg (by omega), if_neg (by omega), if_neg (by omega), if_neg (by omega), if_neg (by omega), if_neg (by omega), if_neg (by omega), if_neg (by omega)]
    exact congrFun (f1 a ha hb) b
  · rw [v, if_neg (by omega), if_neg (by omega), if_neg (by omega), if_neg (by omega), if_neg (by omega), if_neg (by omega), if_neg (by omega), if_neg (by omega), if_neg (by omega)]
    exact f2 b hb hb8
  · rw [v, if_neg (by omega), if_neg (by omega), if_neg (by omega), if_neg (by omega), if_neg (by omega), if_neg (by omega), if_neg (by omega), if_neg (by omega), if_neg (by omega), h35]
  · rw [v, if_neg (by omega), if_neg (by omega), if_neg (by omega), if_neg (by omega), if_neg (by omega), if_neg (by omega), if_neg (by omega), if_neg (by omega), if_neg (by omega)]
    exact h37 j hji
  · rw [v, if_neg (by omega), if_neg (by omega), if_neg (by omega), if_neg (by omega), if_neg (by omega), if_neg (by omega), if_neg (by omega), if_neg (by omega), if_neg (by omega)]
    exact h36 b hb
  · rw [v, if_neg (by omega), if_neg (by omega), if_neg (by omega), if_neg (by omega), if_neg (by omega), if_neg (by omega), if_neg (by omega), if_neg (by omega), if_neg (by omega), h38]
  · rw [v, if_neg (by omega), if_neg (by omega), if_neg (by omega), if_neg (by omega), if_neg (by omega), if_neg (by omega), if_neg (by omega), if_neg (by omega), if_neg (by omega), h38]
  · rw [v, if_neg (by omega), if_neg (by omega), if_neg (by omega), if_neg (by omega), if_neg (by omega), if_neg (by omega), if_neg (by omega), if_neg (by omega), if_neg (by omega)]
    exact hk
  · rw [v, if_neg (by omega), if_neg (by omega), if_neg (by omega), if_neg (by omega), if_neg (by omega), if_neg (by omega), if_neg (by omega), if_neg (by omega), if_neg (by omega), hj j hjL, hT, dg _ (hall j hjL).1]
  · rw [v, if_neg (by omega), if_neg (by omega), if_neg (by omega), if_neg (by omega), if_neg (by omega), if_neg (by omega), if_neg (by omega), if_pos ⟨rfl, rfl⟩, dg _ (by omega), dg _ (by omega), hlv]
  · rw [v, if_neg (by omega), if_neg (by omega), if_neg (by omega), if_neg (by omega), if_neg (by omega), if_neg (by omega), if_pos ⟨rfl, rfl⟩, dg _ (by omega), hsl2]
  · rw [v, if_neg (by omega), if_neg (by omega), if_neg (by omega), if_neg (by omega), if_neg (by omega), if_pos ⟨rfl, rfl⟩, dg _ (by omega), dg _ (by omega), hbd]
  · rw [v, if_neg (by omega), if_neg (by omega), if_neg (by omega), if_neg (by omega), if_pos ⟨rfl, rfl⟩, dg _ (by omega), hmo]
  · rw [v, if_neg (by omega), if_neg (by omega), if_neg (by omega), if_pos ⟨rfl, rfl⟩, dg _ (by omega), hre]
  · rw [v, if_neg (by omega), if_neg (by omega), if_pos ⟨rfl, rfl⟩]
  · rw [v, if_neg (by omega), if_pos ⟨rfl, rfl⟩, dg _ (by omega), dg _ (by omega), hlv]
  · obtain ⟨d, hd, e⟩ := td_nat (M := 9) (by decide) (by decide) t3
    exact ⟨d, hd, by rw [dg _ t3.1, e]⟩
  · obtain ⟨d, hd, e⟩ := td_nat (M := 9) (by decide) (by decide) t4
    have t50 : tdP T n (p + 5) 0 9 := by
      refine ⟨t5.1, ?_, t5.2.2⟩
      have := t5.2.1
      split at this
      · exact Int32.le_trans (by decide) this
      · exact this
    obtain ⟨d2, hd2, e2⟩ := td_nat (M := 9) (by decide) (by decide) t50
    refine ⟨10 * d + d2, ?_, by omega, ?_⟩
    · rcases Nat.eq_zero_or_pos d with z | z
      · have h1 := t5.2.1
        rw [e, z, nI_0, if_pos rfl, e2] at h1
        have := (nI_leI (a := 1) (by decide) (by omega)).mp h1
        omega
      · omega
    · rw [dg _ t4.1, dg _ t5.1, e, e2, ← nI_add]
      congr 1
      exact (Int32.ofNat_mul 10 d).symm
  · rw [v, if_neg (by omega), if_neg (by omega), if_neg (by omega), if_neg (by omega), if_neg (by omega), if_neg (by omega), if_neg (by omega), if_neg (by omega), if_pos ⟨rfl, rfl⟩]
  · rw [v, if_pos ⟨rfl, rfl⟩]
/-! once a figure is wanting, the rest is passed over -/
theorem rs_f150 {B : mv_I} {J : mv_J} {K : mv_K} (hK : K (some (.int 0)) B J) : mv_V mv_ow mv_swf mv_t_X7_readSeries rs_cs K 150 [(0, .ref 30), (8, .int (-9))] [] B J := by
  refine mv_run_V (stop := []) 20 _ _ _ _ _ ?_
  exact ⟨fun z => absurd rfl z, fun _ => ⟨Or.inl rfl, hK⟩⟩
theorem rs_f129 {B : mv_I} {J : mv_J} {K : mv_K} (hK : K (some (.int 0)) B J) : mv_V mv_ow mv_swf mv_t_X7_readSeries rs_cs K 129 [(0, .ref 30), (7, .int (-9))] [] B J := by
  refine mv_run_V (stop := [150]) 20 _ _ _ _ _ ?_
  exact ⟨fun z => absurd rfl z, fun _ => mv_keep [0, 8] (rs_f150 hK)⟩
theorem rs_f109 {B : mv_I} {J : mv_J} {K : mv_K} (hK : K (some (.int 0)) B J) : mv_V mv_ow mv_swf mv_t_X7_readSeries rs_cs K 109 [(0, .ref 30), (6, .int (-9))] [] B J := by
  refine mv_run_V (stop := [129]) 20 _ _ _ _ _ ?_
  exact ⟨fun z => absurd rfl z, fun _ => mv_keep [0, 7] (rs_f129 hK)⟩
theorem rs_f89 {B : mv_I} {J : mv_J} {K : mv_K} (hK : K (some (.int 0)) B J) : mv_V mv_ow mv_swf mv_t_X7_readSeries rs_cs K 89 [(0, .ref 30), (5, .int (-9))] [] B J := by
  refine mv_run_V (stop := [109]) 20 _ _ _ _ _ ?_
  exact ⟨fun z => absurd rfl z, fun _ => mv_keep [0, 6] (rs_f109 hK)⟩
theorem rs_f70 {B : mv_I} {J : mv_J} {K : mv_K} (hK : K (some (.int 0)) B J) : mv_V mv_ow mv_swf mv_t_X7_readSeries rs_cs K 70 [(0, .ref 30), (4, .int (-9))] [] B J := by
  refine mv_run_V (stop := [89]) 20 _ _ _ _ _ ?_
  exact ⟨fun z => absurd rfl z, fun _ => mv_keep [0, 5] (rs_f89 hK)⟩
theorem rs_f50 {B : mv_I} {J : mv_J} {K : mv_K} (hK : K (some (.int 0)) B J) : mv_V mv_ow mv_swf mv_t_X7_readSeries rs_cs K 50 [(0, .ref 30), (3, .int (-9))] [] B J := by
  refine mv_run_V (stop := [70]) 20 _ _ _ _ _ ?_
  exact ⟨fun z => absurd rfl z, fun _ => mv_keep [0, 4] (rs_f70 hK)⟩
theorem rs_129 {I : mv_I} {J : mv_J} {K : mv_K} {i p n : Nat} {lv sl bd mo re : Int32} (hi : i < 5) (hn : n ≤ 80) (h2 : I 30 2 = nI n) (h8 : I 30 8 = nI i) (hpn : p + 8 ≤ n)
    (fin0 : ∀ I1 q, FRt I I1 → q ≤ n → I1 30 3 = nI q → ffF (I 31) n (n - p) p 0 i = nI q → K (some (.int 0)) I1 J)
    (fin1 : ∀ (B : mv_I) (L : Nat), 1 ≤ L → L ≤ 5 → SS I B i p L → p + 8 + L < n → I 31 (p + 8 + L) = 46 → (∀ j, j < L → tdP (I 31) n (p + 8 + j) 0 9) → ffF (I 31) n (n - p) p 0 i = ffF (I 31) n (n - (p + 8 + L + 1)) (p + 8 + L + 1) 0 (i + 1) → mv_V mv_ow mv_swf mv_t_X7_readSeries rs_cs K 264 [(0, .ref 30), (1, .int (nI i)), (2, .int (nI (24 * i))), (3, .int lv), (4, .int sl), (5, .int bd), (6, .int mo), (7, .int re)] [] (PL B (p + 8 + L + 1)) J)
    (hre : ¬ re = -9) (hff : ffF (I 31) n (n - p) p 0 i = ffF (I 31) n (n - (p + 8)) (p + 8) 8 i) : mv_V mv_ow mv_swf mv_t_X7_readSeries rs_cs K 129 [(0, .ref 30), (1, .int (nI i)), (2, .int (nI (24 * i))), (3, .int lv), (4, .int sl), (5, .int bd), (6, .int mo), (7, .int re)] [] (PL I (p + 8)) J := by
  have ci : (nI i).toNatClampNeg = i := nI_clamp (by omega)
  have e31 : PL I (p + 8) 31 = I 31 := PL_ne (by decide)
  have frP : ∀ q, FRt I (PL I q) := fun q => ⟨fun a ha _ => PL_ne ha, fun b hb _ => PL_30 hb⟩
  have k150 : tdP (I 31) n (p + 8) 0 9 → mv_V mv_ow mv_swf mv_t_X7_readSeries rs_cs K 150 [(0, .ref 30), (1, .int (nI i)), (2, .int (nI (24 * i))), (3, .int lv), (4, .int sl), (5, .int bd), (6, .int mo), (7, .int re), (8, .int (I 31 (p + 8) - 48))] [] (PL I (p + 8 + 1)) J := by
    intro ht
    have hS : SS I (mv_si (PL I (p + 8 + 1)) 37 i 0) i p 0 := by
      refine ⟨⟨fun a ha hb => ?_, fun b hb hb8 => ?_⟩, ?_, ?_, ?_, fun j hji => ?_, fun b hb => ?_, ?_, fun j hj => absurd hj (Nat.not_lt_zero j)⟩
      · rw [mv_si_ne (by omega)]; exact PL_ne ha
      · rw [mv_si_ne (by decide)]; exact PL_30 hb
      · rw [mv_si_ne (by decide)]; exact PL_ne (by decide)
      · rw [mv_si_ne (by decide)]; exact PL_ne (by decide)
      · rw [mv_si_ne (by decide)]; exact PL_30 (by decide)
      · rw [mv_si_ap, if_neg (fun z => hji z.2)]; exact congrFun (PL_ne (by decide)) j
      · rw [mv_si_ne (by decide)]; exact congrFun (PL_ne (by decide)) b
      · rw [mv_si_ap, if_pos ⟨rfl, rfl⟩]; rfl
    have q := ff_step (T := I 31) (n := n) (pl := 8) (co := i) ht.1 (by omega) ((fit_def (Or.inr rfl)).mpr ht.2) (fit_n46 (by decide) ht)
    have k6 := rs_166 (I := I) (J := J) (K := K) (lv := lv) (sl := sl) (bd := bd) (mo := mo) (re := re) hi hn h2 (fun B k x8 hk1 hk5 hSk hle h3 hor hffk hall => rs_227 hi hn h2 hk1 hk5 rfl hle hSk h3 hor hffk fin0 (fun hlt h46 hff3 => fin1 B k hk1 hk5 hSk hlt h46 hall hff3)) 4 0 rfl (mv_si (PL I (p + 8 + 1)) 37 i 0) hS (by rw [mv_si_ne (by decide)]; exact PL_3) ht (fun j hj => absurd hj (Nat.not_lt_zero j)) (by rw [hff, q])
    refine mv_run_V (stop := [166]) 40 _ _ _ _ _ ?_
    refine ⟨fun _ => ?_, fun z => absurd z (td_0 (by decide) ht)⟩
    refine ⟨rfl, _, rfl, _, rfl, vp_in_nI hi (by decide), ?_⟩
    rw [ci]
    exact k6
  refine mv_run_V (stop := [150]) 40 _ _ _ _ _ ?_
  refine ⟨fun _ => ?_, fun z => absurd z hre⟩
  refine ⟨rfl, rfl, ⟨⟨p + 8, n, hpn, hn, PL_3, (PL_30 (by decide)).trans h2⟩, 0, 9, by decide, rfl⟩, fun r1 I1 J1 hp1 => ?_⟩
  obtain ⟨rfl, hq⟩ := hp1
  have hq := hq (p + 8) n 0 9 hpn hn PL_3 ((PL_30 (by decide)).trans h2) rfl
  rw [e31] at hq
  by_cases ht : tdP (I 31) n (p + 8) 0 9
  · rw [if_pos ht] at hq
    obtain ⟨rfl, hI⟩ := hq
    have hI : I1 = PL I (p + 8 + 1) := hI.trans PL_PL
    subst hI
    exact k150 ht
  · rw [if_neg ht] at hq
    obtain ⟨rfl, rfl⟩ := hq
    refine mv_keep [0, 8] (rs_f150 (fin0 _ (p + 8) (frP _) hpn PL_3 ?_))
    rw [hff]
    exact ff_fail hpn (Or.inl (by decide)) (fun z => Or.inr (fun hf => ht ⟨z, (fit_def (Or.inr rfl)).mp hf⟩))
end
section
/-! The reference: reading a series, figure by figure. -/
theorem rs_109 {I : mv_I} {J : mv_J} {K : mv_K} {i p n : Nat} {lv sl bd mo : Int32} (hi : i < 5) (hn : n ≤ 80) (h2 : I 30 2 = nI n)
    (fin0 : ∀ I1 q, FRt I I1 → q ≤ n → I1 30 3 = nI q → ffF (I 31) n (n - p) p 0 i = nI q → K (some (.int 0)) I1 J)
    (nxt : tdP (I 31) n (p + 7) 0 1 → ffF (I 31) n (n - p) p 0 i = ffF (I 31) n (n - (p + 8)) (p + 8) 8 i → mv_V mv_ow mv_swf mv_t_X7_readSeries rs_cs K 129 [(0, .ref 30), (1, .int (nI i)), (2, .int (nI (24 * i))), (3, .int lv), (4, .int sl), (5, .int bd), (6, .int mo), (7, .int (I 31 (p + 7) - 48))] [] (PL I (p + 8)) J)
    (hpn : p + 7 ≤ n) (hpv : ¬ mo = -9) (hff : ffF (I 31) n (n - p) p 0 i = ffF (I 31) n (n - (p + 7)) (p + 7) 7 i) : mv_V mv_ow mv_swf mv_t_X7_readSeries rs_cs K 109 [(0, .ref 30), (1, .int (nI i)), (2, .int (nI (24 * i))), (3, .int lv), (4, .int sl), (5, .int bd), (6, .int mo)] [] (PL I (p + 7)) J := by
  have e31 : PL I (p + 7) 31 = I 31 := PL_ne (by decide)
  have frP : ∀ q, FRt I (PL I q) := fun q => ⟨fun a ha _ => PL_ne ha, fun b hb _ => PL_30 hb⟩
  refine mv_run_V (stop := [129]) 40 _ _ _ _ _ ?_
  refine ⟨fun _ => ?_, fun z => absurd z hpv⟩
  refine ⟨rfl, rfl, ⟨⟨p + 7, n, hpn, hn, PL_3, (PL_30 (by decide)).trans h2⟩, 0, 1, by decide, rfl⟩, fun r1 I1 J1 hp1 => ?_⟩
  obtain ⟨rfl, hq⟩ := hp1
  have hq := hq (p + 7) n 0 1 hpn hn PL_3 ((PL_30 (by decide)).trans h2) rfl
  rw [e31] at hq
  by_cases ht : tdP (I 31) n (p + 7) 0 1
  · rw [if_pos ht] at hq
    obtain ⟨rfl, hI⟩ := hq
    have hI : I1 = PL I (p + 7 + 1) := hI.trans PL_PL
    subst hI
    exact nxt ht (hff.trans (ff_step ht.1 (by omega) (fit_7.mpr ht.2) (fit_n46 (by decide) ht)))
  · rw [if_neg ht] at hq
    obtain ⟨rfl, rfl⟩ := hq
    refine mv_keep [0, 7] (rs_f129 (fin0 _ (p + 7) (frP _) hpn PL_3 ?_))
    rw [hff]
    exact ff_fail hpn (Or.inl (by decide)) (fun z => Or.inr (fun hf => ht ⟨z, fit_7.mp hf⟩))
theorem rs_89 {I : mv_I} {J : mv_J} {K : mv_K} {i p n : Nat} {lv sl bd : Int32} (hi : i < 5) (hn : n ≤ 80) (h2 : I 30 2 = nI n)
    (fin0 : ∀ I1 q, FRt I I1 → q ≤ n → I1 30 3 = nI q → ffF (I 31) n (n - p) p 0 i = nI q → K (some (.int 0)) I1 J)
    (nxt : tdP (I 31) n (p + 6) 0 4 → ffF (I 31) n (n - p) p 0 i = ffF (I 31) n (n - (p + 7)) (p + 7) 7 i → mv_V mv_ow mv_swf mv_t_X7_readSeries rs_cs K 109 [(0, .ref 30), (1, .int (nI i)), (2, .int (nI (24 * i))), (3, .int lv), (4, .int sl), (5, .int bd), (6, .int (I 31 (p + 6) - 48))] [] (PL I (p + 7)) J)
    (hpn : p + 6 ≤ n) (hpv : ¬ bd = -9) (hff : ffF (I 31) n (n - p) p 0 i = ffF (I 31) n (n - (p + 6)) (p + 6) 6 i) : mv_V mv_ow mv_swf mv_t_X7_readSeries rs_cs K 89 [(0, .ref 30), (1, .int (nI i)), (2, .int (nI (24 * i))), (3, .int lv), (4, .int sl), (5, .int bd)] [] (PL I (p + 6)) J := by
  have e31 : PL I (p + 6) 31 = I 31 := PL_ne (by decide)
  have frP : ∀ q, FRt I (PL I q) := fun q => ⟨fun a ha _ => PL_ne ha, fun b hb _ => PL_30 hb⟩
  refine mv_run_V (stop := [109]) 40 _ _ _ _ _ ?_
  refine ⟨fun _ => ?_, fun z => absurd z hpv⟩
  refine ⟨rfl, rfl, ⟨⟨p + 6, n, hpn, hn, PL_3, (PL_30 (by decide)).trans h2⟩, 0, 4, by decide, rfl⟩, fun r1 I1 J1 hp1 => ?_⟩
  obtain ⟨rfl, hq⟩ := hp1
  have hq := hq (p + 6) n 0 4 hpn hn PL_3 ((PL_30 (by decide)).trans h2) rfl
  rw [e31] at hq
  by_cases ht : tdP (I 31) n (p + 6) 0 4
  · rw [if_pos ht] at hq
    obtain ⟨rfl, hI⟩ := hq
    have hI : I1 = PL I (p + 6 + 1) := hI.trans PL_PL
    subst hI
    exact nxt ht (hff.trans (ff_step ht.1 (by omega) (fit_6.mpr ht.2) (fit_n46 (by decide) ht)))
  · rw [if_neg ht] at hq
    obtain ⟨rfl, rfl⟩ := hq
    refine mv_keep [0, 6] (rs_f109 (fin0 _ (p + 6) (frP _) hpn PL_3 ?_))
    rw [hff]
    exact ff_fail hpn (Or.inl (by decide)) (fun z => Or.inr (fun hf => ht ⟨z, fit_6.mp hf⟩))
theorem rs_50 {I : mv_I} {J : mv_J} {K : mv_K} {i p n : Nat} {lv : Int32} (hi : i < 5) (hn : n ≤ 80) (h2 : I 30 2 = nI n)
    (fin0 : ∀ I1 q, FRt I I1 → q ≤ n → I1 30 3 = nI q → ffF (I 31) n (n - p) p 0 i = nI q → K (some (.int 0)) I1 J)
    (nxt : tdP (I 31) n (p + 3) 0 9 → ffF (I 31) n (n - p) p 0 i = ffF (I 31) n (n - (p + 4)) (p + 4) 4 i → mv_V mv_ow mv_swf mv_t_X7_readSeries rs_cs K 70 [(0, .ref 30), (1, .int (nI i)), (2, .int (nI (24 * i))), (3, .int lv), (4, .int (I 31 (p + 3) - 48))] [] (PL I (p + 4)) J)
    (hpn : p + 3 ≤ n) (hpv : ¬ lv = -9) (hff : ffF (I 31) n (n - p) p 0 i = ffF (I 31) n (n - (p + 3)) (p + 3) 3 i) : mv_V mv_ow mv_swf mv_t_X7_readSeries rs_cs K 50 [(0, .ref 30), (1, .int (nI i)), (2, .int (nI (24 * i))), (3, .int lv)] [] (PL I (p + 3)) J := by
  have e31 : PL I (p + 3) 31 = I 31 := PL_ne (by decide)
  have frP : ∀ q, FRt I (PL I q) := fun q => ⟨fun a ha _ => PL_ne ha, fun b hb _ => PL_30 hb⟩
  refine mv_run_V (stop := [70]) 40 _ _ _ _ _ ?_
  refine ⟨fun _ => ?_, fun z => absurd z hpv⟩
  refine ⟨rfl, rfl, ⟨⟨p + 3, n, hpn, hn, PL_3, (PL_30 (by decide)).trans h2⟩, 0, 9, by decide, rfl⟩, fun r1 I1 J1 hp1 => ?_⟩
  obtain ⟨rfl, hq⟩ := hp1
  have hq := hq (p + 3) n 0 9 hpn hn PL_3 ((PL_30 (by decide)).trans h2) rfl
  rw [e31] at hq
  by_cases ht : tdP (I 31) n (p + 3) 0 9
  · rw [if_pos ht] at hq
    obtain ⟨rfl, hI⟩ := hq
    have hI : I1 = PL I (p + 3 + 1) := hI.trans PL_PL
    subst hI
    exact nxt ht (hff.trans (ff_step ht.1 (by omega) ((fit_def (Or.inl (by decide))).mpr ht.2) (fit_n46 (by decide) ht)))
  · rw [if_neg ht] at hq
    obtain ⟨rfl, rfl⟩ := hq
    refine mv_keep [0, 4] (rs_f70 (fin0 _ (p + 3) (frP _) hpn PL_3 ?_))
    rw [hff]
    exact ff_fail hpn (Or.inl (by decide)) (fun z => Or.inr (fun hf => ht ⟨z, (fit_def (Or.inl (by decide))).mp hf⟩))
theorem rs_70 {I : mv_I} {J : mv_J} {K : mv_K} {i p n : Nat} {lv sl : Int32} (hi : i < 5) (hn : n ≤ 80) (h2 : I 30 2 = nI n)
    (fin0 : ∀ I1 q, FRt I I1 → q ≤ n → I1 30 3 = nI q → ffF (I 31) n (n - p) p 0 i = nI q → K (some (.int 0)) I1 J)
    (nxt : tdP (I 31) n (p + 4) 0 9 → tdP (I 31) n (p + 5) (if I 31 (p + 4) - 48 = 0 then 1 else 0) 9 → ffF (I 31) n (n - p) p 0 i = ffF (I 31) n (n - (p + 6)) (p + 6) 6 i → mv_V mv_ow mv_swf mv_t_X7_readSeries rs_cs K 89 [(0, .ref 30), (1, .int (nI i)), (2, .int (nI (24 * i))), (3, .int lv), (4, .int sl), (5, .int (10 * (I 31 (p + 4) - 48) + (I 31 (p + 5) - 48)))] [] (PL I (p + 6)) J)
    (hpn : p + 4 ≤ n) (hpv : ¬ sl = -9) (hff : ffF (I 31) n (n - p) p 0 i = ffF (I 31) n (n - (p + 4)) (p + 4) 4 i) : mv_V mv_ow mv_swf mv_t_X7_readSeries rs_cs K 70 [(0, .ref 30), (1, .int (nI i)), (2, .int (nI (24 * i))), (3, .int lv), (4, .int sl)] [] (PL I (p + 4)) J := by
  have e31 : PL I (p + 4) 31 = I 31 := PL_ne (by decide)
  have frP : ∀ q, FRt I (PL I q) := fun q => ⟨fun a ha _ => PL_ne ha, fun b hb _ => PL_30 hb⟩
  refine mv_run_V (stop := [89]) 40 _ _ _ _ _ ?_
  refine ⟨fun _ => ?_, fun z => absurd z hpv⟩
  refine ⟨rfl, rfl, ⟨⟨p + 4, n, hpn, hn, PL_3, (PL_30 (by decide)).trans h2⟩, 1, by decide, rfl⟩, fun r1 I1 J1 hp1 => ?_⟩
  obtain ⟨rfl, hq⟩ := hp1
  have hq := hq (p + 4) n 1 hpn hn PL_3 ((PL_30 (by decide)).trans h2) rfl
  rw [e31] at hq
  by_cases ht : tdP (I 31) n (p + 4) 0 9
  · rw [if_pos ht] at hq
    have hff1 := hff.trans (ff_step ht.1 (by omega) ((fit_def (Or.inl (by decide))).mpr ht.2) (fit_n46 (by decide) ht))
    have hlt := ht.1
    by_cases ht2 : tdP (I 31) n (p + 4 + 1) (if I 31 (p + 4) - 48 = 0 then 1 else 0) 9
    · rw [if_pos ht2] at hq
      obtain ⟨rfl, hI⟩ := hq
      have hI : I1 = PL I (p + 4 + 2) := hI.trans PL_PL
      subst hI
      exact nxt ht ht2 (hff1.trans (ff_step ht2.1 (by omega) (fit_5.mpr ht2.2) (fit_n46 (by split <;> decide) ht2)))
    · rw [if_neg ht2] at hq
      obtain ⟨rfl, hI⟩ := hq
      have hI : I1 = PL I (p + 4 + 1) := hI.trans PL_PL
      subst hI
      refine mv_keep [0, 5] (rs_f89 (fin0 _ (p + 4 + 1) (frP _) (by omega) PL_3 ?_))
      rw [hff1]
      exact ff_fail (by omega) (Or.inl (by decide)) (fun z => Or.inr (fun hf => ht2 ⟨z, fit_5.mp hf⟩))
  · rw [if_neg ht] at hq
    obtain ⟨rfl, rfl⟩ := hq
    refine mv_keep [0, 5] (rs_f89 (fin0 _ (p + 4) (frP _) hpn PL_3 ?_))
    rw [hff]
    exact ff_fail hpn (Or.inl (by decide)) (fun z => Or.inr (fun hf => ht ⟨z, (fit_def (Or.inl (by decide))).mp hf⟩))
theorem fit_2 {T : Nat → Int32} {p : Nat} {x b : Int32} : fitP 2 x b ↔ ((if T p - 48 = 0 then (0 : Int32) else 0) ≤ x - 48 ∧ x - 48 ≤ 9) := by
  rw [ite_self]
  exact fit_def (Or.inl (by decide))
theorem rs_44 {I : mv_I} {J : mv_J} {K : mv_K} {i p n : Nat} (hi : i < 5) (hn : n ≤ 80) (h2 : I 30 2 = nI n)
    (fin0 : ∀ I1 q, FRt I I1 → q ≤ n → I1 30 3 = nI q → ffF (I 31) n (n - p) p 0 i = nI q → K (some (.int 0)) I1 J)
    (nxt : tdP (I 31) n (p + 1) 0 9 → tdP (I 31) n (p + 2) (if I 31 (p + 1) - 48 = 0 then 0 else 0) 9 → ffF (I 31) n (n - p) p 0 i = ffF (I 31) n (n - (p + 3)) (p + 3) 3 i → mv_V mv_ow mv_swf mv_t_X7_readSeries rs_cs K 50 [(0, .ref 30), (1, .int (nI i)), (2, .int (nI (24 * i))), (3, .int (10 * (I 31 (p + 1) - 48) + (I 31 (p + 2) - 48)))] [] (PL I (p + 3)) J)
    (hpn : p + 1 ≤ n) (hff : ffF (I 31) n (n - p) p 0 i = ffF (I 31) n (n - (p + 1)) (p + 1) 1 i) : mv_V mv_ow mv_swf mv_t_X7_readSeries rs_cs K 44 [(0, .ref 30), (1, .int (nI i)), (2, .int (nI (24 * i)))] [] (PL I (p + 1)) J := by
  have e31 : PL I (p + 1) 31 = I 31 := PL_ne (by decide)
  have frP : ∀ q, FRt I (PL I q) := fun q => ⟨fun a ha _ => PL_ne ha, fun b hb _ => PL_30 hb⟩
  refine mv_run_V (stop := [50]) 40 _ _ _ _ _ ?_
  refine ⟨rfl, rfl, ⟨⟨p + 1, n, hpn, hn, PL_3, (PL_30 (by decide)).trans h2⟩, 0, by decide, rfl⟩, fun r1 I1 J1 hp1 => ?_⟩
  obtain ⟨rfl, hq⟩ := hp1
  have hq := hq (p + 1) n 0 hpn hn PL_3 ((PL_30 (by decide)).trans h2) rfl
  rw [e31] at hq
  by_cases ht : tdP (I 31) n (p + 1) 0 9
  · rw [if_pos ht] at hq
    have hff1 := hff.trans (ff_step ht.1 (by omega) ((fit_def (Or.inl (by decide))).mpr ht.2) (fit_n46 (by decide) ht))
    have hlt := ht.1
    by_cases ht2 : tdP (I 31) n (p + 1 + 1) (if I 31 (p + 1) - 48 = 0 then 0 else 0) 9
    · rw [if_pos ht2] at hq
      obtain ⟨rfl, hI⟩ := hq
      have hI : I1 = PL I (p + 1 + 2) := hI.trans PL_PL
      subst hI
      exact nxt ht ht2 (hff1.trans (ff_step ht2.1 (by omega) ((fit_2 (T := I 31)).mpr ht2.2) (fit_n46 (by split <;> decide) ht2)))
    · rw [if_neg ht2] at hq
      obtain ⟨rfl, hI⟩ := hq
      have hI : I1 = PL I (p + 1 + 1) := hI.trans PL_PL
      subst hI
      refine mv_keep [0, 3] (rs_f50 (fin0 _ (p + 1 + 1) (frP _) (by omega) PL_3 ?_))
      rw [hff1]
      exact ff_fail (by omega) (Or.inl (by decide)) (fun z => Or.inr (fun hf => ht2 ⟨z, (fit_2 (T := I 31)).mp hf⟩))
  · rw [if_neg ht] at hq
    obtain ⟨rfl, rfl⟩ := hq
    refine mv_keep [0, 3] (rs_f50 (fin0 _ (p + 1) (frP _) hpn PL_3 ?_))
    rw [hff]
    exact ff_fail hpn (Or.inl (by decide)) (fun z => Or.inr (fun hf => ht ⟨z, (fit_def (Or.inl (by decide))).mp hf⟩))
end
section
/-! The reference: reading the watch. -/
theorem nine_ne {n : Nat} (h : n < 1000) : ¬ nI n = -9 := by
  intro z
  rw [fa_eq, nI_toInt (by omega)] at z
  have e9 : (-9 : Int32).toInt = -9 := rfl
  omega
theorem two_nat {T : Nat → Int32} {n p q : Nat} {lo : Int32} (hlo : 0 ≤ lo) (h1 : tdP T n p 0 9) (h2 : tdP T n q lo 9) : ¬ 10 * (T p - 48) + (T q - 48) = -9 := by
  obtain ⟨d, hd, e⟩ := td_nat (M := 9) (by decide) (by decide) h1
  obtain ⟨d2, hd2, e2⟩ := td_nat (M := 9) hlo (by decide) h2
  rw [e, e2]
  have : (10 : Int32) * nI d + nI d2 = nI (10 * d + d2) := by
    rw [← nI_add]
    congr 1
    exact (Int32.ofNat_mul 10 d).symm
  rw [this]
  exact nine_ne (by omega)
def sp_mReadSeries : mv_SP := (fun as I _ => as = [.ref 30] ∧ ∃ p n i : Nat, p < n ∧ n ≤ 80 ∧ i ≤ 5 ∧ I 30 3 = nI p ∧ I 30 2 = nI n ∧ I 30 8 = nI i,
  fun _ I J r I' J' => J = J' ∧ ∀ p n i : Nat, p < n → n ≤ 80 → i ≤ 5 → I 30 3 = nI p → I 30 2 = nI n → I 30 8 = nI i → FRt I I' ∧ ((r = some (.int 0) ∧ ∃ q, q ≤ n ∧ I' 30 3 = nI q ∧ ffF (I 31) n (n - p) p 0 i = nI q) ∨ (r = some (.int 1) ∧ i < 5 ∧ ∃ L, slN (I 31) n (p + 8) 5 0 = L ∧ 1 ≤ L ∧ p + 9 + L ≤ n ∧ I' 30 3 = nI (p + 9 + L) ∧ I' 30 8 = nI (i + 1) ∧ ffF (I 31) n (n - p) p 0 i = ffF (I 31) n (n - (p + 9 + L)) (p + 9 + L) 0 (i + 1) ∧ FRs I I' i ∧ RS I' (I 31) n i p)))
theorem cb_mReadSeries : mv_body 130 mv_t_X7_readSeries (mv_cs [(104, sp_figure), (141, sp_two)]) sp_mReadSeries := by
  intro as I J h
  obtain ⟨rfl, p, n, i, hp, hn, hi, h3, h2, h8⟩ := h
  have cp : (nI p).toNatClampNeg = p := nI_clamp (by omega)
  have uniq : ∀ {p' n' i' : Nat}, p' < n' → n' ≤ 80 → i' ≤ 5 → I 30 3 = nI p' → I 30 2 = nI n' → I 30 8 = nI i' → p' = p ∧ n' = n ∧ i' = i := fun a b c d e f => ⟨(nI_eq (by omega) (by omega)).mp (d.symm.trans h3), (nI_eq (by omega) (by omega)).mp (e.symm.trans h2), (nI_eq (by omega) (by omega)).mp (f.symm.trans h8)⟩
  have fin0 : ∀ I1 q, FRt I I1 → q ≤ n → I1 30 3 = nI q → ffF (I 31) n (n - p) p 0 i = nI q → sp_mReadSeries.2 [.ref 30] I J (some (.int 0)) I1 J := by
    intro I1 q hF hq hq3 hff
    refine ⟨rfl, fun p' n' i' a b c d e f => ?_⟩
    obtain ⟨rfl, rfl, rfl⟩ := uniq a b c d e f
    exact ⟨hF, Or.inl ⟨rfl, q, hq, hq3, hff⟩⟩
  have frI : FRt I I := ⟨fun _ _ _ => rfl, fun _ _ _ => rfl⟩
  refine ⟨rfl, mv_run_V (stop := [44]) 60 _ _ _ _ _ ?_⟩
  refine ⟨rfl, fun h1 => ?_, fun h1 => ?_⟩
  · refine ⟨Or.inl rfl, fin0 _ p frI (by omega) h3 (ff_fail (by omega) (Or.inr hp) (fun _ => Or.inl ?_))⟩
    rw [h8] at h1
    exact (nI_eq (b := 5) (by omega) (by decide)).mp h1
  · have hi5 : i < 5 := by
      rw [h8] at h1
      have : i ≠ 5 := fun z => h1 (by rw [z]; rfl)
      omega
    refine ⟨rfl, _, rfl, rfl, _, rfl, (by rw [h3]; exact vp_in_nI (by omega) (by decide)), ?_⟩
    rw [h3, cp]
    refine ⟨fun h4 => ?_, fun h4 => ?_⟩
    · have h4 : I 31 p = 99 := h4
      have hff1 := ff_step (T := I 31) (n := n) (pl := 0) (co := i) hp (by omega) (by unfold fitP; rw [if_pos rfl]; exact h4) (by rw [h4]; decide)
      have k6 := rs_44 (I := I) (J := J) (K := sp_mReadSeries.2 [.ref 30] I J) (i := i) (p := p) (n := n) hi5 hn h2 fin0 (fun t1 t2 f3 => rs_50 hi5 hn h2 fin0 (fun t3 f4 => rs_70 hi5 hn h2 fin0 (fun t4 t5 f6 => rs_89 hi5 hn h2 fin0 (fun t6 f7 => rs_109 hi5 hn h2 fin0 (fun t7 f8 => rs_129 hi5 hn h2 h8 (by have := t7.1; omega) fin0 (fun B L hL1 hL5 hS hlt h46 hall hff2 => by
        obtain ⟨r1, r2, r3, r4, r5, r6⟩ := RS_final (T := I 31) rfl hi5 hL1 hL5 hS hlt h46 hall t3 t4 t5
        refine rs_264 hi5 ⟨rfl, fun p' n' i' a b c d e f => ?_⟩
        obtain ⟨rfl, rfl, rfl⟩ := uniq a b c d e f
        have e9 : p' + 8 + L + 1 = p' + 9 + L := by omega
        refine ⟨r2, Or.inr ⟨rfl, hi5, L, r1, hL1, by omega, ?_, ?_, ?_, r3, r4⟩⟩
        · rw [r5, e9]
        · rw [r6, hS.2.2.2.1, h8, nI_1]
        · rw [hff2, e9]) (td_0 (by decide) t7) f8) (by have := t6.1; omega) (td_0 (by decide) t6) f7) (by have := t5.1; omega) (two_nat (by split <;> decide) t4 t5) f6) (by have := t3.1; omega) (td_0 (by decide) t3) f4) (by have := t2.1; omega) (two_nat (by split <;> decide) t1 t2) f3) (by omega) hff1
      refine ⟨rfl, rfl, rfl, rfl, ?_⟩
      have e : PL I (p + 1) = mv_si I 30 3 (nI p + 1) := by
        unfold PL
        rw [nI_1]
      have e8 : mv_si I 30 3 (nI p + 1) 30 8 = nI i := by
        rw [mv_si_ap, if_neg (by decide), h8]
      rw [h3, e8]
      rw [e, ← e24] at k6
      exact k6
    · refine ⟨Or.inl rfl, fin0 _ p frI (by omega) h3 (ff_fail (by omega) (Or.inr hp) (fun _ => Or.inr (fun hf => ?_)))⟩
      unfold fitP at hf
      rw [if_pos rfl] at hf
      exact h4 hf
theorem c_mReadSeries {l : Launch} {G : mv_G} {A : Nat → Prop} (hG : mv_adk G A) : mv_Con l G A 130 sp_mReadSeries := mv_con hG 130 mv_k_X7_readSeries (by decide +kernel) (mv_cs_cons (c_figure hG) (mv_cs_cons (c_two hG) (mv_cs_nil))) cb_mReadSeries
/-- where the c of the series s stands -/
noncomputable def psN (T : Nat → Int32) (n : Nat) : Nat → Nat
  | 0 => 1
  | s + 1 => psN T n s + 9 + slN T n (psN T n s + 8) 5 0
theorem FRt_trans {I I' I2 : mv_I} (h : FRt I I') (h2 : FRt I' I2) : FRt I I2 := ⟨fun a ha hb => (h2.1 a ha hb).trans (h.1 a ha hb), fun b hb hb8 => (h2.2 b hb hb8).trans (h.2 b hb hb8)⟩
theorem RS_cong {I I' : mv_I} {T : Nat → Int32} {n s i p : Nat} (h : FRs I I' i) (hs : s ≠ i) (hR : RS I T n s p) : RS I' T n s p := by
  obtain ⟨⟨L, hL1, hL5, hsl, h37, h36⟩, h35, a0, a1, a2, a3, a9, a10, q1, q2⟩ := hR
  obtain ⟨f1, f2, f3, -⟩ := h
  refine ⟨⟨L, hL1, hL5, hsl, (f1 s hs).2.trans h37, fun j hj => (f2 _ (by omega)).trans (h36 j hj)⟩, (f1 s hs).1.trans h35, (f3 _ (by omega)).trans a0, (f3 _ (by omega)).trans a1, (f3 _ (by omega)).trans a2, (f3 _ (by omega)).trans a3, (f3 _ (by omega)).trans a9, (f3 _ (by omega)).trans a10, q1, q2⟩
/-- the first s series are read -/
def RW (I B : mv_I) (n s : Nat) : Prop := FRt I B ∧ B 30 3 = nI (psN (I 31) n s) ∧ B 30 8 = nI s ∧ s ≤ 5 ∧ psN (I 31) n s ≤ n ∧ ffF (I 31) n (n - psN (I 31) n s) (psN (I 31) n s) 0 s = fltF (I 31) n ∧ (∀ q, q < s → RS B (I 31) n q (psN (I 31) n q) ∧ psN (I 31) n q + 10 ≤ n ∧ ∀ k, (4 ≤ k ∧ k < 9) ∨ (11 ≤ k ∧ k < 24) → B 38 (24 * q + k) = 0) ∧ ∀ b, 24 * s ≤ b → b < 121 → B 38 b = 0
def sp_mReadWatch : mv_SP := (fun as I _ => as = [.ref 30] ∧ ∃ n : Nat, n ≤ 80 ∧ I 30 2 = nI n,
  fun _ I J r I' J' => J = J' ∧ ∀ n : Nat, n ≤ 80 → I 30 2 = nI n → r = some (.int (fltF (I 31) n)) ∧ FRt I I' ∧ (fltF (I 31) n = -9 → ∃ m : Nat, RW I I' n m ∧ psN (I 31) n m = n))
theorem cb_mReadWatch : mv_body 131 mv_t_X7_readWatch (mv_cs [(130, sp_mReadSeries)]) sp_mReadWatch := by
  intro as I J h
  obtain ⟨rfl, n, hn, h2⟩ := h
  have uniq : ∀ {n' : Nat}, n' ≤ 80 → I 30 2 = nI n' → n' = n := fun b e => (nI_eq (by omega) (by omega)).mp (e.symm.trans h2)
  have fin : ∀ (x : Int32) (B : mv_I), x = fltF (I 31) n → FRt I B → (x = -9 → ∃ m : Nat, RW I B n m ∧ psN (I 31) n m = n) → sp_mReadWatch.2 [.ref 30] I J (some (.int x)) B J := by
    intro x B hx hF hm
    refine ⟨rfl, fun n' b e => ?_⟩
    have := uniq b e
    subst this
    exact ⟨by rw [hx], hF, fun z => hm (by rw [hx, z])⟩
  have key56 : ∀ r s : Nat, ∀ B, RW I B n s → n - psN (I 31) n s ≤ r → mv_V mv_ow mv_swf mv_t_X7_readWatch (mv_cs [(130, sp_mReadSeries)]) (sp_mReadWatch.2 [.ref 30] I J) 56 [(0, .ref 30)] [] B J := by
    intro r
    induction r with
    | zero =>
      intro s B hR hr
      have hR0 := hR
      obtain ⟨hF, h3, h8, hs, hle, hff, -⟩ := hR
      have hB2 : B 30 2 = nI n := (hF.2 2 (by decide) (by decide)).trans h2
      have hpe : psN (I 31) n s = n := by omega
      refine mv_run_V (stop := [56]) 30 _ _ _ _ _ ?_
      refine ⟨rfl, rfl, fun h1 => ?_, fun h1 => ?_⟩
      · refine fin _ _ ?_ hF (fun _ => ⟨s, hR0, hpe⟩)
        rw [← hff, hpe, Nat.sub_self, ffF, if_pos rfl]
      · rw [h3, hB2, hpe] at h1
        exact absurd h1 (nI_nlt (Nat.le_refl _) (by omega))
    | succ r ih =>
      intro s B hR hr
      have hR0 := hR
      obtain ⟨hF, h3, h8, hs, hle, hff, hq, hz⟩ := hR
      have hB2 : B 30 2 = nI n := (hF.2 2 (by decide) (by decide)).trans h2
      have hB31 : B 31 = I 31 := hF.1 31 (by decide) (by decide)
      refine mv_run_V (stop := [56]) 30 _ _ _ _ _ ?_
      refine ⟨rfl, rfl, fun h1 => ?_, fun h1 => ?_⟩
      · rw [h3, hB2] at h1
        have h1 : ¬ psN (I 31) n s < n := fun z => h1 (nI_lt z (by omega))
        have hpe : psN (I 31) n s = n := by omega
        refine fin _ _ ?_ hF (fun _ => ⟨s, hR0, hpe⟩)
        rw [← hff, hpe, Nat.sub_self, ffF, if_pos rfl]
      · rw [h3, hB2] at h1
        have h1 := (nI_ltI (by omega) (by omega)).mp h1
        refine ⟨rfl, rfl, ⟨rfl, _, n, s, h1, hn, hs, h3, hB2, h8⟩, fun r1 I1 J1 hp => ?_⟩
        obtain ⟨rfl, hp⟩ := hp
        obtain ⟨hF1, hp⟩ := hp _ n s h1 hn hs h3 hB2 h8
        rw [hB31, hff] at hp
        have hF2 := FRt_trans hF hF1
        rcases hp with ⟨rfl, q, hqn, hq3, hqf⟩ | ⟨rfl, hs5, L, hL, hL1, hLn, hL3, hL8, hLf, hFs, hRS⟩
        · refine ⟨fun z => absurd rfl z, fun _ => ?_⟩
          refine ⟨rfl, ?_⟩
          rw [hq3]
          exact fin _ _ hqf.symm hF2 (fun z => absurd z (nine_ne (by omega)))
        · refine ⟨fun _ => ?_, fun z => absurd z (by decide)⟩
          have eps : psN (I 31) n (s + 1) = psN (I 31) n s + 9 + L := by rw [psN, hL]
          refine ih (s + 1) I1 ⟨hF2, by rw [eps]; exact hL3, hL8, by omega, by rw [eps]; exact hLn, by rw [eps]; exact hLf.symm, fun q hqs => ?_, fun b hb1 hb2 => ?_⟩ (by rw [eps]; omega)
          · by_cases e : q = s
            · subst e
              refine ⟨hRS, by omega, fun k hk => ?_⟩
              rw [hFs.2.2.2 k hk]
              exact hz _ (by omega) (by omega)
            · obtain ⟨a, b, c⟩ := hq q (by omega)
              refine ⟨RS_cong hFs e a, b, fun k hk => ?_⟩
              rw [hFs.2.2.1 _ (by omega)]
              exact c k hk
          · rw [hFs.2.2.1 _ (by omega)]
            exact hz b (by omega) hb2
  have key31 : ∀ B, FRt I B → (∀ b, b < 121 → B 38 b = 0) → B 30 8 = 0 → mv_V mv_ow mv_swf mv_t_X7_readWatch (mv_cs [(130, sp_mReadSeries)]) (sp_mReadWatch.2 [.ref 30] I J) 31 [(0, .ref 30)] [] B J := by
    intro B hF hz h8
    have hB2 : B 30 2 = nI n := (hF.2 2 (by decide) (by decide)).trans h2
    have hB31 : B 31 = I 31 := hF.1 31 (by decide) (by decide)
    refine mv_run_V (stop := [56]) 30 _ _ _ _ _ ?_
    refine ⟨rfl, fun h1 => ?_, fun h1 => ?_⟩
    · rw [hB2] at h1
      have h1 := (nI_eq (b := 0) (by omega) (by decide)).mp h1
      exact fin 0 _ (by unfold fltF; rw [if_pos (Or.inl h1)]) hF (fun z => absurd z (by decide))
    · rw [hB2] at h1
      have h1 : ¬ n = 0 := fun z => h1 (by rw [z]; rfl)
      refine ⟨rfl, _, rfl, _, rfl, vp_in_nI (n := 0) (by decide) (by decide), ?_⟩
      rw [hB31]
      refine ⟨fun h4 => ?_, fun h4 => ?_⟩
      · have h4 : I 31 0 = 87 := h4
        refine ⟨rfl, key56 80 0 (mv_si B 30 3 1) ⟨⟨fun a ha hb => (mv_si_ne ha).trans (hF.1 a ha hb), fun b hb hb8 => ?_⟩, ?_, ?_, by decide, ?_, ?_, fun q hq => absurd hq (Nat.not_lt_zero q), fun b _ hb => ?_⟩ (by omega)⟩
        · rw [mv_si_ap, if_neg (fun z => hb z.2)]
          exact hF.2 b hb hb8
        · rw [mv_si_ap, if_pos ⟨rfl, rfl⟩]
          rfl
        · rw [mv_si_ap, if_neg (by decide)]
          exact h8
        · show 1 ≤ n
          omega
        · show ffF (I 31) n (n - 1) 1 0 0 = _
          unfold fltF
          rw [if_neg (fun z => z.elim h1 (fun z => z h4))]
        · rw [mv_si_ne (by decide)]
          exact hz b hb
      · have h4 : ¬ I 31 0 = 87 := h4
        exact fin 0 _ (by unfold fltF; rw [if_pos (Or.inr h4)]) hF (fun z => absurd z (by decide))
  have key12 : ∀ q k : Nat, k + q = 121 → mv_V mv_ow mv_swf mv_t_X7_readWatch (mv_cs [(130, sp_mReadSeries)]) (sp_mReadWatch.2 [.ref 30] I J) 12 [(0, .ref 30), (1, .int (nI k))] [] (mv_sr (mv_si (mv_si I 30 8 0) 30 3 0) 38 (fa_fill (fun _ => 0) (I 38) k)) J := by
    intro q
    induction q with
    | zero =>
      intro k hk
      have hk : k = 121 := hk
      subst hk
      refine mv_run_V (stop := [12, 31]) 30 _ _ _ _ _ ?_
      refine ⟨fun _ => ?_, fun z => absurd z (by decide)⟩
      refine mv_keep [0] (key31 _ ⟨fun a ha hb => ?_, fun b hb hb8 => ?_⟩ (fun b hb => ?_) ?_)
      · rw [mv_sr_ne (by omega), mv_si_ne ha, mv_si_ne ha]
      · rw [mv_sr_ne (by decide), mv_si_ap, if_neg (fun z => hb z.2), mv_si_ap, if_neg (fun z => hb8 z.2)]
      · rw [mv_sr_at, fa_fill_in hb]
      · rw [mv_sr_ne (by decide), mv_si_ap, if_neg (by decide), mv_si_ap, if_pos ⟨rfl, rfl⟩]
    | succ q ih =>
      intro k hk
      have ck : (nI k).toNatClampNeg = k := nI_clamp (by omega)
      refine mv_run_V (stop := [12, 31]) 30 _ _ _ _ _ ?_
      refine ⟨fun z => ?_, fun _ => ?_⟩
      · have z : ¬ nI k < nI 121 := z
        exact absurd (nI_lt (by omega) (by decide)) z
      · refine ⟨rfl, _, rfl, _, rfl, vp_in_nI (by omega) (by decide), ?_⟩
        have k6 := ih (k + 1) (by omega)
        rw [← fa_fill_succ, ← mv_si_srx, nI_succ] at k6
        rw [ck]
        exact k6
  refine ⟨rfl, mv_run_V (stop := [12]) 30 _ _ _ _ _ ?_⟩
  have k6 := key12 121 0 rfl
  rw [mv_sr_self (fun b => by rw [fa_fill_0, mv_si_ne (by decide), mv_si_ne (by decide)])] at k6
  exact ⟨rfl, rfl, k6⟩
theorem c_mReadWatch {l : Launch} {G : mv_G} {A : Nat → Prop} (hG : mv_adk G A) : mv_Con l G A 131 sp_mReadWatch := mv_con hG 131 mv_k_X7_readWatch (by decide +kernel) (mv_cs_cons (c_mReadSeries hG) (mv_cs_nil)) cb_mReadWatch
end
section
/-! The reference: fault, watch. -/
def sp_mFault : mv_SP := (fun as I _ => MH 9000 I ∧ as = [.ref 30],
  fun _ I J r I' J' => J = J' ∧ r = some (.int (fltF (th I 31) (th I 30 2).toNatClampNeg)) ∧ FRt (th I) I')
theorem cb_mFault : mv_body 103 mv_t_X7_fault (mv_cs [(131, sp_mReadWatch)]) sp_mFault := by
  intro as I J h
  obtain ⟨hM, rfl⟩ := h
  have hM := MH_th hM
  obtain ⟨-, ⟨n, hn, h2⟩, -⟩ := hM
  have key : mv_V mv_ow mv_swf mv_t_X7_fault (mv_cs [(131, sp_mReadWatch)]) (sp_mFault.2 [.ref 30] I J) 5 [(0, .ref 30)] [] (th I) J := by
    refine mv_run_V (stop := []) 30 _ _ _ _ _ ?_
    refine ⟨rfl, rfl, ⟨rfl, n, hn, h2⟩, fun r1 I1 J1 hp => ?_⟩
    obtain ⟨rfl, hp⟩ := hp
    obtain ⟨rfl, hF, -⟩ := hp n hn h2
    refine ⟨rfl, ?_, hF⟩
    rw [h2, nI_clamp (by omega)]
  refine ⟨rfl, mv_run_V (stop := [5]) 30 _ _ _ _ _ ?_⟩
  exact ⟨rfl, key⟩
theorem c_mFault {l : Launch} {G : mv_G} {A : Nat → Prop} (hG : mv_adk G A) : mv_Con l G A 103 sp_mFault := mv_con hG 103 mv_k_X7_fault (by decide +kernel) (mv_cs_cons (c_mReadWatch hG) (mv_cs_nil)) cb_mFault
/-- what is read becomes what is watched -/
def mwt (B : mv_I) : mv_I := mv_si (mv_si (mv_si (mv_sr (mv_sr (mv_sr (mv_sr (mv_si B 30 4 (B 30 8)) 32 (fa_fill (B 35) (B 32) 5)) 34 (fa_fill (B 37) (B 34) 5)) 33 (fa_fill (B 36) (B 33) 25)) 39 (fa_fill (B 38) (B 39) 120)) 30 16 0) 43 0 0) 43 1 0
def mw1 (B : mv_I) (k : Nat) : mv_I := mv_sr (mv_sr (mv_si B 30 4 (B 30 8)) 32 (fa_fill (B 35) (B 32) k)) 34 (fa_fill (B 37) (B 34) k)
def sp_mWatch : mv_SP := (fun as I _ => MH 9000 I ∧ as = [.ref 30],
  fun _ I J r I' J' => J = J' ∧ ∃ B : mv_I, FRt (th I) B ∧ if fltF (th I 31) (th I 30 2).toNatClampNeg = -9 then r = some (.int (B 30 8)) ∧ I' = mwt B ∧ ∃ m : Nat, RW (th I) B (th I 30 2).toNatClampNeg m ∧ psN (th I 31) (th I 30 2).toNatClampNeg m = (th I 30 2).toNatClampNeg else r = some (.int (-3)) ∧ I' = B)
theorem watch_90 {B : mv_I} {J : mv_J} {K : mv_K} (fin : K (some (.int (B 30 8))) (mwt B) J) : ∀ q k : Nat, k + q = 120 → mv_V mv_ow mv_swf mv_t_X7_watch (mv_cs [(131, sp_mReadWatch)]) K 90 [(0, .ref 30), (1, .int (nI k))] [] (mv_sr (mv_sr (mw1 B 5) 33 (fa_fill (B 36) (B 33) 25)) 39 (fa_fill (B 38) (B 39) k)) J := by
  intro q
  induction q with
  | zero =>
    intro k hk
    have hk : k = 120 := hk
    subst hk
    have e : mv_si (mv_si (mv_si (mv_sr (mv_sr (mw1 B 5) 33 (fa_fill (B 36) (B 33) 25)) 39 (fa_fill (B 38) (B 39) 120)) 30 16 0) 43 0 0) 43 1 0 = mwt B := rfl
    have e8 : mwt B 30 4 = B 30 8 := by
      unfold mwt
      rw [mv_si_ne (by decide), mv_si_ne (by decide), mv_si_ap, if_neg (by decide), mv_sr_ne (by decide), mv_sr_ne (by decide), mv_sr_ne (by decide), mv_sr_ne (by decide), mv_si_ap, if_pos ⟨rfl, rfl⟩]
    refine mv_run_V (stop := [90]) 60 _ _ _ _ _ ?_
    refine ⟨fun _ => ?_, fun z => absurd z (by decide)⟩
    refine ⟨rfl, rfl, _, rfl, _, rfl, vp_in_nI (n := 0) (by decide) (by decide), Or.inl rfl, rfl, _, rfl, _, rfl, vp_in_nI (n := 1) (by decide) (by decide), Or.inl rfl, rfl, ?_⟩
    rw [← e8] at fin
    exact fin
  | succ q ih =>
    intro k hk
    have ck : (nI k).toNatClampNeg = k := nI_clamp (by omega)
    refine mv_run_V (stop := [90]) 30 _ _ _ _ _ ?_
    refine ⟨fun z => ?_, fun _ => ?_⟩
    · have z : ¬ nI k < nI 120 := z
      exact absurd (nI_lt (by omega) (by decide)) z
    · refine ⟨rfl, _, rfl, rfl, _, rfl, _, rfl, vp_in_nI (by omega) (by decide), _, rfl, vp_in_nI (by omega) (by decide), ?_⟩
      have k6 := ih (k + 1) (by omega)
      have e : (mv_sr (mv_sr (mw1 B 5) 33 (fa_fill (B 36) (B 33) 25)) 39 (fa_fill (B 38) (B 39) k)) 38 k = B 38 k := by
        unfold mw1
        rw [mv_sr_ne (by decide), mv_sr_ne (by decide), mv_sr_ne (by decide), mv_sr_ne (by decide), mv_si_ne (by decide)]
      rw [← fa_fill_succ (B 38) (B 39) k, ← mv_si_srx, nI_succ, ← e] at k6
      rw [ck]
      exact k6
theorem watch_64 {B : mv_I} {J : mv_J} {K : mv_K} (fin : K (some (.int (B 30 8))) (mwt B) J) : ∀ q k : Nat, k + q = 25 → mv_V mv_ow mv_swf mv_t_X7_watch (mv_cs [(131, sp_mReadWatch)]) K 64 [(0, .ref 30), (1, .int (nI k))] [] (mv_sr (mw1 B 5) 33 (fa_fill (B 36) (B 33) k)) J := by
  intro q
  induction q with
  | zero =>
    intro k hk
    have hk : k = 25 := hk
    subst hk
    have k6 := watch_90 fin 120 0 rfl
    rw [mv_sr_self (fun b => by
      rw [fa_fill_0]
      unfold mw1
      rw [mv_sr_ne (by decide), mv_sr_ne (by decide), mv_sr_ne (by decide), mv_si_ne (by decide)])] at k6
    refine mv_run_V (stop := [64, 90]) 60 _ _ _ _ _ ?_
    exact ⟨fun _ => k6, fun z => absurd z (by decide)⟩
  | succ q ih =>
    intro k hk
    have ck : (nI k).toNatClampNeg = k := nI_clamp (by omega)
    refine mv_run_V (stop := [64, 90]) 30 _ _ _ _ _ ?_
    refine ⟨fun z => ?_, fun _ => ?_⟩
    · have z : ¬ nI k < nI 25 := z
      exact absurd (nI_lt (by omega) (by decide)) z
    · refine ⟨rfl, _, rfl, rfl, _, rfl, _, rfl, vp_in_nI (by omega) (by decide), _, rfl, vp_in_nI (by omega) (by decide), ?_⟩
      have k6 := ih (k + 1) (by omega)
      have e : (mv_sr (mw1 B 5) 33 (fa_fill (B 36) (B 33) k)) 36 k = B 36 k := by
        unfold mw1
        rw [mv_sr_ne (by decide), mv_sr_ne (by decide), mv_sr_ne (by decide), mv_si_ne (by decide)]
      rw [← fa_fill_succ (B 36) (B 33) k, ← mv_si_srx, nI_succ, ← e] at k6
      rw [ck]
      exact k6
theorem mw1_succ {B : mv_I} (k : Nat) : mw1 B (k + 1) = mv_si (mv_si (mw1 B k) 32 k (B 35 k)) 34 k (B 37 k) := by
  funext a b
  unfold mw1
  simp only [mv_sr_ap, mv_si_ap]
  rw [← fa_fill_succ, ← fa_fill_succ]
  unfold upd
  by_cases h4 : a = 34
  · rw [if_pos h4, if_pos h4]
    by_cases hb : b = k
    · rw [if_pos hb, if_pos ⟨h4, hb⟩]
    · rw [if_neg hb, if_neg (fun z => hb z.2), if_neg (by omega)]
  · have h4b : ¬ (a = 34 ∧ b = k) := fun z => h4 z.1
    rw [if_neg h4, if_neg h4b, if_neg h4]
    by_cases h2 : a = 32
    · rw [if_pos h2, if_pos h2]
      by_cases hb : b = k
      · rw [if_pos hb, if_pos ⟨h2, hb⟩]
      · rw [if_neg hb, if_neg (fun z => hb z.2)]
    · have h2b : ¬ (a = 32 ∧ b = k) := fun z => h2 z.1
      rw [if_neg h2, if_neg h2b, if_neg h2]
theorem watch_27 {B : mv_I} {J : mv_J} {K : mv_K} (fin : K (some (.int (B 30 8))) (mwt B) J) : ∀ q k : Nat, k + q = 5 → mv_V mv_ow mv_swf mv_t_X7_watch (mv_cs [(131, sp_mReadWatch)]) K 27 [(0, .ref 30), (1, .int (nI k))] [] (mw1 B k) J := by
  intro q
  induction q with
  | zero =>
    intro k hk
    have hk : k = 5 := hk
    subst hk
    have k6 := watch_64 fin 25 0 rfl
    rw [mv_sr_self (fun b => by
      rw [fa_fill_0]
      unfold mw1
      rw [mv_sr_ne (by decide), mv_sr_ne (by decide), mv_si_ne (by decide)])] at k6
    refine mv_run_V (stop := [27, 64]) 60 _ _ _ _ _ ?_
    exact ⟨fun _ => k6, fun z => absurd z (by decide)⟩
  | succ q ih =>
    intro k hk
    have ck : (nI k).toNatClampNeg = k := nI_clamp (by omega)
    refine mv_run_V (stop := [27, 64]) 40 _ _ _ _ _ ?_
    refine ⟨fun z => ?_, fun _ => ?_⟩
    · have z : ¬ nI k < nI 5 := z
      exact absurd (nI_lt (by omega) (by decide)) z
    · refine ⟨rfl, _, rfl, rfl, _, rfl, _, rfl, vp_in_nI (by omega) (by decide), _, rfl, vp_in_nI (by omega) (by decide), rfl, _, rfl, rfl, _, rfl, _, rfl, vp_in_nI (by omega) (by decide), _, rfl, vp_in_nI (by omega) (by decide), ?_⟩
      rw [ck]
      have k6 := ih (k + 1) (by omega)
      have e1 : mw1 B k 35 k = B 35 k := by
        unfold mw1
        rw [mv_sr_ne (by decide), mv_sr_ne (by decide), mv_si_ne (by decide)]
      have e2 : mv_si (mw1 B k) 32 k (mw1 B k 35 k) 37 k = B 37 k := by
        rw [mv_si_ne (by decide)]
        unfold mw1
        rw [mv_sr_ne (by decide), mv_sr_ne (by decide), mv_si_ne (by decide)]
      rw [mw1_succ, nI_succ, ← e2, e1] at k6
      rw [← e1] at k6
      simp only [e1] at k6 ⊢
      exact k6
theorem cb_mWatch : mv_body 144 mv_t_X7_watch (mv_cs [(131, sp_mReadWatch)]) sp_mWatch := by
  intro as I J h
  obtain ⟨hM, rfl⟩ := h
  have hM := MH_th hM
  obtain ⟨-, ⟨n, hn, h2⟩, -⟩ := hM
  have cn : (th I 30 2).toNatClampNeg = n := by rw [h2]; exact nI_clamp (by omega)
  have key : mv_V mv_ow mv_swf mv_t_X7_watch (mv_cs [(131, sp_mReadWatch)]) (sp_mWatch.2 [.ref 30] I J) 5 [(0, .ref 30)] [] (th I) J := by
    refine mv_run_V (stop := [27]) 30 _ _ _ _ _ ?_
    refine ⟨rfl, rfl, ⟨rfl, n, hn, h2⟩, fun r1 B J1 hp => ?_⟩
    obtain ⟨rfl, hp⟩ := hp
    obtain ⟨rfl, hF, hm⟩ := hp n hn h2
    refine ⟨fun h1 => ?_, fun h1 => ?_⟩
    · have k6 := watch_27 (B := B) (J := J) (K := sp_mWatch.2 [.ref 30] I J) ⟨rfl, B, hF, by
        rw [cn, if_pos h1]
        exact ⟨rfl, rfl, hm h1⟩⟩ 5 0 rfl
      have e : mw1 B 0 = mv_si B 30 4 (B 30 8) := by
        unfold mw1
        rw [fa_fill_0, fa_fill_0, mv_sr_self (fun b => by rw [mv_sr_ne (by decide), mv_si_ne (by decide)]), mv_sr_self (fun b => by rw [mv_si_ne (by decide)])]
      rw [e] at k6
      exact ⟨rfl, rfl, k6⟩
    · refine ⟨rfl, B, hF, ?_⟩
      rw [cn, if_neg h1]
      exact ⟨rfl, rfl⟩
  refine ⟨rfl, mv_run_V (stop := [5]) 30 _ _ _ _ _ ?_⟩
  exact ⟨rfl, key⟩
theorem c_mWatch {l : Launch} {G : mv_G} {A : Nat → Prop} (hG : mv_adk G A) : mv_Con l G A 144 sp_mWatch := mv_con hG 144 mv_k_X7_watch (by decide +kernel) (mv_cs_cons (c_mReadWatch hG) (mv_cs_nil)) cb_mWatch
end
section
/-! The reference: the square of a mean. -/
def sqF (up s bd : Nat) (w : Int32) : Nat → Nat → Int64
  | 0, k => if k = bd ∨ k = up then 10 else 0
  | t + 1, k => if up + t - 2 - s < bd ∧ k = up + t - 2 - s then sqF up s bd w t k - (mch w t).toInt64 else sqF up s bd w t k
theorem two_lt : ∀ i, i < 6 → ((2 : Int32) < nI i - 2 ↔ 5 ≤ i) := by decide +kernel
theorem sub2_succ (i : Nat) : nI (i + 1) - 2 = nI i - 2 + 1 := by
  rw [nI_succ, Int32.sub_eq_add_neg, Int32.sub_eq_add_neg, Int32.add_assoc, Int32.add_comm 1, ← Int32.add_assoc]
theorem e7 (s : Nat) : nI 7 * nI s = nI (7 * s) := (Int32.ofNat_mul 7 s).symm
abbrev lsq_cs : Nat → mv_SP := mv_cs [(126, sp_over), (91, sp_chanceOf)]
theorem ls_68 {J0 : mv_J} {I : mv_I} {K : mv_K} {up s bd : Nat} (hup : up < bd) (hbd : bd ≤ 6) (hs : s ≤ 9)
    (hK : ∀ J1 : mv_J, (∀ k, k < 7 → J1 48 (7 * up + k) = sqF up s bd (I 39 120) 5 k) → (∀ a, a ≠ 48 → J1 a = J0 a) → (∀ b, (b < 7 * up ∨ 7 * up + 7 ≤ b) → J1 48 b = J0 48 b) → mv_V mv_ow mv_swf mv_t_X7_laySquare lsq_cs K 2 [(0, .ref 30), (1, .int (nI bd)), (2, .int (nI s)), (3, .int (nI up + 1))] [] I J1) : ∀ q i : Nat, i + q = 5 → ∀ (J1 : mv_J) , (∀ k, k < 7 → J1 48 (7 * up + k) = sqF up s bd (I 39 120) i k) → (∀ a, a ≠ 48 → J1 a = J0 a) → (∀ b, (b < 7 * up ∨ 7 * up + 7 ≤ b) → J1 48 b = J0 48 b) → mv_V mv_ow mv_swf mv_t_X7_laySquare lsq_cs K 68 [(0, .ref 30), (1, .int (nI bd)), (2, .int (nI s)), (3, .int (nI up)), (4, .int (nI i - 2))] [] I J1 := by
  intro q
  induction q with
  | zero =>
    intro i hi J1 h1 h2 h3
    have hi : i = 5 := hi
    subst hi
    refine mv_run_V (stop := [2, 68]) 40 _ _ _ _ _ ?_
    refine ⟨fun _ => ?_, fun z => absurd ((two_lt 5 (by decide)).mpr (by decide)) z⟩
    exact mv_keep [0, 1, 2, 3] (hK J1 h1 h2 h3)
  | succ q ih =>
    intro i hi J1 h1 h2 h3
    have hlt : up + i - 2 - s < 12 := by omega
    have eo : mv_mx 0 (nI up + (nI i - 2) - nI s) = nI (up + i - 2 - s) := by
      have e : nI up + (nI i - 2) = nI (up + i) - nI 2 := by
        rw [← nI_add, Int32.sub_eq_add_neg, Int32.sub_eq_add_neg, Int32.add_assoc]
        rfl
      rw [e]
      exact mx_sub (by omega) (by omega) (by omega)
    refine mv_run_V (stop := [2, 68]) 60 _ _ _ _ _ ?_
    refine ⟨fun z => absurd ((two_lt i (by omega)).mp z) (by omega), fun _ => ?_⟩
    refine ⟨rfl, ⟨_, rfl⟩, fun r1 I1 J2 hp => ?_⟩
    obtain ⟨rfl, rfl, hq⟩ := hp
    have hq : r1 = some (.int (mv_mx 0 (nI up + (nI i - 2) - nI s))) := hq
    rw [eo] at hq
    subst hq
    have nx : ∀ J3 : mv_J, ∀ x5 : Value, (∀ k, k < 7 → J3 48 (7 * up + k) = sqF up s bd (I 39 120) (i + 1) k) → (∀ a, a ≠ 48 → J3 a = J0 a) → (∀ b, (b < 7 * up ∨ 7 * up + 7 ≤ b) → J3 48 b = J0 48 b) → mv_V mv_ow mv_swf mv_t_X7_laySquare lsq_cs K 68 [(0, .ref 30), (1, .int (nI bd)), (2, .int (nI s)), (3, .int (nI up)), (4, .int (nI i - 2 + 1)), (5, x5)] [] I J3 := by
      intro J3 x5 g1 g2 g3
      have k6 := ih (i + 1) (by omega) J3 g1 g2 g3
      rw [sub2_succ] at k6
      exact mv_keep [0, 1, 2, 3, 4] k6
    refine ⟨fun h4 => ?_, fun h4 => ?_⟩
    · have h4 : ¬ up + i - 2 - s < bd := fun z => h4 (nI_lt z (by omega))
      refine nx J1 _ (fun k hk => ?_) h2 h3
      rw [sqF, if_neg (fun z => h4 z.1)]
      exact h1 k hk
    · have h4 : up + i - 2 - s < bd := (nI_ltI (by omega) (by omega)).mp h4
      have ex : nI 7 * nI up + nI (up + i - 2 - s) = nI (7 * up + (up + i - 2 - s)) := by rw [e7, nI_add]
      have cx : (nI 7 * nI up + nI (up + i - 2 - s)).toNatClampNeg = 7 * up + (up + i - 2 - s) := by rw [ex]; exact nI_clamp (by omega)
      have ixx : vp_in (nI 7 * nI up + nI (up + i - 2 - s)) 42 := by rw [ex]; exact vp_in_nI (by omega) (by decide)
      refine ⟨rfl, _, rfl, _, rfl, ixx, rfl, rfl, ⟨i, by omega, rfl⟩, fun r1 I1 J2 hp => ?_⟩
      obtain ⟨rfl, rfl, hq⟩ := hp
      have hq := hq i (by omega) rfl
      subst hq
      refine ⟨_, rfl, ixx, ?_⟩
      refine nx _ _ (fun k hk => ?_) (fun a ha => ?_) (fun b hb => ?_)
      · show mv_sj J1 48 (nI 7 * nI up + nI (up + i - 2 - s)).toNatClampNeg (J1 48 (nI 7 * nI up + nI (up + i - 2 - s)).toNatClampNeg - (mch (I 39 120) i).toInt64) 48 (7 * up + k) = _
        rw [cx, mv_sj_ap, sqF]
        by_cases e : k = up + i - 2 - s
        · rw [if_pos ⟨rfl, by omega⟩, if_pos ⟨h4, e⟩, ← h1 k hk, e]
        · rw [if_neg (fun z => by omega), if_neg (fun z => e z.2)]
          exact h1 k hk
      · show mv_sj J1 48 _ _ a = _
        rw [mv_sj_ne ha]
        exact h2 a ha
      · show mv_sj J1 48 (nI 7 * nI up + nI (up + i - 2 - s)).toNatClampNeg _ 48 b = _
        rw [cx, mv_sj_ap, if_neg (fun z => by omega)]
        exact h3 b hb
theorem ls_10 {J0 : mv_J} {I : mv_I} {K : mv_K} {up s bd : Nat} (hup : up < bd) (hbd : bd ≤ 6) (hs : s ≤ 9)
    (hK : ∀ J1 : mv_J, (∀ k, k < 7 → J1 48 (7 * up + k) = sqF up s bd (I 39 120) 5 k) → (∀ a, a ≠ 48 → J1 a = J0 a) → (∀ b, (b < 7 * up ∨ 7 * up + 7 ≤ b) → J1 48 b = J0 48 b) → mv_V mv_ow mv_swf mv_t_X7_laySquare lsq_cs K 2 [(0, .ref 30), (1, .int (nI bd)), (2, .int (nI s)), (3, .int (nI up + 1))] [] I J1) : ∀ q i : Nat, i + q = 7 → ∀ (J1 : mv_J) , (∀ k, k < i → J1 48 (7 * up + k) = 0) → (∀ a, a ≠ 48 → J1 a = J0 a) → (∀ b, (b < 7 * up ∨ 7 * up + 7 ≤ b) → J1 48 b = J0 48 b) → mv_V mv_ow mv_swf mv_t_X7_laySquare lsq_cs K 10 [(0, .ref 30), (1, .int (nI bd)), (2, .int (nI s)), (3, .int (nI up)), (4, .int (nI i))] [] I J1 := by
  intro q
  induction q with
  | zero =>
    intro i hi J1 h1 h2 h3
    have hi : i = 7 := hi
    subst hi
    have eu : nI 7 * nI up + nI up = nI (7 * up + up) := by rw [e7, nI_add]
    have eb : nI 7 * nI up + nI bd = nI (7 * up + bd) := by rw [e7, nI_add]
    have cu : (nI 7 * nI up + nI up).toNatClampNeg = 7 * up + up := by rw [eu]; exact nI_clamp (by omega)
    have cb : (nI 7 * nI up + nI bd).toNatClampNeg = 7 * up + bd := by rw [eb]; exact nI_clamp (by omega)
    have iu : vp_in (nI 7 * nI up + nI up) 42 := by rw [eu]; exact vp_in_nI (by omega) (by decide)
    have ib : vp_in (nI 7 * nI up + nI bd) 42 := by rw [eb]; exact vp_in_nI (by omega) (by decide)
    refine mv_run_V (stop := [10, 68]) 60 _ _ _ _ _ ?_
    refine ⟨fun _ => ?_, fun z => absurd z (by decide)⟩
    refine ⟨rfl, _, rfl, _, rfl, iu, rfl, _, rfl, _, rfl, ib, ?_⟩
    refine ls_68 hup hbd hs hK 5 0 rfl _ (fun k hk => ?_) (fun a ha => ?_) (fun b hb => ?_)
    · show mv_sj (mv_sj J1 48 (nI 7 * nI up + nI up).toNatClampNeg 10) 48 (nI 7 * nI up + nI bd).toNatClampNeg 10 48 (7 * up + k) = _
      rw [cu, cb, mv_sj_ap, mv_sj_ap, sqF]
      by_cases e : k = bd
      · rw [if_pos ⟨rfl, by omega⟩, if_pos (Or.inl e)]
      · rw [if_neg (fun z => by omega)]
        by_cases e2 : k = up
        · rw [if_pos ⟨rfl, by omega⟩, if_pos (Or.inr e2)]
        · rw [if_neg (fun z => by omega), if_neg (fun z => z.elim e e2)]
          exact h1 k hk
    · show mv_sj (mv_sj J1 48 _ 10) 48 _ 10 a = _
      rw [mv_sj_ne ha, mv_sj_ne ha]
      exact h2 a ha
    · show mv_sj (mv_sj J1 48 (nI 7 * nI up + nI up).toNatClampNeg 10) 48 (nI 7 * nI up + nI bd).toNatClampNeg 10 48 b = _
      rw [cu, cb, mv_sj_ap, if_neg (fun z => by omega), mv_sj_ap, if_neg (fun z => by omega)]
      exact h3 b hb
  | succ q ih =>
    intro i hi J1 h1 h2 h3
    have ei : nI 7 * nI up + nI i = nI (7 * up + i) := by rw [e7, nI_add]
    have ci : (nI 7 * nI up + nI i).toNatClampNeg = 7 * up + i := by rw [ei]; exact nI_clamp (by omega)
    have ii : vp_in (nI 7 * nI up + nI i) 42 := by rw [ei]; exact vp_in_nI (by omega) (by decide)
    refine mv_run_V (stop := [10, 68]) 60 _ _ _ _ _ ?_
    refine ⟨fun z => ?_, fun _ => ?_⟩
    · have z : ¬ nI i < nI 7 := z
      exact absurd (nI_lt (by omega) (by decide)) z
    · refine ⟨rfl, _, rfl, _, rfl, ii, ?_⟩
      have k6 := ih (i + 1) (by omega) (mv_sj J1 48 (nI 7 * nI up + nI i).toNatClampNeg 0) (fun k hk => ?_) (fun a ha => ?_) (fun b hb => ?_)
      · rw [nI_succ] at k6
        exact k6
      · rw [ci, mv_sj_ap]
        by_cases e : k = i
        · rw [if_pos ⟨rfl, by omega⟩]
        · rw [if_neg (fun z => by omega)]
          exact h1 k (by omega)
      · rw [mv_sj_ne ha]
        exact h2 a ha
      · rw [ci, mv_sj_ap, if_neg (fun z => by omega)]
        exact h3 b hb
def sp_laySquare : mv_SP := (fun as _ _ => ∃ bd s : Nat, bd ≤ 6 ∧ s ≤ 9 ∧ as = [.ref 30, .int (nI bd), .int (nI s)],
  fun as I J r I' J' => r = none ∧ I = I' ∧ (∀ a, a ≠ 48 → J' a = J a) ∧ match as with
    | [_, .int bd, .int s] => ∀ up, up < bd.toNatClampNeg → ∀ k, k < 7 → J' 48 (7 * up + k) = sqF up s.toNatClampNeg bd.toNatClampNeg (I 39 120) 5 k
    | _ => True)
theorem cb_laySquare : mv_body 114 mv_t_X7_laySquare (mv_cs [(126, sp_over), (91, sp_chanceOf)]) sp_laySquare := by
  intro as I J h
  obtain ⟨bd, s, hbd, hs, rfl⟩ := h
  have cb : (nI bd).toNatClampNeg = bd := nI_clamp (by omega)
  have cs : (nI s).toNatClampNeg = s := nI_clamp (by omega)
  have key : ∀ q up : Nat, up + q = bd → ∀ J1 : mv_J, (∀ a, a ≠ 48 → J1 a = J a) → (∀ u, u < up → ∀ k, k < 7 → J1 48 (7 * u + k) = sqF u s bd (I 39 120) 5 k) → mv_V mv_ow mv_swf mv_t_X7_laySquare lsq_cs (sp_laySquare.2 [.ref 30, .int (nI bd), .int (nI s)] I J) 2 [(0, .ref 30), (1, .int (nI bd)), (2, .int (nI s)), (3, .int (nI up))] [] I J1 := by
    intro q
    induction q with
    | zero =>
      intro up hup J1 h1 h2
      have hup : up = bd := hup
      subst hup
      refine mv_run_V (stop := [2, 10]) 30 _ _ _ _ _ ?_
      refine ⟨fun _ => ?_, fun z => absurd z (nI_nlt (Nat.le_refl _) (by omega))⟩
      refine ⟨rfl, rfl, h1, ?_⟩
      show ∀ u, u < (nI up).toNatClampNeg → ∀ k, k < 7 → J1 48 (7 * u + k) = sqF u (nI s).toNatClampNeg (nI up).toNatClampNeg (I 39 120) 5 k
      rw [cb, cs]
      exact h2
    | succ q ih =>
      intro up hup J1 h1 h2
      refine mv_run_V (stop := [2, 10]) 30 _ _ _ _ _ ?_
      refine ⟨fun z => absurd (nI_lt (by omega) (by omega)) z, fun _ => ?_⟩
      refine ls_10 (J0 := J1) (by omega) hbd hs (fun J2 g1 g2 g3 => ?_) 7 0 rfl J1 (fun k hk => absurd hk (Nat.not_lt_zero k)) (fun _ _ => rfl) (fun _ _ => rfl)
      have k6 := ih (up + 1) (by omega) J2 (fun a ha => (g2 a ha).trans (h1 a ha)) (fun u hu k hk => ?_)
      · rw [nI_succ] at k6
        exact k6
      · by_cases e : u = up
        · rw [e]
          exact g1 k hk
        · rw [g3 _ (by omega)]
          exact h2 u (by omega) k hk
  refine ⟨rfl, mv_run_V (stop := [2]) 30 _ _ _ _ _ ?_⟩
  exact key bd 0 (Nat.zero_add bd) J (fun _ _ => rfl) (fun u hu => absurd hu (Nat.not_lt_zero u))
theorem c_laySquare {l : Launch} {G : mv_G} {A : Nat → Prop} (hG : mv_adk G A) : mv_Con l G A 114 sp_laySquare := mv_con hG 114 mv_k_X7_laySquare (by decide +kernel) (mv_cs_cons (c_over hG) (mv_cs_cons (c_chanceOf hG) (mv_cs_nil))) cb_laySquare
end
