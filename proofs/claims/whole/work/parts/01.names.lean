-- part A and the printed names: laid by wip/whole/gen/gen_names.py
/-- a private method of a class that the tables say can be made, by its rows of tables_1 -/
def lw_okq (q : MethodName × Nat) : Prop := (q.1.cls ≠ "java/lang/invoke/MethodHandle" ∧ q.1.cls ≠ "java/lang/invoke/VarHandle") ∧ Cond.instantiable q.1.cls q.2 ∈ tables_1 ∧ Cond.privateMethod q.1 ∈ tables_1 ∧ Cond.instanceMethod q.1 ∈ tables_1
theorem lw_p0 : lw_okq (⟨"java/lang/Throwable", "fillInStackTrace", "(I)Ljava/lang/Throwable;"⟩, 6) := ⟨⟨by decide +kernel, by decide +kernel⟩, List.mem_of_getElem? (i := 311) (by decide +kernel), List.mem_of_getElem? (i := 309) (by decide +kernel), List.mem_of_getElem? (i := 310) (by decide +kernel)⟩
theorem lw_p1 : lw_okq (⟨"RingReadings$Ring", "readsLess", "(II)Z"⟩, 2) := ⟨⟨by decide +kernel, by decide +kernel⟩, List.mem_of_getElem? (i := 51) (by decide +kernel), List.mem_of_getElem? (i := 381) (by decide +kernel), List.mem_of_getElem? (i := 382) (by decide +kernel)⟩
theorem lw_p2 : lw_okq (⟨"RingReadings$Ring", "readsAsFromZero", "(II)Z"⟩, 2) := ⟨⟨by decide +kernel, by decide +kernel⟩, List.mem_of_getElem? (i := 51) (by decide +kernel), List.mem_of_getElem? (i := 390) (by decide +kernel), List.mem_of_getElem? (i := 391) (by decide +kernel)⟩
theorem lw_p3 : lw_okq (⟨"RingReadings$Walker", "viewFrom", "(ILRingReadings$Ring;)I"⟩, 5) := ⟨⟨by decide +kernel, by decide +kernel⟩, List.mem_of_getElem? (i := 87) (by decide +kernel), List.mem_of_getElem? (i := 703) (by decide +kernel), List.mem_of_getElem? (i := 704) (by decide +kernel)⟩
theorem lw_p4 : lw_okq (⟨"RingReadingsModel", "refuses", "(I)Z"⟩, 9) := ⟨⟨by decide +kernel, by decide +kernel⟩, List.mem_of_getElem? (i := 869) (by decide +kernel), List.mem_of_getElem? (i := 911) (by decide +kernel), List.mem_of_getElem? (i := 912) (by decide +kernel)⟩
theorem lw_p5 : lw_okq (⟨"RingReadingsModel", "error", "(Z)I"⟩, 9) := ⟨⟨by decide +kernel, by decide +kernel⟩, List.mem_of_getElem? (i := 869) (by decide +kernel), List.mem_of_getElem? (i := 933) (by decide +kernel), List.mem_of_getElem? (i := 934) (by decide +kernel)⟩
theorem lw_p6 : lw_okq (⟨"RingReadingsModel", "abouts", "(I)I"⟩, 9) := ⟨⟨by decide +kernel, by decide +kernel⟩, List.mem_of_getElem? (i := 869) (by decide +kernel), List.mem_of_getElem? (i := 941) (by decide +kernel), List.mem_of_getElem? (i := 942) (by decide +kernel)⟩
theorem lw_p7 : lw_okq (⟨"RingReadingsModel", "dividers", "()I"⟩, 9) := ⟨⟨by decide +kernel, by decide +kernel⟩, List.mem_of_getElem? (i := 869) (by decide +kernel), List.mem_of_getElem? (i := 945) (by decide +kernel), List.mem_of_getElem? (i := 946) (by decide +kernel)⟩
theorem lw_p8 : lw_okq (⟨"RingReadingsModel", "beginning", "()I"⟩, 9) := ⟨⟨by decide +kernel, by decide +kernel⟩, List.mem_of_getElem? (i := 869) (by decide +kernel), List.mem_of_getElem? (i := 955) (by decide +kernel), List.mem_of_getElem? (i := 956) (by decide +kernel)⟩
theorem lw_p9 : lw_okq (⟨"RingReadingsModel", "less", "(II)I"⟩, 9) := ⟨⟨by decide +kernel, by decide +kernel⟩, List.mem_of_getElem? (i := 869) (by decide +kernel), List.mem_of_getElem? (i := 959) (by decide +kernel), List.mem_of_getElem? (i := 960) (by decide +kernel)⟩
theorem lw_p10 : lw_okq (⟨"RingReadingsModel", "rankAt", "(I)I"⟩, 9) := ⟨⟨by decide +kernel, by decide +kernel⟩, List.mem_of_getElem? (i := 869) (by decide +kernel), List.mem_of_getElem? (i := 966) (by decide +kernel), List.mem_of_getElem? (i := 967) (by decide +kernel)⟩
theorem lw_p11 : lw_okq (⟨"RingReadingsModel", "period", "()I"⟩, 9) := ⟨⟨by decide +kernel, by decide +kernel⟩, List.mem_of_getElem? (i := 869) (by decide +kernel), List.mem_of_getElem? (i := 970) (by decide +kernel), List.mem_of_getElem? (i := 971) (by decide +kernel)⟩
theorem lw_p12 : lw_okq (⟨"RingReadingsModel", "mirrors", "()I"⟩, 9) := ⟨⟨by decide +kernel, by decide +kernel⟩, List.mem_of_getElem? (i := 869) (by decide +kernel), List.mem_of_getElem? (i := 974) (by decide +kernel), List.mem_of_getElem? (i := 975) (by decide +kernel)⟩
theorem lw_p13 : lw_okq (⟨"RingReadingsModel", "isMirrored", "(I)Z"⟩, 9) := ⟨⟨by decide +kernel, by decide +kernel⟩, List.mem_of_getElem? (i := 869) (by decide +kernel), List.mem_of_getElem? (i := 978) (by decide +kernel), List.mem_of_getElem? (i := 979) (by decide +kernel)⟩
theorem lw_p14 : lw_okq (⟨"RingReadingsModel", "isPlace", "(I)Z"⟩, 9) := ⟨⟨by decide +kernel, by decide +kernel⟩, List.mem_of_getElem? (i := 869) (by decide +kernel), List.mem_of_getElem? (i := 986) (by decide +kernel), List.mem_of_getElem? (i := 987) (by decide +kernel)⟩
theorem lw_p15 : lw_okq (⟨"RingReadingsModel", "isWord", "(I)Z"⟩, 9) := ⟨⟨by decide +kernel, by decide +kernel⟩, List.mem_of_getElem? (i := 869) (by decide +kernel), List.mem_of_getElem? (i := 997) (by decide +kernel), List.mem_of_getElem? (i := 998) (by decide +kernel)⟩
def lw_privs_1 : List (MethodName × Nat) := [(⟨"java/lang/Throwable", "fillInStackTrace", "(I)Ljava/lang/Throwable;"⟩, 6), (⟨"RingReadings$Ring", "readsLess", "(II)Z"⟩, 2), (⟨"RingReadings$Ring", "readsAsFromZero", "(II)Z"⟩, 2), (⟨"RingReadings$Walker", "viewFrom", "(ILRingReadings$Ring;)I"⟩, 5), (⟨"RingReadingsModel", "refuses", "(I)Z"⟩, 9), (⟨"RingReadingsModel", "error", "(Z)I"⟩, 9), (⟨"RingReadingsModel", "abouts", "(I)I"⟩, 9), (⟨"RingReadingsModel", "dividers", "()I"⟩, 9), (⟨"RingReadingsModel", "beginning", "()I"⟩, 9), (⟨"RingReadingsModel", "less", "(II)I"⟩, 9), (⟨"RingReadingsModel", "rankAt", "(I)I"⟩, 9), (⟨"RingReadingsModel", "period", "()I"⟩, 9), (⟨"RingReadingsModel", "mirrors", "()I"⟩, 9), (⟨"RingReadingsModel", "isMirrored", "(I)Z"⟩, 9), (⟨"RingReadingsModel", "isPlace", "(I)Z"⟩, 9), (⟨"RingReadingsModel", "isWord", "(I)Z"⟩, 9)]
theorem lw_r1 : ∀ q ∈ lw_privs_1, lw_okq q := List.forall_mem_cons.mpr ⟨lw_p0, List.forall_mem_cons.mpr ⟨lw_p1, List.forall_mem_cons.mpr ⟨lw_p2, List.forall_mem_cons.mpr ⟨lw_p3, List.forall_mem_cons.mpr ⟨lw_p4, List.forall_mem_cons.mpr ⟨lw_p5, List.forall_mem_cons.mpr ⟨lw_p6, List.forall_mem_cons.mpr ⟨lw_p7, List.forall_mem_cons.mpr ⟨lw_p8, List.forall_mem_cons.mpr ⟨lw_p9, List.forall_mem_cons.mpr ⟨lw_p10, List.forall_mem_cons.mpr ⟨lw_p11, List.forall_mem_cons.mpr ⟨lw_p12, List.forall_mem_cons.mpr ⟨lw_p13, List.forall_mem_cons.mpr ⟨lw_p14, List.forall_mem_cons.mpr ⟨lw_p15, fun _ h => absurd h List.not_mem_nil⟩⟩⟩⟩⟩⟩⟩⟩⟩⟩⟩⟩⟩⟩⟩⟩
theorem lw_p16 : lw_okq (⟨"RingReadingsModel", "ofReading", "(II)I"⟩, 9) := ⟨⟨by decide +kernel, by decide +kernel⟩, List.mem_of_getElem? (i := 869) (by decide +kernel), List.mem_of_getElem? (i := 1008) (by decide +kernel), List.mem_of_getElem? (i := 1009) (by decide +kernel)⟩
theorem lw_p17 : lw_okq (⟨"RingReadingsModel", "longest", "(I)I"⟩, 9) := ⟨⟨by decide +kernel, by decide +kernel⟩, List.mem_of_getElem? (i := 869) (by decide +kernel), List.mem_of_getElem? (i := 1034) (by decide +kernel), List.mem_of_getElem? (i := 1035) (by decide +kernel)⟩
theorem lw_p18 : lw_okq (⟨"RingReadingsModel", "ofSegment", "(III)I"⟩, 9) := ⟨⟨by decide +kernel, by decide +kernel⟩, List.mem_of_getElem? (i := 869) (by decide +kernel), List.mem_of_getElem? (i := 1045) (by decide +kernel), List.mem_of_getElem? (i := 1046) (by decide +kernel)⟩
theorem lw_p19 : lw_okq (⟨"RingReadingsModel", "lowestFit", "(II)I"⟩, 9) := ⟨⟨by decide +kernel, by decide +kernel⟩, List.mem_of_getElem? (i := 869) (by decide +kernel), List.mem_of_getElem? (i := 1049) (by decide +kernel), List.mem_of_getElem? (i := 1050) (by decide +kernel)⟩
theorem lw_p20 : lw_okq (⟨"RingReadingsModel", "wornIn", "(II)I"⟩, 9) := ⟨⟨by decide +kernel, by decide +kernel⟩, List.mem_of_getElem? (i := 869) (by decide +kernel), List.mem_of_getElem? (i := 1053) (by decide +kernel), List.mem_of_getElem? (i := 1054) (by decide +kernel)⟩
theorem lw_p21 : lw_okq (⟨"RingReadingsModel", "found", "(III)I"⟩, 9) := ⟨⟨by decide +kernel, by decide +kernel⟩, List.mem_of_getElem? (i := 869) (by decide +kernel), List.mem_of_getElem? (i := 1061) (by decide +kernel), List.mem_of_getElem? (i := 1062) (by decide +kernel)⟩
theorem lw_p22 : lw_okq (⟨"RingReadingsModel", "isWalker", "(I)Z"⟩, 9) := ⟨⟨by decide +kernel, by decide +kernel⟩, List.mem_of_getElem? (i := 869) (by decide +kernel), List.mem_of_getElem? (i := 1069) (by decide +kernel), List.mem_of_getElem? (i := 1070) (by decide +kernel)⟩
theorem lw_p23 : lw_okq (⟨"RingReadingsModel", "ofWalker", "(II)I"⟩, 9) := ⟨⟨by decide +kernel, by decide +kernel⟩, List.mem_of_getElem? (i := 869) (by decide +kernel), List.mem_of_getElem? (i := 1073) (by decide +kernel), List.mem_of_getElem? (i := 1074) (by decide +kernel)⟩
theorem lw_p24 : lw_okq (⟨"RingReadingsModel", "remembers", "()V"⟩, 9) := ⟨⟨by decide +kernel, by decide +kernel⟩, List.mem_of_getElem? (i := 869) (by decide +kernel), List.mem_of_getElem? (i := 1093) (by decide +kernel), List.mem_of_getElem? (i := 1094) (by decide +kernel)⟩
theorem lw_p25 : lw_okq (⟨"RingReadingsModel", "signOf", "(I)I"⟩, 9) := ⟨⟨by decide +kernel, by decide +kernel⟩, List.mem_of_getElem? (i := 869) (by decide +kernel), List.mem_of_getElem? (i := 1097) (by decide +kernel), List.mem_of_getElem? (i := 1098) (by decide +kernel)⟩
theorem lw_p26 : lw_okq (⟨"RingReadingsModel", "meets", "(II)I"⟩, 9) := ⟨⟨by decide +kernel, by decide +kernel⟩, List.mem_of_getElem? (i := 869) (by decide +kernel), List.mem_of_getElem? (i := 1177) (by decide +kernel), List.mem_of_getElem? (i := 1178) (by decide +kernel)⟩
theorem lw_p27 : lw_okq (⟨"RingReadingsModel", "seesIn", "(I)I"⟩, 9) := ⟨⟨by decide +kernel, by decide +kernel⟩, List.mem_of_getElem? (i := 869) (by decide +kernel), List.mem_of_getElem? (i := 1185) (by decide +kernel), List.mem_of_getElem? (i := 1186) (by decide +kernel)⟩
theorem lw_p28 : lw_okq (⟨"RingReadingsModel", "wornReadings", "(II)I"⟩, 9) := ⟨⟨by decide +kernel, by decide +kernel⟩, List.mem_of_getElem? (i := 869) (by decide +kernel), List.mem_of_getElem? (i := 1193) (by decide +kernel), List.mem_of_getElem? (i := 1194) (by decide +kernel)⟩
theorem lw_p29 : lw_okq (⟨"RingReadingsModel", "divides", "(II)I"⟩, 9) := ⟨⟨by decide +kernel, by decide +kernel⟩, List.mem_of_getElem? (i := 869) (by decide +kernel), List.mem_of_getElem? (i := 1201) (by decide +kernel), List.mem_of_getElem? (i := 1202) (by decide +kernel)⟩
theorem lw_p30 : lw_okq (⟨"RingReadingsModel", "letters", "(II)I"⟩, 9) := ⟨⟨by decide +kernel, by decide +kernel⟩, List.mem_of_getElem? (i := 869) (by decide +kernel), List.mem_of_getElem? (i := 1213) (by decide +kernel), List.mem_of_getElem? (i := 1214) (by decide +kernel)⟩
theorem lw_p31 : lw_okq (⟨"RingReadingsModel", "tries", "(I)Z"⟩, 9) := ⟨⟨by decide +kernel, by decide +kernel⟩, List.mem_of_getElem? (i := 869) (by decide +kernel), List.mem_of_getElem? (i := 1224) (by decide +kernel), List.mem_of_getElem? (i := 1225) (by decide +kernel)⟩
def lw_privs_2 : List (MethodName × Nat) := [(⟨"RingReadingsModel", "ofReading", "(II)I"⟩, 9), (⟨"RingReadingsModel", "longest", "(I)I"⟩, 9), (⟨"RingReadingsModel", "ofSegment", "(III)I"⟩, 9), (⟨"RingReadingsModel", "lowestFit", "(II)I"⟩, 9), (⟨"RingReadingsModel", "wornIn", "(II)I"⟩, 9), (⟨"RingReadingsModel", "found", "(III)I"⟩, 9), (⟨"RingReadingsModel", "isWalker", "(I)Z"⟩, 9), (⟨"RingReadingsModel", "ofWalker", "(II)I"⟩, 9), (⟨"RingReadingsModel", "remembers", "()V"⟩, 9), (⟨"RingReadingsModel", "signOf", "(I)I"⟩, 9), (⟨"RingReadingsModel", "meets", "(II)I"⟩, 9), (⟨"RingReadingsModel", "seesIn", "(I)I"⟩, 9), (⟨"RingReadingsModel", "wornReadings", "(II)I"⟩, 9), (⟨"RingReadingsModel", "divides", "(II)I"⟩, 9), (⟨"RingReadingsModel", "letters", "(II)I"⟩, 9), (⟨"RingReadingsModel", "tries", "(I)Z"⟩, 9)]
theorem lw_r2 : ∀ q ∈ lw_privs_2, lw_okq q := List.forall_mem_cons.mpr ⟨lw_p16, List.forall_mem_cons.mpr ⟨lw_p17, List.forall_mem_cons.mpr ⟨lw_p18, List.forall_mem_cons.mpr ⟨lw_p19, List.forall_mem_cons.mpr ⟨lw_p20, List.forall_mem_cons.mpr ⟨lw_p21, List.forall_mem_cons.mpr ⟨lw_p22, List.forall_mem_cons.mpr ⟨lw_p23, List.forall_mem_cons.mpr ⟨lw_p24, List.forall_mem_cons.mpr ⟨lw_p25, List.forall_mem_cons.mpr ⟨lw_p26, List.forall_mem_cons.mpr ⟨lw_p27, List.forall_mem_cons.mpr ⟨lw_p28, List.forall_mem_cons.mpr ⟨lw_p29, List.forall_mem_cons.mpr ⟨lw_p30, List.forall_mem_cons.mpr ⟨lw_p31, fun _ h => absurd h List.not_mem_nil⟩⟩⟩⟩⟩⟩⟩⟩⟩⟩⟩⟩⟩⟩⟩⟩
theorem lw_p32 : lw_okq (⟨"RingReadingsModel", "triesAct", "(III)Z"⟩, 9) := ⟨⟨by decide +kernel, by decide +kernel⟩, List.mem_of_getElem? (i := 869) (by decide +kernel), List.mem_of_getElem? (i := 1228) (by decide +kernel), List.mem_of_getElem? (i := 1229) (by decide +kernel)⟩
theorem lw_p33 : lw_okq (⟨"RingReadingsModel", "takesTurn", "(I)V"⟩, 9) := ⟨⟨by decide +kernel, by decide +kernel⟩, List.mem_of_getElem? (i := 869) (by decide +kernel), List.mem_of_getElem? (i := 1241) (by decide +kernel), List.mem_of_getElem? (i := 1242) (by decide +kernel)⟩
def lw_privs_3 : List (MethodName × Nat) := [(⟨"RingReadingsModel", "triesAct", "(III)Z"⟩, 9), (⟨"RingReadingsModel", "takesTurn", "(I)V"⟩, 9)]
theorem lw_r3 : ∀ q ∈ lw_privs_3, lw_okq q := List.forall_mem_cons.mpr ⟨lw_p32, List.forall_mem_cons.mpr ⟨lw_p33, fun _ h => absurd h List.not_mem_nil⟩⟩
def lw_privs : List (MethodName × Nat) := lw_privs_1 ++ (lw_privs_2 ++ (lw_privs_3))
def lw_tbl : List Cond := k2_sels lw_privs ++ tables_1
theorem lw_privs_ok : ∀ q ∈ lw_privs, lw_okq q := by
  show ∀ q ∈ lw_privs_1 ++ (lw_privs_2 ++ (lw_privs_3)), lw_okq q
  exact List.forall_mem_append.mpr ⟨lw_r1, List.forall_mem_append.mpr ⟨lw_r2, lw_r3⟩⟩
def RX0 : String := "RingReadings$Book"
def TX0 : u_T := fun k => match k with
  | 0 => ("RingReadings$Book", "letters", "[C", true)
  | 1 => ("RingReadings$Book", "lengths", "[I", true)
  | _ => ("RingReadings$Book", "words", "I", false)
def tyX0 : Nat → FieldType := fun k => match k with
  | 0 => .array .char
  | 1 => .array .int
  | _ => .int
abbrev wsX00 : List Cond := u_ws RX0 TX0 3
theorem nmX0 : ∀ a, a < 3 → ∀ b, b < 3 → a ≠ b → (TX0 a).2.1 ≠ (TX0 b).2.1 := by decide +kernel
theorem tyX0_ok : ∀ k, k < 3 → parseFieldDescriptor (TX0 k).2.2.1 = some (tyX0 k) := by decide +kernel
abbrev cX0_init : ByteArray := prog_2_method_1_code
def yX0_init : MethodName := ⟨RX0, "<init>", "()V"⟩
abbrev cX0_copyFrom : ByteArray := prog_2_method_2_code
def yX0_copyFrom : MethodName := ⟨RX0, "copyFrom", "(LRingReadings$Book;)V"⟩
abbrev cX0_isFull : ByteArray := prog_2_method_3_code
def yX0_isFull : MethodName := ⟨RX0, "isFull", "()Z"⟩
abbrev cX0_hasWord : ByteArray := prog_2_method_4_code
def yX0_hasWord : MethodName := ⟨RX0, "hasWord", "(I)Z"⟩
abbrev cX0_lengthOf : ByteArray := prog_2_method_5_code
def yX0_lengthOf : MethodName := ⟨RX0, "lengthOf", "(I)I"⟩
abbrev cX0_letterOf : ByteArray := prog_2_method_6_code
def yX0_letterOf : MethodName := ⟨RX0, "letterOf", "(II)C"⟩
abbrev cX0_writeDown : ByteArray := prog_2_method_7_code
def yX0_writeDown : MethodName := ⟨RX0, "writeDown", "(LRingReadings$Text;)I"⟩
abbrev cX0_strikeOut : ByteArray := prog_2_method_8_code
def yX0_strikeOut : MethodName := ⟨RX0, "strikeOut", "(I)V"⟩
abbrev cX0_standsFrom : ByteArray := prog_2_method_9_code
def yX0_standsFrom : MethodName := ⟨RX0, "standsFrom", "(ILRingReadings$Ring;II)Z"⟩
abbrev cX0_placeOf : ByteArray := prog_2_method_10_code
def yX0_placeOf : MethodName := ⟨RX0, "placeOf", "(ILRingReadings$Ring;II)I"⟩
abbrev cX0_fits : ByteArray := prog_2_method_11_code
def yX0_fits : MethodName := ⟨RX0, "fits", "(ILRingReadings$Ring;II)Z"⟩
abbrev cX0_countFitting : ByteArray := prog_2_method_12_code
def yX0_countFitting : MethodName := ⟨RX0, "countFitting", "(LRingReadings$Ring;II)I"⟩
abbrev cX0_lowestFitting : ByteArray := prog_2_method_13_code
def yX0_lowestFitting : MethodName := ⟨RX0, "lowestFitting", "(LRingReadings$Ring;II)I"⟩
abbrev cX0_lettersFitting : ByteArray := prog_2_method_14_code
def yX0_lettersFitting : MethodName := ⟨RX0, "lettersFitting", "(LRingReadings$Ring;III)I"⟩
def RX1 : String := "RingReadings$History"
def TX1 : u_T := fun k => match k with
  | 0 => ("RingReadings$History", "rows", "[LRingReadings$State;", true)
  | 1 => ("RingReadings$History", "oldest", "I", false)
  | _ => ("RingReadings$History", "count", "I", false)
def tyX1 : Nat → FieldType := fun k => match k with
  | 0 => .array (.object "RingReadings$State")
  | 1 => .int
  | _ => .int
abbrev wsX10 : List Cond := u_ws RX1 TX1 3
theorem nmX1 : ∀ a, a < 3 → ∀ b, b < 3 → a ≠ b → (TX1 a).2.1 ≠ (TX1 b).2.1 := by decide +kernel
theorem tyX1_ok : ∀ k, k < 3 → parseFieldDescriptor (TX1 k).2.2.1 = some (tyX1 k) := by decide +kernel
abbrev cX1_init : ByteArray := prog_3_method_1_code
def yX1_init : MethodName := ⟨RX1, "<init>", "()V"⟩
abbrev cX1_isEmpty : ByteArray := prog_3_method_2_code
def yX1_isEmpty : MethodName := ⟨RX1, "isEmpty", "()Z"⟩
abbrev cX1_forgetAll : ByteArray := prog_3_method_3_code
def yX1_forgetAll : MethodName := ⟨RX1, "forgetAll", "()V"⟩
abbrev cX1_remember : ByteArray := prog_3_method_4_code
def yX1_remember : MethodName := ⟨RX1, "remember", "(LRingReadings$State;)V"⟩
abbrev cX1_takeBack : ByteArray := prog_3_method_5_code
def yX1_takeBack : MethodName := ⟨RX1, "takeBack", "(LRingReadings$State;)I"⟩
def RX2 : String := "RingReadings$Ring"
def TX2 : u_T := fun k => match k with
  | 0 => ("RingReadings$Ring", "signs", "[C", true)
  | _ => ("RingReadings$Ring", "places", "I", false)
def tyX2 : Nat → FieldType := fun k => match k with
  | 0 => .array .char
  | _ => .int
abbrev wsX20 : List Cond := u_ws RX2 TX2 2
theorem nmX2 : ∀ a, a < 2 → ∀ b, b < 2 → a ≠ b → (TX2 a).2.1 ≠ (TX2 b).2.1 := by decide +kernel
theorem tyX2_ok : ∀ k, k < 2 → parseFieldDescriptor (TX2 k).2.2.1 = some (tyX2 k) := by decide +kernel
abbrev cX2_init : ByteArray := prog_4_method_1_code
def yX2_init : MethodName := ⟨RX2, "<init>", "()V"⟩
abbrev cX2_copyFrom : ByteArray := prog_4_method_2_code
def yX2_copyFrom : MethodName := ⟨RX2, "copyFrom", "(LRingReadings$Ring;)V"⟩
abbrev cX2_layText : ByteArray := prog_4_method_3_code
def yX2_layText : MethodName := ⟨RX2, "layText", "(LRingReadings$Text;)V"⟩
abbrev cX2_isFull : ByteArray := prog_4_method_4_code
def yX2_isFull : MethodName := ⟨RX2, "isFull", "()Z"⟩
abbrev cX2_hasPlace : ByteArray := prog_4_method_5_code
def yX2_hasPlace : MethodName := ⟨RX2, "hasPlace", "(I)Z"⟩
abbrev cX2_signAt : ByteArray := prog_4_method_6_code
def yX2_signAt : MethodName := ⟨RX2, "signAt", "(I)C"⟩
abbrev cX2_isDivider : ByteArray := prog_4_method_7_code
def yX2_isDivider : MethodName := ⟨RX2, "isDivider", "(I)Z"⟩
abbrev cX2_setSign : ByteArray := prog_4_method_8_code
def yX2_setSign : MethodName := ⟨RX2, "setSign", "(IC)V"⟩
abbrev cX2_putIn : ByteArray := prog_4_method_9_code
def yX2_putIn : MethodName := ⟨RX2, "putIn", "(IC)V"⟩
abbrev cX2_takeOut : ByteArray := prog_4_method_10_code
def yX2_takeOut : MethodName := ⟨RX2, "takeOut", "(I)V"⟩
abbrev cX2_onward : ByteArray := prog_4_method_11_code
def yX2_onward : MethodName := ⟨RX2, "onward", "(III)I"⟩
abbrev cX2_countOf : ByteArray := prog_4_method_12_code
def yX2_countOf : MethodName := ⟨RX2, "countOf", "(C)I"⟩
abbrev cX2_beginning : ByteArray := prog_4_method_13_code
def yX2_beginning : MethodName := ⟨RX2, "beginning", "()I"⟩
abbrev cX2_readsLess : ByteArray := prog_4_method_14_code
def yX2_readsLess : MethodName := ⟨RX2, "readsLess", "(II)Z"⟩
abbrev cX2_period : ByteArray := prog_4_method_15_code
def yX2_period : MethodName := ⟨RX2, "period", "()I"⟩
abbrev cX2_isAsReadBackwards : ByteArray := prog_4_method_16_code
def yX2_isAsReadBackwards : MethodName := ⟨RX2, "isAsReadBackwards", "()Z"⟩
abbrev cX2_readsAsFromZero : ByteArray := prog_4_method_17_code
def yX2_readsAsFromZero : MethodName := ⟨RX2, "readsAsFromZero", "(II)Z"⟩
abbrev cX2_segmentLength : ByteArray := prog_4_method_18_code
def yX2_segmentLength : MethodName := ⟨RX2, "segmentLength", "(II)I"⟩
abbrev cX2_countSegments : ByteArray := prog_4_method_19_code
def yX2_countSegments : MethodName := ⟨RX2, "countSegments", "(I)I"⟩
abbrev cX2_longestSegment : ByteArray := prog_4_method_20_code
def yX2_longestSegment : MethodName := ⟨RX2, "longestSegment", "(I)I"⟩
abbrev cX2_dividerAheadOf : ByteArray := prog_4_method_21_code
def yX2_dividerAheadOf : MethodName := ⟨RX2, "dividerAheadOf", "(II)I"⟩
abbrev cX2_wornInSegment : ByteArray := prog_4_method_22_code
def yX2_wornInSegment : MethodName := ⟨RX2, "wornInSegment", "(II)I"⟩
abbrev cX2_distanceFromDivider : ByteArray := prog_4_method_23_code
def yX2_distanceFromDivider : MethodName := ⟨RX2, "distanceFromDivider", "(II)I"⟩
def RX3 : String := "RingReadings$State"
def TX3 : u_T := fun k => match k with
  | 0 => ("RingReadings$State", "ring", "LRingReadings$Ring;", true)
  | 1 => ("RingReadings$State", "book", "LRingReadings$Book;", true)
  | 2 => ("RingReadings$State", "walkers", "[LRingReadings$Walker;", true)
  | 3 => ("RingReadings$State", "walkerCount", "I", false)
  | _ => ("RingReadings$State", "steps", "I", false)
def tyX3 : Nat → FieldType := fun k => match k with
  | 0 => .object "RingReadings$Ring"
  | 1 => .object "RingReadings$Book"
  | 2 => .array (.object "RingReadings$Walker")
  | 3 => .int
  | _ => .int
abbrev wsX30 : List Cond := u_ws RX3 TX3 5
theorem nmX3 : ∀ a, a < 5 → ∀ b, b < 5 → a ≠ b → (TX3 a).2.1 ≠ (TX3 b).2.1 := by decide +kernel
theorem tyX3_ok : ∀ k, k < 5 → parseFieldDescriptor (TX3 k).2.2.1 = some (tyX3 k) := by decide +kernel
abbrev cX3_init : ByteArray := prog_5_method_1_code
def yX3_init : MethodName := ⟨RX3, "<init>", "()V"⟩
abbrev cX3_copyFrom : ByteArray := prog_5_method_2_code
def yX3_copyFrom : MethodName := ⟨RX3, "copyFrom", "(LRingReadings$State;)V"⟩
abbrev cX3_hasWalker : ByteArray := prog_5_method_3_code
def yX3_hasWalker : MethodName := ⟨RX3, "hasWalker", "(I)Z"⟩
abbrev cX3_sense : ByteArray := prog_5_method_4_code
def yX3_sense : MethodName := ⟨RX3, "sense", "(I)I"⟩
abbrev cX3_readings : ByteArray := prog_5_method_5_code
def yX3_readings : MethodName := ⟨RX3, "readings", "(I)I"⟩
abbrev cX3_knownBy : ByteArray := prog_5_method_6_code
def yX3_knownBy : MethodName := ⟨RX3, "knownBy", "(IZ)I"⟩
abbrev cX3_knownByAll : ByteArray := prog_5_method_7_code
def yX3_knownByAll : MethodName := ⟨RX3, "knownByAll", "()I"⟩
abbrev cX3_stepsToMeet : ByteArray := prog_5_method_8_code
def yX3_stepsToMeet : MethodName := ⟨RX3, "stepsToMeet", "(II)I"⟩
abbrev cX3_layRing : ByteArray := prog_5_method_9_code
def yX3_layRing : MethodName := ⟨RX3, "layRing", "(LRingReadings$Text;)V"⟩
abbrev cX3_tryCarve : ByteArray := prog_5_method_10_code
def yX3_tryCarve : MethodName := ⟨RX3, "tryCarve", "(II)Z"⟩
abbrev cX3_tryWear : ByteArray := prog_5_method_11_code
def yX3_tryWear : MethodName := ⟨RX3, "tryWear", "(I)Z"⟩
abbrev cX3_tryInsert : ByteArray := prog_5_method_12_code
def yX3_tryInsert : MethodName := ⟨RX3, "tryInsert", "(II)Z"⟩
abbrev cX3_tryErase : ByteArray := prog_5_method_13_code
def yX3_tryErase : MethodName := ⟨RX3, "tryErase", "(I)Z"⟩
abbrev cX3_tryAddWalker : ByteArray := prog_5_method_14_code
def yX3_tryAddWalker : MethodName := ⟨RX3, "tryAddWalker", "(IIII)Z"⟩
abbrev cX3_tryTurn : ByteArray := prog_5_method_15_code
def yX3_tryTurn : MethodName := ⟨RX3, "tryTurn", "(I)Z"⟩
abbrev cX3_tryGo : ByteArray := prog_5_method_16_code
def yX3_tryGo : MethodName := ⟨RX3, "tryGo", "(I)Z"⟩
def RX4 : String := "RingReadings$Text"
def TX4 : u_T := fun k => match k with
  | 0 => ("RingReadings$Text", "characters", "[C", true)
  | _ => ("RingReadings$Text", "length", "I", false)
def tyX4 : Nat → FieldType := fun k => match k with
  | 0 => .array .char
  | _ => .int
abbrev wsX40 : List Cond := u_ws RX4 TX4 2
theorem nmX4 : ∀ a, a < 2 → ∀ b, b < 2 → a ≠ b → (TX4 a).2.1 ≠ (TX4 b).2.1 := by decide +kernel
theorem tyX4_ok : ∀ k, k < 2 → parseFieldDescriptor (TX4 k).2.2.1 = some (tyX4 k) := by decide +kernel
abbrev cX4_init : ByteArray := prog_6_method_1_code
def yX4_init : MethodName := ⟨RX4, "<init>", "()V"⟩
abbrev cX4_isFull : ByteArray := prog_6_method_2_code
def yX4_isFull : MethodName := ⟨RX4, "isFull", "()Z"⟩
abbrev cX4_addCharacter : ByteArray := prog_6_method_3_code
def yX4_addCharacter : MethodName := ⟨RX4, "addCharacter", "(C)I"⟩
abbrev cX4_empty : ByteArray := prog_6_method_4_code
def yX4_empty : MethodName := ⟨RX4, "empty", "()I"⟩
abbrev cX4_firstError : ByteArray := prog_6_method_5_code
def yX4_firstError : MethodName := ⟨RX4, "firstError", "(Z)I"⟩
abbrev cX4_isAllowed : ByteArray := prog_6_method_6_code
def yX4_isAllowed : MethodName := ⟨RX4, "isAllowed", "(CZ)Z"⟩
def RX5 : String := "RingReadings$Walker"
def TX5 : u_T := fun k => match k with
  | 0 => ("RingReadings$Walker", "place", "I", false)
  | 1 => ("RingReadings$Walker", "direction", "I", false)
  | 2 => ("RingReadings$Walker", "pace", "I", false)
  | 3 => ("RingReadings$Walker", "sight", "I", false)
  | _ => ("RingReadings$Walker", "seen", "I", false)
def tyX5 : Nat → FieldType := fun k => match k with
  | 0 => .int
  | 1 => .int
  | 2 => .int
  | 3 => .int
  | _ => .int
abbrev wsX50 : List Cond := u_ws RX5 TX5 5
theorem nmX5 : ∀ a, a < 5 → ∀ b, b < 5 → a ≠ b → (TX5 a).2.1 ≠ (TX5 b).2.1 := by decide +kernel
theorem tyX5_ok : ∀ k, k < 5 → parseFieldDescriptor (TX5 k).2.2.1 = some (tyX5 k) := by decide +kernel
abbrev cX5_init : ByteArray := prog_7_method_1_code
def yX5_init : MethodName := ⟨RX5, "<init>", "()V"⟩
abbrev cX5_copyFrom : ByteArray := prog_7_method_2_code
def yX5_copyFrom : MethodName := ⟨RX5, "copyFrom", "(LRingReadings$Walker;)V"⟩
abbrev cX5_countSeen : ByteArray := prog_7_method_3_code
def yX5_countSeen : MethodName := ⟨RX5, "countSeen", "()I"⟩
abbrev cX5_placeAfter : ByteArray := prog_7_method_4_code
def yX5_placeAfter : MethodName := ⟨RX5, "placeAfter", "(ILRingReadings$Ring;)I"⟩
abbrev cX5_viewFrom : ByteArray := prog_7_method_5_code
def yX5_viewFrom : MethodName := ⟨RX5, "viewFrom", "(ILRingReadings$Ring;)I"⟩
abbrev cX5_look : ByteArray := prog_7_method_6_code
def yX5_look : MethodName := ⟨RX5, "look", "(LRingReadings$Ring;)V"⟩
abbrev cX5_step : ByteArray := prog_7_method_7_code
def yX5_step : MethodName := ⟨RX5, "step", "(LRingReadings$Ring;)V"⟩
abbrev cX5_stepsToSeeAll : ByteArray := prog_7_method_8_code
def yX5_stepsToSeeAll : MethodName := ⟨RX5, "stepsToSeeAll", "(LRingReadings$Ring;)I"⟩
abbrev cX5_knows : ByteArray := prog_7_method_9_code
def yX5_knows : MethodName := ⟨RX5, "knows", "(LRingReadings$Ring;I)Z"⟩
def RX6 : String := "RingReadings"
def TX6 : u_T := fun k => match k with
  | 0 => ("RingReadings", "text", "LRingReadings$Text;", true)
  | 1 => ("RingReadings", "state", "LRingReadings$State;", true)
  | 2 => ("RingReadings", "scratch", "LRingReadings$State;", true)
  | 3 => ("RingReadings", "history", "LRingReadings$History;", true)
  | 4 => ("RingReadings", "slots", "[LRingReadings$State;", true)
  | _ => ("RingReadings", "filled", "[Z", true)
def tyX6 : Nat → FieldType := fun k => match k with
  | 0 => .object "RingReadings$Text"
  | 1 => .object "RingReadings$State"
  | 2 => .object "RingReadings$State"
  | 3 => .object "RingReadings$History"
  | 4 => .array (.object "RingReadings$State")
  | _ => .array .boolean
abbrev wsX60 : List Cond := u_ws RX6 TX6 6
theorem nmX6 : ∀ a, a < 6 → ∀ b, b < 6 → a ≠ b → (TX6 a).2.1 ≠ (TX6 b).2.1 := by decide +kernel
theorem tyX6_ok : ∀ k, k < 6 → parseFieldDescriptor (TX6 k).2.2.1 = some (tyX6 k) := by decide +kernel
abbrev cX6_init : ByteArray := prog_1_method_1_code
def yX6_init : MethodName := ⟨RX6, "<init>", "()V"⟩
abbrev cX6_append : ByteArray := prog_1_method_2_code
def yX6_append : MethodName := ⟨RX6, "append", "(I)I"⟩
abbrev cX6_clearText : ByteArray := prog_1_method_3_code
def yX6_clearText : MethodName := ⟨RX6, "clearText", "()I"⟩
abbrev cX6_errorPosition : ByteArray := prog_1_method_4_code
def yX6_errorPosition : MethodName := ⟨RX6, "errorPosition", "(Z)I"⟩
abbrev cX6_about : ByteArray := prog_1_method_5_code
def yX6_about : MethodName := ⟨RX6, "about", "(I)I"⟩
abbrev cX6_at : ByteArray := prog_1_method_6_code
def yX6_at : MethodName := ⟨RX6, "at", "(I)I"⟩
abbrev cX6_letter : ByteArray := prog_1_method_7_code
def yX6_letter : MethodName := ⟨RX6, "letter", "(II)I"⟩
abbrev cX6_reading : ByteArray := prog_1_method_8_code
def yX6_reading : MethodName := ⟨RX6, "reading", "(II)I"⟩
abbrev cX6_segment : ByteArray := prog_1_method_9_code
def yX6_segment : MethodName := ⟨RX6, "segment", "(III)I"⟩
abbrev cX6_find : ByteArray := prog_1_method_10_code
def yX6_find : MethodName := ⟨RX6, "find", "(III)I"⟩
abbrev cX6_walker : ByteArray := prog_1_method_11_code
def yX6_walker : MethodName := ⟨RX6, "walker", "(II)I"⟩
abbrev cX6_ring : ByteArray := prog_1_method_12_code
def yX6_ring : MethodName := ⟨RX6, "ring", "()I"⟩
abbrev cX6_addWord : ByteArray := prog_1_method_13_code
def yX6_addWord : MethodName := ⟨RX6, "addWord", "()I"⟩
abbrev cX6_removeWord : ByteArray := prog_1_method_14_code
def yX6_removeWord : MethodName := ⟨RX6, "removeWord", "(I)I"⟩
abbrev cX6_carve : ByteArray := prog_1_method_15_code
def yX6_carve : MethodName := ⟨RX6, "carve", "(II)I"⟩
abbrev cX6_wear : ByteArray := prog_1_method_16_code
def yX6_wear : MethodName := ⟨RX6, "wear", "(I)I"⟩
abbrev cX6_insert : ByteArray := prog_1_method_17_code
def yX6_insert : MethodName := ⟨RX6, "insert", "(II)I"⟩
abbrev cX6_erase : ByteArray := prog_1_method_18_code
def yX6_erase : MethodName := ⟨RX6, "erase", "(I)I"⟩
abbrev cX6_addWalker : ByteArray := prog_1_method_19_code
def yX6_addWalker : MethodName := ⟨RX6, "addWalker", "(IIII)I"⟩
abbrev cX6_turn : ByteArray := prog_1_method_20_code
def yX6_turn : MethodName := ⟨RX6, "turn", "(I)I"⟩
abbrev cX6_go : ByteArray := prog_1_method_21_code
def yX6_go : MethodName := ⟨RX6, "go", "(I)I"⟩
abbrev cX6_undo : ByteArray := prog_1_method_22_code
def yX6_undo : MethodName := ⟨RX6, "undo", "()I"⟩
abbrev cX6_meet : ByteArray := prog_1_method_23_code
def yX6_meet : MethodName := ⟨RX6, "meet", "(II)I"⟩
abbrev cX6_seesAll : ByteArray := prog_1_method_24_code
def yX6_seesAll : MethodName := ⟨RX6, "seesAll", "(I)I"⟩
abbrev cX6_ifWorn : ByteArray := prog_1_method_25_code
def yX6_ifWorn : MethodName := ⟨RX6, "ifWorn", "(II)I"⟩
abbrev cX6_bestDivider : ByteArray := prog_1_method_26_code
def yX6_bestDivider : MethodName := ⟨RX6, "bestDivider", "(II)I"⟩
abbrev cX6_bestDirection : ByteArray := prog_1_method_27_code
def yX6_bestDirection : MethodName := ⟨RX6, "bestDirection", "()I"⟩
abbrev cX6_canBe : ByteArray := prog_1_method_28_code
def yX6_canBe : MethodName := ⟨RX6, "canBe", "(II)I"⟩
abbrev cX6_runScript : ByteArray := prog_1_method_29_code
def yX6_runScript : MethodName := ⟨RX6, "runScript", "(IJ)I"⟩
abbrev cX6_simulate : ByteArray := prog_1_method_30_code
def yX6_simulate : MethodName := ⟨RX6, "simulate", "(JI)I"⟩
abbrev cX6_save : ByteArray := prog_1_method_31_code
def yX6_save : MethodName := ⟨RX6, "save", "(I)I"⟩
abbrev cX6_restore : ByteArray := prog_1_method_32_code
def yX6_restore : MethodName := ⟨RX6, "restore", "(I)I"⟩
abbrev cX6_isDirection : ByteArray := prog_1_method_33_code
def yX6_isDirection : MethodName := ⟨RX6, "isDirection", "(I)Z"⟩
abbrev cX6_isCarvable : ByteArray := prog_1_method_34_code
def yX6_isCarvable : MethodName := ⟨RX6, "isCarvable", "(I)Z"⟩
abbrev cX6_carvedSign : ByteArray := prog_1_method_35_code
def yX6_carvedSign : MethodName := ⟨RX6, "carvedSign", "(I)C"⟩
abbrev cX6_isLetter : ByteArray := prog_1_method_36_code
def yX6_isLetter : MethodName := ⟨RX6, "isLetter", "(C)Z"⟩
abbrev cX6_isPace : ByteArray := prog_1_method_37_code
def yX6_isPace : MethodName := ⟨RX6, "isPace", "(I)Z"⟩
abbrev cX6_isSight : ByteArray := prog_1_method_38_code
def yX6_isSight : MethodName := ⟨RX6, "isSight", "(I)Z"⟩
abbrev cX6_isStepCount : ByteArray := prog_1_method_39_code
def yX6_isStepCount : MethodName := ⟨RX6, "isStepCount", "(I)Z"⟩
abbrev cX6_succeeds : ByteArray := prog_1_method_40_code
def yX6_succeeds : MethodName := ⟨RX6, "succeeds", "(LRingReadings$State;I)Z"⟩
abbrev cX6_playTurn : ByteArray := prog_1_method_41_code
def yX6_playTurn : MethodName := ⟨RX6, "playTurn", "(LRingReadings$State;I)V"⟩
def RX7 : String := "RingReadingsModel"
def TX7 : u_T := fun k => match k with
  | 0 => ("RingReadingsModel", "thrown", "I", false)
  | 1 => ("RingReadingsModel", "now", "[I", true)
  | 2 => ("RingReadingsModel", "then", "[I", true)
  | 3 => ("RingReadingsModel", "past", "[I", true)
  | 4 => ("RingReadingsModel", "states", "I", false)
  | 5 => ("RingReadingsModel", "slots", "[I", true)
  | 6 => ("RingReadingsModel", "isSaved", "[Z", true)
  | 7 => ("RingReadingsModel", "text", "[C", true)
  | _ => ("RingReadingsModel", "typed", "I", false)
def tyX7 : Nat → FieldType := fun k => match k with
  | 0 => .int
  | 1 => .array .int
  | 2 => .array .int
  | 3 => .array .int
  | 4 => .int
  | 5 => .array .int
  | 6 => .array .boolean
  | 7 => .array .char
  | _ => .int
abbrev wsX70 : List Cond := u_ws RX7 TX7 9
theorem nmX7 : ∀ a, a < 9 → ∀ b, b < 9 → a ≠ b → (TX7 a).2.1 ≠ (TX7 b).2.1 := by decide +kernel
theorem tyX7_ok : ∀ k, k < 9 → parseFieldDescriptor (TX7 k).2.2.1 = some (tyX7 k) := by decide +kernel
abbrev cX7_init : ByteArray := prog_9_method_1_code
def yX7_init : MethodName := ⟨RX7, "<init>", "()V"⟩
abbrev cX7_thrown : ByteArray := prog_9_method_2_code
def yX7_thrown : MethodName := ⟨RX7, "thrown", "()I"⟩
abbrev cX7_in : ByteArray := prog_9_method_3_code
def yX7_in : MethodName := ⟨RX7, "in", "(III)Z"⟩
abbrev cX7_refuses : ByteArray := prog_9_method_4_code
def yX7_refuses : MethodName := ⟨RX7, "refuses", "(I)Z"⟩
abbrev cX7_lays : ByteArray := prog_9_method_5_code
def yX7_lays : MethodName := ⟨RX7, "lays", "([II[II)V"⟩
abbrev cX7_remembers : ByteArray := prog_9_method_6_code
def yX7_remembers : MethodName := ⟨RX7, "remembers", "()V"⟩
abbrev cX7_undo : ByteArray := prog_9_method_7_code
def yX7_undo : MethodName := ⟨RX7, "undo", "()I"⟩
abbrev cX7_isPlace : ByteArray := prog_9_method_8_code
def yX7_isPlace : MethodName := ⟨RX7, "isPlace", "(I)Z"⟩
abbrev cX7_isWay : ByteArray := prog_9_method_9_code
def yX7_isWay : MethodName := ⟨RX7, "isWay", "(I)Z"⟩
abbrev cX7_of : ByteArray := prog_9_method_10_code
def yX7_of : MethodName := ⟨RX7, "of", "([III)I"⟩
abbrev cX7_off : ByteArray := prog_9_method_11_code
def yX7_off : MethodName := ⟨RX7, "off", "([IIII)I"⟩
abbrev cX7_isDivider : ByteArray := prog_9_method_12_code
def yX7_isDivider : MethodName := ⟨RX7, "isDivider", "([II)Z"⟩
abbrev cX7_ones : ByteArray := prog_9_method_13_code
def yX7_ones : MethodName := ⟨RX7, "ones", "(I)I"⟩
abbrev cX7_longOf : ByteArray := prog_9_method_14_code
def yX7_longOf : MethodName := ⟨RX7, "longOf", "([III)I"⟩
abbrev cX7_dividerOf : ByteArray := prog_9_method_15_code
def yX7_dividerOf : MethodName := ⟨RX7, "dividerOf", "([III)I"⟩
abbrev cX7_segments : ByteArray := prog_9_method_16_code
def yX7_segments : MethodName := ⟨RX7, "segments", "([II)I"⟩
abbrev cX7_stands : ByteArray := prog_9_method_17_code
def yX7_stands : MethodName := ⟨RX7, "stands", "([IIII)Z"⟩
abbrev cX7_isFit : ByteArray := prog_9_method_18_code
def yX7_isFit : MethodName := ⟨RX7, "isFit", "([IIII)Z"⟩
abbrev cX7_fits : ByteArray := prog_9_method_19_code
def yX7_fits : MethodName := ⟨RX7, "fits", "([III)I"⟩
abbrev cX7_sense : ByteArray := prog_9_method_20_code
def yX7_sense : MethodName := ⟨RX7, "sense", "([II)I"⟩
abbrev cX7_readings : ByteArray := prog_9_method_21_code
def yX7_readings : MethodName := ⟨RX7, "readings", "([II)I"⟩
abbrev cX7_longest : ByteArray := prog_9_method_22_code
def yX7_longest : MethodName := ⟨RX7, "longest", "(I)I"⟩
abbrev cX7_sees : ByteArray := prog_9_method_23_code
def yX7_sees : MethodName := ⟨RX7, "sees", "([II)V"⟩
abbrev cX7_steps : ByteArray := prog_9_method_24_code
def yX7_steps : MethodName := ⟨RX7, "steps", "([II)V"⟩
abbrev cX7_isKnown : ByteArray := prog_9_method_25_code
def yX7_isKnown : MethodName := ⟨RX7, "isKnown", "([III)Z"⟩
abbrev cX7_known : ByteArray := prog_9_method_26_code
def yX7_known : MethodName := ⟨RX7, "known", "([IIZ)I"⟩
abbrev cX7_knownByAll : ByteArray := prog_9_method_27_code
def yX7_knownByAll : MethodName := ⟨RX7, "knownByAll", "([I)I"⟩
abbrev cX7_goes : ByteArray := prog_9_method_28_code
def yX7_goes : MethodName := ⟨RX7, "goes", "([II)I"⟩
abbrev cX7_sendsAway : ByteArray := prog_9_method_29_code
def yX7_sendsAway : MethodName := ⟨RX7, "sendsAway", "([I)V"⟩
abbrev cX7_canPlace : ByteArray := prog_9_method_30_code
def yX7_canPlace : MethodName := ⟨RX7, "canPlace", "([II)Z"⟩
abbrev cX7_isSign : ByteArray := prog_9_method_31_code
def yX7_isSign : MethodName := ⟨RX7, "isSign", "(I)Z"⟩
abbrev cX7_carves : ByteArray := prog_9_method_32_code
def yX7_carves : MethodName := ⟨RX7, "carves", "([III)I"⟩
abbrev cX7_worn : ByteArray := prog_9_method_33_code
def yX7_worn : MethodName := ⟨RX7, "worn", "([I)I"⟩
abbrev cX7_wears : ByteArray := prog_9_method_34_code
def yX7_wears : MethodName := ⟨RX7, "wears", "([II)I"⟩
abbrev cX7_inserts : ByteArray := prog_9_method_35_code
def yX7_inserts : MethodName := ⟨RX7, "inserts", "([III)I"⟩
abbrev cX7_erases : ByteArray := prog_9_method_36_code
def yX7_erases : MethodName := ⟨RX7, "erases", "([II)I"⟩
abbrev cX7_comes : ByteArray := prog_9_method_37_code
def yX7_comes : MethodName := ⟨RX7, "comes", "([IIIII)I"⟩
abbrev cX7_turns : ByteArray := prog_9_method_38_code
def yX7_turns : MethodName := ⟨RX7, "turns", "([II)I"⟩
abbrev cX7_append : ByteArray := prog_9_method_39_code
def yX7_append : MethodName := ⟨RX7, "append", "(I)I"⟩
abbrev cX7_clearText : ByteArray := prog_9_method_40_code
def yX7_clearText : MethodName := ⟨RX7, "clearText", "()I"⟩
abbrev cX7_error : ByteArray := prog_9_method_41_code
def yX7_error : MethodName := ⟨RX7, "error", "(Z)I"⟩
abbrev cX7_errorPosition : ByteArray := prog_9_method_42_code
def yX7_errorPosition : MethodName := ⟨RX7, "errorPosition", "(Z)I"⟩
abbrev cX7_signOf : ByteArray := prog_9_method_43_code
def yX7_signOf : MethodName := ⟨RX7, "signOf", "(I)I"⟩
abbrev cX7_codeOf : ByteArray := prog_9_method_44_code
def yX7_codeOf : MethodName := ⟨RX7, "codeOf", "(I)I"⟩
abbrev cX7_rankAt : ByteArray := prog_9_method_45_code
def yX7_rankAt : MethodName := ⟨RX7, "rankAt", "(I)I"⟩
abbrev cX7_less : ByteArray := prog_9_method_46_code
def yX7_less : MethodName := ⟨RX7, "less", "(II)I"⟩
abbrev cX7_beginning : ByteArray := prog_9_method_47_code
def yX7_beginning : MethodName := ⟨RX7, "beginning", "()I"⟩
abbrev cX7_period : ByteArray := prog_9_method_48_code
def yX7_period : MethodName := ⟨RX7, "period", "()I"⟩
abbrev cX7_isMirrored : ByteArray := prog_9_method_49_code
def yX7_isMirrored : MethodName := ⟨RX7, "isMirrored", "(I)Z"⟩
abbrev cX7_mirrors : ByteArray := prog_9_method_50_code
def yX7_mirrors : MethodName := ⟨RX7, "mirrors", "()I"⟩
abbrev cX7_dividers : ByteArray := prog_9_method_51_code
def yX7_dividers : MethodName := ⟨RX7, "dividers", "()I"⟩
abbrev cX7_abouts : ByteArray := prog_9_method_52_code
def yX7_abouts : MethodName := ⟨RX7, "abouts", "(I)I"⟩
abbrev cX7_about : ByteArray := prog_9_method_53_code
def yX7_about : MethodName := ⟨RX7, "about", "(I)I"⟩
abbrev cX7_at : ByteArray := prog_9_method_54_code
def yX7_at : MethodName := ⟨RX7, "at", "(I)I"⟩
abbrev cX7_isWord : ByteArray := prog_9_method_55_code
def yX7_isWord : MethodName := ⟨RX7, "isWord", "(I)Z"⟩
abbrev cX7_letter : ByteArray := prog_9_method_56_code
def yX7_letter : MethodName := ⟨RX7, "letter", "(II)I"⟩
abbrev cX7_ofReading : ByteArray := prog_9_method_57_code
def yX7_ofReading : MethodName := ⟨RX7, "ofReading", "(II)I"⟩
abbrev cX7_reading : ByteArray := prog_9_method_58_code
def yX7_reading : MethodName := ⟨RX7, "reading", "(II)I"⟩
abbrev cX7_lowestFit : ByteArray := prog_9_method_59_code
def yX7_lowestFit : MethodName := ⟨RX7, "lowestFit", "(II)I"⟩
abbrev cX7_wornIn : ByteArray := prog_9_method_60_code
def yX7_wornIn : MethodName := ⟨RX7, "wornIn", "(II)I"⟩
abbrev cX7_ofSegment : ByteArray := prog_9_method_61_code
def yX7_ofSegment : MethodName := ⟨RX7, "ofSegment", "(III)I"⟩
abbrev cX7_segment : ByteArray := prog_9_method_62_code
def yX7_segment : MethodName := ⟨RX7, "segment", "(III)I"⟩
abbrev cX7_found : ByteArray := prog_9_method_63_code
def yX7_found : MethodName := ⟨RX7, "found", "(III)I"⟩
abbrev cX7_find : ByteArray := prog_9_method_64_code
def yX7_find : MethodName := ⟨RX7, "find", "(III)I"⟩
abbrev cX7_isWalker : ByteArray := prog_9_method_65_code
def yX7_isWalker : MethodName := ⟨RX7, "isWalker", "(I)Z"⟩
abbrev cX7_ofWalker : ByteArray := prog_9_method_66_code
def yX7_ofWalker : MethodName := ⟨RX7, "ofWalker", "(II)I"⟩
abbrev cX7_walker : ByteArray := prog_9_method_67_code
def yX7_walker : MethodName := ⟨RX7, "walker", "(II)I"⟩
abbrev cX7_ring : ByteArray := prog_9_method_68_code
def yX7_ring : MethodName := ⟨RX7, "ring", "()I"⟩
abbrev cX7_addWord : ByteArray := prog_9_method_69_code
def yX7_addWord : MethodName := ⟨RX7, "addWord", "()I"⟩
abbrev cX7_removeWord : ByteArray := prog_9_method_70_code
def yX7_removeWord : MethodName := ⟨RX7, "removeWord", "(I)I"⟩
abbrev cX7_carve : ByteArray := prog_9_method_71_code
def yX7_carve : MethodName := ⟨RX7, "carve", "(II)I"⟩
abbrev cX7_wear : ByteArray := prog_9_method_72_code
def yX7_wear : MethodName := ⟨RX7, "wear", "(I)I"⟩
abbrev cX7_insert : ByteArray := prog_9_method_73_code
def yX7_insert : MethodName := ⟨RX7, "insert", "(II)I"⟩
abbrev cX7_erase : ByteArray := prog_9_method_74_code
def yX7_erase : MethodName := ⟨RX7, "erase", "(I)I"⟩
abbrev cX7_addWalker : ByteArray := prog_9_method_75_code
def yX7_addWalker : MethodName := ⟨RX7, "addWalker", "(IIII)I"⟩
abbrev cX7_turn : ByteArray := prog_9_method_76_code
def yX7_turn : MethodName := ⟨RX7, "turn", "(I)I"⟩
abbrev cX7_go : ByteArray := prog_9_method_77_code
def yX7_go : MethodName := ⟨RX7, "go", "(I)I"⟩
abbrev cX7_meets : ByteArray := prog_9_method_78_code
def yX7_meets : MethodName := ⟨RX7, "meets", "(II)I"⟩
abbrev cX7_meet : ByteArray := prog_9_method_79_code
def yX7_meet : MethodName := ⟨RX7, "meet", "(II)I"⟩
abbrev cX7_seesIn : ByteArray := prog_9_method_80_code
def yX7_seesIn : MethodName := ⟨RX7, "seesIn", "(I)I"⟩
abbrev cX7_seesAll : ByteArray := prog_9_method_81_code
def yX7_seesAll : MethodName := ⟨RX7, "seesAll", "(I)I"⟩
abbrev cX7_wornReadings : ByteArray := prog_9_method_82_code
def yX7_wornReadings : MethodName := ⟨RX7, "wornReadings", "(II)I"⟩
abbrev cX7_ifWorn : ByteArray := prog_9_method_83_code
def yX7_ifWorn : MethodName := ⟨RX7, "ifWorn", "(II)I"⟩
abbrev cX7_divides : ByteArray := prog_9_method_84_code
def yX7_divides : MethodName := ⟨RX7, "divides", "(II)I"⟩
abbrev cX7_bestDivider : ByteArray := prog_9_method_85_code
def yX7_bestDivider : MethodName := ⟨RX7, "bestDivider", "(II)I"⟩
abbrev cX7_bestDirection : ByteArray := prog_9_method_86_code
def yX7_bestDirection : MethodName := ⟨RX7, "bestDirection", "()I"⟩
abbrev cX7_letters : ByteArray := prog_9_method_87_code
def yX7_letters : MethodName := ⟨RX7, "letters", "(II)I"⟩
abbrev cX7_canBe : ByteArray := prog_9_method_88_code
def yX7_canBe : MethodName := ⟨RX7, "canBe", "(II)I"⟩
abbrev cX7_triesAct : ByteArray := prog_9_method_89_code
def yX7_triesAct : MethodName := ⟨RX7, "triesAct", "(III)Z"⟩
abbrev cX7_tries : ByteArray := prog_9_method_90_code
def yX7_tries : MethodName := ⟨RX7, "tries", "(I)Z"⟩
abbrev cX7_runScript : ByteArray := prog_9_method_91_code
def yX7_runScript : MethodName := ⟨RX7, "runScript", "(IJ)I"⟩
abbrev cX7_takesTurn : ByteArray := prog_9_method_92_code
def yX7_takesTurn : MethodName := ⟨RX7, "takesTurn", "(I)V"⟩
abbrev cX7_simulate : ByteArray := prog_9_method_93_code
def yX7_simulate : MethodName := ⟨RX7, "simulate", "(JI)I"⟩
abbrev cX7_save : ByteArray := prog_9_method_94_code
def yX7_save : MethodName := ⟨RX7, "save", "(I)I"⟩
abbrev cX7_restore : ByteArray := prog_9_method_95_code
def yX7_restore : MethodName := ⟨RX7, "restore", "(I)I"⟩
def RJ6 : String := "java/lang/Integer"
def TJ6 : u_T := fun k => match k with
  | _ => ("", "", "", false)
def tyJ6 : Nat → FieldType := fun k => match k with
  | _ => .int
abbrev wsJ60 : List Cond := u_ws RJ6 TJ6 0
theorem nmJ6 : ∀ a, a < 0 → ∀ b, b < 0 → a ≠ b → (TJ6 a).2.1 ≠ (TJ6 b).2.1 := by decide +kernel
theorem tyJ6_ok : ∀ k, k < 0 → parseFieldDescriptor (TJ6 k).2.2.1 = some (tyJ6 k) := by decide +kernel
abbrev cJ6_compare_7cf53 : ByteArray := prog_14_method_40_code
def yJ6_compare_7cf53 : MethodName := ⟨RJ6, "compare", "(II)I"⟩
abbrev cJ6_bitCount_0f7a4 : ByteArray := prog_14_method_49_code
def yJ6_bitCount_0f7a4 : MethodName := ⟨RJ6, "bitCount", "(I)I"⟩
def RJ9 : String := "java/lang/Math"
def TJ9 : u_T := fun k => match k with
  | _ => ("", "", "", false)
def tyJ9 : Nat → FieldType := fun k => match k with
  | _ => .int
abbrev wsJ90 : List Cond := u_ws RJ9 TJ9 0
theorem nmJ9 : ∀ a, a < 0 → ∀ b, b < 0 → a ≠ b → (TJ9 a).2.1 ≠ (TJ9 b).2.1 := by decide +kernel
theorem tyJ9_ok : ∀ k, k < 0 → parseFieldDescriptor (TJ9 k).2.2.1 = some (tyJ9 k) := by decide +kernel
abbrev cJ9_max_7cf53 : ByteArray := prog_15_method_65_code
def yJ9_max_7cf53 : MethodName := ⟨RJ9, "max", "(II)I"⟩
abbrev cJ9_max_f86c9 : ByteArray := prog_15_method_66_code
def yJ9_max_f86c9 : MethodName := ⟨RJ9, "max", "(JJ)J"⟩
abbrev cJ9_min_7cf53 : ByteArray := prog_15_method_69_code
def yJ9_min_7cf53 : MethodName := ⟨RJ9, "min", "(II)I"⟩
abbrev cJ9_min_f86c9 : ByteArray := prog_15_method_70_code
def yJ9_min_f86c9 : MethodName := ⟨RJ9, "min", "(JJ)J"⟩
def RJ0 : String := "java/lang/String"
def TJ0 : u_T := fun k => match k with
  | _ => ("", "", "", false)
def tyJ0 : Nat → FieldType := fun k => match k with
  | _ => .int
abbrev wsJ00 : List Cond := u_ws RJ0 TJ0 0
theorem nmJ0 : ∀ a, a < 0 → ∀ b, b < 0 → a ≠ b → (TJ0 a).2.1 ≠ (TJ0 b).2.1 := by decide +kernel
theorem tyJ0_ok : ∀ k, k < 0 → parseFieldDescriptor (TJ0 k).2.2.1 = some (tyJ0 k) := by decide +kernel
def RJ10 : String := "java/lang/System"
def TJ10 : u_T := fun k => match k with
  | _ => ("", "", "", false)
def tyJ10 : Nat → FieldType := fun k => match k with
  | _ => .int
abbrev wsJ100 : List Cond := u_ws RJ10 TJ10 0
theorem nmJ10 : ∀ a, a < 0 → ∀ b, b < 0 → a ≠ b → (TJ10 a).2.1 ≠ (TJ10 b).2.1 := by decide +kernel
theorem tyJ10_ok : ∀ k, k < 0 → parseFieldDescriptor (TJ10 k).2.2.1 = some (tyJ10 k) := by decide +kernel
def RL : String := "RingReadingsLaw"
abbrev cL_append : ByteArray := method_3_code
def yL_append : MethodName := ⟨RL, "append", "(LRingReadings;I[J)I"⟩
abbrev cL_about : ByteArray := method_4_code
def yL_about : MethodName := ⟨RL, "about", "(LRingReadings;I[J)I"⟩
abbrev cL_at : ByteArray := method_5_code
def yL_at : MethodName := ⟨RL, "at", "(LRingReadings;I[J)I"⟩
abbrev cL_letter : ByteArray := method_6_code
def yL_letter : MethodName := ⟨RL, "letter", "(LRingReadings;II[J)I"⟩
abbrev cL_reading : ByteArray := method_7_code
def yL_reading : MethodName := ⟨RL, "reading", "(LRingReadings;II[J)I"⟩
abbrev cL_segment : ByteArray := method_8_code
def yL_segment : MethodName := ⟨RL, "segment", "(LRingReadings;III[J)I"⟩
abbrev cL_find : ByteArray := method_9_code
def yL_find : MethodName := ⟨RL, "find", "(LRingReadings;III[J)I"⟩
abbrev cL_walker : ByteArray := method_10_code
def yL_walker : MethodName := ⟨RL, "walker", "(LRingReadings;II[J)I"⟩
abbrev cL_ring : ByteArray := method_11_code
def yL_ring : MethodName := ⟨RL, "ring", "(LRingReadings;[J)I"⟩
abbrev cL_addWord : ByteArray := method_12_code
def yL_addWord : MethodName := ⟨RL, "addWord", "(LRingReadings;[J)I"⟩
abbrev cL_removeWord : ByteArray := method_13_code
def yL_removeWord : MethodName := ⟨RL, "removeWord", "(LRingReadings;I[J)I"⟩
abbrev cL_carve : ByteArray := method_14_code
def yL_carve : MethodName := ⟨RL, "carve", "(LRingReadings;II[J)I"⟩
abbrev cL_wear : ByteArray := method_15_code
def yL_wear : MethodName := ⟨RL, "wear", "(LRingReadings;I[J)I"⟩
abbrev cL_insert : ByteArray := method_16_code
def yL_insert : MethodName := ⟨RL, "insert", "(LRingReadings;II[J)I"⟩
abbrev cL_erase : ByteArray := method_17_code
def yL_erase : MethodName := ⟨RL, "erase", "(LRingReadings;I[J)I"⟩
abbrev cL_addWalker : ByteArray := method_18_code
def yL_addWalker : MethodName := ⟨RL, "addWalker", "(LRingReadings;IIII[J)I"⟩
abbrev cL_turn : ByteArray := method_19_code
def yL_turn : MethodName := ⟨RL, "turn", "(LRingReadings;I[J)I"⟩
abbrev cL_go : ByteArray := method_20_code
def yL_go : MethodName := ⟨RL, "go", "(LRingReadings;I[J)I"⟩
abbrev cL_undo : ByteArray := method_21_code
def yL_undo : MethodName := ⟨RL, "undo", "(LRingReadings;[J)I"⟩
abbrev cL_meet : ByteArray := method_22_code
def yL_meet : MethodName := ⟨RL, "meet", "(LRingReadings;II[J)I"⟩
abbrev cL_seesAll : ByteArray := method_23_code
def yL_seesAll : MethodName := ⟨RL, "seesAll", "(LRingReadings;I[J)I"⟩
abbrev cL_ifWorn : ByteArray := method_24_code
def yL_ifWorn : MethodName := ⟨RL, "ifWorn", "(LRingReadings;II[J)I"⟩
abbrev cL_bestDivider : ByteArray := method_25_code
def yL_bestDivider : MethodName := ⟨RL, "bestDivider", "(LRingReadings;II[J)I"⟩
abbrev cL_canBe : ByteArray := method_26_code
def yL_canBe : MethodName := ⟨RL, "canBe", "(LRingReadings;II[J)I"⟩
abbrev cL_runScript : ByteArray := method_27_code
def yL_runScript : MethodName := ⟨RL, "runScript", "(LRingReadings;IJ[J)I"⟩
abbrev cL_simulate : ByteArray := method_28_code
def yL_simulate : MethodName := ⟨RL, "simulate", "(LRingReadings;JI[J)I"⟩
abbrev cL_save : ByteArray := method_29_code
def yL_save : MethodName := ⟨RL, "save", "(LRingReadings;I[J)I"⟩
abbrev cL_restore : ByteArray := method_30_code
def yL_restore : MethodName := ⟨RL, "restore", "(LRingReadings;I[J)I"⟩
abbrev cL_law : ByteArray := code
def yL_law : MethodName := ⟨RL, "law", "([I)Z"⟩
abbrev vwCl : List vw_C := [(RX0, TX0, 3), (RX1, TX1, 3), (RX2, TX2, 2), (RX3, TX3, 5), (RX4, TX4, 2), (RX5, TX5, 5), (RX6, TX6, 6), (RX7, TX7, 9)]
