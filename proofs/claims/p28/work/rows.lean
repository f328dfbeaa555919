section
-- ===== PART A: goes FIRST, ahead of the names: the tables' words, and 'selects' of the private methods out of them =====
/-- a private method of a class that the tables say can be made, by its rows of tables_1 -/
def lw_okq (q : MethodName × Nat) : Prop := (q.1.cls ≠ "java/lang/invoke/MethodHandle" ∧ q.1.cls ≠ "java/lang/invoke/VarHandle") ∧ Cond.instantiable q.1.cls q.2 ∈ tables_1 ∧ Cond.privateMethod q.1 ∈ tables_1 ∧ Cond.instanceMethod q.1 ∈ tables_1
theorem lw_p0 : lw_okq (⟨"PostalAuction$Steps", "placeOf", "(I)I"⟩, 3) := ⟨⟨by decide +kernel, by decide +kernel⟩, List.mem_of_getElem? (i := 28) (by decide +kernel), List.mem_of_getElem? (i := 338) (by decide +kernel), List.mem_of_getElem? (i := 339) (by decide +kernel)⟩
theorem lw_p1 : lw_okq (⟨"PostalAuction", "beginAct", "()V"⟩, 5) := ⟨⟨by decide +kernel, by decide +kernel⟩, List.mem_of_getElem? (i := 14) (by decide +kernel), List.mem_of_getElem? (i := 346) (by decide +kernel), List.mem_of_getElem? (i := 347) (by decide +kernel)⟩
theorem lw_p2 : lw_okq (⟨"PostalAuction$History", "dropOldest", "()V"⟩, 2) := ⟨⟨by decide +kernel, by decide +kernel⟩, List.mem_of_getElem? (i := 183) (by decide +kernel), List.mem_of_getElem? (i := 354) (by decide +kernel), List.mem_of_getElem? (i := 355) (by decide +kernel)⟩
theorem lw_p3 : lw_okq (⟨"PostalAuction", "isLot", "(I)Z"⟩, 5) := ⟨⟨by decide +kernel, by decide +kernel⟩, List.mem_of_getElem? (i := 14) (by decide +kernel), List.mem_of_getElem? (i := 417) (by decide +kernel), List.mem_of_getElem? (i := 418) (by decide +kernel)⟩
theorem lw_p4 : lw_okq (⟨"PostalAuction", "isBidder", "(I)Z"⟩, 5) := ⟨⟨by decide +kernel, by decide +kernel⟩, List.mem_of_getElem? (i := 14) (by decide +kernel), List.mem_of_getElem? (i := 440) (by decide +kernel), List.mem_of_getElem? (i := 441) (by decide +kernel)⟩
theorem lw_p5 : lw_okq (⟨"PostalAuction", "isBid", "(I)Z"⟩, 5) := ⟨⟨by decide +kernel, by decide +kernel⟩, List.mem_of_getElem? (i := 14) (by decide +kernel), List.mem_of_getElem? (i := 464) (by decide +kernel), List.mem_of_getElem? (i := 465) (by decide +kernel)⟩
theorem lw_p6 : lw_okq (⟨"PostalAuction$Steps", "bandOf", "(I)I"⟩, 3) := ⟨⟨by decide +kernel, by decide +kernel⟩, List.mem_of_getElem? (i := 28) (by decide +kernel), List.mem_of_getElem? (i := 490) (by decide +kernel), List.mem_of_getElem? (i := 491) (by decide +kernel)⟩
theorem lw_p7 : lw_okq (⟨"PostalAuction$Sale", "judgeBids", "(I)V"⟩, 11) := ⟨⟨by decide +kernel, by decide +kernel⟩, List.mem_of_getElem? (i := 200) (by decide +kernel), List.mem_of_getElem? (i := 500) (by decide +kernel), List.mem_of_getElem? (i := 501) (by decide +kernel)⟩
theorem lw_p8 : lw_okq (⟨"PostalAuction$Sale", "judge", "(II)V"⟩, 11) := ⟨⟨by decide +kernel, by decide +kernel⟩, List.mem_of_getElem? (i := 200) (by decide +kernel), List.mem_of_getElem? (i := 505) (by decide +kernel), List.mem_of_getElem? (i := 506) (by decide +kernel)⟩
theorem lw_p9 : lw_okq (⟨"PostalAuction$Sale", "reasonAgainst", "(II)I"⟩, 11) := ⟨⟨by decide +kernel, by decide +kernel⟩, List.mem_of_getElem? (i := 200) (by decide +kernel), List.mem_of_getElem? (i := 515) (by decide +kernel), List.mem_of_getElem? (i := 516) (by decide +kernel)⟩
theorem lw_p10 : lw_okq (⟨"PostalAuction$Sale", "hasAlternativeBought", "(II)Z"⟩, 11) := ⟨⟨by decide +kernel, by decide +kernel⟩, List.mem_of_getElem? (i := 200) (by decide +kernel), List.mem_of_getElem? (i := 523) (by decide +kernel), List.mem_of_getElem? (i := 524) (by decide +kernel)⟩
theorem lw_p11 : lw_okq (⟨"PostalAuction$Sale", "chooseBetween", "(II)V"⟩, 11) := ⟨⟨by decide +kernel, by decide +kernel⟩, List.mem_of_getElem? (i := 200) (by decide +kernel), List.mem_of_getElem? (i := 527) (by decide +kernel), List.mem_of_getElem? (i := 528) (by decide +kernel)⟩
theorem lw_p12 : lw_okq (⟨"PostalAuction$Sale", "orderBids", "(I)V"⟩, 11) := ⟨⟨by decide +kernel, by decide +kernel⟩, List.mem_of_getElem? (i := 200) (by decide +kernel), List.mem_of_getElem? (i := 531) (by decide +kernel), List.mem_of_getElem? (i := 532) (by decide +kernel)⟩
theorem lw_p13 : lw_okq (⟨"PostalAuction$Sale", "insert", "(II)V"⟩, 11) := ⟨⟨by decide +kernel, by decide +kernel⟩, List.mem_of_getElem? (i := 200) (by decide +kernel), List.mem_of_getElem? (i := 535) (by decide +kernel), List.mem_of_getElem? (i := 536) (by decide +kernel)⟩
theorem lw_p14 : lw_okq (⟨"PostalAuction$Sale", "goesBefore", "(II)Z"⟩, 11) := ⟨⟨by decide +kernel, by decide +kernel⟩, List.mem_of_getElem? (i := 200) (by decide +kernel), List.mem_of_getElem? (i := 539) (by decide +kernel), List.mem_of_getElem? (i := 540) (by decide +kernel)⟩
theorem lw_p15 : lw_okq (⟨"PostalAuction$Sale", "sell", "(I)V"⟩, 11) := ⟨⟨by decide +kernel, by decide +kernel⟩, List.mem_of_getElem? (i := 200) (by decide +kernel), List.mem_of_getElem? (i := 543) (by decide +kernel), List.mem_of_getElem? (i := 544) (by decide +kernel)⟩
def lw_privs_1 : List (MethodName × Nat) := [(⟨"PostalAuction$Steps", "placeOf", "(I)I"⟩, 3), (⟨"PostalAuction", "beginAct", "()V"⟩, 5), (⟨"PostalAuction$History", "dropOldest", "()V"⟩, 2), (⟨"PostalAuction", "isLot", "(I)Z"⟩, 5), (⟨"PostalAuction", "isBidder", "(I)Z"⟩, 5), (⟨"PostalAuction", "isBid", "(I)Z"⟩, 5), (⟨"PostalAuction$Steps", "bandOf", "(I)I"⟩, 3), (⟨"PostalAuction$Sale", "judgeBids", "(I)V"⟩, 11), (⟨"PostalAuction$Sale", "judge", "(II)V"⟩, 11), (⟨"PostalAuction$Sale", "reasonAgainst", "(II)I"⟩, 11), (⟨"PostalAuction$Sale", "hasAlternativeBought", "(II)Z"⟩, 11), (⟨"PostalAuction$Sale", "chooseBetween", "(II)V"⟩, 11), (⟨"PostalAuction$Sale", "orderBids", "(I)V"⟩, 11), (⟨"PostalAuction$Sale", "insert", "(II)V"⟩, 11), (⟨"PostalAuction$Sale", "goesBefore", "(II)Z"⟩, 11), (⟨"PostalAuction$Sale", "sell", "(I)V"⟩, 11)]
theorem lw_r1 : ∀ q ∈ lw_privs_1, lw_okq q := List.forall_mem_cons.mpr ⟨lw_p0, List.forall_mem_cons.mpr ⟨lw_p1, List.forall_mem_cons.mpr ⟨lw_p2, List.forall_mem_cons.mpr ⟨lw_p3, List.forall_mem_cons.mpr ⟨lw_p4, List.forall_mem_cons.mpr ⟨lw_p5, List.forall_mem_cons.mpr ⟨lw_p6, List.forall_mem_cons.mpr ⟨lw_p7, List.forall_mem_cons.mpr ⟨lw_p8, List.forall_mem_cons.mpr ⟨lw_p9, List.forall_mem_cons.mpr ⟨lw_p10, List.forall_mem_cons.mpr ⟨lw_p11, List.forall_mem_cons.mpr ⟨lw_p12, List.forall_mem_cons.mpr ⟨lw_p13, List.forall_mem_cons.mpr ⟨lw_p14, List.forall_mem_cons.mpr ⟨lw_p15, fun _ h => absurd h List.not_mem_nil⟩⟩⟩⟩⟩⟩⟩⟩⟩⟩⟩⟩⟩⟩⟩⟩
theorem lw_p16 : lw_okq (⟨"PostalAuction$Sale", "stateOf", "(II)I"⟩, 11) := ⟨⟨by decide +kernel, by decide +kernel⟩, List.mem_of_getElem? (i := 200) (by decide +kernel), List.mem_of_getElem? (i := 551) (by decide +kernel), List.mem_of_getElem? (i := 552) (by decide +kernel)⟩
theorem lw_p17 : lw_okq (⟨"PostalAuction$Sale", "priceOf", "(I)I"⟩, 11) := ⟨⟨by decide +kernel, by decide +kernel⟩, List.mem_of_getElem? (i := 200) (by decide +kernel), List.mem_of_getElem? (i := 555) (by decide +kernel), List.mem_of_getElem? (i := 556) (by decide +kernel)⟩
theorem lw_p18 : lw_okq (⟨"PostalAuction$Money", "part", "(II)I"⟩, 2) := ⟨⟨by decide +kernel, by decide +kernel⟩, List.mem_of_getElem? (i := 252) (by decide +kernel), List.mem_of_getElem? (i := 585) (by decide +kernel), List.mem_of_getElem? (i := 586) (by decide +kernel)⟩
theorem lw_p19 : lw_okq (⟨"PostalAuction$Money", "owesFee", "(I)Z"⟩, 2) := ⟨⟨by decide +kernel, by decide +kernel⟩, List.mem_of_getElem? (i := 252) (by decide +kernel), List.mem_of_getElem? (i := 589) (by decide +kernel), List.mem_of_getElem? (i := 590) (by decide +kernel)⟩
theorem lw_p20 : lw_okq (⟨"PostalAuction$Sale", "leastWorth", "(III)I"⟩, 11) := ⟨⟨by decide +kernel, by decide +kernel⟩, List.mem_of_getElem? (i := 200) (by decide +kernel), List.mem_of_getElem? (i := 682) (by decide +kernel), List.mem_of_getElem? (i := 683) (by decide +kernel)⟩
theorem lw_p21 : lw_okq (⟨"PostalAuction$Letter", "startNumber", "()V"⟩, 10) := ⟨⟨by decide +kernel, by decide +kernel⟩, List.mem_of_getElem? (i := 265) (by decide +kernel), List.mem_of_getElem? (i := 711) (by decide +kernel), List.mem_of_getElem? (i := 712) (by decide +kernel)⟩
theorem lw_p22 : lw_okq (⟨"PostalAuction$Letter", "readDigit", "(II)I"⟩, 10) := ⟨⟨by decide +kernel, by decide +kernel⟩, List.mem_of_getElem? (i := 265) (by decide +kernel), List.mem_of_getElem? (i := 715) (by decide +kernel), List.mem_of_getElem? (i := 716) (by decide +kernel)⟩
theorem lw_p23 : lw_okq (⟨"PostalAuction$Letter", "readMark", "(CII)I"⟩, 10) := ⟨⟨by decide +kernel, by decide +kernel⟩, List.mem_of_getElem? (i := 265) (by decide +kernel), List.mem_of_getElem? (i := 719) (by decide +kernel), List.mem_of_getElem? (i := 720) (by decide +kernel)⟩
theorem lw_p24 : lw_okq (⟨"PostalAuction$Letter", "isTooGreat", "(I)Z"⟩, 10) := ⟨⟨by decide +kernel, by decide +kernel⟩, List.mem_of_getElem? (i := 265) (by decide +kernel), List.mem_of_getElem? (i := 723) (by decide +kernel), List.mem_of_getElem? (i := 724) (by decide +kernel)⟩
theorem lw_p25 : lw_okq (⟨"PostalAuction$Letter", "takeNumber", "()V"⟩, 10) := ⟨⟨by decide +kernel, by decide +kernel⟩, List.mem_of_getElem? (i := 265) (by decide +kernel), List.mem_of_getElem? (i := 728) (by decide +kernel), List.mem_of_getElem? (i := 729) (by decide +kernel)⟩
theorem lw_p26 : lw_okq (⟨"PostalAuction$Letter", "readEnd", "(I)I"⟩, 10) := ⟨⟨by decide +kernel, by decide +kernel⟩, List.mem_of_getElem? (i := 265) (by decide +kernel), List.mem_of_getElem? (i := 733) (by decide +kernel), List.mem_of_getElem? (i := 734) (by decide +kernel)⟩
def lw_privs_2 : List (MethodName × Nat) := [(⟨"PostalAuction$Sale", "stateOf", "(II)I"⟩, 11), (⟨"PostalAuction$Sale", "priceOf", "(I)I"⟩, 11), (⟨"PostalAuction$Money", "part", "(II)I"⟩, 2), (⟨"PostalAuction$Money", "owesFee", "(I)Z"⟩, 2), (⟨"PostalAuction$Sale", "leastWorth", "(III)I"⟩, 11), (⟨"PostalAuction$Letter", "startNumber", "()V"⟩, 10), (⟨"PostalAuction$Letter", "readDigit", "(II)I"⟩, 10), (⟨"PostalAuction$Letter", "readMark", "(CII)I"⟩, 10), (⟨"PostalAuction$Letter", "isTooGreat", "(I)Z"⟩, 10), (⟨"PostalAuction$Letter", "takeNumber", "()V"⟩, 10), (⟨"PostalAuction$Letter", "readEnd", "(I)I"⟩, 10)]
theorem lw_r2 : ∀ q ∈ lw_privs_2, lw_okq q := List.forall_mem_cons.mpr ⟨lw_p16, List.forall_mem_cons.mpr ⟨lw_p17, List.forall_mem_cons.mpr ⟨lw_p18, List.forall_mem_cons.mpr ⟨lw_p19, List.forall_mem_cons.mpr ⟨lw_p20, List.forall_mem_cons.mpr ⟨lw_p21, List.forall_mem_cons.mpr ⟨lw_p22, List.forall_mem_cons.mpr ⟨lw_p23, List.forall_mem_cons.mpr ⟨lw_p24, List.forall_mem_cons.mpr ⟨lw_p25, List.forall_mem_cons.mpr ⟨lw_p26, fun _ h => absurd h List.not_mem_nil⟩⟩⟩⟩⟩⟩⟩⟩⟩⟩⟩
def lw_privs : List (MethodName × Nat) := lw_privs_1 ++ (lw_privs_2)
def lw_tbl : List Cond := k2_sels lw_privs ++ tables_1
theorem lw_privs_ok : ∀ q ∈ lw_privs, lw_okq q := by
  show ∀ q ∈ lw_privs_1 ++ (lw_privs_2), lw_okq q
  exact List.forall_mem_append.mpr ⟨lw_r1, lw_r2⟩
-- ===== end of PART A; then your names; then what follows =====
end
section
def RX0 : String := "PostalAuction$Bids"
def TX0 : u_T := fun k => match k with
  | 0 => ("PostalAuction$Bids", "bidders", "LPostalAuction$Row;", true)
  | 1 => ("PostalAuction$Bids", "lots", "LPostalAuction$Row;", true)
  | 2 => ("PostalAuction$Bids", "amounts", "LPostalAuction$Row;", true)
  | 3 => ("PostalAuction$Bids", "postmarks", "LPostalAuction$Row;", true)
  | 4 => ("PostalAuction$Bids", "groups", "LPostalAuction$Row;", true)
  | 5 => ("PostalAuction$Bids", "withdrawn", "LPostalAuction$Row;", true)
  | _ => ("PostalAuction$Bids", "size", "I", false)
def tyX0 : Nat → FieldType := fun k => match k with
  | 0 => .object "PostalAuction$Row"
  | 1 => .object "PostalAuction$Row"
  | 2 => .object "PostalAuction$Row"
  | 3 => .object "PostalAuction$Row"
  | 4 => .object "PostalAuction$Row"
  | 5 => .object "PostalAuction$Row"
  | _ => .int
abbrev wsX00 : List Cond := u_ws RX0 TX0 7
theorem nmX0 : ∀ a, a < 7 → ∀ b, b < 7 → a ≠ b → (TX0 a).2.1 ≠ (TX0 b).2.1 := by decide +kernel
theorem tyX0_ok : ∀ k, k < 7 → parseFieldDescriptor (TX0 k).2.2.1 = some (tyX0 k) := by decide +kernel
abbrev cX0_init : ByteArray := prog_2_method_1_code
def yX0_init : MethodName := ⟨RX0, "<init>", "()V"⟩
abbrev cX0_copy : ByteArray := prog_2_method_2_code
def yX0_copy : MethodName := ⟨RX0, "copy", "(LPostalAuction$Bids;)V"⟩
abbrev cX0_add : ByteArray := prog_2_method_3_code
def yX0_add : MethodName := ⟨RX0, "add", "(IIIII)I"⟩
abbrev cX0_freeGroup : ByteArray := prog_2_method_4_code
def yX0_freeGroup : MethodName := ⟨RX0, "freeGroup", "(I)I"⟩
def RX1 : String := "PostalAuction$History"
def TX1 : u_T := fun k => match k with
  | 0 => ("PostalAuction$History", "states", "[LPostalAuction$State;", true)
  | _ => ("PostalAuction$History", "size", "I", false)
def tyX1 : Nat → FieldType := fun k => match k with
  | 0 => .array (.object "PostalAuction$State")
  | _ => .int
abbrev wsX10 : List Cond := u_ws RX1 TX1 2
theorem nmX1 : ∀ a, a < 2 → ∀ b, b < 2 → a ≠ b → (TX1 a).2.1 ≠ (TX1 b).2.1 := by decide +kernel
theorem tyX1_ok : ∀ k, k < 2 → parseFieldDescriptor (TX1 k).2.2.1 = some (tyX1 k) := by decide +kernel
abbrev cX1_init : ByteArray := prog_3_method_1_code
def yX1_init : MethodName := ⟨RX1, "<init>", "()V"⟩
abbrev cX1_keep : ByteArray := prog_3_method_2_code
def yX1_keep : MethodName := ⟨RX1, "keep", "(LPostalAuction$State;)V"⟩
abbrev cX1_restore : ByteArray := prog_3_method_3_code
def yX1_restore : MethodName := ⟨RX1, "restore", "(LPostalAuction$State;)V"⟩
abbrev cX1_dropOldest : ByteArray := prog_3_method_4_code
def yX1_dropOldest : MethodName := ⟨RX1, "dropOldest", "()V"⟩
def RX2 : String := "PostalAuction$Letter"
def TX2 : u_T := fun k => match k with
  | 0 => ("PostalAuction$Letter", "signs", "[C", true)
  | 1 => ("PostalAuction$Letter", "length", "I", false)
  | 2 => ("PostalAuction$Letter", "lots", "LPostalAuction$Row;", true)
  | 3 => ("PostalAuction$Letter", "amounts", "LPostalAuction$Row;", true)
  | 4 => ("PostalAuction$Letter", "wishes", "LPostalAuction$Row;", true)
  | 5 => ("PostalAuction$Letter", "told", "I", false)
  | 6 => ("PostalAuction$Letter", "wish", "I", false)
  | 7 => ("PostalAuction$Letter", "isInAmount", "Z", false)
  | 8 => ("PostalAuction$Letter", "number", "I", false)
  | _ => ("PostalAuction$Letter", "digits", "I", false)
def tyX2 : Nat → FieldType := fun k => match k with
  | 0 => .array .char
  | 1 => .int
  | 2 => .object "PostalAuction$Row"
  | 3 => .object "PostalAuction$Row"
  | 4 => .object "PostalAuction$Row"
  | 5 => .int
  | 6 => .int
  | 7 => .boolean
  | 8 => .int
  | _ => .int
abbrev wsX20 : List Cond := u_ws RX2 TX2 10
theorem nmX2 : ∀ a, a < 10 → ∀ b, b < 10 → a ≠ b → (TX2 a).2.1 ≠ (TX2 b).2.1 := by decide +kernel
theorem tyX2_ok : ∀ k, k < 10 → parseFieldDescriptor (TX2 k).2.2.1 = some (tyX2 k) := by decide +kernel
abbrev cX2_init : ByteArray := prog_4_method_1_code
def yX2_init : MethodName := ⟨RX2, "<init>", "()V"⟩
abbrev cX2_append : ByteArray := prog_4_method_2_code
def yX2_append : MethodName := ⟨RX2, "append", "(C)Z"⟩
abbrev cX2_isInOneWish : ByteArray := prog_4_method_3_code
def yX2_isInOneWish : MethodName := ⟨RX2, "isInOneWish", "(II)Z"⟩
abbrev cX2_read : ByteArray := prog_4_method_4_code
def yX2_read : MethodName := ⟨RX2, "read", "(I)I"⟩
abbrev cX2_startNumber : ByteArray := prog_4_method_5_code
def yX2_startNumber : MethodName := ⟨RX2, "startNumber", "()V"⟩
abbrev cX2_readDigit : ByteArray := prog_4_method_6_code
def yX2_readDigit : MethodName := ⟨RX2, "readDigit", "(II)I"⟩
abbrev cX2_readMark : ByteArray := prog_4_method_7_code
def yX2_readMark : MethodName := ⟨RX2, "readMark", "(CII)I"⟩
abbrev cX2_readEnd : ByteArray := prog_4_method_8_code
def yX2_readEnd : MethodName := ⟨RX2, "readEnd", "(I)I"⟩
abbrev cX2_isTooGreat : ByteArray := prog_4_method_9_code
def yX2_isTooGreat : MethodName := ⟨RX2, "isTooGreat", "(I)Z"⟩
abbrev cX2_takeNumber : ByteArray := prog_4_method_10_code
def yX2_takeNumber : MethodName := ⟨RX2, "takeNumber", "()V"⟩
def RX3 : String := "PostalAuction$Lots"
def TX3 : u_T := fun k => match k with
  | 0 => ("PostalAuction$Lots", "sellers", "LPostalAuction$Row;", true)
  | 1 => ("PostalAuction$Lots", "starts", "LPostalAuction$Row;", true)
  | 2 => ("PostalAuction$Lots", "reserves", "LPostalAuction$Row;", true)
  | 3 => ("PostalAuction$Lots", "withdrawn", "LPostalAuction$Row;", true)
  | _ => ("PostalAuction$Lots", "size", "I", false)
def tyX3 : Nat → FieldType := fun k => match k with
  | 0 => .object "PostalAuction$Row"
  | 1 => .object "PostalAuction$Row"
  | 2 => .object "PostalAuction$Row"
  | 3 => .object "PostalAuction$Row"
  | _ => .int
abbrev wsX30 : List Cond := u_ws RX3 TX3 5
theorem nmX3 : ∀ a, a < 5 → ∀ b, b < 5 → a ≠ b → (TX3 a).2.1 ≠ (TX3 b).2.1 := by decide +kernel
theorem tyX3_ok : ∀ k, k < 5 → parseFieldDescriptor (TX3 k).2.2.1 = some (tyX3 k) := by decide +kernel
abbrev cX3_init : ByteArray := prog_5_method_1_code
def yX3_init : MethodName := ⟨RX3, "<init>", "()V"⟩
abbrev cX3_copy : ByteArray := prog_5_method_2_code
def yX3_copy : MethodName := ⟨RX3, "copy", "(LPostalAuction$Lots;)V"⟩
abbrev cX3_add : ByteArray := prog_5_method_3_code
def yX3_add : MethodName := ⟨RX3, "add", "(III)I"⟩
def RX4 : String := "PostalAuction$Money"
def TX4 : u_T := fun k => match k with
  | 0 => ("PostalAuction$Money", "now", "LPostalAuction$State;", true)
  | _ => ("PostalAuction$Money", "outcome", "LPostalAuction$Sale;", true)
def tyX4 : Nat → FieldType := fun k => match k with
  | 0 => .object "PostalAuction$State"
  | _ => .object "PostalAuction$Sale"
abbrev wsX40 : List Cond := u_ws RX4 TX4 2
theorem nmX4 : ∀ a, a < 2 → ∀ b, b < 2 → a ≠ b → (TX4 a).2.1 ≠ (TX4 b).2.1 := by decide +kernel
theorem tyX4_ok : ∀ k, k < 2 → parseFieldDescriptor (TX4 k).2.2.1 = some (tyX4 k) := by decide +kernel
abbrev cX4_init : ByteArray := prog_6_method_1_code
def yX4_init : MethodName := ⟨RX4, "<init>", "(LPostalAuction$State;LPostalAuction$Sale;)V"⟩
abbrev cX4_paidBy : ByteArray := prog_6_method_2_code
def yX4_paidBy : MethodName := ⟨RX4, "paidBy", "(I)I"⟩
abbrev cX4_total : ByteArray := prog_6_method_3_code
def yX4_total : MethodName := ⟨RX4, "total", "(II)J"⟩
abbrev cX4_payments : ByteArray := prog_6_method_4_code
def yX4_payments : MethodName := ⟨RX4, "payments", "()J"⟩
abbrev cX4_receipts : ByteArray := prog_6_method_5_code
def yX4_receipts : MethodName := ⟨RX4, "receipts", "(I)J"⟩
abbrev cX4_part : ByteArray := prog_6_method_6_code
def yX4_part : MethodName := ⟨RX4, "part", "(II)I"⟩
abbrev cX4_owesFee : ByteArray := prog_6_method_7_code
def yX4_owesFee : MethodName := ⟨RX4, "owesFee", "(I)Z"⟩
def RX5 : String := "PostalAuction$Row"
def TX5 : u_T := fun k => match k with
  | _ => ("PostalAuction$Row", "cells", "[I", true)
def tyX5 : Nat → FieldType := fun k => match k with
  | _ => .array .int
abbrev wsX50 : List Cond := u_ws RX5 TX5 1
theorem nmX5 : ∀ a, a < 1 → ∀ b, b < 1 → a ≠ b → (TX5 a).2.1 ≠ (TX5 b).2.1 := by decide +kernel
theorem tyX5_ok : ∀ k, k < 1 → parseFieldDescriptor (TX5 k).2.2.1 = some (tyX5 k) := by decide +kernel
abbrev cX5_init : ByteArray := prog_7_method_1_code
def yX5_init : MethodName := ⟨RX5, "<init>", "(I)V"⟩
abbrev cX5_get : ByteArray := prog_7_method_2_code
def yX5_get : MethodName := ⟨RX5, "get", "(I)I"⟩
abbrev cX5_put : ByteArray := prog_7_method_3_code
def yX5_put : MethodName := ⟨RX5, "put", "(II)V"⟩
abbrev cX5_copy : ByteArray := prog_7_method_4_code
def yX5_copy : MethodName := ⟨RX5, "copy", "(LPostalAuction$Row;)V"⟩
abbrev cX5_sum : ByteArray := prog_7_method_5_code
def yX5_sum : MethodName := ⟨RX5, "sum", "(I)I"⟩
abbrev cX5_countOf : ByteArray := prog_7_method_6_code
def yX5_countOf : MethodName := ⟨RX5, "countOf", "(II)I"⟩
def RX6 : String := "PostalAuction$Sale"
def TX6 : u_T := fun k => match k with
  | 0 => ("PostalAuction$Sale", "now", "LPostalAuction$State;", true)
  | 1 => ("PostalAuction$Sale", "buyers", "LPostalAuction$Row;", true)
  | 2 => ("PostalAuction$Sale", "prices", "LPostalAuction$Row;", true)
  | 3 => ("PostalAuction$Sale", "states", "LPostalAuction$Row;", true)
  | 4 => ("PostalAuction$Sale", "counts", "LPostalAuction$Row;", true)
  | 5 => ("PostalAuction$Sale", "askingPrices", "LPostalAuction$Row;", true)
  | 6 => ("PostalAuction$Sale", "order", "LPostalAuction$Row;", true)
  | 7 => ("PostalAuction$Sale", "worths", "LPostalAuction$Row;", true)
  | 8 => ("PostalAuction$Sale", "fates", "LPostalAuction$Row;", true)
  | 9 => ("PostalAuction$Sale", "bestBids", "LPostalAuction$Row;", true)
  | _ => ("PostalAuction$Sale", "isHeld", "Z", false)
def tyX6 : Nat → FieldType := fun k => match k with
  | 0 => .object "PostalAuction$State"
  | 1 => .object "PostalAuction$Row"
  | 2 => .object "PostalAuction$Row"
  | 3 => .object "PostalAuction$Row"
  | 4 => .object "PostalAuction$Row"
  | 5 => .object "PostalAuction$Row"
  | 6 => .object "PostalAuction$Row"
  | 7 => .object "PostalAuction$Row"
  | 8 => .object "PostalAuction$Row"
  | 9 => .object "PostalAuction$Row"
  | _ => .boolean
abbrev wsX60 : List Cond := u_ws RX6 TX6 11
theorem nmX6 : ∀ a, a < 11 → ∀ b, b < 11 → a ≠ b → (TX6 a).2.1 ≠ (TX6 b).2.1 := by decide +kernel
theorem tyX6_ok : ∀ k, k < 11 → parseFieldDescriptor (TX6 k).2.2.1 = some (tyX6 k) := by decide +kernel
abbrev cX6_init : ByteArray := prog_8_method_1_code
def yX6_init : MethodName := ⟨RX6, "<init>", "(LPostalAuction$State;)V"⟩
abbrev cX6_hold : ByteArray := prog_8_method_2_code
def yX6_hold : MethodName := ⟨RX6, "hold", "()V"⟩
abbrev cX6_bidAt : ByteArray := prog_8_method_3_code
def yX6_bidAt : MethodName := ⟨RX6, "bidAt", "(II)I"⟩
abbrev cX6_leftBefore : ByteArray := prog_8_method_4_code
def yX6_leftBefore : MethodName := ⟨RX6, "leftBefore", "(II)I"⟩
abbrev cX6_soldLots : ByteArray := prog_8_method_5_code
def yX6_soldLots : MethodName := ⟨RX6, "soldLots", "(I)I"⟩
abbrev cX6_judgeBids : ByteArray := prog_8_method_6_code
def yX6_judgeBids : MethodName := ⟨RX6, "judgeBids", "(I)V"⟩
abbrev cX6_judge : ByteArray := prog_8_method_7_code
def yX6_judge : MethodName := ⟨RX6, "judge", "(II)V"⟩
abbrev cX6_reasonAgainst : ByteArray := prog_8_method_8_code
def yX6_reasonAgainst : MethodName := ⟨RX6, "reasonAgainst", "(II)I"⟩
abbrev cX6_hasAlternativeBought : ByteArray := prog_8_method_9_code
def yX6_hasAlternativeBought : MethodName := ⟨RX6, "hasAlternativeBought", "(II)Z"⟩
abbrev cX6_chooseBetween : ByteArray := prog_8_method_10_code
def yX6_chooseBetween : MethodName := ⟨RX6, "chooseBetween", "(II)V"⟩
abbrev cX6_orderBids : ByteArray := prog_8_method_11_code
def yX6_orderBids : MethodName := ⟨RX6, "orderBids", "(I)V"⟩
abbrev cX6_insert : ByteArray := prog_8_method_12_code
def yX6_insert : MethodName := ⟨RX6, "insert", "(II)V"⟩
abbrev cX6_goesBefore : ByteArray := prog_8_method_13_code
def yX6_goesBefore : MethodName := ⟨RX6, "goesBefore", "(II)Z"⟩
abbrev cX6_sell : ByteArray := prog_8_method_14_code
def yX6_sell : MethodName := ⟨RX6, "sell", "(I)V"⟩
abbrev cX6_stateOf : ByteArray := prog_8_method_15_code
def yX6_stateOf : MethodName := ⟨RX6, "stateOf", "(II)I"⟩
abbrev cX6_priceOf : ByteArray := prog_8_method_16_code
def yX6_priceOf : MethodName := ⟨RX6, "priceOf", "(I)I"⟩
abbrev cX6_leastAmount : ByteArray := prog_8_method_17_code
def yX6_leastAmount : MethodName := ⟨RX6, "leastAmount", "(III)I"⟩
abbrev cX6_leastWorth : ByteArray := prog_8_method_18_code
def yX6_leastWorth : MethodName := ⟨RX6, "leastWorth", "(III)I"⟩
def RX7 : String := "PostalAuction$State"
def TX7 : u_T := fun k => match k with
  | 0 => ("PostalAuction$State", "steps", "LPostalAuction$Steps;", true)
  | 1 => ("PostalAuction$State", "lots", "LPostalAuction$Lots;", true)
  | 2 => ("PostalAuction$State", "limits", "LPostalAuction$Row;", true)
  | 3 => ("PostalAuction$State", "bidders", "I", false)
  | 4 => ("PostalAuction$State", "bids", "LPostalAuction$Bids;", true)
  | _ => ("PostalAuction$State", "settings", "LPostalAuction$Row;", true)
def tyX7 : Nat → FieldType := fun k => match k with
  | 0 => .object "PostalAuction$Steps"
  | 1 => .object "PostalAuction$Lots"
  | 2 => .object "PostalAuction$Row"
  | 3 => .int
  | 4 => .object "PostalAuction$Bids"
  | _ => .object "PostalAuction$Row"
abbrev wsX70 : List Cond := u_ws RX7 TX7 6
theorem nmX7 : ∀ a, a < 6 → ∀ b, b < 6 → a ≠ b → (TX7 a).2.1 ≠ (TX7 b).2.1 := by decide +kernel
theorem tyX7_ok : ∀ k, k < 6 → parseFieldDescriptor (TX7 k).2.2.1 = some (tyX7 k) := by decide +kernel
abbrev cX7_init : ByteArray := prog_9_method_1_code
def yX7_init : MethodName := ⟨RX7, "<init>", "()V"⟩
abbrev cX7_copy : ByteArray := prog_9_method_2_code
def yX7_copy : MethodName := ⟨RX7, "copy", "(LPostalAuction$State;)V"⟩
abbrev cX7_askingPrice : ByteArray := prog_9_method_3_code
def yX7_askingPrice : MethodName := ⟨RX7, "askingPrice", "(I)I"⟩
abbrev cX7_isLate : ByteArray := prog_9_method_4_code
def yX7_isLate : MethodName := ⟨RX7, "isLate", "(I)Z"⟩
abbrev cX7_lateBids : ByteArray := prog_9_method_5_code
def yX7_lateBids : MethodName := ⟨RX7, "lateBids", "()I"⟩
def RX8 : String := "PostalAuction$Steps"
def TX8 : u_T := fun k => match k with
  | 0 => ("PostalAuction$Steps", "beginnings", "LPostalAuction$Row;", true)
  | 1 => ("PostalAuction$Steps", "widths", "LPostalAuction$Row;", true)
  | _ => ("PostalAuction$Steps", "size", "I", false)
def tyX8 : Nat → FieldType := fun k => match k with
  | 0 => .object "PostalAuction$Row"
  | 1 => .object "PostalAuction$Row"
  | _ => .int
abbrev wsX80 : List Cond := u_ws RX8 TX8 3
theorem nmX8 : ∀ a, a < 3 → ∀ b, b < 3 → a ≠ b → (TX8 a).2.1 ≠ (TX8 b).2.1 := by decide +kernel
theorem tyX8_ok : ∀ k, k < 3 → parseFieldDescriptor (TX8 k).2.2.1 = some (tyX8 k) := by decide +kernel
abbrev cX8_init : ByteArray := prog_10_method_1_code
def yX8_init : MethodName := ⟨RX8, "<init>", "()V"⟩
abbrev cX8_copy : ByteArray := prog_10_method_2_code
def yX8_copy : MethodName := ⟨RX8, "copy", "(LPostalAuction$Steps;)V"⟩
abbrev cX8_hasBand : ByteArray := prog_10_method_3_code
def yX8_hasBand : MethodName := ⟨RX8, "hasBand", "(I)Z"⟩
abbrev cX8_hasRoomFor : ByteArray := prog_10_method_4_code
def yX8_hasRoomFor : MethodName := ⟨RX8, "hasRoomFor", "(I)Z"⟩
abbrev cX8_putBand : ByteArray := prog_10_method_5_code
def yX8_putBand : MethodName := ⟨RX8, "putBand", "(II)V"⟩
abbrev cX8_dropBand : ByteArray := prog_10_method_6_code
def yX8_dropBand : MethodName := ⟨RX8, "dropBand", "(I)V"⟩
abbrev cX8_placeOf : ByteArray := prog_10_method_7_code
def yX8_placeOf : MethodName := ⟨RX8, "placeOf", "(I)I"⟩
abbrev cX8_bandOf : ByteArray := prog_10_method_8_code
def yX8_bandOf : MethodName := ⟨RX8, "bandOf", "(I)I"⟩
abbrev cX8_floor : ByteArray := prog_10_method_9_code
def yX8_floor : MethodName := ⟨RX8, "floor", "(I)I"⟩
abbrev cX8_ceiling : ByteArray := prog_10_method_10_code
def yX8_ceiling : MethodName := ⟨RX8, "ceiling", "(I)I"⟩
abbrev cX8_next : ByteArray := prog_10_method_11_code
def yX8_next : MethodName := ⟨RX8, "next", "(I)I"⟩
def RX9 : String := "PostalAuction"
def TX9 : u_T := fun k => match k with
  | 0 => ("PostalAuction", "now", "LPostalAuction$State;", true)
  | 1 => ("PostalAuction", "history", "LPostalAuction$History;", true)
  | 2 => ("PostalAuction", "outcome", "LPostalAuction$Sale;", true)
  | 3 => ("PostalAuction", "money", "LPostalAuction$Money;", true)
  | _ => ("PostalAuction", "text", "LPostalAuction$Letter;", true)
def tyX9 : Nat → FieldType := fun k => match k with
  | 0 => .object "PostalAuction$State"
  | 1 => .object "PostalAuction$History"
  | 2 => .object "PostalAuction$Sale"
  | 3 => .object "PostalAuction$Money"
  | _ => .object "PostalAuction$Letter"
abbrev wsX90 : List Cond := u_ws RX9 TX9 5
theorem nmX9 : ∀ a, a < 5 → ∀ b, b < 5 → a ≠ b → (TX9 a).2.1 ≠ (TX9 b).2.1 := by decide +kernel
theorem tyX9_ok : ∀ k, k < 5 → parseFieldDescriptor (TX9 k).2.2.1 = some (tyX9 k) := by decide +kernel
abbrev cX9_init : ByteArray := prog_1_method_1_code
def yX9_init : MethodName := ⟨RX9, "<init>", "()V"⟩
abbrev cX9_setBand : ByteArray := prog_1_method_2_code
def yX9_setBand : MethodName := ⟨RX9, "setBand", "(II)I"⟩
abbrev cX9_removeBand : ByteArray := prog_1_method_3_code
def yX9_removeBand : MethodName := ⟨RX9, "removeBand", "(I)I"⟩
abbrev cX9_valid : ByteArray := prog_1_method_4_code
def yX9_valid : MethodName := ⟨RX9, "valid", "(II)I"⟩
abbrev cX9_addLot : ByteArray := prog_1_method_5_code
def yX9_addLot : MethodName := ⟨RX9, "addLot", "(III)I"⟩
abbrev cX9_setReserve : ByteArray := prog_1_method_6_code
def yX9_setReserve : MethodName := ⟨RX9, "setReserve", "(II)I"⟩
abbrev cX9_withdrawLot : ByteArray := prog_1_method_7_code
def yX9_withdrawLot : MethodName := ⟨RX9, "withdrawLot", "(IZ)I"⟩
abbrev cX9_addBidder : ByteArray := prog_1_method_8_code
def yX9_addBidder : MethodName := ⟨RX9, "addBidder", "(I)I"⟩
abbrev cX9_setLimit : ByteArray := prog_1_method_9_code
def yX9_setLimit : MethodName := ⟨RX9, "setLimit", "(II)I"⟩
abbrev cX9_set : ByteArray := prog_1_method_10_code
def yX9_set : MethodName := ⟨RX9, "set", "(II)I"⟩
abbrev cX9_bid : ByteArray := prog_1_method_11_code
def yX9_bid : MethodName := ⟨RX9, "bid", "(IIIII)I"⟩
abbrev cX9_withdrawBid : ByteArray := prog_1_method_12_code
def yX9_withdrawBid : MethodName := ⟨RX9, "withdrawBid", "(I)I"⟩
abbrev cX9_type : ByteArray := prog_1_method_13_code
def yX9_type : MethodName := ⟨RX9, "type", "(C)I"⟩
abbrev cX9_clearText : ByteArray := prog_1_method_14_code
def yX9_clearText : MethodName := ⟨RX9, "clearText", "()I"⟩
abbrev cX9_letter : ByteArray := prog_1_method_15_code
def yX9_letter : MethodName := ⟨RX9, "letter", "(II)I"⟩
abbrev cX9_undo : ByteArray := prog_1_method_16_code
def yX9_undo : MethodName := ⟨RX9, "undo", "()I"⟩
abbrev cX9_sale : ByteArray := prog_1_method_17_code
def yX9_sale : MethodName := ⟨RX9, "sale", "(II)I"⟩
abbrev cX9_ranked : ByteArray := prog_1_method_18_code
def yX9_ranked : MethodName := ⟨RX9, "ranked", "(II)I"⟩
abbrev cX9_fate : ByteArray := prog_1_method_19_code
def yX9_fate : MethodName := ⟨RX9, "fate", "(I)I"⟩
abbrev cX9_needed : ByteArray := prog_1_method_20_code
def yX9_needed : MethodName := ⟨RX9, "needed", "(III)I"⟩
abbrev cX9_lot : ByteArray := prog_1_method_21_code
def yX9_lot : MethodName := ⟨RX9, "lot", "(II)I"⟩
abbrev cX9_bidOf : ByteArray := prog_1_method_22_code
def yX9_bidOf : MethodName := ⟨RX9, "bidOf", "(II)I"⟩
abbrev cX9_bidder : ByteArray := prog_1_method_23_code
def yX9_bidder : MethodName := ⟨RX9, "bidder", "(II)I"⟩
abbrev cX9_seller : ByteArray := prog_1_method_24_code
def yX9_seller : MethodName := ⟨RX9, "seller", "(II)J"⟩
abbrev cX9_account : ByteArray := prog_1_method_25_code
def yX9_account : MethodName := ⟨RX9, "account", "(I)J"⟩
abbrev cX9_count : ByteArray := prog_1_method_26_code
def yX9_count : MethodName := ⟨RX9, "count", "(I)I"⟩
abbrev cX9_isOutside : ByteArray := prog_1_method_27_code
def yX9_isOutside : MethodName := ⟨RX9, "isOutside", "(III)Z"⟩
abbrev cX9_mostOfSetting : ByteArray := prog_1_method_28_code
def yX9_mostOfSetting : MethodName := ⟨RX9, "mostOfSetting", "(I)I"⟩
abbrev cX9_isLot : ByteArray := prog_1_method_29_code
def yX9_isLot : MethodName := ⟨RX9, "isLot", "(I)Z"⟩
abbrev cX9_isBidder : ByteArray := prog_1_method_30_code
def yX9_isBidder : MethodName := ⟨RX9, "isBidder", "(I)Z"⟩
abbrev cX9_isBid : ByteArray := prog_1_method_31_code
def yX9_isBid : MethodName := ⟨RX9, "isBid", "(I)Z"⟩
abbrev cX9_beginAct : ByteArray := prog_1_method_32_code
def yX9_beginAct : MethodName := ⟨RX9, "beginAct", "()V"⟩
def RX10 : String := "PostalAuctionModel"
def TX10 : u_T := fun k => match k with
  | _ => ("", "", "", false)
def tyX10 : Nat → FieldType := fun k => match k with
  | _ => .int
abbrev wsX100 : List Cond := u_ws RX10 TX10 0
theorem nmX10 : ∀ a, a < 0 → ∀ b, b < 0 → a ≠ b → (TX10 a).2.1 ≠ (TX10 b).2.1 := by decide +kernel
theorem tyX10_ok : ∀ k, k < 0 → parseFieldDescriptor (TX10 k).2.2.1 = some (tyX10 k) := by decide +kernel
def RL : String := "PostalAuctionLaw"
abbrev cL_cell : ByteArray := method_2_code
def yL_cell : MethodName := ⟨RL, "cell", "([II)I"⟩
abbrev cL_low : ByteArray := method_3_code
def yL_low : MethodName := ⟨RL, "low", "(II)I"⟩
abbrev cL_lost : ByteArray := method_4_code
def yL_lost : MethodName := ⟨RL, "lost", "(J)Z"⟩
abbrev cL_steps : ByteArray := method_5_code
def yL_steps : MethodName := ⟨RL, "steps", "(LPostalAuction;I)Z"⟩
abbrev cL_ask : ByteArray := method_6_code
def yL_ask : MethodName := ⟨RL, "ask", "(LPostalAuction;[I[I[I[I[I)V"⟩
abbrev cL_lot : ByteArray := method_7_code
def yL_lot : MethodName := ⟨RL, "lot", "(LPostalAuction;[I[I[I[II)Z"⟩
abbrev cL_money : ByteArray := method_8_code
def yL_money : MethodName := ⟨RL, "money", "(LPostalAuction;)Z"⟩
abbrev cL_needs : ByteArray := method_9_code
def yL_needs : MethodName := ⟨RL, "needs", "(LPostalAuction;III)Z"⟩
abbrev cL_letters : ByteArray := method_10_code
def yL_letters : MethodName := ⟨RL, "letters", "(LPostalAuction;III)Z"⟩
abbrev cL_put : ByteArray := method_11_code
def yL_put : MethodName := ⟨RL, "put", "(LPostalAuction;I)I"⟩
abbrev cL_errors : ByteArray := method_12_code
def yL_errors : MethodName := ⟨RL, "errors", "(LPostalAuction;)Z"⟩
abbrev cL_law : ByteArray := code
def yL_law : MethodName := ⟨RL, "law", "([I)Z"⟩
end
section
abbrev am_E : Type := Nat × Instr × Nat × Nat × Nat × Nat × Int32 × Int64 × List (Int32 × Nat)
abbrev am_e0 (pc : Nat) (i : Instr) (n : Nat) : am_E := (pc, i, n, 0, 0, 0, 0, 0, [])
abbrev am_e3 (pc : Nat) (i : Instr) (n a b c : Nat) : am_E := (pc, i, n, a, b, c, 0, 0, [])
abbrev am_ec (pc : Nat) (i : Instr) (n p : Nat) (c : Int32) : am_E := (pc, i, n, 0, 0, p, c, 0, [])
abbrev am_ei (pc : Nat) (i : Instr) (n a : Nat) (c : Int32) : am_E := (pc, i, n, a, 0, 0, c, 0, [])
abbrev am_el (pc : Nat) (i : Instr) (n p : Nat) (c : Int64) : am_E := (pc, i, n, 0, 0, p, 0, c, [])
abbrev am_es (pc : Nat) (i : Instr) (n d : Nat) (t : List (Int32 × Nat)) : am_E := (pc, i, n, d, 0, 0, 0, 0, t)
abbrev m_Bids_init : Nat := 0
abbrev m_Bids_copy : Nat := 1
abbrev m_Bids_add : Nat := 2
abbrev m_Bids_freeGroup : Nat := 3
abbrev m_History_init : Nat := 4
abbrev m_History_keep : Nat := 5
abbrev m_History_restore : Nat := 6
abbrev m_History_dropOldest : Nat := 7
abbrev m_Letter_init : Nat := 8
abbrev m_Letter_append : Nat := 9
abbrev m_Letter_isInOneWish : Nat := 10
abbrev m_Letter_read : Nat := 11
abbrev m_Letter_startNumber : Nat := 12
abbrev m_Letter_readDigit : Nat := 13
abbrev m_Letter_readMark : Nat := 14
abbrev m_Letter_readEnd : Nat := 15
abbrev m_Letter_isTooGreat : Nat := 16
abbrev m_Letter_takeNumber : Nat := 17
abbrev m_Lots_init : Nat := 18
abbrev m_Lots_copy : Nat := 19
abbrev m_Lots_add : Nat := 20
abbrev m_Money_init : Nat := 21
abbrev m_Money_paidBy : Nat := 22
abbrev m_Money_total : Nat := 23
abbrev m_Money_payments : Nat := 24
abbrev m_Money_receipts : Nat := 25
abbrev m_Money_part : Nat := 26
abbrev m_Money_owesFee : Nat := 27
abbrev m_Row_init : Nat := 28
abbrev m_Row_get : Nat := 29
abbrev m_Row_put : Nat := 30
abbrev m_Row_copy : Nat := 31
abbrev m_Row_sum : Nat := 32
abbrev m_Row_countOf : Nat := 33
abbrev m_Sale_init : Nat := 34
abbrev m_Sale_hold : Nat := 35
abbrev m_Sale_bidAt : Nat := 36
abbrev m_Sale_leftBefore : Nat := 37
abbrev m_Sale_soldLots : Nat := 38
abbrev m_Sale_judgeBids : Nat := 39
abbrev m_Sale_judge : Nat := 40
abbrev m_Sale_reasonAgainst : Nat := 41
abbrev m_Sale_hasAlternativeBought : Nat := 42
abbrev m_Sale_chooseBetween : Nat := 43
abbrev m_Sale_orderBids : Nat := 44
abbrev m_Sale_insert : Nat := 45
abbrev m_Sale_goesBefore : Nat := 46
abbrev m_Sale_sell : Nat := 47
abbrev m_Sale_stateOf : Nat := 48
abbrev m_Sale_priceOf : Nat := 49
abbrev m_Sale_leastAmount : Nat := 50
abbrev m_Sale_leastWorth : Nat := 51
abbrev m_State_init : Nat := 52
abbrev m_State_copy : Nat := 53
abbrev m_State_askingPrice : Nat := 54
abbrev m_State_isLate : Nat := 55
abbrev m_State_lateBids : Nat := 56
abbrev m_Steps_init : Nat := 57
abbrev m_Steps_copy : Nat := 58
abbrev m_Steps_hasBand : Nat := 59
abbrev m_Steps_hasRoomFor : Nat := 60
abbrev m_Steps_putBand : Nat := 61
abbrev m_Steps_dropBand : Nat := 62
abbrev m_Steps_placeOf : Nat := 63
abbrev m_Steps_bandOf : Nat := 64
abbrev m_Steps_floor : Nat := 65
abbrev m_Steps_ceiling : Nat := 66
abbrev m_Steps_next : Nat := 67
abbrev m_Pa_init : Nat := 68
abbrev m_Pa_setBand : Nat := 69
abbrev m_Pa_removeBand : Nat := 70
abbrev m_Pa_valid : Nat := 71
abbrev m_Pa_addLot : Nat := 72
abbrev m_Pa_setReserve : Nat := 73
abbrev m_Pa_withdrawLot : Nat := 74
abbrev m_Pa_addBidder : Nat := 75
abbrev m_Pa_setLimit : Nat := 76
abbrev m_Pa_set : Nat := 77
abbrev m_Pa_bid : Nat := 78
abbrev m_Pa_withdrawBid : Nat := 79
abbrev m_Pa_type : Nat := 80
abbrev m_Pa_clearText : Nat := 81
abbrev m_Pa_letter : Nat := 82
abbrev m_Pa_undo : Nat := 83
abbrev m_Pa_sale : Nat := 84
abbrev m_Pa_ranked : Nat := 85
abbrev m_Pa_fate : Nat := 86
abbrev m_Pa_needed : Nat := 87
abbrev m_Pa_lot : Nat := 88
abbrev m_Pa_bidOf : Nat := 89
abbrev m_Pa_bidder : Nat := 90
abbrev m_Pa_seller : Nat := 91
abbrev m_Pa_account : Nat := 92
abbrev m_Pa_count : Nat := 93
abbrev m_Pa_isOutside : Nat := 94
abbrev m_Pa_mostOfSetting : Nat := 95
abbrev m_Pa_isLot : Nat := 96
abbrev m_Pa_isBidder : Nat := 97
abbrev m_Pa_isBid : Nat := 98
abbrev m_Pa_beginAct : Nat := 99
abbrev m_L_cell : Nat := 100
abbrev m_L_low : Nat := 101
abbrev m_L_lost : Nat := 102
abbrev m_L_steps : Nat := 103
abbrev m_L_ask : Nat := 104
abbrev m_L_lot : Nat := 105
abbrev m_L_money : Nat := 106
abbrev m_L_needs : Nat := 107
abbrev m_L_letters : Nat := 108
abbrev m_L_put : Nat := 109
abbrev m_L_errors : Nat := 110
abbrev m_law : Nat := 111
set_option maxRecDepth 100000 in
def km_Bids_init : List am_E := [am_e0 0 (.aload_n 0) 1, am_e3 1 (.invokespecial 3) 3 1003 1 134, am_e0 4 (.aload_n 0) 1, am_e3 5 (.new 9) 3 5 0 135, am_e0 8 (.dup) 1, am_ec 9 (.bipush 60) 2 0 60, am_e3 11 (.invokespecial 11) 3 28 2 136, am_e3 14 (.putfield 14) 3 0 0 137, am_e0 17 (.aload_n 0) 1, am_e3 18 (.new 9) 3 5 0 135, am_e0 21 (.dup) 1, am_ec 22 (.bipush 60) 2 0 60, am_e3 24 (.invokespecial 11) 3 28 2 136, am_e3 27 (.putfield 20) 3 0 1 140, am_e0 30 (.aload_n 0) 1, am_e3 31 (.new 9) 3 5 0 135, am_e0 34 (.dup) 1, am_ec 35 (.bipush 60) 2 0 60, am_e3 37 (.invokespecial 11) 3 28 2 136, am_e3 40 (.putfield 23) 3 0 2 143, am_e0 43 (.aload_n 0) 1, am_e3 44 (.new 9) 3 5 0 135, am_e0 47 (.dup) 1, am_ec 48 (.bipush 60) 2 0 60, am_e3 50 (.invokespecial 11) 3 28 2 136, am_e3 53 (.putfield 26) 3 0 3 146, am_e0 56 (.aload_n 0) 1, am_e3 57 (.new 9) 3 5 0 135, am_e0 60 (.dup) 1, am_ec 61 (.bipush 60) 2 0 60, am_e3 63 (.invokespecial 11) 3 28 2 136, am_e3 66 (.putfield 29) 3 0 4 150, am_e0 69 (.aload_n 0) 1, am_e3 70 (.new 9) 3 5 0 135, am_e0 73 (.dup) 1, am_ec 74 (.bipush 60) 2 0 60, am_e3 76 (.invokespecial 11) 3 28 2 136, am_e3 79 (.putfield 32) 3 0 5 153, am_e0 82 (.return_) 1]
set_option maxRecDepth 100000 in
def km_Bids_copy : List am_E := [am_e0 0 (.aload_n 0) 1, am_e3 1 (.getfield 14) 3 0 0 137, am_e3 4 (.aload_n 1) 1 1 0 0, am_e3 5 (.getfield 14) 3 0 0 137, am_e3 8 (.invokevirtual 35) 3 31 2 412, am_e0 11 (.aload_n 0) 1, am_e3 12 (.getfield 20) 3 0 1 140, am_e3 15 (.aload_n 1) 1 1 0 0, am_e3 16 (.getfield 20) 3 0 1 140, am_e3 19 (.invokevirtual 35) 3 31 2 412, am_e0 22 (.aload_n 0) 1, am_e3 23 (.getfield 23) 3 0 2 143, am_e3 26 (.aload_n 1) 1 1 0 0, am_e3 27 (.getfield 23) 3 0 2 143, am_e3 30 (.invokevirtual 35) 3 31 2 412, am_e0 33 (.aload_n 0) 1, am_e3 34 (.getfield 26) 3 0 3 146, am_e3 37 (.aload_n 1) 1 1 0 0, am_e3 38 (.getfield 26) 3 0 3 146, am_e3 41 (.invokevirtual 35) 3 31 2 412, am_e0 44 (.aload_n 0) 1, am_e3 45 (.getfield 29) 3 0 4 150, am_e3 48 (.aload_n 1) 1 1 0 0, am_e3 49 (.getfield 29) 3 0 4 150, am_e3 52 (.invokevirtual 35) 3 31 2 412, am_e0 55 (.aload_n 0) 1, am_e3 56 (.getfield 32) 3 0 5 153, am_e3 59 (.aload_n 1) 1 1 0 0, am_e3 60 (.getfield 32) 3 0 5 153, am_e3 63 (.invokevirtual 35) 3 31 2 412, am_e0 66 (.aload_n 0) 1, am_e3 67 (.aload_n 1) 1 1 0 0, am_e3 68 (.getfield 39) 3 0 6 156, am_e3 71 (.putfield 39) 3 0 6 156, am_e0 74 (.return_) 1]
set_option maxRecDepth 100000 in
def km_Bids_add : List am_E := [am_e0 0 (.aload_n 0) 1, am_e3 1 (.getfield 14) 3 0 0 137, am_e0 4 (.aload_n 0) 1, am_e3 5 (.getfield 39) 3 0 6 156, am_e3 8 (.iload_n 1) 1 1 0 0, am_e3 9 (.invokevirtual 43) 3 30 3 485, am_e0 12 (.aload_n 0) 1, am_e3 13 (.getfield 20) 3 0 1 140, am_e0 16 (.aload_n 0) 1, am_e3 17 (.getfield 39) 3 0 6 156, am_e3 20 (.iload_n 2) 1 2 0 0, am_e3 21 (.invokevirtual 43) 3 30 3 485, am_e0 24 (.aload_n 0) 1, am_e3 25 (.getfield 23) 3 0 2 143, am_e0 28 (.aload_n 0) 1, am_e3 29 (.getfield 39) 3 0 6 156, am_e3 32 (.iload_n 3) 1 3 0 0, am_e3 33 (.invokevirtual 43) 3 30 3 485, am_e0 36 (.aload_n 0) 1, am_e3 37 (.getfield 26) 3 0 3 146, am_e0 40 (.aload_n 0) 1, am_e3 41 (.getfield 39) 3 0 6 156, am_e3 44 (.iload 4) 2 4 0 0, am_e3 46 (.invokevirtual 43) 3 30 3 485, am_e0 49 (.aload_n 0) 1, am_e3 50 (.getfield 29) 3 0 4 150, am_e0 53 (.aload_n 0) 1, am_e3 54 (.getfield 39) 3 0 6 156, am_e3 57 (.iload 5) 2 5 0 0, am_e3 59 (.invokevirtual 43) 3 30 3 485, am_e0 62 (.aload_n 0) 1, am_e3 63 (.getfield 32) 3 0 5 153, am_e0 66 (.aload_n 0) 1, am_e3 67 (.getfield 39) 3 0 6 156, am_ec 70 (.iconst 0) 1 0 0, am_e3 71 (.invokevirtual 43) 3 30 3 485, am_e0 74 (.aload_n 0) 1, am_e0 75 (.dup) 1, am_e3 76 (.getfield 39) 3 0 6 156, am_ec 79 (.iconst 1) 1 0 1, am_e0 80 (.iadd) 1, am_e3 81 (.putfield 39) 3 0 6 156, am_e0 84 (.aload_n 0) 1, am_e3 85 (.getfield 39) 3 0 6 156, am_ec 88 (.iconst 1) 1 0 1, am_e0 89 (.isub) 1, am_e0 90 (.ireturn) 1]
set_option maxRecDepth 100000 in
def km_Bids_freeGroup : List am_E := [am_ec 0 (.iconst 0) 1 0 0, am_e3 1 (.istore_n 2) 1 2 0 0, am_ec 2 (.iconst 0) 1 0 0, am_e3 3 (.istore_n 3) 1 3 0 0, am_e3 4 (.iload_n 3) 1 3 0 0, am_e0 5 (.aload_n 0) 1, am_e3 6 (.getfield 39) 3 0 6 156, am_e3 9 (.if_icmp .ge 34) 3 43 0 0, am_e0 12 (.aload_n 0) 1, am_e3 13 (.getfield 14) 3 0 0 137, am_e3 16 (.iload_n 3) 1 3 0 0, am_e3 17 (.invokevirtual 47) 3 29 2 772, am_e3 20 (.iload_n 1) 1 1 0 0, am_e3 21 (.if_icmp .ne 16) 3 37 0 0, am_e3 24 (.iload_n 2) 1 2 0 0, am_e0 25 (.aload_n 0) 1, am_e3 26 (.getfield 29) 3 0 4 150, am_e3 29 (.iload_n 3) 1 3 0 0, am_e3 30 (.invokevirtual 47) 3 29 2 772, am_e3 33 (.invokestatic 51) 3 1000 2 773, am_e3 36 (.istore_n 2) 1 2 0 0, am_ei 37 (.iinc 3 1) 3 3 1, am_e3 40 (.goto (-36)) 3 4 0 0, am_e3 43 (.iload_n 2) 1 2 0 0, am_ec 44 (.iconst 1) 1 0 1, am_e0 45 (.iadd) 1, am_e0 46 (.ireturn) 1]
set_option maxRecDepth 100000 in
def km_History_init : List am_E := [am_e0 0 (.aload_n 0) 1, am_e3 1 (.invokespecial 3) 3 1003 1 214, am_e0 4 (.aload_n 0) 1, am_ec 5 (.iconst 4) 1 0 4, am_e3 6 (.anewarray 9) 3 7 0 215, am_e3 9 (.putfield 11) 3 1 0 218, am_ec 12 (.iconst 0) 1 0 0, am_e3 13 (.istore_n 1) 1 1 0 0, am_e3 14 (.iload_n 1) 1 1 0 0, am_e0 15 (.aload_n 0) 1, am_e3 16 (.getfield 11) 3 1 0 218, am_e0 19 (.arraylength) 1, am_e3 20 (.if_icmp .ge 22) 3 42 0 0, am_e0 23 (.aload_n 0) 1, am_e3 24 (.getfield 11) 3 1 0 218, am_e3 27 (.iload_n 1) 1 1 0 0, am_e3 28 (.new 9) 3 7 0 215, am_e0 31 (.dup) 1, am_e3 32 (.invokespecial 17) 3 52 1 217, am_e0 35 (.aastore) 1, am_ei 36 (.iinc 1 1) 3 1 1, am_e3 39 (.goto (-25)) 3 14 0 0, am_e0 42 (.return_) 1]
set_option maxRecDepth 100000 in
def km_History_keep : List am_E := [am_e0 0 (.aload_n 0) 1, am_e3 1 (.getfield 18) 3 1 1 219, am_e0 4 (.aload_n 0) 1, am_e3 5 (.getfield 11) 3 1 0 218, am_e0 8 (.arraylength) 1, am_e3 9 (.if_icmp .lt 7) 3 16 0 0, am_e0 12 (.aload_n 0) 1, am_e3 13 (.invokevirtual 22) 3 7 1 380, am_e0 16 (.aload_n 0) 1, am_e3 17 (.getfield 18) 3 1 1 219, am_e3 20 (.ifCond .lt 27) 3 47 0 0, am_e0 23 (.aload_n 0) 1, am_e3 24 (.getfield 18) 3 1 1 219, am_e0 27 (.aload_n 0) 1, am_e3 28 (.getfield 11) 3 1 0 218, am_e0 31 (.arraylength) 1, am_e3 32 (.if_icmp .ge 15) 3 47 0 0, am_e0 35 (.aload_n 0) 1, am_e3 36 (.getfield 11) 3 1 0 218, am_e0 39 (.aload_n 0) 1, am_e3 40 (.getfield 18) 3 1 1 219, am_e0 43 (.aaload) 1, am_e3 44 (.goto 4) 3 48 0 0, am_e0 47 (.aconst_null) 1, am_e3 48 (.astore_n 2) 1 2 0 0, am_e3 49 (.aload_n 2) 1 2 0 0, am_e3 50 (.ifnull 18) 3 68 0 0, am_e3 53 (.aload_n 2) 1 2 0 0, am_e3 54 (.aload_n 1) 1 1 0 0, am_e3 55 (.invokevirtual 25) 3 53 2 384, am_e0 58 (.aload_n 0) 1, am_e0 59 (.dup) 1, am_e3 60 (.getfield 18) 3 1 1 219, am_ec 63 (.iconst 1) 1 0 1, am_e0 64 (.iadd) 1, am_e3 65 (.putfield 18) 3 1 1 219, am_e0 68 (.return_) 1]
set_option maxRecDepth 100000 in
def km_History_restore : List am_E := [am_e0 0 (.aload_n 0) 1, am_e3 1 (.getfield 18) 3 1 1 219, am_e3 4 (.ifCond .le 29) 3 33 0 0, am_e0 7 (.aload_n 0) 1, am_e3 8 (.getfield 18) 3 1 1 219, am_e0 11 (.aload_n 0) 1, am_e3 12 (.getfield 11) 3 1 0 218, am_e0 15 (.arraylength) 1, am_e3 16 (.if_icmp .gt 17) 3 33 0 0, am_e0 19 (.aload_n 0) 1, am_e3 20 (.getfield 11) 3 1 0 218, am_e0 23 (.aload_n 0) 1, am_e3 24 (.getfield 18) 3 1 1 219, am_ec 27 (.iconst 1) 1 0 1, am_e0 28 (.isub) 1, am_e0 29 (.aaload) 1, am_e3 30 (.goto 4) 3 34 0 0, am_e0 33 (.aconst_null) 1, am_e3 34 (.astore_n 2) 1 2 0 0, am_e3 35 (.aload_n 2) 1 2 0 0, am_e3 36 (.ifnull 18) 3 54 0 0, am_e3 39 (.aload_n 1) 1 1 0 0, am_e3 40 (.aload_n 2) 1 2 0 0, am_e3 41 (.invokevirtual 25) 3 53 2 384, am_e0 44 (.aload_n 0) 1, am_e0 45 (.dup) 1, am_e3 46 (.getfield 18) 3 1 1 219, am_ec 49 (.iconst 1) 1 0 1, am_e0 50 (.isub) 1, am_e3 51 (.putfield 18) 3 1 1 219, am_e0 54 (.return_) 1]
set_option maxRecDepth 100000 in
def km_History_dropOldest : List am_E := [am_e0 0 (.aload_n 0) 1, am_e3 1 (.getfield 11) 3 1 0 218, am_e0 4 (.arraylength) 1, am_e3 5 (.ifCond .ne 4) 3 9 0 0, am_e0 8 (.return_) 1, am_e0 9 (.aload_n 0) 1, am_e3 10 (.getfield 11) 3 1 0 218, am_ec 13 (.iconst 0) 1 0 0, am_e0 14 (.aaload) 1, am_e3 15 (.astore_n 1) 1 1 0 0, am_ec 16 (.iconst 1) 1 0 1, am_e3 17 (.istore_n 2) 1 2 0 0, am_e3 18 (.iload_n 2) 1 2 0 0, am_e0 19 (.aload_n 0) 1, am_e3 20 (.getfield 11) 3 1 0 218, am_e0 23 (.arraylength) 1, am_e3 24 (.if_icmp .ge 23) 3 47 0 0, am_e0 27 (.aload_n 0) 1, am_e3 28 (.getfield 11) 3 1 0 218, am_e3 31 (.iload_n 2) 1 2 0 0, am_ec 32 (.iconst 1) 1 0 1, am_e0 33 (.isub) 1, am_e0 34 (.aload_n 0) 1, am_e3 35 (.getfield 11) 3 1 0 218, am_e3 38 (.iload_n 2) 1 2 0 0, am_e0 39 (.aaload) 1, am_e0 40 (.aastore) 1, am_ei 41 (.iinc 2 1) 3 2 1, am_e3 44 (.goto (-26)) 3 18 0 0, am_e0 47 (.aload_n 0) 1, am_e3 48 (.getfield 11) 3 1 0 218, am_e0 51 (.aload_n 0) 1, am_e3 52 (.getfield 11) 3 1 0 218, am_e0 55 (.arraylength) 1, am_ec 56 (.iconst 1) 1 0 1, am_e0 57 (.isub) 1, am_e3 58 (.aload_n 1) 1 1 0 0, am_e0 59 (.aastore) 1, am_e0 60 (.aload_n 0) 1, am_e0 61 (.aload_n 0) 1, am_e3 62 (.getfield 11) 3 1 0 218, am_e0 65 (.arraylength) 1, am_ec 66 (.iconst 1) 1 0 1, am_e0 67 (.isub) 1, am_e3 68 (.putfield 18) 3 1 1 219, am_e0 71 (.return_) 1]
set_option maxRecDepth 100000 in
def km_Letter_init : List am_E := [am_e0 0 (.aload_n 0) 1, am_e3 1 (.invokespecial 3) 3 1003 1 296, am_e0 4 (.aload_n 0) 1, am_ec 5 (.bipush 80) 2 0 80, am_e3 7 (.newarray .char) 2 1 0 0, am_e3 9 (.putfield 9) 3 2 0 299, am_e0 12 (.aload_n 0) 1, am_e3 13 (.new 15) 3 5 0 297, am_e0 16 (.dup) 1, am_ec 17 (.bipush 20) 2 0 20, am_e3 19 (.invokespecial 17) 3 28 2 298, am_e3 22 (.putfield 20) 3 2 2 302, am_e0 25 (.aload_n 0) 1, am_e3 26 (.new 15) 3 5 0 297, am_e0 29 (.dup) 1, am_ec 30 (.bipush 20) 2 0 20, am_e3 32 (.invokespecial 17) 3 28 2 298, am_e3 35 (.putfield 24) 3 2 3 304, am_e0 38 (.aload_n 0) 1, am_e3 39 (.new 15) 3 5 0 297, am_e0 42 (.dup) 1, am_ec 43 (.bipush 20) 2 0 20, am_e3 45 (.invokespecial 17) 3 28 2 298, am_e3 48 (.putfield 27) 3 2 4 306, am_e0 51 (.return_) 1]
set_option maxRecDepth 100000 in
def km_Letter_append : List am_E := [am_e0 0 (.aload_n 0) 1, am_e3 1 (.getfield 30) 3 2 1 300, am_e3 4 (.ifCond .lt 15) 3 19 0 0, am_e0 7 (.aload_n 0) 1, am_e3 8 (.getfield 30) 3 2 1 300, am_e0 11 (.aload_n 0) 1, am_e3 12 (.getfield 9) 3 2 0 299, am_e0 15 (.arraylength) 1, am_e3 16 (.if_icmp .lt 5) 3 21 0 0, am_ec 19 (.iconst 0) 1 0 0, am_e0 20 (.ireturn) 1, am_e0 21 (.aload_n 0) 1, am_e3 22 (.getfield 9) 3 2 0 299, am_e0 25 (.aload_n 0) 1, am_e3 26 (.getfield 30) 3 2 1 300, am_e3 29 (.iload_n 1) 1 1 0 0, am_e0 30 (.castore) 1, am_e0 31 (.aload_n 0) 1, am_e0 32 (.dup) 1, am_e3 33 (.getfield 30) 3 2 1 300, am_ec 36 (.iconst 1) 1 0 1, am_e0 37 (.iadd) 1, am_e3 38 (.putfield 30) 3 2 1 300, am_ec 41 (.iconst 1) 1 0 1, am_e0 42 (.ireturn) 1]
set_option maxRecDepth 100000 in
def km_Letter_isInOneWish : List am_E := [am_e3 0 (.iload_n 1) 1 1 0 0, am_e3 1 (.ifCond .lt 34) 3 35 0 0, am_e3 4 (.iload_n 2) 1 2 0 0, am_e0 5 (.aload_n 0) 1, am_e3 6 (.getfield 34) 3 2 5 307, am_e3 9 (.if_icmp .ge 26) 3 35 0 0, am_e0 12 (.aload_n 0) 1, am_e3 13 (.getfield 27) 3 2 4 306, am_e3 16 (.iload_n 1) 1 1 0 0, am_e3 17 (.invokevirtual 37) 3 29 2 767, am_e0 20 (.aload_n 0) 1, am_e3 21 (.getfield 27) 3 2 4 306, am_e3 24 (.iload_n 2) 1 2 0 0, am_e3 25 (.invokevirtual 37) 3 29 2 767, am_e3 28 (.if_icmp .ne 7) 3 35 0 0, am_ec 31 (.iconst 1) 1 0 1, am_e3 32 (.goto 4) 3 36 0 0, am_ec 35 (.iconst 0) 1 0 0, am_e0 36 (.ireturn) 1]
set_option maxRecDepth 100000 in
def km_Letter_read : List am_E := [am_e0 0 (.aload_n 0) 1, am_ec 1 (.iconst 0) 1 0 0, am_e3 2 (.putfield 34) 3 2 5 307, am_e0 5 (.aload_n 0) 1, am_ec 6 (.iconst 0) 1 0 0, am_e3 7 (.putfield 41) 3 2 6 309, am_e0 10 (.aload_n 0) 1, am_ec 11 (.iconst 0) 1 0 0, am_e3 12 (.putfield 44) 3 2 7 310, am_e0 15 (.aload_n 0) 1, am_e3 16 (.invokevirtual 48) 3 12 1 737, am_ec 19 (.iconst 0) 1 0 0, am_e3 20 (.istore_n 2) 1 2 0 0, am_e3 21 (.iload_n 2) 1 2 0 0, am_e0 22 (.aload_n 0) 1, am_e3 23 (.getfield 30) 3 2 1 300, am_e3 26 (.if_icmp .ge 79) 3 105 0 0, am_e3 29 (.iload_n 2) 1 2 0 0, am_e0 30 (.aload_n 0) 1, am_e3 31 (.getfield 9) 3 2 0 299, am_e0 34 (.arraylength) 1, am_e3 35 (.if_icmp .ge 70) 3 105 0 0, am_e0 38 (.aload_n 0) 1, am_e3 39 (.getfield 9) 3 2 0 299, am_e3 42 (.iload_n 2) 1 2 0 0, am_e0 43 (.caload) 1, am_e3 44 (.istore_n 3) 1 3 0 0, am_e3 45 (.iload_n 3) 1 3 0 0, am_ec 46 (.bipush 48) 2 0 48, am_e3 48 (.if_icmp .lt 13) 3 61 0 0, am_e3 51 (.iload_n 3) 1 3 0 0, am_ec 52 (.bipush 57) 2 0 57, am_e3 54 (.if_icmp .gt 7) 3 61 0 0, am_ec 57 (.iconst 1) 1 0 1, am_e3 58 (.goto 4) 3 62 0 0, am_ec 61 (.iconst 0) 1 0 0, am_e3 62 (.istore 4) 2 4 0 0, am_e3 64 (.iload 4) 2 4 0 0, am_e3 66 (.ifCond .eq 15) 3 81 0 0, am_e0 69 (.aload_n 0) 1, am_e3 70 (.iload_n 3) 1 3 0 0, am_ec 71 (.bipush 48) 2 0 48, am_e0 73 (.isub) 1, am_e3 74 (.iload_n 2) 1 2 0 0, am_e3 75 (.invokevirtual 51) 3 13 3 741, am_e3 78 (.goto 10) 3 88 0 0, am_e0 81 (.aload_n 0) 1, am_e3 82 (.iload_n 3) 1 3 0 0, am_e3 83 (.iload_n 2) 1 2 0 0, am_e3 84 (.iload_n 1) 1 1 0 0, am_e3 85 (.invokevirtual 55) 3 14 4 745, am_e3 88 (.istore 5) 2 5 0 0, am_e3 90 (.iload 5) 2 5 0 0, am_ec 92 (.iconst (-1)) 1 0 (-1), am_e3 93 (.if_icmp .eq 6) 3 99 0 0, am_e3 96 (.iload 5) 2 5 0 0, am_e0 98 (.ireturn) 1, am_ei 99 (.iinc 2 1) 3 2 1, am_e3 102 (.goto (-81)) 3 21 0 0, am_e0 105 (.aload_n 0) 1, am_e3 106 (.iload_n 1) 1 1 0 0, am_e3 107 (.invokevirtual 59) 3 15 2 759, am_e0 110 (.ireturn) 1]
set_option maxRecDepth 100000 in
def km_Letter_startNumber : List am_E := [am_e0 0 (.aload_n 0) 1, am_ec 1 (.iconst 0) 1 0 0, am_e3 2 (.putfield 62) 3 2 8 311, am_e0 5 (.aload_n 0) 1, am_ec 6 (.iconst 0) 1 0 0, am_e3 7 (.putfield 65) 3 2 9 312, am_e0 10 (.return_) 1]
set_option maxRecDepth 100000 in
def km_Letter_readDigit : List am_E := [am_e0 0 (.aload_n 0) 1, am_e3 1 (.getfield 44) 3 2 7 310, am_e3 4 (.ifCond .eq 22) 3 26 0 0, am_e0 7 (.aload_n 0) 1, am_e3 8 (.getfield 65) 3 2 9 312, am_e3 11 (.ifCond .ne 11) 3 22 0 0, am_e3 14 (.iload_n 1) 1 1 0 0, am_e3 15 (.ifCond .ne 7) 3 22 0 0, am_ec 18 (.iconst 1) 1 0 1, am_e3 19 (.goto 27) 3 46 0 0, am_ec 22 (.iconst 0) 1 0 0, am_e3 23 (.goto 23) 3 46 0 0, am_e0 26 (.aload_n 0) 1, am_e3 27 (.getfield 65) 3 2 9 312, am_ec 30 (.iconst 1) 1 0 1, am_e3 31 (.if_icmp .ne 14) 3 45 0 0, am_e0 34 (.aload_n 0) 1, am_e3 35 (.getfield 62) 3 2 8 311, am_e3 38 (.ifCond .ne 7) 3 45 0 0, am_ec 41 (.iconst 1) 1 0 1, am_e3 42 (.goto 4) 3 46 0 0, am_ec 45 (.iconst 0) 1 0 0, am_e3 46 (.istore_n 3) 1 3 0 0, am_e3 47 (.iload_n 3) 1 3 0 0, am_e3 48 (.ifCond .ne 23) 3 71 0 0, am_e0 51 (.aload_n 0) 1, am_e3 52 (.getfield 65) 3 2 9 312, am_e0 55 (.aload_n 0) 1, am_e3 56 (.getfield 44) 3 2 7 310, am_e3 59 (.ifCond .eq 8) 3 67 0 0, am_ec 62 (.bipush 7) 2 0 7, am_e3 64 (.goto 4) 3 68 0 0, am_ec 67 (.iconst 2) 1 0 2, am_e3 68 (.if_icmp .lt 5) 3 73 0 0, am_e3 71 (.iload_n 2) 1 2 0 0, am_e0 72 (.ireturn) 1, am_e0 73 (.aload_n 0) 1, am_e0 74 (.aload_n 0) 1, am_e3 75 (.getfield 62) 3 2 8 311, am_ec 78 (.bipush 10) 2 0 10, am_e0 80 (.imul) 1, am_e3 81 (.iload_n 1) 1 1 0 0, am_e0 82 (.iadd) 1, am_e3 83 (.putfield 62) 3 2 8 311, am_e0 86 (.aload_n 0) 1, am_e0 87 (.dup) 1, am_e3 88 (.getfield 65) 3 2 9 312, am_ec 91 (.iconst 1) 1 0 1, am_e0 92 (.iadd) 1, am_e3 93 (.putfield 65) 3 2 9 312, am_ec 96 (.iconst (-1)) 1 0 (-1), am_e0 97 (.ireturn) 1]
set_option maxRecDepth 100000 in
def km_Letter_readMark : List am_E := [am_e0 0 (.aload_n 0) 1, am_e3 1 (.getfield 65) 3 2 9 312, am_e3 4 (.ifCond .ne 5) 3 9 0 0, am_e3 7 (.iload_n 2) 1 2 0 0, am_e0 8 (.ireturn) 1, am_e0 9 (.aload_n 0) 1, am_e3 10 (.iload_n 3) 1 3 0 0, am_e3 11 (.invokevirtual 68) 3 16 2 749, am_e3 14 (.ifCond .eq 10) 3 24 0 0, am_e3 17 (.iload_n 2) 1 2 0 0, am_e0 18 (.aload_n 0) 1, am_e3 19 (.getfield 65) 3 2 9 312, am_e0 22 (.isub) 1, am_e0 23 (.ireturn) 1, am_e0 24 (.aload_n 0) 1, am_e3 25 (.getfield 44) 3 2 7 310, am_e3 28 (.ifCond .eq 23) 3 51 0 0, am_e3 31 (.iload_n 1) 1 1 0 0, am_ec 32 (.bipush 44) 2 0 44, am_e3 34 (.if_icmp .eq 9) 3 43 0 0, am_e3 37 (.iload_n 1) 1 1 0 0, am_ec 38 (.bipush 47) 2 0 47, am_e3 40 (.if_icmp .ne 7) 3 47 0 0, am_ec 43 (.iconst 1) 1 0 1, am_e3 44 (.goto 18) 3 62 0 0, am_ec 47 (.iconst 0) 1 0 0, am_e3 48 (.goto 14) 3 62 0 0, am_e3 51 (.iload_n 1) 1 1 0 0, am_ec 52 (.bipush 61) 2 0 61, am_e3 54 (.if_icmp .ne 7) 3 61 0 0, am_ec 57 (.iconst 1) 1 0 1, am_e3 58 (.goto 4) 3 62 0 0, am_ec 61 (.iconst 0) 1 0 0, am_e3 62 (.istore 4) 2 4 0 0, am_e3 64 (.iload 4) 2 4 0 0, am_e3 66 (.ifCond .ne 5) 3 71 0 0, am_e3 69 (.iload_n 2) 1 2 0 0, am_e0 70 (.ireturn) 1, am_e0 71 (.aload_n 0) 1, am_e3 72 (.invokevirtual 72) 3 17 1 754, am_e3 75 (.iload_n 1) 1 1 0 0, am_ec 76 (.bipush 44) 2 0 44, am_e3 78 (.if_icmp .ne 13) 3 91 0 0, am_e0 81 (.aload_n 0) 1, am_e0 82 (.dup) 1, am_e3 83 (.getfield 41) 3 2 6 309, am_ec 86 (.iconst 1) 1 0 1, am_e0 87 (.iadd) 1, am_e3 88 (.putfield 41) 3 2 6 309, am_ec 91 (.iconst (-1)) 1 0 (-1), am_e0 92 (.ireturn) 1]
set_option maxRecDepth 100000 in
def km_Letter_readEnd : List am_E := [am_e0 0 (.aload_n 0) 1, am_e3 1 (.getfield 65) 3 2 9 312, am_e3 4 (.ifCond .le 21) 3 25 0 0, am_e0 7 (.aload_n 0) 1, am_e3 8 (.iload_n 1) 1 1 0 0, am_e3 9 (.invokevirtual 68) 3 16 2 749, am_e3 12 (.ifCond .eq 13) 3 25 0 0, am_e0 15 (.aload_n 0) 1, am_e3 16 (.getfield 30) 3 2 1 300, am_e0 19 (.aload_n 0) 1, am_e3 20 (.getfield 65) 3 2 9 312, am_e0 23 (.isub) 1, am_e0 24 (.ireturn) 1, am_e0 25 (.aload_n 0) 1, am_e3 26 (.getfield 44) 3 2 7 310, am_e3 29 (.ifCond .eq 10) 3 39 0 0, am_e0 32 (.aload_n 0) 1, am_e3 33 (.getfield 65) 3 2 9 312, am_e3 36 (.ifCond .ne 8) 3 44 0 0, am_e0 39 (.aload_n 0) 1, am_e3 40 (.getfield 30) 3 2 1 300, am_e0 43 (.ireturn) 1, am_e0 44 (.aload_n 0) 1, am_e3 45 (.invokevirtual 72) 3 17 1 754, am_ec 48 (.iconst (-1)) 1 0 (-1), am_e0 49 (.ireturn) 1]
set_option maxRecDepth 100000 in
def km_Letter_isTooGreat : List am_E := [am_e0 0 (.aload_n 0) 1, am_e3 1 (.getfield 44) 3 2 7 310, am_e3 4 (.ifCond .eq 20) 3 24 0 0, am_e0 7 (.aload_n 0) 1, am_e3 8 (.getfield 62) 3 2 8 311, am_ec 11 (.ldc 75) 2 753 1000000, am_e3 13 (.if_icmp .le 7) 3 20 0 0, am_ec 16 (.iconst 1) 1 0 1, am_e3 17 (.goto 20) 3 37 0 0, am_ec 20 (.iconst 0) 1 0 0, am_e3 21 (.goto 16) 3 37 0 0, am_e0 24 (.aload_n 0) 1, am_e3 25 (.getfield 62) 3 2 8 311, am_e3 28 (.iload_n 1) 1 1 0 0, am_e3 29 (.if_icmp .lt 7) 3 36 0 0, am_ec 32 (.iconst 1) 1 0 1, am_e3 33 (.goto 4) 3 37 0 0, am_ec 36 (.iconst 0) 1 0 0, am_e0 37 (.ireturn) 1]
set_option maxRecDepth 100000 in
def km_Letter_takeNumber : List am_E := [am_e0 0 (.aload_n 0) 1, am_e3 1 (.getfield 44) 3 2 7 310, am_e3 4 (.ifCond .eq 46) 3 50 0 0, am_e0 7 (.aload_n 0) 1, am_e3 8 (.getfield 24) 3 2 3 304, am_e0 11 (.aload_n 0) 1, am_e3 12 (.getfield 34) 3 2 5 307, am_e0 15 (.aload_n 0) 1, am_e3 16 (.getfield 62) 3 2 8 311, am_e3 19 (.invokevirtual 76) 3 30 3 758, am_e0 22 (.aload_n 0) 1, am_e3 23 (.getfield 27) 3 2 4 306, am_e0 26 (.aload_n 0) 1, am_e3 27 (.getfield 34) 3 2 5 307, am_e0 30 (.aload_n 0) 1, am_e3 31 (.getfield 41) 3 2 6 309, am_e3 34 (.invokevirtual 76) 3 30 3 758, am_e0 37 (.aload_n 0) 1, am_e0 38 (.dup) 1, am_e3 39 (.getfield 34) 3 2 5 307, am_ec 42 (.iconst 1) 1 0 1, am_e0 43 (.iadd) 1, am_e3 44 (.putfield 34) 3 2 5 307, am_e3 47 (.goto 18) 3 65 0 0, am_e0 50 (.aload_n 0) 1, am_e3 51 (.getfield 20) 3 2 2 302, am_e0 54 (.aload_n 0) 1, am_e3 55 (.getfield 34) 3 2 5 307, am_e0 58 (.aload_n 0) 1, am_e3 59 (.getfield 62) 3 2 8 311, am_e3 62 (.invokevirtual 76) 3 30 3 758, am_e0 65 (.aload_n 0) 1, am_e0 66 (.aload_n 0) 1, am_e3 67 (.getfield 44) 3 2 7 310, am_e3 70 (.ifCond .ne 7) 3 77 0 0, am_ec 73 (.iconst 1) 1 0 1, am_e3 74 (.goto 4) 3 78 0 0, am_ec 77 (.iconst 0) 1 0 0, am_e3 78 (.putfield 44) 3 2 7 310, am_e0 81 (.aload_n 0) 1, am_e3 82 (.invokevirtual 48) 3 12 1 737, am_e0 85 (.return_) 1]
set_option maxRecDepth 100000 in
def km_Lots_init : List am_E := [am_e0 0 (.aload_n 0) 1, am_e3 1 (.invokespecial 3) 3 1003 1 94, am_e0 4 (.aload_n 0) 1, am_e3 5 (.new 9) 3 5 0 95, am_e0 8 (.dup) 1, am_ec 9 (.bipush 20) 2 0 20, am_e3 11 (.invokespecial 11) 3 28 2 96, am_e3 14 (.putfield 14) 3 3 0 97, am_e0 17 (.aload_n 0) 1, am_e3 18 (.new 9) 3 5 0 95, am_e0 21 (.dup) 1, am_ec 22 (.bipush 20) 2 0 20, am_e3 24 (.invokespecial 11) 3 28 2 96, am_e3 27 (.putfield 20) 3 3 1 101, am_e0 30 (.aload_n 0) 1, am_e3 31 (.new 9) 3 5 0 95, am_e0 34 (.dup) 1, am_ec 35 (.bipush 20) 2 0 20, am_e3 37 (.invokespecial 11) 3 28 2 96, am_e3 40 (.putfield 23) 3 3 2 105, am_e0 43 (.aload_n 0) 1, am_e3 44 (.new 9) 3 5 0 95, am_e0 47 (.dup) 1, am_ec 48 (.bipush 20) 2 0 20, am_e3 50 (.invokespecial 11) 3 28 2 96, am_e3 53 (.putfield 26) 3 3 3 109, am_e0 56 (.return_) 1]
set_option maxRecDepth 100000 in
def km_Lots_copy : List am_E := [am_e0 0 (.aload_n 0) 1, am_e3 1 (.getfield 14) 3 3 0 97, am_e3 4 (.aload_n 1) 1 1 0 0, am_e3 5 (.getfield 14) 3 3 0 97, am_e3 8 (.invokevirtual 29) 3 31 2 406, am_e0 11 (.aload_n 0) 1, am_e3 12 (.getfield 20) 3 3 1 101, am_e3 15 (.aload_n 1) 1 1 0 0, am_e3 16 (.getfield 20) 3 3 1 101, am_e3 19 (.invokevirtual 29) 3 31 2 406, am_e0 22 (.aload_n 0) 1, am_e3 23 (.getfield 23) 3 3 2 105, am_e3 26 (.aload_n 1) 1 1 0 0, am_e3 27 (.getfield 23) 3 3 2 105, am_e3 30 (.invokevirtual 29) 3 31 2 406, am_e0 33 (.aload_n 0) 1, am_e3 34 (.getfield 26) 3 3 3 109, am_e3 37 (.aload_n 1) 1 1 0 0, am_e3 38 (.getfield 26) 3 3 3 109, am_e3 41 (.invokevirtual 29) 3 31 2 406, am_e0 44 (.aload_n 0) 1, am_e3 45 (.aload_n 1) 1 1 0 0, am_e3 46 (.getfield 33) 3 3 4 114, am_e3 49 (.putfield 33) 3 3 4 114, am_e0 52 (.return_) 1]
set_option maxRecDepth 100000 in
def km_Lots_add : List am_E := [am_e0 0 (.aload_n 0) 1, am_e3 1 (.getfield 14) 3 3 0 97, am_e0 4 (.aload_n 0) 1, am_e3 5 (.getfield 33) 3 3 4 114, am_e3 8 (.iload_n 1) 1 1 0 0, am_e3 9 (.invokevirtual 37) 3 30 3 438, am_e0 12 (.aload_n 0) 1, am_e3 13 (.getfield 20) 3 3 1 101, am_e0 16 (.aload_n 0) 1, am_e3 17 (.getfield 33) 3 3 4 114, am_e3 20 (.iload_n 2) 1 2 0 0, am_e3 21 (.invokevirtual 37) 3 30 3 438, am_e0 24 (.aload_n 0) 1, am_e3 25 (.getfield 23) 3 3 2 105, am_e0 28 (.aload_n 0) 1, am_e3 29 (.getfield 33) 3 3 4 114, am_e3 32 (.iload_n 3) 1 3 0 0, am_e3 33 (.invokevirtual 37) 3 30 3 438, am_e0 36 (.aload_n 0) 1, am_e3 37 (.getfield 26) 3 3 3 109, am_e0 40 (.aload_n 0) 1, am_e3 41 (.getfield 33) 3 3 4 114, am_ec 44 (.iconst 0) 1 0 0, am_e3 45 (.invokevirtual 37) 3 30 3 438, am_e0 48 (.aload_n 0) 1, am_e0 49 (.dup) 1, am_e3 50 (.getfield 33) 3 3 4 114, am_ec 53 (.iconst 1) 1 0 1, am_e0 54 (.iadd) 1, am_e3 55 (.putfield 33) 3 3 4 114, am_e0 58 (.aload_n 0) 1, am_e3 59 (.getfield 33) 3 3 4 114, am_ec 62 (.iconst 1) 1 0 1, am_e0 63 (.isub) 1, am_e0 64 (.ireturn) 1]
set_option maxRecDepth 100000 in
def km_Money_init : List am_E := [am_e0 0 (.aload_n 0) 1, am_e3 1 (.invokespecial 3) 3 1003 1 283, am_e0 4 (.aload_n 0) 1, am_e3 5 (.aload_n 1) 1 1 0 0, am_e3 6 (.putfield 9) 3 4 0 284, am_e0 9 (.aload_n 0) 1, am_e3 10 (.aload_n 2) 1 2 0 0, am_e3 11 (.putfield 15) 3 4 1 285, am_e0 14 (.return_) 1]
set_option maxRecDepth 100000 in
def km_Money_paidBy : List am_E := [am_ec 0 (.iconst 0) 1 0 0, am_e3 1 (.istore_n 2) 1 2 0 0, am_ec 2 (.iconst 0) 1 0 0, am_e3 3 (.istore_n 3) 1 3 0 0, am_e3 4 (.iload_n 3) 1 3 0 0, am_e0 5 (.aload_n 0) 1, am_e3 6 (.getfield 9) 3 4 0 284, am_e3 9 (.getfield 19) 3 7 1 181, am_e3 12 (.getfield 25) 3 3 4 112, am_e3 15 (.if_icmp .ge 40) 3 55 0 0, am_e0 18 (.aload_n 0) 1, am_e3 19 (.getfield 15) 3 4 1 285, am_e3 22 (.getfield 31) 3 6 1 236, am_e3 25 (.iload_n 3) 1 3 0 0, am_e3 26 (.invokevirtual 37) 3 29 2 610, am_e3 29 (.iload_n 1) 1 1 0 0, am_e3 30 (.if_icmp .ne 19) 3 49 0 0, am_e3 33 (.iload_n 2) 1 2 0 0, am_e0 34 (.aload_n 0) 1, am_ec 35 (.iconst 0) 1 0 0, am_e3 36 (.iload_n 3) 1 3 0 0, am_e3 37 (.invokevirtual 43) 3 26 3 611, am_e0 40 (.aload_n 0) 1, am_ec 41 (.iconst 1) 1 0 1, am_e3 42 (.iload_n 3) 1 3 0 0, am_e3 43 (.invokevirtual 43) 3 26 3 611, am_e0 46 (.iadd) 1, am_e0 47 (.iadd) 1, am_e3 48 (.istore_n 2) 1 2 0 0, am_ei 49 (.iinc 3 1) 3 3 1, am_e3 52 (.goto (-48)) 3 4 0 0, am_e3 55 (.iload_n 2) 1 2 0 0, am_e0 56 (.ireturn) 1]
set_option maxRecDepth 100000 in
def km_Money_total : List am_E := [am_el 0 (.lconst 0) 1 0 0, am_e3 1 (.lstore_n 3) 1 3 0 0, am_ec 2 (.iconst 0) 1 0 0, am_e3 3 (.istore 5) 2 5 0 0, am_e3 5 (.iload 5) 2 5 0 0, am_e0 7 (.aload_n 0) 1, am_e3 8 (.getfield 9) 3 4 0 284, am_e3 11 (.getfield 19) 3 7 1 181, am_e3 14 (.getfield 25) 3 3 4 112, am_e3 17 (.if_icmp .ge 44) 3 61 0 0, am_e3 20 (.iload_n 2) 1 2 0 0, am_ec 21 (.iconst (-1)) 1 0 (-1), am_e3 22 (.if_icmp .eq 22) 3 44 0 0, am_e3 25 (.iload_n 2) 1 2 0 0, am_e0 26 (.aload_n 0) 1, am_e3 27 (.getfield 9) 3 4 0 284, am_e3 30 (.getfield 19) 3 7 1 181, am_e3 33 (.getfield 47) 3 3 0 98, am_e3 36 (.iload 5) 2 5 0 0, am_e3 38 (.invokevirtual 37) 3 29 2 610, am_e3 41 (.if_icmp .ne 14) 3 55 0 0, am_e3 44 (.lload_n 3) 1 3 0 0, am_e0 45 (.aload_n 0) 1, am_e3 46 (.iload_n 1) 1 1 0 0, am_e3 47 (.iload 5) 2 5 0 0, am_e3 49 (.invokevirtual 43) 3 26 3 611, am_e0 52 (.i2l) 1, am_e0 53 (.ladd) 1, am_e3 54 (.lstore_n 3) 1 3 0 0, am_ei 55 (.iinc 5 1) 3 5 1, am_e3 58 (.goto (-53)) 3 5 0 0, am_e3 61 (.lload_n 3) 1 3 0 0, am_e0 62 (.lreturn) 1]
set_option maxRecDepth 100000 in
def km_Money_payments : List am_E := [am_e0 0 (.aload_n 0) 1, am_ec 1 (.iconst 0) 1 0 0, am_ec 2 (.iconst (-1)) 1 0 (-1), am_e3 3 (.invokevirtual 50) 3 23 3 684, am_e0 6 (.aload_n 0) 1, am_ec 7 (.iconst 1) 1 0 1, am_ec 8 (.iconst (-1)) 1 0 (-1), am_e3 9 (.invokevirtual 50) 3 23 3 684, am_e0 12 (.ladd) 1, am_e0 13 (.lreturn) 1]
set_option maxRecDepth 100000 in
def km_Money_receipts : List am_E := [am_e0 0 (.aload_n 0) 1, am_ec 1 (.iconst 0) 1 0 0, am_e3 2 (.iload_n 1) 1 1 0 0, am_e3 3 (.invokevirtual 50) 3 23 3 684, am_e0 6 (.aload_n 0) 1, am_ec 7 (.iconst 2) 1 0 2, am_e3 8 (.iload_n 1) 1 1 0 0, am_e3 9 (.invokevirtual 50) 3 23 3 684, am_e0 12 (.lsub) 1, am_e0 13 (.aload_n 0) 1, am_ec 14 (.iconst 3) 1 0 3, am_e3 15 (.iload_n 1) 1 1 0 0, am_e3 16 (.invokevirtual 50) 3 23 3 684, am_e0 19 (.lsub) 1, am_e0 20 (.lreturn) 1]
set_option maxRecDepth 100000 in
def km_Money_part : List am_E := [am_e0 0 (.aload_n 0) 1, am_e3 1 (.getfield 15) 3 4 1 285, am_e3 4 (.getfield 54) 3 6 2 239, am_e3 7 (.iload_n 2) 1 2 0 0, am_e3 8 (.invokevirtual 37) 3 29 2 610, am_e3 11 (.istore_n 3) 1 3 0 0, am_e3 12 (.iload_n 1) 1 1 0 0, am_es 13 (.tableswitch 65 0 2 #[27, 29, 47]) 27 78 [(0, 40), (1, 42), (2, 60)], am_e3 40 (.iload_n 3) 1 3 0 0, am_e0 41 (.ireturn) 1, am_e3 42 (.iload_n 3) 1 3 0 0, am_e0 43 (.aload_n 0) 1, am_e3 44 (.getfield 9) 3 4 0 284, am_e3 47 (.getfield 57) 3 7 5 194, am_ec 50 (.iconst 1) 1 0 1, am_e3 51 (.invokevirtual 37) 3 29 2 610, am_e0 54 (.imul) 1, am_ec 55 (.sipush 1000) 3 0 1000, am_e0 58 (.idiv) 1, am_e0 59 (.ireturn) 1, am_e3 60 (.iload_n 3) 1 3 0 0, am_e0 61 (.aload_n 0) 1, am_e3 62 (.getfield 9) 3 4 0 284, am_e3 65 (.getfield 57) 3 7 5 194, am_ec 68 (.iconst 2) 1 0 2, am_e3 69 (.invokevirtual 37) 3 29 2 610, am_e0 72 (.imul) 1, am_ec 73 (.sipush 1000) 3 0 1000, am_e0 76 (.idiv) 1, am_e0 77 (.ireturn) 1, am_e0 78 (.aload_n 0) 1, am_e3 79 (.iload_n 2) 1 2 0 0, am_e3 80 (.invokevirtual 60) 3 27 2 615, am_e3 83 (.ifCond .eq 17) 3 100 0 0, am_e0 86 (.aload_n 0) 1, am_e3 87 (.getfield 9) 3 4 0 284, am_e3 90 (.getfield 57) 3 7 5 194, am_ec 93 (.iconst 3) 1 0 3, am_e3 94 (.invokevirtual 37) 3 29 2 610, am_e3 97 (.goto 4) 3 101 0 0, am_ec 100 (.iconst 0) 1 0 0, am_e0 101 (.ireturn) 1]
set_option maxRecDepth 100000 in
def km_Money_owesFee : List am_E := [am_e0 0 (.aload_n 0) 1, am_e3 1 (.getfield 15) 3 4 1 285, am_e3 4 (.getfield 64) 3 6 3 242, am_e3 7 (.iload_n 1) 1 1 0 0, am_e3 8 (.invokevirtual 37) 3 29 2 610, am_e3 11 (.istore_n 2) 1 2 0 0, am_e3 12 (.iload_n 2) 1 2 0 0, am_ec 13 (.iconst 1) 1 0 1, am_e3 14 (.if_icmp .eq 8) 3 22 0 0, am_e3 17 (.iload_n 2) 1 2 0 0, am_ec 18 (.iconst 2) 1 0 2, am_e3 19 (.if_icmp .ne 7) 3 26 0 0, am_ec 22 (.iconst 1) 1 0 1, am_e3 23 (.goto 4) 3 27 0 0, am_ec 26 (.iconst 0) 1 0 0, am_e0 27 (.ireturn) 1]
set_option maxRecDepth 100000 in
def km_Row_init : List am_E := [am_e0 0 (.aload_n 0) 1, am_e3 1 (.invokespecial 1) 3 1003 1 65, am_e0 4 (.aload_n 0) 1, am_e3 5 (.iload_n 1) 1 1 0 0, am_ec 6 (.iconst 0) 1 0 0, am_e3 7 (.invokestatic 7) 3 1000 2 66, am_e0 10 (.newarray .int) 2, am_e3 12 (.putfield 13) 3 5 0 69, am_e0 15 (.return_) 1]
set_option maxRecDepth 100000 in
def km_Row_get : List am_E := [am_e3 0 (.iload_n 1) 1 1 0 0, am_e3 1 (.ifCond .lt 21) 3 22 0 0, am_e3 4 (.iload_n 1) 1 1 0 0, am_e0 5 (.aload_n 0) 1, am_e3 6 (.getfield 13) 3 5 0 69, am_e0 9 (.arraylength) 1, am_e3 10 (.if_icmp .ge 12) 3 22 0 0, am_e0 13 (.aload_n 0) 1, am_e3 14 (.getfield 13) 3 5 0 69, am_e3 17 (.iload_n 1) 1 1 0 0, am_e0 18 (.iaload) 1, am_e3 19 (.goto 4) 3 23 0 0, am_ec 22 (.iconst 0) 1 0 0, am_e0 23 (.ireturn) 1]
set_option maxRecDepth 100000 in
def km_Row_put : List am_E := [am_e3 0 (.iload_n 1) 1 1 0 0, am_e3 1 (.ifCond .lt 19) 3 20 0 0, am_e3 4 (.iload_n 1) 1 1 0 0, am_e0 5 (.aload_n 0) 1, am_e3 6 (.getfield 13) 3 5 0 69, am_e0 9 (.arraylength) 1, am_e3 10 (.if_icmp .ge 10) 3 20 0 0, am_e0 13 (.aload_n 0) 1, am_e3 14 (.getfield 13) 3 5 0 69, am_e3 17 (.iload_n 1) 1 1 0 0, am_e3 18 (.iload_n 2) 1 2 0 0, am_e0 19 (.iastore) 1, am_e0 20 (.return_) 1]
set_option maxRecDepth 100000 in
def km_Row_copy : List am_E := [am_e3 0 (.aload_n 1) 1 1 0 0, am_e3 1 (.getfield 13) 3 5 0 69, am_ec 4 (.iconst 0) 1 0 0, am_e0 5 (.aload_n 0) 1, am_e3 6 (.getfield 13) 3 5 0 69, am_ec 9 (.iconst 0) 1 0 0, am_e3 10 (.aload_n 1) 1 1 0 0, am_e3 11 (.getfield 13) 3 5 0 69, am_e0 14 (.arraylength) 1, am_e0 15 (.aload_n 0) 1, am_e3 16 (.getfield 13) 3 5 0 69, am_e0 19 (.arraylength) 1, am_e3 20 (.invokestatic 19) 3 1001 2 396, am_e3 23 (.invokestatic 22) 3 1002 5 399, am_e0 26 (.return_) 1]
set_option maxRecDepth 100000 in
def km_Row_sum : List am_E := [am_ec 0 (.iconst 0) 1 0 0, am_e3 1 (.istore_n 2) 1 2 0 0, am_ec 2 (.iconst 0) 1 0 0, am_e3 3 (.istore_n 3) 1 3 0 0, am_e3 4 (.iload_n 3) 1 3 0 0, am_e3 5 (.iload_n 1) 1 1 0 0, am_e3 6 (.if_icmp .ge 27) 3 33 0 0, am_e3 9 (.iload_n 3) 1 3 0 0, am_e0 10 (.aload_n 0) 1, am_e3 11 (.getfield 13) 3 5 0 69, am_e0 14 (.arraylength) 1, am_e3 15 (.if_icmp .ge 18) 3 33 0 0, am_e3 18 (.iload_n 2) 1 2 0 0, am_e0 19 (.aload_n 0) 1, am_e3 20 (.getfield 13) 3 5 0 69, am_e3 23 (.iload_n 3) 1 3 0 0, am_e0 24 (.iaload) 1, am_e0 25 (.iadd) 1, am_e3 26 (.istore_n 2) 1 2 0 0, am_ei 27 (.iinc 3 1) 3 3 1, am_e3 30 (.goto (-26)) 3 4 0 0, am_e3 33 (.iload_n 2) 1 2 0 0, am_e0 34 (.ireturn) 1]
set_option maxRecDepth 100000 in
def km_Row_countOf : List am_E := [am_ec 0 (.iconst 0) 1 0 0, am_e3 1 (.istore_n 3) 1 3 0 0, am_ec 2 (.iconst 0) 1 0 0, am_e3 3 (.istore 4) 2 4 0 0, am_e3 5 (.iload 4) 2 4 0 0, am_e3 7 (.iload_n 2) 1 2 0 0, am_e3 8 (.if_icmp .ge 33) 3 41 0 0, am_e3 11 (.iload 4) 2 4 0 0, am_e0 13 (.aload_n 0) 1, am_e3 14 (.getfield 13) 3 5 0 69, am_e0 17 (.arraylength) 1, am_e3 18 (.if_icmp .ge 23) 3 41 0 0, am_e0 21 (.aload_n 0) 1, am_e3 22 (.getfield 13) 3 5 0 69, am_e3 25 (.iload 4) 2 4 0 0, am_e0 27 (.iaload) 1, am_e3 28 (.iload_n 1) 1 1 0 0, am_e3 29 (.if_icmp .ne 6) 3 35 0 0, am_ei 32 (.iinc 3 1) 3 3 1, am_ei 35 (.iinc 4 1) 3 4 1, am_e3 38 (.goto (-33)) 3 5 0 0, am_e3 41 (.iload_n 3) 1 3 0 0, am_e0 42 (.ireturn) 1]
set_option maxRecDepth 100000 in
def km_Sale_init : List am_E := [am_e0 0 (.aload_n 0) 1, am_e3 1 (.invokespecial 3) 3 1003 1 231, am_e0 4 (.aload_n 0) 1, am_e3 5 (.new 9) 3 5 0 232, am_e0 8 (.dup) 1, am_ec 9 (.bipush 20) 2 0 20, am_e3 11 (.invokespecial 11) 3 28 2 233, am_e3 14 (.putfield 14) 3 6 1 235, am_e0 17 (.aload_n 0) 1, am_e3 18 (.new 9) 3 5 0 232, am_e0 21 (.dup) 1, am_ec 22 (.bipush 20) 2 0 20, am_e3 24 (.invokespecial 11) 3 28 2 233, am_e3 27 (.putfield 20) 3 6 2 238, am_e0 30 (.aload_n 0) 1, am_e3 31 (.new 9) 3 5 0 232, am_e0 34 (.dup) 1, am_ec 35 (.bipush 20) 2 0 20, am_e3 37 (.invokespecial 11) 3 28 2 233, am_e3 40 (.putfield 23) 3 6 3 241, am_e0 43 (.aload_n 0) 1, am_e3 44 (.new 9) 3 5 0 232, am_e0 47 (.dup) 1, am_ec 48 (.bipush 20) 2 0 20, am_e3 50 (.invokespecial 11) 3 28 2 233, am_e3 53 (.putfield 26) 3 6 4 244, am_e0 56 (.aload_n 0) 1, am_e3 57 (.new 9) 3 5 0 232, am_e0 60 (.dup) 1, am_ec 61 (.bipush 20) 2 0 20, am_e3 63 (.invokespecial 11) 3 28 2 233, am_e3 66 (.putfield 29) 3 6 5 246, am_e0 69 (.aload_n 0) 1, am_e3 70 (.new 9) 3 5 0 232, am_e0 73 (.dup) 1, am_ec 74 (.sipush 160) 3 0 160, am_e3 77 (.invokespecial 11) 3 28 2 233, am_e3 80 (.putfield 32) 3 6 6 247, am_e0 83 (.aload_n 0) 1, am_e3 84 (.new 9) 3 5 0 232, am_e0 87 (.dup) 1, am_ec 88 (.bipush 60) 2 0 60, am_e3 90 (.invokespecial 11) 3 28 2 233, am_e3 93 (.putfield 35) 3 6 7 248, am_e0 96 (.aload_n 0) 1, am_e3 97 (.new 9) 3 5 0 232, am_e0 100 (.dup) 1, am_ec 101 (.bipush 60) 2 0 60, am_e3 103 (.invokespecial 11) 3 28 2 233, am_e3 106 (.putfield 38) 3 6 8 250, am_e0 109 (.aload_n 0) 1, am_e3 110 (.new 9) 3 5 0 232, am_e0 113 (.dup) 1, am_ec 114 (.bipush 8) 2 0 8, am_e3 116 (.invokespecial 11) 3 28 2 233, am_e3 119 (.putfield 41) 3 6 9 252, am_e0 122 (.aload_n 0) 1, am_e3 123 (.aload_n 1) 1 1 0 0, am_e3 124 (.putfield 44) 3 6 0 234, am_e0 127 (.return_) 1]
set_option maxRecDepth 100000 in
def km_Sale_hold : List am_E := [am_e0 0 (.aload_n 0) 1, am_e3 1 (.getfield 48) 3 6 10 253, am_e3 4 (.ifCond .eq 4) 3 8 0 0, am_e0 7 (.return_) 1, am_ec 8 (.iconst 0) 1 0 0, am_e3 9 (.istore_n 1) 1 1 0 0, am_e3 10 (.iload_n 1) 1 1 0 0, am_e0 11 (.aload_n 0) 1, am_e3 12 (.getfield 44) 3 6 0 234, am_e3 15 (.getfield 52) 3 7 1 182, am_e3 18 (.getfield 58) 3 3 4 113, am_e3 21 (.if_icmp .ge 40) 3 61 0 0, am_e0 24 (.aload_n 0) 1, am_e3 25 (.getfield 29) 3 6 5 246, am_e3 28 (.iload_n 1) 1 1 0 0, am_e0 29 (.aload_n 0) 1, am_e3 30 (.getfield 44) 3 6 0 234, am_e3 33 (.iload_n 1) 1 1 0 0, am_e3 34 (.invokevirtual 64) 3 54 2 502, am_e3 37 (.invokevirtual 68) 3 30 3 525, am_e0 40 (.aload_n 0) 1, am_e3 41 (.iload_n 1) 1 1 0 0, am_e3 42 (.invokevirtual 72) 3 39 2 526, am_e0 45 (.aload_n 0) 1, am_e3 46 (.iload_n 1) 1 1 0 0, am_e3 47 (.invokevirtual 75) 3 44 2 557, am_e0 50 (.aload_n 0) 1, am_e3 51 (.iload_n 1) 1 1 0 0, am_e3 52 (.invokevirtual 78) 3 47 2 569, am_ei 55 (.iinc 1 1) 3 1 1, am_e3 58 (.goto (-48)) 3 10 0 0, am_e0 61 (.aload_n 0) 1, am_ec 62 (.iconst 1) 1 0 1, am_e3 63 (.putfield 48) 3 6 10 253, am_e0 66 (.return_) 1]
set_option maxRecDepth 100000 in
def km_Sale_bidAt : List am_E := [am_e3 0 (.iload_n 2) 1 2 0 0, am_e3 1 (.ifCond .lt 31) 3 32 0 0, am_e3 4 (.iload_n 2) 1 2 0 0, am_e0 5 (.aload_n 0) 1, am_e3 6 (.getfield 26) 3 6 4 244, am_e3 9 (.iload_n 1) 1 1 0 0, am_e3 10 (.invokevirtual 81) 3 29 2 530, am_e3 13 (.if_icmp .ge 19) 3 32 0 0, am_e0 16 (.aload_n 0) 1, am_e3 17 (.getfield 32) 3 6 6 247, am_e3 20 (.iload_n 1) 1 1 0 0, am_ec 21 (.bipush 8) 2 0 8, am_e0 23 (.imul) 1, am_e3 24 (.iload_n 2) 1 2 0 0, am_e0 25 (.iadd) 1, am_e3 26 (.invokevirtual 81) 3 29 2 530, am_e3 29 (.goto 5) 3 34 0 0, am_ec 32 (.bipush (-5)) 2 0 (-5), am_e0 34 (.ireturn) 1]
set_option maxRecDepth 100000 in
def km_Sale_leftBefore : List am_E := [am_e0 0 (.aload_n 0) 1, am_e3 1 (.getfield 44) 3 6 0 234, am_e3 4 (.getfield 84) 3 7 2 185, am_e3 7 (.iload_n 2) 1 2 0 0, am_e3 8 (.invokevirtual 81) 3 29 2 530, am_e3 11 (.istore_n 3) 1 3 0 0, am_ec 12 (.iconst 0) 1 0 0, am_e3 13 (.istore 4) 2 4 0 0, am_e3 15 (.iload 4) 2 4 0 0, am_e3 17 (.iload_n 1) 1 1 0 0, am_e3 18 (.if_icmp .ge 34) 3 52 0 0, am_e0 21 (.aload_n 0) 1, am_e3 22 (.getfield 14) 3 6 1 235, am_e3 25 (.iload 4) 2 4 0 0, am_e3 27 (.invokevirtual 81) 3 29 2 530, am_e3 30 (.iload_n 2) 1 2 0 0, am_e3 31 (.if_icmp .ne 15) 3 46 0 0, am_e3 34 (.iload_n 3) 1 3 0 0, am_e0 35 (.aload_n 0) 1, am_e3 36 (.getfield 20) 3 6 2 238, am_e3 39 (.iload 4) 2 4 0 0, am_e3 41 (.invokevirtual 81) 3 29 2 530, am_e0 44 (.isub) 1, am_e3 45 (.istore_n 3) 1 3 0 0, am_ei 46 (.iinc 4 1) 3 4 1, am_e3 49 (.goto (-34)) 3 15 0 0, am_e3 52 (.iload_n 3) 1 3 0 0, am_e0 53 (.ireturn) 1]
set_option maxRecDepth 100000 in
def km_Sale_soldLots : List am_E := [am_ec 0 (.iconst 0) 1 0 0, am_e3 1 (.istore_n 2) 1 2 0 0, am_ec 2 (.iconst 0) 1 0 0, am_e3 3 (.istore_n 3) 1 3 0 0, am_e3 4 (.iload_n 3) 1 3 0 0, am_e0 5 (.aload_n 0) 1, am_e3 6 (.getfield 44) 3 6 0 234, am_e3 9 (.getfield 52) 3 7 1 182, am_e3 12 (.getfield 58) 3 3 4 113, am_e3 15 (.if_icmp .ge 58) 3 73 0 0, am_e3 18 (.iload_n 1) 1 1 0 0, am_ec 19 (.iconst (-1)) 1 0 (-1), am_e3 20 (.if_icmp .eq 21) 3 41 0 0, am_e3 23 (.iload_n 1) 1 1 0 0, am_e0 24 (.aload_n 0) 1, am_e3 25 (.getfield 44) 3 6 0 234, am_e3 28 (.getfield 52) 3 7 1 182, am_e3 31 (.getfield 87) 3 3 0 99, am_e3 34 (.iload_n 3) 1 3 0 0, am_e3 35 (.invokevirtual 81) 3 29 2 530, am_e3 38 (.if_icmp .ne 7) 3 45 0 0, am_ec 41 (.iconst 1) 1 0 1, am_e3 42 (.goto 4) 3 46 0 0, am_ec 45 (.iconst 0) 1 0 0, am_e3 46 (.istore 4) 2 4 0 0, am_e3 48 (.iload 4) 2 4 0 0, am_e3 50 (.ifCond .eq 17) 3 67 0 0, am_e0 53 (.aload_n 0) 1, am_e3 54 (.getfield 23) 3 6 3 241, am_e3 57 (.iload_n 3) 1 3 0 0, am_e3 58 (.invokevirtual 81) 3 29 2 530, am_e3 61 (.ifCond .ne 6) 3 67 0 0, am_ei 64 (.iinc 2 1) 3 2 1, am_ei 67 (.iinc 3 1) 3 3 1, am_e3 70 (.goto (-66)) 3 4 0 0, am_e3 73 (.iload_n 2) 1 2 0 0, am_e0 74 (.ireturn) 1]
set_option maxRecDepth 100000 in
def km_Sale_judgeBids : List am_E := [am_ec 0 (.iconst 0) 1 0 0, am_e3 1 (.istore_n 2) 1 2 0 0, am_e3 2 (.iload_n 2) 1 2 0 0, am_e0 3 (.aload_n 0) 1, am_e3 4 (.getfield 44) 3 6 0 234, am_e3 7 (.getfield 90) 3 7 3 188, am_e3 10 (.if_icmp .ge 19) 3 29 0 0, am_e0 13 (.aload_n 0) 1, am_e3 14 (.getfield 41) 3 6 9 252, am_e3 17 (.iload_n 2) 1 2 0 0, am_ec 18 (.bipush (-5)) 2 0 (-5), am_e3 20 (.invokevirtual 68) 3 30 3 525, am_ei 23 (.iinc 2 1) 3 2 1, am_e3 26 (.goto (-24)) 3 2 0 0, am_ec 29 (.iconst 0) 1 0 0, am_e3 30 (.istore_n 2) 1 2 0 0, am_e3 31 (.iload_n 2) 1 2 0 0, am_e0 32 (.aload_n 0) 1, am_e3 33 (.getfield 44) 3 6 0 234, am_e3 36 (.getfield 93) 3 7 4 191, am_e3 39 (.getfield 97) 3 0 6 158, am_e3 42 (.if_icmp .ge 33) 3 75 0 0, am_e0 45 (.aload_n 0) 1, am_e3 46 (.getfield 44) 3 6 0 234, am_e3 49 (.getfield 93) 3 7 4 191, am_e3 52 (.getfield 100) 3 0 1 141, am_e3 55 (.iload_n 2) 1 2 0 0, am_e3 56 (.invokevirtual 81) 3 29 2 530, am_e3 59 (.iload_n 1) 1 1 0 0, am_e3 60 (.if_icmp .ne 9) 3 69 0 0, am_e0 63 (.aload_n 0) 1, am_e3 64 (.iload_n 2) 1 2 0 0, am_e3 65 (.iload_n 1) 1 1 0 0, am_e3 66 (.invokevirtual 102) 3 40 3 531, am_ei 69 (.iinc 2 1) 3 2 1, am_e3 72 (.goto (-41)) 3 31 0 0, am_e0 75 (.return_) 1]
set_option maxRecDepth 100000 in
def km_Sale_judge : List am_E := [am_e0 0 (.aload_n 0) 1, am_e3 1 (.getfield 44) 3 6 0 234, am_e3 4 (.getfield 93) 3 7 4 191, am_e3 7 (.getfield 105) 3 0 0 138, am_e3 10 (.iload_n 1) 1 1 0 0, am_e3 11 (.invokevirtual 81) 3 29 2 530, am_e3 14 (.istore_n 3) 1 3 0 0, am_e0 15 (.aload_n 0) 1, am_e3 16 (.iload_n 2) 1 2 0 0, am_e3 17 (.iload_n 3) 1 3 0 0, am_e3 18 (.invokevirtual 107) 3 37 3 535, am_e3 21 (.istore 4) 2 4 0 0, am_e0 23 (.aload_n 0) 1, am_e3 24 (.getfield 35) 3 6 7 248, am_e3 27 (.iload_n 1) 1 1 0 0, am_e0 28 (.aload_n 0) 1, am_e3 29 (.getfield 44) 3 6 0 234, am_e3 32 (.getfield 111) 3 7 0 179, am_e0 35 (.aload_n 0) 1, am_e3 36 (.getfield 44) 3 6 0 234, am_e3 39 (.getfield 93) 3 7 4 191, am_e3 42 (.getfield 115) 3 0 2 144, am_e3 45 (.iload_n 1) 1 1 0 0, am_e3 46 (.invokevirtual 81) 3 29 2 530, am_e3 49 (.iload 4) 2 4 0 0, am_e3 51 (.invokestatic 118) 3 1001 2 539, am_e3 54 (.invokevirtual 123) 3 65 2 540, am_e3 57 (.invokevirtual 68) 3 30 3 525, am_e0 60 (.aload_n 0) 1, am_e3 61 (.iload_n 1) 1 1 0 0, am_e3 62 (.iload_n 2) 1 2 0 0, am_e3 63 (.invokevirtual 128) 3 41 3 541, am_e3 66 (.istore 5) 2 5 0 0, am_e0 68 (.aload_n 0) 1, am_e3 69 (.getfield 38) 3 6 8 250, am_e3 72 (.iload_n 1) 1 1 0 0, am_e3 73 (.iload 5) 2 5 0 0, am_e3 75 (.invokevirtual 68) 3 30 3 525, am_e3 78 (.iload 5) 2 5 0 0, am_e3 80 (.ifCond .ne 16) 3 96 0 0, am_e0 83 (.aload_n 0) 1, am_e0 84 (.aload_n 0) 1, am_e3 85 (.getfield 41) 3 6 9 252, am_e3 88 (.iload_n 3) 1 3 0 0, am_e3 89 (.invokevirtual 81) 3 29 2 530, am_e3 92 (.iload_n 1) 1 1 0 0, am_e3 93 (.invokevirtual 131) 3 43 3 553, am_e0 96 (.return_) 1]
set_option maxRecDepth 100000 in
def km_Sale_reasonAgainst : List am_E := [am_e0 0 (.aload_n 0) 1, am_e3 1 (.getfield 44) 3 6 0 234, am_e3 4 (.getfield 93) 3 7 4 191, am_e3 7 (.getfield 134) 3 0 5 154, am_e3 10 (.iload_n 1) 1 1 0 0, am_e3 11 (.invokevirtual 81) 3 29 2 530, am_ec 14 (.iconst 1) 1 0 1, am_e3 15 (.if_icmp .ne 5) 3 20 0 0, am_ec 18 (.iconst 1) 1 0 1, am_e0 19 (.ireturn) 1, am_e0 20 (.aload_n 0) 1, am_e3 21 (.getfield 44) 3 6 0 234, am_e3 24 (.iload_n 1) 1 1 0 0, am_e3 25 (.invokevirtual 137) 3 55 2 545, am_e3 28 (.ifCond .eq 5) 3 33 0 0, am_ec 31 (.iconst 2) 1 0 2, am_e0 32 (.ireturn) 1, am_e0 33 (.aload_n 0) 1, am_e3 34 (.getfield 44) 3 6 0 234, am_e3 37 (.getfield 52) 3 7 1 182, am_e3 40 (.getfield 141) 3 3 3 111, am_e3 43 (.iload_n 2) 1 2 0 0, am_e3 44 (.invokevirtual 81) 3 29 2 530, am_ec 47 (.iconst 1) 1 0 1, am_e3 48 (.if_icmp .ne 5) 3 53 0 0, am_ec 51 (.iconst 3) 1 0 3, am_e0 52 (.ireturn) 1, am_e0 53 (.aload_n 0) 1, am_e3 54 (.iload_n 1) 1 1 0 0, am_e3 55 (.iload_n 2) 1 2 0 0, am_e3 56 (.invokevirtual 142) 3 42 3 549, am_e3 59 (.ifCond .eq 5) 3 64 0 0, am_ec 62 (.iconst 4) 1 0 4, am_e0 63 (.ireturn) 1, am_e0 64 (.aload_n 0) 1, am_e3 65 (.getfield 35) 3 6 7 248, am_e3 68 (.iload_n 1) 1 1 0 0, am_e3 69 (.invokevirtual 81) 3 29 2 530, am_e0 72 (.aload_n 0) 1, am_e3 73 (.getfield 44) 3 6 0 234, am_e3 76 (.getfield 52) 3 7 1 182, am_e3 79 (.getfield 146) 3 3 1 103, am_e3 82 (.iload_n 2) 1 2 0 0, am_e3 83 (.invokevirtual 81) 3 29 2 530, am_e3 86 (.if_icmp .ge 7) 3 93 0 0, am_ec 89 (.iconst 5) 1 0 5, am_e3 90 (.goto 4) 3 94 0 0, am_ec 93 (.iconst 0) 1 0 0, am_e0 94 (.ireturn) 1]
set_option maxRecDepth 100000 in
def km_Sale_hasAlternativeBought : List am_E := [am_e0 0 (.aload_n 0) 1, am_e3 1 (.getfield 44) 3 6 0 234, am_e3 4 (.getfield 93) 3 7 4 191, am_e3 7 (.getfield 149) 3 0 4 151, am_e3 10 (.iload_n 1) 1 1 0 0, am_e3 11 (.invokevirtual 81) 3 29 2 530, am_e3 14 (.istore_n 3) 1 3 0 0, am_e0 15 (.aload_n 0) 1, am_e3 16 (.getfield 44) 3 6 0 234, am_e3 19 (.getfield 93) 3 7 4 191, am_e3 22 (.getfield 105) 3 0 0 138, am_e3 25 (.iload_n 1) 1 1 0 0, am_e3 26 (.invokevirtual 81) 3 29 2 530, am_e3 29 (.istore 4) 2 4 0 0, am_e3 31 (.iload_n 3) 1 3 0 0, am_e3 32 (.ifCond .ne 5) 3 37 0 0, am_ec 35 (.iconst 0) 1 0 0, am_e0 36 (.ireturn) 1, am_ec 37 (.iconst 0) 1 0 0, am_e3 38 (.istore 5) 2 5 0 0, am_e3 40 (.iload 5) 2 5 0 0, am_e3 42 (.iload_n 2) 1 2 0 0, am_e3 43 (.if_icmp .ge 58) 3 101 0 0, am_e0 46 (.aload_n 0) 1, am_e3 47 (.getfield 32) 3 6 6 247, am_e3 50 (.iload 5) 2 5 0 0, am_ec 52 (.bipush 8) 2 0 8, am_e0 54 (.imul) 1, am_e3 55 (.invokevirtual 81) 3 29 2 530, am_e3 58 (.istore 6) 2 6 0 0, am_e0 60 (.aload_n 0) 1, am_e3 61 (.getfield 14) 3 6 1 235, am_e3 64 (.iload 5) 2 5 0 0, am_e3 66 (.invokevirtual 81) 3 29 2 530, am_e3 69 (.iload 4) 2 4 0 0, am_e3 71 (.if_icmp .ne 24) 3 95 0 0, am_e0 74 (.aload_n 0) 1, am_e3 75 (.getfield 44) 3 6 0 234, am_e3 78 (.getfield 93) 3 7 4 191, am_e3 81 (.getfield 149) 3 0 4 151, am_e3 84 (.iload 6) 2 6 0 0, am_e3 86 (.invokevirtual 81) 3 29 2 530, am_e3 89 (.iload_n 3) 1 3 0 0, am_e3 90 (.if_icmp .ne 5) 3 95 0 0, am_ec 93 (.iconst 1) 1 0 1, am_e0 94 (.ireturn) 1, am_ei 95 (.iinc 5 1) 3 5 1, am_e3 98 (.goto (-58)) 3 40 0 0, am_ec 101 (.iconst 0) 1 0 0, am_e0 102 (.ireturn) 1]
set_option maxRecDepth 100000 in
def km_Sale_chooseBetween : List am_E := [am_e3 0 (.iload_n 1) 1 1 0 0, am_ec 1 (.bipush (-5)) 2 0 (-5), am_e3 3 (.if_icmp .eq 33) 3 36 0 0, am_e0 6 (.aload_n 0) 1, am_e3 7 (.getfield 35) 3 6 7 248, am_e3 10 (.iload_n 1) 1 1 0 0, am_e3 11 (.invokevirtual 81) 3 29 2 530, am_e0 14 (.aload_n 0) 1, am_e3 15 (.getfield 35) 3 6 7 248, am_e3 18 (.iload_n 2) 1 2 0 0, am_e3 19 (.invokevirtual 81) 3 29 2 530, am_e3 22 (.if_icmp .lt 14) 3 36 0 0, am_e0 25 (.aload_n 0) 1, am_e3 26 (.getfield 38) 3 6 8 250, am_e3 29 (.iload_n 2) 1 2 0 0, am_ec 30 (.bipush 6) 2 0 6, am_e3 32 (.invokevirtual 68) 3 30 3 525, am_e0 35 (.return_) 1, am_e3 36 (.iload_n 1) 1 1 0 0, am_ec 37 (.bipush (-5)) 2 0 (-5), am_e3 39 (.if_icmp .eq 13) 3 52 0 0, am_e0 42 (.aload_n 0) 1, am_e3 43 (.getfield 38) 3 6 8 250, am_e3 46 (.iload_n 1) 1 1 0 0, am_ec 47 (.bipush 6) 2 0 6, am_e3 49 (.invokevirtual 68) 3 30 3 525, am_e0 52 (.aload_n 0) 1, am_e3 53 (.getfield 41) 3 6 9 252, am_e0 56 (.aload_n 0) 1, am_e3 57 (.getfield 44) 3 6 0 234, am_e3 60 (.getfield 93) 3 7 4 191, am_e3 63 (.getfield 105) 3 0 0 138, am_e3 66 (.iload_n 2) 1 2 0 0, am_e3 67 (.invokevirtual 81) 3 29 2 530, am_e3 70 (.iload_n 2) 1 2 0 0, am_e3 71 (.invokevirtual 68) 3 30 3 525, am_e0 74 (.return_) 1]
set_option maxRecDepth 100000 in
def km_Sale_orderBids : List am_E := [am_e0 0 (.aload_n 0) 1, am_e3 1 (.getfield 26) 3 6 4 244, am_e3 4 (.iload_n 1) 1 1 0 0, am_ec 5 (.iconst 0) 1 0 0, am_e3 6 (.invokevirtual 68) 3 30 3 525, am_ec 9 (.iconst 0) 1 0 0, am_e3 10 (.istore_n 2) 1 2 0 0, am_e3 11 (.iload_n 2) 1 2 0 0, am_e0 12 (.aload_n 0) 1, am_e3 13 (.getfield 44) 3 6 0 234, am_e3 16 (.getfield 90) 3 7 3 188, am_e3 19 (.if_icmp .ge 30) 3 49 0 0, am_e0 22 (.aload_n 0) 1, am_e3 23 (.getfield 41) 3 6 9 252, am_e3 26 (.iload_n 2) 1 2 0 0, am_e3 27 (.invokevirtual 81) 3 29 2 530, am_e3 30 (.istore_n 3) 1 3 0 0, am_e3 31 (.iload_n 3) 1 3 0 0, am_ec 32 (.bipush (-5)) 2 0 (-5), am_e3 34 (.if_icmp .eq 9) 3 43 0 0, am_e0 37 (.aload_n 0) 1, am_e3 38 (.iload_n 1) 1 1 0 0, am_e3 39 (.iload_n 3) 1 3 0 0, am_e3 40 (.invokevirtual 152) 3 45 3 561, am_ei 43 (.iinc 2 1) 3 2 1, am_e3 46 (.goto (-35)) 3 11 0 0, am_e0 49 (.return_) 1]
set_option maxRecDepth 100000 in
def km_Sale_insert : List am_E := [am_e0 0 (.aload_n 0) 1, am_e3 1 (.getfield 26) 3 6 4 244, am_e3 4 (.iload_n 1) 1 1 0 0, am_e3 5 (.invokevirtual 81) 3 29 2 530, am_e3 8 (.istore_n 3) 1 3 0 0, am_e3 9 (.iload_n 1) 1 1 0 0, am_ec 10 (.bipush 8) 2 0 8, am_e0 12 (.imul) 1, am_e3 13 (.istore 4) 2 4 0 0, am_e3 15 (.iload_n 3) 1 3 0 0, am_e3 16 (.ifCond .le 54) 3 70 0 0, am_e0 19 (.aload_n 0) 1, am_e3 20 (.iload_n 2) 1 2 0 0, am_e0 21 (.aload_n 0) 1, am_e3 22 (.getfield 32) 3 6 6 247, am_e3 25 (.iload 4) 2 4 0 0, am_e3 27 (.iload_n 3) 1 3 0 0, am_e0 28 (.iadd) 1, am_ec 29 (.iconst 1) 1 0 1, am_e0 30 (.isub) 1, am_e3 31 (.invokevirtual 81) 3 29 2 530, am_e3 34 (.invokevirtual 155) 3 46 3 565, am_e3 37 (.ifCond .eq 33) 3 70 0 0, am_e0 40 (.aload_n 0) 1, am_e3 41 (.getfield 32) 3 6 6 247, am_e3 44 (.iload 4) 2 4 0 0, am_e3 46 (.iload_n 3) 1 3 0 0, am_e0 47 (.iadd) 1, am_e0 48 (.aload_n 0) 1, am_e3 49 (.getfield 32) 3 6 6 247, am_e3 52 (.iload 4) 2 4 0 0, am_e3 54 (.iload_n 3) 1 3 0 0, am_e0 55 (.iadd) 1, am_ec 56 (.iconst 1) 1 0 1, am_e0 57 (.isub) 1, am_e3 58 (.invokevirtual 81) 3 29 2 530, am_e3 61 (.invokevirtual 68) 3 30 3 525, am_ei 64 (.iinc 3 (-1)) 3 3 (-1), am_e3 67 (.goto (-52)) 3 15 0 0, am_e0 70 (.aload_n 0) 1, am_e3 71 (.getfield 32) 3 6 6 247, am_e3 74 (.iload 4) 2 4 0 0, am_e3 76 (.iload_n 3) 1 3 0 0, am_e0 77 (.iadd) 1, am_e3 78 (.iload_n 2) 1 2 0 0, am_e3 79 (.invokevirtual 68) 3 30 3 525, am_e0 82 (.aload_n 0) 1, am_e3 83 (.getfield 26) 3 6 4 244, am_e3 86 (.iload_n 1) 1 1 0 0, am_e0 87 (.aload_n 0) 1, am_e3 88 (.getfield 26) 3 6 4 244, am_e3 91 (.iload_n 1) 1 1 0 0, am_e3 92 (.invokevirtual 81) 3 29 2 530, am_ec 95 (.iconst 1) 1 0 1, am_e0 96 (.iadd) 1, am_e3 97 (.invokevirtual 68) 3 30 3 525, am_e0 100 (.return_) 1]
set_option maxRecDepth 100000 in
def km_Sale_goesBefore : List am_E := [am_e0 0 (.aload_n 0) 1, am_e3 1 (.getfield 35) 3 6 7 248, am_e3 4 (.iload_n 1) 1 1 0 0, am_e3 5 (.invokevirtual 81) 3 29 2 530, am_e3 8 (.istore_n 3) 1 3 0 0, am_e0 9 (.aload_n 0) 1, am_e3 10 (.getfield 35) 3 6 7 248, am_e3 13 (.iload_n 2) 1 2 0 0, am_e3 14 (.invokevirtual 81) 3 29 2 530, am_e3 17 (.istore 4) 2 4 0 0, am_e3 19 (.iload_n 3) 1 3 0 0, am_e3 20 (.iload 4) 2 4 0 0, am_e3 22 (.if_icmp .eq 15) 3 37 0 0, am_e3 25 (.iload_n 3) 1 3 0 0, am_e3 26 (.iload 4) 2 4 0 0, am_e3 28 (.if_icmp .le 7) 3 35 0 0, am_ec 31 (.iconst 1) 1 0 1, am_e3 32 (.goto 4) 3 36 0 0, am_ec 35 (.iconst 0) 1 0 0, am_e0 36 (.ireturn) 1, am_e0 37 (.aload_n 0) 1, am_e3 38 (.getfield 44) 3 6 0 234, am_e3 41 (.getfield 93) 3 7 4 191, am_e3 44 (.getfield 158) 3 0 3 148, am_e3 47 (.iload_n 1) 1 1 0 0, am_e3 48 (.invokevirtual 81) 3 29 2 530, am_e3 51 (.istore 5) 2 5 0 0, am_e0 53 (.aload_n 0) 1, am_e3 54 (.getfield 44) 3 6 0 234, am_e3 57 (.getfield 93) 3 7 4 191, am_e3 60 (.getfield 158) 3 0 3 148, am_e3 63 (.iload_n 2) 1 2 0 0, am_e3 64 (.invokevirtual 81) 3 29 2 530, am_e3 67 (.istore 6) 2 6 0 0, am_e3 69 (.iload 5) 2 5 0 0, am_e3 71 (.iload 6) 2 6 0 0, am_e3 73 (.if_icmp .eq 18) 3 91 0 0, am_e3 76 (.iload 5) 2 5 0 0, am_e3 78 (.iload 6) 2 6 0 0, am_e3 80 (.if_icmp .ge 7) 3 87 0 0, am_ec 83 (.iconst 1) 1 0 1, am_e3 84 (.goto 17) 3 101 0 0, am_ec 87 (.iconst 0) 1 0 0, am_e3 88 (.goto 13) 3 101 0 0, am_e3 91 (.iload_n 1) 1 1 0 0, am_e3 92 (.iload_n 2) 1 2 0 0, am_e3 93 (.if_icmp .ge 7) 3 100 0 0, am_ec 96 (.iconst 1) 1 0 1, am_e3 97 (.goto 4) 3 101 0 0, am_ec 100 (.iconst 0) 1 0 0, am_e0 101 (.ireturn) 1]
set_option maxRecDepth 100000 in
def km_Sale_sell : List am_E := [am_e0 0 (.aload_n 0) 1, am_e3 1 (.iload_n 1) 1 1 0 0, am_ec 2 (.iconst 0) 1 0 0, am_e3 3 (.invokevirtual 161) 3 36 3 573, am_e3 6 (.istore_n 2) 1 2 0 0, am_e0 7 (.aload_n 0) 1, am_e3 8 (.iload_n 1) 1 1 0 0, am_e3 9 (.iload_n 2) 1 2 0 0, am_e3 10 (.invokevirtual 164) 3 48 3 577, am_e3 13 (.istore_n 3) 1 3 0 0, am_e0 14 (.aload_n 0) 1, am_e3 15 (.getfield 23) 3 6 3 241, am_e3 18 (.iload_n 1) 1 1 0 0, am_e3 19 (.iload_n 3) 1 3 0 0, am_e3 20 (.invokevirtual 68) 3 30 3 525, am_e0 23 (.aload_n 0) 1, am_e3 24 (.getfield 14) 3 6 1 235, am_e3 27 (.iload_n 1) 1 1 0 0, am_e3 28 (.iload_n 3) 1 3 0 0, am_e3 29 (.ifCond .ne 20) 3 49 0 0, am_e0 32 (.aload_n 0) 1, am_e3 33 (.getfield 44) 3 6 0 234, am_e3 36 (.getfield 93) 3 7 4 191, am_e3 39 (.getfield 105) 3 0 0 138, am_e3 42 (.iload_n 2) 1 2 0 0, am_e3 43 (.invokevirtual 81) 3 29 2 530, am_e3 46 (.goto 5) 3 51 0 0, am_ec 49 (.bipush (-5)) 2 0 (-5), am_e3 51 (.invokevirtual 68) 3 30 3 525, am_e0 54 (.aload_n 0) 1, am_e3 55 (.getfield 20) 3 6 2 238, am_e3 58 (.iload_n 1) 1 1 0 0, am_e3 59 (.iload_n 3) 1 3 0 0, am_e3 60 (.ifCond .ne 11) 3 71 0 0, am_e0 63 (.aload_n 0) 1, am_e3 64 (.iload_n 1) 1 1 0 0, am_e3 65 (.invokevirtual 167) 3 49 2 581, am_e3 68 (.goto 4) 3 72 0 0, am_ec 71 (.iconst 0) 1 0 0, am_e3 72 (.invokevirtual 68) 3 30 3 525, am_e3 75 (.iload_n 3) 1 3 0 0, am_ec 76 (.iconst 2) 1 0 2, am_e3 77 (.if_icmp .ne 13) 3 90 0 0, am_e0 80 (.aload_n 0) 1, am_e3 81 (.getfield 38) 3 6 8 250, am_e3 84 (.iload_n 2) 1 2 0 0, am_ec 85 (.bipush 8) 2 0 8, am_e3 87 (.invokevirtual 68) 3 30 3 525, am_ec 90 (.iconst 1) 1 0 1, am_e3 91 (.istore 4) 2 4 0 0, am_e3 93 (.iload 4) 2 4 0 0, am_e0 95 (.aload_n 0) 1, am_e3 96 (.getfield 26) 3 6 4 244, am_e3 99 (.iload_n 1) 1 1 0 0, am_e3 100 (.invokevirtual 81) 3 29 2 530, am_e3 103 (.if_icmp .ge 25) 3 128 0 0, am_e0 106 (.aload_n 0) 1, am_e3 107 (.getfield 38) 3 6 8 250, am_e0 110 (.aload_n 0) 1, am_e3 111 (.iload_n 1) 1 1 0 0, am_e3 112 (.iload 4) 2 4 0 0, am_e3 114 (.invokevirtual 161) 3 36 3 573, am_ec 117 (.bipush 7) 2 0 7, am_e3 119 (.invokevirtual 68) 3 30 3 525, am_ei 122 (.iinc 4 1) 3 4 1, am_e3 125 (.goto (-32)) 3 93 0 0, am_e0 128 (.return_) 1]
set_option maxRecDepth 100000 in
def km_Sale_stateOf : List am_E := [am_e0 0 (.aload_n 0) 1, am_e3 1 (.getfield 44) 3 6 0 234, am_e3 4 (.getfield 52) 3 7 1 182, am_e3 7 (.getfield 141) 3 3 3 111, am_e3 10 (.iload_n 1) 1 1 0 0, am_e3 11 (.invokevirtual 81) 3 29 2 530, am_ec 14 (.iconst 1) 1 0 1, am_e3 15 (.if_icmp .ne 5) 3 20 0 0, am_ec 18 (.iconst 3) 1 0 3, am_e0 19 (.ireturn) 1, am_e3 20 (.iload_n 2) 1 2 0 0, am_ec 21 (.bipush (-5)) 2 0 (-5), am_e3 23 (.if_icmp .ne 5) 3 28 0 0, am_ec 26 (.iconst 1) 1 0 1, am_e0 27 (.ireturn) 1, am_e0 28 (.aload_n 0) 1, am_e3 29 (.getfield 35) 3 6 7 248, am_e3 32 (.iload_n 2) 1 2 0 0, am_e3 33 (.invokevirtual 81) 3 29 2 530, am_e0 36 (.aload_n 0) 1, am_e3 37 (.getfield 44) 3 6 0 234, am_e3 40 (.getfield 52) 3 7 1 182, am_e3 43 (.getfield 170) 3 3 2 108, am_e3 46 (.iload_n 1) 1 1 0 0, am_e3 47 (.invokevirtual 81) 3 29 2 530, am_e3 50 (.if_icmp .ge 7) 3 57 0 0, am_ec 53 (.iconst 2) 1 0 2, am_e3 54 (.goto 4) 3 58 0 0, am_ec 57 (.iconst 0) 1 0 0, am_e0 58 (.ireturn) 1]
set_option maxRecDepth 100000 in
def km_Sale_priceOf : List am_E := [am_e0 0 (.aload_n 0) 1, am_e3 1 (.getfield 29) 3 6 5 246, am_e3 4 (.iload_n 1) 1 1 0 0, am_e3 5 (.invokevirtual 81) 3 29 2 530, am_e3 8 (.istore_n 2) 1 2 0 0, am_e0 9 (.aload_n 0) 1, am_e3 10 (.iload_n 1) 1 1 0 0, am_ec 11 (.iconst 1) 1 0 1, am_e3 12 (.invokevirtual 161) 3 36 3 573, am_e3 15 (.istore_n 3) 1 3 0 0, am_e3 16 (.iload_n 3) 1 3 0 0, am_ec 17 (.bipush (-5)) 2 0 (-5), am_e3 19 (.if_icmp .eq 26) 3 45 0 0, am_e3 22 (.iload_n 2) 1 2 0 0, am_e0 23 (.aload_n 0) 1, am_e3 24 (.getfield 44) 3 6 0 234, am_e3 27 (.getfield 111) 3 7 0 179, am_e0 30 (.aload_n 0) 1, am_e3 31 (.getfield 35) 3 6 7 248, am_e3 34 (.iload_n 3) 1 3 0 0, am_e3 35 (.invokevirtual 81) 3 29 2 530, am_e3 38 (.invokevirtual 173) 3 67 2 585, am_e3 41 (.invokestatic 176) 3 1000 2 586, am_e3 44 (.istore_n 2) 1 2 0 0, am_e3 45 (.iload_n 2) 1 2 0 0, am_e0 46 (.aload_n 0) 1, am_e3 47 (.getfield 35) 3 6 7 248, am_e0 50 (.aload_n 0) 1, am_e3 51 (.iload_n 1) 1 1 0 0, am_ec 52 (.iconst 0) 1 0 0, am_e3 53 (.invokevirtual 161) 3 36 3 573, am_e3 56 (.invokevirtual 81) 3 29 2 530, am_e3 59 (.invokestatic 118) 3 1001 2 539, am_e0 62 (.ireturn) 1]
set_option maxRecDepth 100000 in
def km_Sale_leastAmount : List am_E := [am_e0 0 (.aload_n 0) 1, am_e3 1 (.iload_n 1) 1 1 0 0, am_e3 2 (.iload_n 2) 1 2 0 0, am_e3 3 (.iload_n 3) 1 3 0 0, am_e3 4 (.invokevirtual 179) 3 51 4 708, am_e3 7 (.istore 4) 2 4 0 0, am_e3 9 (.iload 4) 2 4 0 0, am_e3 11 (.ifCond .le 8) 3 19 0 0, am_e3 14 (.iload 4) 2 4 0 0, am_e3 16 (.goto 14) 3 30 0 0, am_e0 19 (.aload_n 0) 1, am_e3 20 (.getfield 44) 3 6 0 234, am_e3 23 (.getfield 111) 3 7 0 179, am_ec 26 (.iconst 0) 1 0 0, am_e3 27 (.invokevirtual 173) 3 67 2 585, am_e3 30 (.istore 5) 2 5 0 0, am_e3 32 (.iload 5) 2 5 0 0, am_ec 34 (.ldc 183) 2 712 1000000, am_e3 36 (.if_icmp .gt 19) 3 55 0 0, am_e3 39 (.iload 4) 2 4 0 0, am_e0 41 (.aload_n 0) 1, am_e3 42 (.iload_n 2) 1 2 0 0, am_e3 43 (.iload_n 1) 1 1 0 0, am_e3 44 (.invokevirtual 107) 3 37 3 535, am_e3 47 (.if_icmp .gt 8) 3 55 0 0, am_e3 50 (.iload 5) 2 5 0 0, am_e3 52 (.goto 5) 3 57 0 0, am_ec 55 (.bipush (-5)) 2 0 (-5), am_e0 57 (.ireturn) 1]
set_option maxRecDepth 100000 in
def km_Sale_leastWorth : List am_E := [am_e0 0 (.aload_n 0) 1, am_e3 1 (.getfield 29) 3 6 5 246, am_e3 4 (.iload_n 2) 1 2 0 0, am_e3 5 (.invokevirtual 81) 3 29 2 530, am_e3 8 (.istore 4) 2 4 0 0, am_ec 10 (.iconst 0) 1 0 0, am_e3 11 (.istore 5) 2 5 0 0, am_e3 13 (.iload 5) 2 5 0 0, am_e0 15 (.aload_n 0) 1, am_e3 16 (.getfield 26) 3 6 4 244, am_e3 19 (.iload_n 2) 1 2 0 0, am_e3 20 (.invokevirtual 81) 3 29 2 530, am_e3 23 (.if_icmp .ge 103) 3 126 0 0, am_e0 26 (.aload_n 0) 1, am_e3 27 (.iload_n 2) 1 2 0 0, am_e3 28 (.iload 5) 2 5 0 0, am_e3 30 (.invokevirtual 161) 3 36 3 573, am_e3 33 (.istore 6) 2 6 0 0, am_e0 35 (.aload_n 0) 1, am_e3 36 (.getfield 35) 3 6 7 248, am_e3 39 (.iload 6) 2 6 0 0, am_e3 41 (.invokevirtual 81) 3 29 2 530, am_e3 44 (.istore 7) 2 7 0 0, am_e0 46 (.aload_n 0) 1, am_e3 47 (.getfield 44) 3 6 0 234, am_e3 50 (.getfield 93) 3 7 4 191, am_e3 53 (.getfield 105) 3 0 0 138, am_e3 56 (.iload 6) 2 6 0 0, am_e3 58 (.invokevirtual 81) 3 29 2 530, am_e3 61 (.iload_n 1) 1 1 0 0, am_e3 62 (.if_icmp .eq 26) 3 88 0 0, am_e3 65 (.iload_n 3) 1 3 0 0, am_e0 66 (.aload_n 0) 1, am_e3 67 (.getfield 44) 3 6 0 234, am_e3 70 (.getfield 93) 3 7 4 191, am_e3 73 (.getfield 158) 3 0 3 148, am_e3 76 (.iload 6) 2 6 0 0, am_e3 78 (.invokevirtual 81) 3 29 2 530, am_e3 81 (.if_icmp .ge 7) 3 88 0 0, am_ec 84 (.iconst 1) 1 0 1, am_e3 85 (.goto 4) 3 89 0 0, am_ec 88 (.iconst 0) 1 0 0, am_e3 89 (.istore 8) 2 8 0 0, am_e3 91 (.iload 4) 2 4 0 0, am_e3 93 (.iload 8) 2 8 0 0, am_e3 95 (.ifCond .eq 8) 3 103 0 0, am_e3 98 (.iload 7) 2 7 0 0, am_e3 100 (.goto 15) 3 115 0 0, am_e0 103 (.aload_n 0) 1, am_e3 104 (.getfield 44) 3 6 0 234, am_e3 107 (.getfield 111) 3 7 0 179, am_e3 110 (.iload 7) 2 7 0 0, am_e3 112 (.invokevirtual 173) 3 67 2 585, am_e3 115 (.invokestatic 176) 3 1000 2 586, am_e3 118 (.istore 4) 2 4 0 0, am_ei 120 (.iinc 5 1) 3 5 1, am_e3 123 (.goto (-110)) 3 13 0 0, am_e3 126 (.iload 4) 2 4 0 0, am_e0 128 (.ireturn) 1]
set_option maxRecDepth 100000 in
def km_State_init : List am_E := [am_e0 0 (.aload_n 0) 1, am_e3 1 (.invokespecial 3) 3 1003 1 53, am_e0 4 (.aload_n 0) 1, am_e3 5 (.new 9) 3 8 0 54, am_e0 8 (.dup) 1, am_e3 9 (.invokespecial 11) 3 57 1 56, am_e3 12 (.putfield 12) 3 7 0 177, am_e0 15 (.aload_n 0) 1, am_e3 16 (.new 18) 3 3 0 89, am_e0 19 (.dup) 1, am_e3 20 (.invokespecial 20) 3 18 1 91, am_e3 23 (.putfield 21) 3 7 1 180, am_e0 26 (.aload_n 0) 1, am_e3 27 (.new 25) 3 5 0 127, am_e0 30 (.dup) 1, am_ec 31 (.bipush 8) 2 0 8, am_e3 33 (.invokespecial 27) 3 28 2 128, am_e3 36 (.putfield 30) 3 7 2 184, am_e0 39 (.aload_n 0) 1, am_e3 40 (.new 34) 3 0 0 129, am_e0 43 (.dup) 1, am_e3 44 (.invokespecial 36) 3 0 1 131, am_e3 47 (.putfield 37) 3 7 4 190, am_e0 50 (.aload_n 0) 1, am_e3 51 (.new 25) 3 5 0 127, am_e0 54 (.dup) 1, am_ec 55 (.iconst 4) 1 0 4, am_e3 56 (.invokespecial 27) 3 28 2 128, am_e3 59 (.putfield 41) 3 7 5 193, am_e0 62 (.aload_n 0) 1, am_e3 63 (.getfield 41) 3 7 5 193, am_ec 66 (.iconst 0) 1 0 0, am_ec 67 (.ldc 44) 2 175 50000, am_e3 69 (.invokevirtual 45) 3 30 3 176, am_e0 72 (.aload_n 0) 1, am_e3 73 (.getfield 41) 3 7 5 193, am_ec 76 (.iconst 1) 1 0 1, am_ec 77 (.sipush 150) 3 0 150, am_e3 80 (.invokevirtual 45) 3 30 3 176, am_e0 83 (.aload_n 0) 1, am_e3 84 (.getfield 41) 3 7 5 193, am_ec 87 (.iconst 2) 1 0 2, am_ec 88 (.bipush 100) 2 0 100, am_e3 90 (.invokevirtual 45) 3 30 3 176, am_e0 93 (.aload_n 0) 1, am_e3 94 (.getfield 41) 3 7 5 193, am_ec 97 (.iconst 3) 1 0 3, am_ec 98 (.iconst 2) 1 0 2, am_e3 99 (.invokevirtual 45) 3 30 3 176, am_e0 102 (.return_) 1]
set_option maxRecDepth 100000 in
def km_State_copy : List am_E := [am_e0 0 (.aload_n 0) 1, am_e3 1 (.getfield 12) 3 7 0 177, am_e3 4 (.aload_n 1) 1 1 0 0, am_e3 5 (.getfield 12) 3 7 0 177, am_e3 8 (.invokevirtual 49) 3 58 2 388, am_e0 11 (.aload_n 0) 1, am_e3 12 (.getfield 21) 3 7 1 180, am_e3 15 (.aload_n 1) 1 1 0 0, am_e3 16 (.getfield 21) 3 7 1 180, am_e3 19 (.invokevirtual 53) 3 19 2 402, am_e0 22 (.aload_n 0) 1, am_e3 23 (.getfield 30) 3 7 2 184, am_e3 26 (.aload_n 1) 1 1 0 0, am_e3 27 (.getfield 30) 3 7 2 184, am_e3 30 (.invokevirtual 56) 3 31 2 407, am_e0 33 (.aload_n 0) 1, am_e3 34 (.aload_n 1) 1 1 0 0, am_e3 35 (.getfield 59) 3 7 3 187, am_e3 38 (.putfield 59) 3 7 3 187, am_e0 41 (.aload_n 0) 1, am_e3 42 (.getfield 37) 3 7 4 190, am_e3 45 (.aload_n 1) 1 1 0 0, am_e3 46 (.getfield 37) 3 7 4 190, am_e3 49 (.invokevirtual 63) 3 1 2 408, am_e0 52 (.aload_n 0) 1, am_e3 53 (.getfield 41) 3 7 5 193, am_e3 56 (.aload_n 1) 1 1 0 0, am_e3 57 (.getfield 41) 3 7 5 193, am_e3 60 (.invokevirtual 56) 3 31 2 407, am_e0 63 (.return_) 1]
set_option maxRecDepth 100000 in
def km_State_askingPrice : List am_E := [am_e0 0 (.aload_n 0) 1, am_e3 1 (.getfield 12) 3 7 0 177, am_e0 4 (.aload_n 0) 1, am_e3 5 (.getfield 21) 3 7 1 180, am_e3 8 (.getfield 66) 3 3 1 102, am_e3 11 (.iload_n 1) 1 1 0 0, am_e3 12 (.invokevirtual 69) 3 29 2 506, am_e0 15 (.aload_n 0) 1, am_e3 16 (.getfield 21) 3 7 1 180, am_e3 19 (.getfield 73) 3 3 2 106, am_e3 22 (.iload_n 1) 1 1 0 0, am_e3 23 (.invokevirtual 69) 3 29 2 506, am_e3 26 (.invokestatic 76) 3 1000 2 507, am_e3 29 (.invokevirtual 82) 3 66 2 508, am_e0 32 (.ireturn) 1]
set_option maxRecDepth 100000 in
def km_State_isLate : List am_E := [am_e0 0 (.aload_n 0) 1, am_e3 1 (.getfield 37) 3 7 4 190, am_e3 4 (.getfield 85) 3 0 3 147, am_e3 7 (.iload_n 1) 1 1 0 0, am_e3 8 (.invokevirtual 69) 3 29 2 506, am_e0 11 (.aload_n 0) 1, am_e3 12 (.getfield 41) 3 7 5 193, am_ec 15 (.iconst 0) 1 0 0, am_e3 16 (.invokevirtual 69) 3 29 2 506, am_e3 19 (.if_icmp .le 7) 3 26 0 0, am_ec 22 (.iconst 1) 1 0 1, am_e3 23 (.goto 4) 3 27 0 0, am_ec 26 (.iconst 0) 1 0 0, am_e0 27 (.ireturn) 1]
set_option maxRecDepth 100000 in
def km_State_lateBids : List am_E := [am_ec 0 (.iconst 0) 1 0 0, am_e3 1 (.istore_n 1) 1 1 0 0, am_ec 2 (.iconst 0) 1 0 0, am_e3 3 (.istore_n 2) 1 2 0 0, am_e3 4 (.iload_n 2) 1 2 0 0, am_e0 5 (.aload_n 0) 1, am_e3 6 (.getfield 37) 3 7 4 190, am_e3 9 (.getfield 88) 3 0 6 157, am_e3 12 (.if_icmp .ge 20) 3 32 0 0, am_e0 15 (.aload_n 0) 1, am_e3 16 (.iload_n 2) 1 2 0 0, am_e3 17 (.invokevirtual 91) 3 55 2 631, am_e3 20 (.ifCond .eq 6) 3 26 0 0, am_ei 23 (.iinc 1 1) 3 1 1, am_ei 26 (.iinc 2 1) 3 2 1, am_e3 29 (.goto (-25)) 3 4 0 0, am_e3 32 (.iload_n 1) 1 1 0 0, am_e0 33 (.ireturn) 1]
set_option maxRecDepth 100000 in
def km_Steps_init : List am_E := [am_e0 0 (.aload_n 0) 1, am_e3 1 (.invokespecial 3) 3 1003 1 59, am_e0 4 (.aload_n 0) 1, am_e3 5 (.new 9) 3 5 0 60, am_e0 8 (.dup) 1, am_ec 9 (.bipush 8) 2 0 8, am_e3 11 (.invokespecial 11) 3 28 2 62, am_e3 14 (.putfield 14) 3 8 0 78, am_e0 17 (.aload_n 0) 1, am_e3 18 (.new 9) 3 5 0 60, am_e0 21 (.dup) 1, am_ec 22 (.bipush 8) 2 0 8, am_e3 24 (.invokespecial 11) 3 28 2 62, am_e3 27 (.putfield 20) 3 8 1 79, am_e0 30 (.aload_n 0) 1, am_ec 31 (.iconst 1) 1 0 1, am_e3 32 (.putfield 23) 3 8 2 80, am_e0 35 (.aload_n 0) 1, am_e3 36 (.getfield 20) 3 8 1 79, am_ec 39 (.iconst 0) 1 0 0, am_ec 40 (.iconst 5) 1 0 5, am_e3 41 (.invokevirtual 27) 3 30 3 74, am_e0 44 (.return_) 1]
set_option maxRecDepth 100000 in
def km_Steps_copy : List am_E := [am_e0 0 (.aload_n 0) 1, am_e3 1 (.getfield 14) 3 8 0 78, am_e3 4 (.aload_n 1) 1 1 0 0, am_e3 5 (.getfield 14) 3 8 0 78, am_e3 8 (.invokevirtual 31) 3 31 2 392, am_e0 11 (.aload_n 0) 1, am_e3 12 (.getfield 20) 3 8 1 79, am_e3 15 (.aload_n 1) 1 1 0 0, am_e3 16 (.getfield 20) 3 8 1 79, am_e3 19 (.invokevirtual 31) 3 31 2 392, am_e0 22 (.aload_n 0) 1, am_e3 23 (.aload_n 1) 1 1 0 0, am_e3 24 (.getfield 23) 3 8 2 80, am_e3 27 (.putfield 23) 3 8 2 80, am_e0 30 (.return_) 1]
set_option maxRecDepth 100000 in
def km_Steps_hasBand : List am_E := [am_e0 0 (.aload_n 0) 1, am_e3 1 (.iload_n 1) 1 1 0 0, am_e3 2 (.invokevirtual 35) 3 63 2 364, am_e0 5 (.aload_n 0) 1, am_e3 6 (.getfield 23) 3 8 2 80, am_e3 9 (.if_icmp .ge 7) 3 16 0 0, am_ec 12 (.iconst 1) 1 0 1, am_e3 13 (.goto 4) 3 17 0 0, am_ec 16 (.iconst 0) 1 0 0, am_e0 17 (.ireturn) 1]
set_option maxRecDepth 100000 in
def km_Steps_hasRoomFor : List am_E := [am_e0 0 (.aload_n 0) 1, am_e3 1 (.iload_n 1) 1 1 0 0, am_e3 2 (.invokevirtual 35) 3 63 2 364, am_ec 5 (.bipush 8) 2 0 8, am_e3 7 (.if_icmp .ge 7) 3 14 0 0, am_ec 10 (.iconst 1) 1 0 1, am_e3 11 (.goto 4) 3 15 0 0, am_ec 14 (.iconst 0) 1 0 0, am_e0 15 (.ireturn) 1]
set_option maxRecDepth 100000 in
def km_Steps_putBand : List am_E := [am_e0 0 (.aload_n 0) 1, am_e3 1 (.iload_n 1) 1 1 0 0, am_e3 2 (.invokevirtual 35) 3 63 2 364, am_e3 5 (.istore_n 3) 1 3 0 0, am_e0 6 (.aload_n 0) 1, am_e3 7 (.getfield 14) 3 8 0 78, am_e3 10 (.iload_n 3) 1 3 0 0, am_e3 11 (.iload_n 1) 1 1 0 0, am_e3 12 (.invokevirtual 27) 3 30 3 74, am_e0 15 (.aload_n 0) 1, am_e3 16 (.getfield 20) 3 8 1 79, am_e3 19 (.iload_n 3) 1 3 0 0, am_e3 20 (.iload_n 2) 1 2 0 0, am_e3 21 (.invokevirtual 27) 3 30 3 74, am_e0 24 (.aload_n 0) 1, am_e0 25 (.aload_n 0) 1, am_e3 26 (.getfield 23) 3 8 2 80, am_e3 29 (.iload_n 3) 1 3 0 0, am_ec 30 (.iconst 1) 1 0 1, am_e0 31 (.iadd) 1, am_e3 32 (.invokestatic 39) 3 1000 2 417, am_e3 35 (.putfield 23) 3 8 2 80, am_e0 38 (.return_) 1]
set_option maxRecDepth 100000 in
def km_Steps_dropBand : List am_E := [am_e0 0 (.aload_n 0) 1, am_e3 1 (.iload_n 1) 1 1 0 0, am_e3 2 (.invokevirtual 35) 3 63 2 364, am_e3 5 (.istore_n 2) 1 2 0 0, am_e0 6 (.aload_n 0) 1, am_e3 7 (.getfield 14) 3 8 0 78, am_e3 10 (.iload_n 2) 1 2 0 0, am_e0 11 (.aload_n 0) 1, am_e3 12 (.getfield 14) 3 8 0 78, am_e0 15 (.aload_n 0) 1, am_e3 16 (.getfield 23) 3 8 2 80, am_ec 19 (.iconst 1) 1 0 1, am_e0 20 (.isub) 1, am_e3 21 (.invokevirtual 45) 3 29 2 368, am_e3 24 (.invokevirtual 27) 3 30 3 74, am_e0 27 (.aload_n 0) 1, am_e3 28 (.getfield 20) 3 8 1 79, am_e3 31 (.iload_n 2) 1 2 0 0, am_e0 32 (.aload_n 0) 1, am_e3 33 (.getfield 20) 3 8 1 79, am_e0 36 (.aload_n 0) 1, am_e3 37 (.getfield 23) 3 8 2 80, am_ec 40 (.iconst 1) 1 0 1, am_e0 41 (.isub) 1, am_e3 42 (.invokevirtual 45) 3 29 2 368, am_e3 45 (.invokevirtual 27) 3 30 3 74, am_e0 48 (.aload_n 0) 1, am_e0 49 (.dup) 1, am_e3 50 (.getfield 23) 3 8 2 80, am_ec 53 (.iconst 1) 1 0 1, am_e0 54 (.isub) 1, am_e3 55 (.putfield 23) 3 8 2 80, am_e0 58 (.return_) 1]
set_option maxRecDepth 100000 in
def km_Steps_placeOf : List am_E := [am_ec 0 (.iconst 0) 1 0 0, am_e3 1 (.istore_n 2) 1 2 0 0, am_e3 2 (.iload_n 2) 1 2 0 0, am_e0 3 (.aload_n 0) 1, am_e3 4 (.getfield 23) 3 8 2 80, am_e3 7 (.if_icmp .ge 23) 3 30 0 0, am_e0 10 (.aload_n 0) 1, am_e3 11 (.getfield 14) 3 8 0 78, am_e3 14 (.iload_n 2) 1 2 0 0, am_e3 15 (.invokevirtual 45) 3 29 2 368, am_e3 18 (.iload_n 1) 1 1 0 0, am_e3 19 (.if_icmp .ne 5) 3 24 0 0, am_e3 22 (.iload_n 2) 1 2 0 0, am_e0 23 (.ireturn) 1, am_ei 24 (.iinc 2 1) 3 2 1, am_e3 27 (.goto (-25)) 3 2 0 0, am_e0 30 (.aload_n 0) 1, am_e3 31 (.getfield 23) 3 8 2 80, am_e0 34 (.ireturn) 1]
set_option maxRecDepth 100000 in
def km_Steps_bandOf : List am_E := [am_ec 0 (.iconst 0) 1 0 0, am_e3 1 (.istore_n 2) 1 2 0 0, am_ec 2 (.iconst 1) 1 0 1, am_e3 3 (.istore_n 3) 1 3 0 0, am_e3 4 (.iload_n 3) 1 3 0 0, am_e0 5 (.aload_n 0) 1, am_e3 6 (.getfield 23) 3 8 2 80, am_e3 9 (.if_icmp .ge 40) 3 49 0 0, am_e0 12 (.aload_n 0) 1, am_e3 13 (.getfield 14) 3 8 0 78, am_e3 16 (.iload_n 3) 1 3 0 0, am_e3 17 (.invokevirtual 45) 3 29 2 368, am_e3 20 (.istore 4) 2 4 0 0, am_e3 22 (.iload 4) 2 4 0 0, am_e3 24 (.iload_n 1) 1 1 0 0, am_e3 25 (.if_icmp .gt 18) 3 43 0 0, am_e3 28 (.iload 4) 2 4 0 0, am_e0 30 (.aload_n 0) 1, am_e3 31 (.getfield 14) 3 8 0 78, am_e3 34 (.iload_n 2) 1 2 0 0, am_e3 35 (.invokevirtual 45) 3 29 2 368, am_e3 38 (.if_icmp .le 5) 3 43 0 0, am_e3 41 (.iload_n 3) 1 3 0 0, am_e3 42 (.istore_n 2) 1 2 0 0, am_ei 43 (.iinc 3 1) 3 3 1, am_e3 46 (.goto (-42)) 3 4 0 0, am_e3 49 (.iload_n 2) 1 2 0 0, am_e0 50 (.ireturn) 1]
set_option maxRecDepth 100000 in
def km_Steps_floor : List am_E := [am_e0 0 (.aload_n 0) 1, am_e3 1 (.iload_n 1) 1 1 0 0, am_e3 2 (.invokevirtual 48) 3 64 2 516, am_e3 5 (.istore_n 2) 1 2 0 0, am_e0 6 (.aload_n 0) 1, am_e3 7 (.getfield 14) 3 8 0 78, am_e3 10 (.iload_n 2) 1 2 0 0, am_e3 11 (.invokevirtual 45) 3 29 2 368, am_e3 14 (.istore_n 3) 1 3 0 0, am_e0 15 (.aload_n 0) 1, am_e3 16 (.getfield 20) 3 8 1 79, am_e3 19 (.iload_n 2) 1 2 0 0, am_e3 20 (.invokevirtual 45) 3 29 2 368, am_e3 23 (.istore 4) 2 4 0 0, am_e3 25 (.iload 4) 2 4 0 0, am_e3 27 (.ifCond .le 17) 3 44 0 0, am_e3 30 (.iload_n 3) 1 3 0 0, am_e3 31 (.iload_n 1) 1 1 0 0, am_e3 32 (.iload_n 3) 1 3 0 0, am_e0 33 (.isub) 1, am_e3 34 (.iload 4) 2 4 0 0, am_e0 36 (.idiv) 1, am_e3 37 (.iload 4) 2 4 0 0, am_e0 39 (.imul) 1, am_e0 40 (.iadd) 1, am_e3 41 (.goto 4) 3 45 0 0, am_e3 44 (.iload_n 3) 1 3 0 0, am_e0 45 (.ireturn) 1]
set_option maxRecDepth 100000 in
def km_Steps_ceiling : List am_E := [am_e0 0 (.aload_n 0) 1, am_e3 1 (.iload_n 1) 1 1 0 0, am_e3 2 (.invokevirtual 51) 3 65 2 512, am_e3 5 (.iload_n 1) 1 1 0 0, am_e3 6 (.if_icmp .ne 7) 3 13 0 0, am_e3 9 (.iload_n 1) 1 1 0 0, am_e3 10 (.goto 8) 3 18 0 0, am_e0 13 (.aload_n 0) 1, am_e3 14 (.iload_n 1) 1 1 0 0, am_e3 15 (.invokevirtual 54) 3 67 2 520, am_e0 18 (.ireturn) 1]
set_option maxRecDepth 100000 in
def km_Steps_next : List am_E := [am_e0 0 (.aload_n 0) 1, am_e3 1 (.iload_n 1) 1 1 0 0, am_e3 2 (.invokevirtual 48) 3 64 2 516, am_e3 5 (.istore_n 2) 1 2 0 0, am_e0 6 (.aload_n 0) 1, am_e3 7 (.getfield 14) 3 8 0 78, am_e3 10 (.iload_n 2) 1 2 0 0, am_e3 11 (.invokevirtual 45) 3 29 2 368, am_e3 14 (.istore_n 3) 1 3 0 0, am_e0 15 (.aload_n 0) 1, am_e3 16 (.getfield 20) 3 8 1 79, am_e3 19 (.iload_n 2) 1 2 0 0, am_e3 20 (.invokevirtual 45) 3 29 2 368, am_e3 23 (.istore 4) 2 4 0 0, am_e3 25 (.iload 4) 2 4 0 0, am_e3 27 (.ifCond .le 19) 3 46 0 0, am_e3 30 (.iload_n 3) 1 3 0 0, am_e3 31 (.iload_n 1) 1 1 0 0, am_e3 32 (.iload_n 3) 1 3 0 0, am_e0 33 (.isub) 1, am_e3 34 (.iload 4) 2 4 0 0, am_e0 36 (.idiv) 1, am_ec 37 (.iconst 1) 1 0 1, am_e0 38 (.iadd) 1, am_e3 39 (.iload 4) 2 4 0 0, am_e0 41 (.imul) 1, am_e0 42 (.iadd) 1, am_e3 43 (.goto 5) 3 48 0 0, am_ec 46 (.ldc 57) 2 524 2000000, am_e3 48 (.istore 5) 2 5 0 0, am_ec 50 (.iconst 0) 1 0 0, am_e3 51 (.istore 6) 2 6 0 0, am_e3 53 (.iload 6) 2 6 0 0, am_e0 55 (.aload_n 0) 1, am_e3 56 (.getfield 23) 3 8 2 80, am_e3 59 (.if_icmp .ge 37) 3 96 0 0, am_e0 62 (.aload_n 0) 1, am_e3 63 (.getfield 14) 3 8 0 78, am_e3 66 (.iload 6) 2 6 0 0, am_e3 68 (.invokevirtual 45) 3 29 2 368, am_e3 71 (.istore 7) 2 7 0 0, am_e3 73 (.iload 7) 2 7 0 0, am_e3 75 (.iload_n 1) 1 1 0 0, am_e3 76 (.if_icmp .le 14) 3 90 0 0, am_e3 79 (.iload 7) 2 7 0 0, am_e3 81 (.iload 5) 2 5 0 0, am_e3 83 (.if_icmp .ge 7) 3 90 0 0, am_e3 86 (.iload 7) 2 7 0 0, am_e3 88 (.istore 5) 2 5 0 0, am_ei 90 (.iinc 6 1) 3 6 1, am_e3 93 (.goto (-40)) 3 53 0 0, am_e3 96 (.iload 5) 2 5 0 0, am_e0 98 (.ireturn) 1]
set_option maxRecDepth 100000 in
def km_Pa_init : List am_E := [am_e0 0 (.aload_n 0) 1, am_e3 1 (.invokespecial 3) 3 1003 1 45, am_e0 4 (.aload_n 0) 1, am_e3 5 (.new 9) 3 7 0 48, am_e0 8 (.dup) 1, am_e3 9 (.invokespecial 11) 3 52 1 50, am_e3 12 (.putfield 12) 3 9 0 335, am_e0 15 (.aload_n 0) 1, am_e3 16 (.new 18) 3 1 0 209, am_e0 19 (.dup) 1, am_e3 20 (.invokespecial 20) 3 4 1 211, am_e3 23 (.putfield 21) 3 9 1 336, am_e0 26 (.aload_n 0) 1, am_e3 27 (.new 25) 3 6 0 226, am_e0 30 (.dup) 1, am_e0 31 (.aload_n 0) 1, am_e3 32 (.getfield 12) 3 9 0 335, am_e3 35 (.invokespecial 27) 3 34 2 228, am_e3 38 (.putfield 30) 3 9 2 337, am_e0 41 (.aload_n 0) 1, am_e3 42 (.new 34) 3 4 0 278, am_e0 45 (.dup) 1, am_e0 46 (.aload_n 0) 1, am_e3 47 (.getfield 12) 3 9 0 335, am_e0 50 (.aload_n 0) 1, am_e3 51 (.getfield 30) 3 9 2 337, am_e3 54 (.invokespecial 36) 3 21 3 280, am_e3 57 (.putfield 39) 3 9 3 338, am_e0 60 (.aload_n 0) 1, am_e3 61 (.new 43) 3 2 0 291, am_e0 64 (.dup) 1, am_e3 65 (.invokespecial 45) 3 8 1 293, am_e3 68 (.putfield 46) 3 9 4 339, am_e0 71 (.return_) 1]
set_option maxRecDepth 100000 in
def km_Pa_setBand : List am_E := [am_e3 0 (.iload_n 1) 1 1 0 0, am_ec 1 (.iconst 0) 1 0 0, am_ec 2 (.ldc 50) 2 355 1000000, am_e3 4 (.invokestatic 51) 3 94 3 356, am_e3 7 (.ifCond .ne 13) 3 20 0 0, am_e3 10 (.iload_n 2) 1 2 0 0, am_ec 11 (.iconst 1) 1 0 1, am_ec 12 (.ldc 55) 2 359 100000, am_e3 14 (.invokestatic 51) 3 94 3 356, am_e3 17 (.ifCond .eq 6) 3 23 0 0, am_ec 20 (.bipush (-2)) 2 0 (-2), am_e0 22 (.ireturn) 1, am_e0 23 (.aload_n 0) 1, am_e3 24 (.getfield 12) 3 9 0 335, am_e3 27 (.getfield 56) 3 7 0 178, am_e3 30 (.iload_n 1) 1 1 0 0, am_e3 31 (.invokevirtual 60) 3 60 2 360, am_e3 34 (.ifCond .ne 6) 3 40 0 0, am_ec 37 (.bipush (-3)) 2 0 (-3), am_e0 39 (.ireturn) 1, am_e0 40 (.aload_n 0) 1, am_e3 41 (.invokevirtual 66) 3 99 1 372, am_e0 44 (.aload_n 0) 1, am_e3 45 (.getfield 12) 3 9 0 335, am_e3 48 (.getfield 56) 3 7 0 178, am_e3 51 (.iload_n 1) 1 1 0 0, am_e3 52 (.iload_n 2) 1 2 0 0, am_e3 53 (.invokevirtual 69) 3 61 3 413, am_e0 56 (.aload_n 0) 1, am_e3 57 (.getfield 12) 3 9 0 335, am_e3 60 (.getfield 56) 3 7 0 178, am_e3 63 (.getfield 73) 3 8 2 81, am_e0 66 (.ireturn) 1]
set_option maxRecDepth 100000 in
def km_Pa_removeBand : List am_E := [am_e3 0 (.iload_n 1) 1 1 0 0, am_e3 1 (.ifCond .eq 17) 3 18 0 0, am_e0 4 (.aload_n 0) 1, am_e3 5 (.getfield 12) 3 9 0 335, am_e3 8 (.getfield 56) 3 7 0 178, am_e3 11 (.iload_n 1) 1 1 0 0, am_e3 12 (.invokevirtual 77) 3 59 2 422, am_e3 15 (.ifCond .ne 6) 3 21 0 0, am_ec 18 (.bipush (-4)) 2 0 (-4), am_e0 20 (.ireturn) 1, am_e0 21 (.aload_n 0) 1, am_e3 22 (.invokevirtual 66) 3 99 1 372, am_e0 25 (.aload_n 0) 1, am_e3 26 (.getfield 12) 3 9 0 335, am_e3 29 (.getfield 56) 3 7 0 178, am_e3 32 (.iload_n 1) 1 1 0 0, am_e3 33 (.invokevirtual 80) 3 62 2 426, am_e0 36 (.aload_n 0) 1, am_e3 37 (.getfield 12) 3 9 0 335, am_e3 40 (.getfield 56) 3 7 0 178, am_e3 43 (.getfield 73) 3 8 2 81, am_e0 46 (.ireturn) 1]
set_option maxRecDepth 100000 in
def km_Pa_valid : List am_E := [am_e3 0 (.iload_n 1) 1 1 0 0, am_ec 1 (.iconst 0) 1 0 0, am_ec 2 (.ldc 84) 2 647 2000000, am_e3 4 (.invokestatic 51) 3 94 3 356, am_e3 7 (.ifCond .eq 6) 3 13 0 0, am_ec 10 (.bipush (-2)) 2 0 (-2), am_e0 12 (.ireturn) 1, am_e3 13 (.iload_n 2) 1 2 0 0, am_es 14 (.tableswitch 62 0 2 #[26, 38, 50]) 26 76 [(0, 40), (1, 52), (2, 64)], am_e0 40 (.aload_n 0) 1, am_e3 41 (.getfield 12) 3 9 0 335, am_e3 44 (.getfield 56) 3 7 0 178, am_e3 47 (.iload_n 1) 1 1 0 0, am_e3 48 (.invokevirtual 85) 3 65 2 648, am_e0 51 (.ireturn) 1, am_e0 52 (.aload_n 0) 1, am_e3 53 (.getfield 12) 3 9 0 335, am_e3 56 (.getfield 56) 3 7 0 178, am_e3 59 (.iload_n 1) 1 1 0 0, am_e3 60 (.invokevirtual 89) 3 66 2 649, am_e0 63 (.ireturn) 1, am_e0 64 (.aload_n 0) 1, am_e3 65 (.getfield 12) 3 9 0 335, am_e3 68 (.getfield 56) 3 7 0 178, am_e3 71 (.iload_n 1) 1 1 0 0, am_e3 72 (.invokevirtual 92) 3 67 2 650, am_e0 75 (.ireturn) 1, am_ec 76 (.bipush (-2)) 2 0 (-2), am_e0 78 (.ireturn) 1]
set_option maxRecDepth 100000 in
def km_Pa_addLot : List am_E := [am_e3 0 (.iload_n 1) 1 1 0 0, am_ec 1 (.iconst 0) 1 0 0, am_ec 2 (.iconst 4) 1 0 4, am_e3 3 (.invokestatic 51) 3 94 3 356, am_e3 6 (.ifCond .eq 5) 3 11 0 0, am_ec 9 (.iconst (-1)) 1 0 (-1), am_e0 10 (.ireturn) 1, am_e3 11 (.iload_n 2) 1 2 0 0, am_ec 12 (.iconst 0) 1 0 0, am_ec 13 (.ldc 50) 2 355 1000000, am_e3 15 (.invokestatic 51) 3 94 3 356, am_e3 18 (.ifCond .ne 13) 3 31 0 0, am_e3 21 (.iload_n 3) 1 3 0 0, am_ec 22 (.iconst 0) 1 0 0, am_ec 23 (.ldc 50) 2 355 1000000, am_e3 25 (.invokestatic 51) 3 94 3 356, am_e3 28 (.ifCond .eq 6) 3 34 0 0, am_ec 31 (.bipush (-2)) 2 0 (-2), am_e0 33 (.ireturn) 1, am_e0 34 (.aload_n 0) 1, am_e3 35 (.getfield 12) 3 9 0 335, am_e3 38 (.getfield 95) 3 7 1 183, am_e3 41 (.getfield 99) 3 3 4 115, am_ec 44 (.bipush 20) 2 0 20, am_e3 46 (.if_icmp .lt 6) 3 52 0 0, am_ec 49 (.bipush (-3)) 2 0 (-3), am_e0 51 (.ireturn) 1, am_e0 52 (.aload_n 0) 1, am_e3 53 (.invokevirtual 66) 3 99 1 372, am_e0 56 (.aload_n 0) 1, am_e3 57 (.getfield 12) 3 9 0 335, am_e3 60 (.getfield 95) 3 7 1 183, am_e3 63 (.iload_n 1) 1 1 0 0, am_e3 64 (.iload_n 2) 1 2 0 0, am_e3 65 (.iload_n 3) 1 3 0 0, am_e3 66 (.invokevirtual 102) 3 20 4 434, am_e0 69 (.ireturn) 1]
set_option maxRecDepth 100000 in
def km_Pa_setReserve : List am_E := [am_e0 0 (.aload_n 0) 1, am_e3 1 (.iload_n 1) 1 1 0 0, am_e3 2 (.invokevirtual 106) 3 96 2 443, am_e3 5 (.ifCond .ne 5) 3 10 0 0, am_ec 8 (.iconst (-1)) 1 0 (-1), am_e0 9 (.ireturn) 1, am_e3 10 (.iload_n 2) 1 2 0 0, am_ec 11 (.iconst 0) 1 0 0, am_ec 12 (.ldc 50) 2 355 1000000, am_e3 14 (.invokestatic 51) 3 94 3 356, am_e3 17 (.ifCond .eq 6) 3 23 0 0, am_ec 20 (.bipush (-2)) 2 0 (-2), am_e0 22 (.ireturn) 1, am_e0 23 (.aload_n 0) 1, am_e3 24 (.invokevirtual 66) 3 99 1 372, am_e0 27 (.aload_n 0) 1, am_e3 28 (.getfield 12) 3 9 0 335, am_e3 31 (.getfield 95) 3 7 1 183, am_e3 34 (.getfield 109) 3 3 2 107, am_e3 37 (.iload_n 1) 1 1 0 0, am_e3 38 (.invokevirtual 113) 3 29 2 447, am_e3 41 (.istore_n 3) 1 3 0 0, am_e0 42 (.aload_n 0) 1, am_e3 43 (.getfield 12) 3 9 0 335, am_e3 46 (.getfield 95) 3 7 1 183, am_e3 49 (.getfield 109) 3 3 2 107, am_e3 52 (.iload_n 1) 1 1 0 0, am_e3 53 (.iload_n 2) 1 2 0 0, am_e3 54 (.invokevirtual 118) 3 30 3 448, am_e3 57 (.iload_n 3) 1 3 0 0, am_e0 58 (.ireturn) 1]
set_option maxRecDepth 100000 in
def km_Pa_withdrawLot : List am_E := [am_e0 0 (.aload_n 0) 1, am_e3 1 (.iload_n 1) 1 1 0 0, am_e3 2 (.invokevirtual 106) 3 96 2 443, am_e3 5 (.ifCond .ne 5) 3 10 0 0, am_ec 8 (.iconst (-1)) 1 0 (-1), am_e0 9 (.ireturn) 1, am_e3 10 (.iload_n 2) 1 2 0 0, am_e3 11 (.ifCond .eq 7) 3 18 0 0, am_ec 14 (.iconst 1) 1 0 1, am_e3 15 (.goto 4) 3 19 0 0, am_ec 18 (.iconst 0) 1 0 0, am_e3 19 (.istore_n 3) 1 3 0 0, am_e0 20 (.aload_n 0) 1, am_e3 21 (.getfield 12) 3 9 0 335, am_e3 24 (.getfield 95) 3 7 1 183, am_e3 27 (.getfield 121) 3 3 3 110, am_e3 30 (.iload_n 1) 1 1 0 0, am_e3 31 (.invokevirtual 113) 3 29 2 447, am_e3 34 (.iload_n 3) 1 3 0 0, am_e3 35 (.if_icmp .ne 6) 3 41 0 0, am_ec 38 (.bipush (-4)) 2 0 (-4), am_e0 40 (.ireturn) 1, am_e0 41 (.aload_n 0) 1, am_e3 42 (.invokevirtual 66) 3 99 1 372, am_e0 45 (.aload_n 0) 1, am_e3 46 (.getfield 12) 3 9 0 335, am_e3 49 (.getfield 95) 3 7 1 183, am_e3 52 (.getfield 121) 3 3 3 110, am_e3 55 (.iload_n 1) 1 1 0 0, am_e3 56 (.iload_n 3) 1 3 0 0, am_e3 57 (.invokevirtual 118) 3 30 3 448, am_e0 60 (.aload_n 0) 1, am_e3 61 (.getfield 12) 3 9 0 335, am_e3 64 (.getfield 95) 3 7 1 183, am_e3 67 (.getfield 121) 3 3 3 110, am_e0 70 (.aload_n 0) 1, am_e3 71 (.getfield 12) 3 9 0 335, am_e3 74 (.getfield 95) 3 7 1 183, am_e3 77 (.getfield 99) 3 3 4 115, am_e3 80 (.invokevirtual 124) 3 32 2 453, am_e0 83 (.ireturn) 1]
set_option maxRecDepth 100000 in
def km_Pa_addBidder : List am_E := [am_e3 0 (.iload_n 1) 1 1 0 0, am_ec 1 (.iconst 0) 1 0 0, am_ec 2 (.ldc 127) 2 461 10000000, am_e3 4 (.invokestatic 51) 3 94 3 356, am_e3 7 (.ifCond .eq 6) 3 13 0 0, am_ec 10 (.bipush (-2)) 2 0 (-2), am_e0 12 (.ireturn) 1, am_e0 13 (.aload_n 0) 1, am_e3 14 (.getfield 12) 3 9 0 335, am_e3 17 (.getfield 128) 3 7 3 189, am_ec 20 (.bipush 8) 2 0 8, am_e3 22 (.if_icmp .lt 6) 3 28 0 0, am_ec 25 (.bipush (-3)) 2 0 (-3), am_e0 27 (.ireturn) 1, am_e0 28 (.aload_n 0) 1, am_e3 29 (.invokevirtual 66) 3 99 1 372, am_e0 32 (.aload_n 0) 1, am_e3 33 (.getfield 12) 3 9 0 335, am_e3 36 (.getfield 131) 3 7 2 186, am_e0 39 (.aload_n 0) 1, am_e3 40 (.getfield 12) 3 9 0 335, am_e3 43 (.getfield 128) 3 7 3 189, am_e3 46 (.iload_n 1) 1 1 0 0, am_e3 47 (.invokevirtual 118) 3 30 3 448, am_e0 50 (.aload_n 0) 1, am_e3 51 (.getfield 12) 3 9 0 335, am_e0 54 (.dup) 1, am_e3 55 (.getfield 128) 3 7 3 189, am_ec 58 (.iconst 1) 1 0 1, am_e0 59 (.iadd) 1, am_e3 60 (.putfield 128) 3 7 3 189, am_e0 63 (.aload_n 0) 1, am_e3 64 (.getfield 12) 3 9 0 335, am_e3 67 (.getfield 128) 3 7 3 189, am_ec 70 (.iconst 1) 1 0 1, am_e0 71 (.isub) 1, am_e0 72 (.ireturn) 1]
set_option maxRecDepth 100000 in
def km_Pa_setLimit : List am_E := [am_e0 0 (.aload_n 0) 1, am_e3 1 (.iload_n 1) 1 1 0 0, am_e3 2 (.invokevirtual 134) 3 97 2 466, am_e3 5 (.ifCond .ne 5) 3 10 0 0, am_ec 8 (.iconst (-1)) 1 0 (-1), am_e0 9 (.ireturn) 1, am_e3 10 (.iload_n 2) 1 2 0 0, am_ec 11 (.iconst 0) 1 0 0, am_ec 12 (.ldc 127) 2 461 10000000, am_e3 14 (.invokestatic 51) 3 94 3 356, am_e3 17 (.ifCond .eq 6) 3 23 0 0, am_ec 20 (.bipush (-2)) 2 0 (-2), am_e0 22 (.ireturn) 1, am_e0 23 (.aload_n 0) 1, am_e3 24 (.invokevirtual 66) 3 99 1 372, am_e0 27 (.aload_n 0) 1, am_e3 28 (.getfield 12) 3 9 0 335, am_e3 31 (.getfield 131) 3 7 2 186, am_e3 34 (.iload_n 1) 1 1 0 0, am_e3 35 (.invokevirtual 113) 3 29 2 447, am_e3 38 (.istore_n 3) 1 3 0 0, am_e0 39 (.aload_n 0) 1, am_e3 40 (.getfield 12) 3 9 0 335, am_e3 43 (.getfield 131) 3 7 2 186, am_e3 46 (.iload_n 1) 1 1 0 0, am_e3 47 (.iload_n 2) 1 2 0 0, am_e3 48 (.invokevirtual 118) 3 30 3 448, am_e3 51 (.iload_n 3) 1 3 0 0, am_e0 52 (.ireturn) 1]
set_option maxRecDepth 100000 in
def km_Pa_set : List am_E := [am_e3 0 (.iload_n 1) 1 1 0 0, am_ec 1 (.iconst 0) 1 0 0, am_ec 2 (.iconst 3) 1 0 3, am_e3 3 (.invokestatic 51) 3 94 3 356, am_e3 6 (.ifCond .eq 5) 3 11 0 0, am_ec 9 (.iconst (-1)) 1 0 (-1), am_e0 10 (.ireturn) 1, am_e3 11 (.iload_n 2) 1 2 0 0, am_ec 12 (.iconst 0) 1 0 0, am_e3 13 (.iload_n 1) 1 1 0 0, am_e3 14 (.invokestatic 137) 3 95 1 474, am_e3 17 (.invokestatic 51) 3 94 3 356, am_e3 20 (.ifCond .eq 6) 3 26 0 0, am_ec 23 (.bipush (-2)) 2 0 (-2), am_e0 25 (.ireturn) 1, am_e0 26 (.aload_n 0) 1, am_e3 27 (.invokevirtual 66) 3 99 1 372, am_e0 30 (.aload_n 0) 1, am_e3 31 (.getfield 12) 3 9 0 335, am_e3 34 (.getfield 140) 3 7 5 195, am_e3 37 (.iload_n 1) 1 1 0 0, am_e3 38 (.invokevirtual 113) 3 29 2 447, am_e3 41 (.istore_n 3) 1 3 0 0, am_e0 42 (.aload_n 0) 1, am_e3 43 (.getfield 12) 3 9 0 335, am_e3 46 (.getfield 140) 3 7 5 195, am_e3 49 (.iload_n 1) 1 1 0 0, am_e3 50 (.iload_n 2) 1 2 0 0, am_e3 51 (.invokevirtual 118) 3 30 3 448, am_e3 54 (.iload_n 3) 1 3 0 0, am_e0 55 (.ireturn) 1]
set_option maxRecDepth 100000 in
def km_Pa_bid : List am_E := [am_e0 0 (.aload_n 0) 1, am_e3 1 (.iload_n 1) 1 1 0 0, am_e3 2 (.invokevirtual 134) 3 97 2 466, am_e3 5 (.ifCond .eq 11) 3 16 0 0, am_e0 8 (.aload_n 0) 1, am_e3 9 (.iload_n 2) 1 2 0 0, am_e3 10 (.invokevirtual 106) 3 96 2 443, am_e3 13 (.ifCond .ne 5) 3 18 0 0, am_ec 16 (.iconst (-1)) 1 0 (-1), am_e0 17 (.ireturn) 1, am_e3 18 (.iload_n 3) 1 3 0 0, am_ec 19 (.iconst 1) 1 0 1, am_ec 20 (.ldc 50) 2 355 1000000, am_e3 22 (.invokestatic 51) 3 94 3 356, am_e3 25 (.ifCond .ne 25) 3 50 0 0, am_e3 28 (.iload 4) 2 4 0 0, am_ec 30 (.iconst 0) 1 0 0, am_ec 31 (.ldc 55) 2 359 100000, am_e3 33 (.invokestatic 51) 3 94 3 356, am_e3 36 (.ifCond .ne 14) 3 50 0 0, am_e3 39 (.iload 5) 2 5 0 0, am_ec 41 (.iconst 0) 1 0 0, am_ec 42 (.ldc 50) 2 355 1000000, am_e3 44 (.invokestatic 51) 3 94 3 356, am_e3 47 (.ifCond .eq 6) 3 53 0 0, am_ec 50 (.bipush (-2)) 2 0 (-2), am_e0 52 (.ireturn) 1, am_e0 53 (.aload_n 0) 1, am_e3 54 (.getfield 12) 3 9 0 335, am_e3 57 (.getfield 143) 3 7 4 192, am_e3 60 (.getfield 147) 3 0 6 159, am_ec 63 (.bipush 60) 2 0 60, am_e3 65 (.if_icmp .lt 6) 3 71 0 0, am_ec 68 (.bipush (-3)) 2 0 (-3), am_e0 70 (.ireturn) 1, am_e0 71 (.aload_n 0) 1, am_e3 72 (.invokevirtual 66) 3 99 1 372, am_e0 75 (.aload_n 0) 1, am_e3 76 (.getfield 12) 3 9 0 335, am_e3 79 (.getfield 143) 3 7 4 192, am_e3 82 (.iload_n 1) 1 1 0 0, am_e3 83 (.iload_n 2) 1 2 0 0, am_e3 84 (.iload_n 3) 1 3 0 0, am_e3 85 (.iload 4) 2 4 0 0, am_e3 87 (.iload 5) 2 5 0 0, am_e3 89 (.invokevirtual 150) 3 2 6 481, am_e0 92 (.ireturn) 1]
set_option maxRecDepth 100000 in
def km_Pa_withdrawBid : List am_E := [am_e0 0 (.aload_n 0) 1, am_e3 1 (.iload_n 1) 1 1 0 0, am_e3 2 (.invokevirtual 153) 3 98 2 490, am_e3 5 (.ifCond .ne 5) 3 10 0 0, am_ec 8 (.iconst (-1)) 1 0 (-1), am_e0 9 (.ireturn) 1, am_e0 10 (.aload_n 0) 1, am_e3 11 (.getfield 12) 3 9 0 335, am_e3 14 (.getfield 143) 3 7 4 192, am_e3 17 (.getfield 156) 3 0 5 155, am_e3 20 (.iload_n 1) 1 1 0 0, am_e3 21 (.invokevirtual 113) 3 29 2 447, am_ec 24 (.iconst 1) 1 0 1, am_e3 25 (.if_icmp .ne 6) 3 31 0 0, am_ec 28 (.bipush (-4)) 2 0 (-4), am_e0 30 (.ireturn) 1, am_e0 31 (.aload_n 0) 1, am_e3 32 (.invokevirtual 66) 3 99 1 372, am_e0 35 (.aload_n 0) 1, am_e3 36 (.getfield 12) 3 9 0 335, am_e3 39 (.getfield 143) 3 7 4 192, am_e3 42 (.getfield 156) 3 0 5 155, am_e3 45 (.iload_n 1) 1 1 0 0, am_ec 46 (.iconst 1) 1 0 1, am_e3 47 (.invokevirtual 118) 3 30 3 448, am_e0 50 (.aload_n 0) 1, am_e3 51 (.getfield 12) 3 9 0 335, am_e3 54 (.getfield 143) 3 7 4 192, am_e3 57 (.getfield 157) 3 0 1 142, am_e3 60 (.iload_n 1) 1 1 0 0, am_e3 61 (.invokevirtual 113) 3 29 2 447, am_e0 64 (.ireturn) 1]
set_option maxRecDepth 100000 in
def km_Pa_type : List am_E := [am_e0 0 (.aload_n 0) 1, am_e3 1 (.getfield 46) 3 9 4 339, am_e3 4 (.iload_n 1) 1 1 0 0, am_e3 5 (.invokevirtual 159) 3 9 2 781, am_e3 8 (.ifCond .eq 13) 3 21 0 0, am_e0 11 (.aload_n 0) 1, am_e3 12 (.getfield 46) 3 9 4 339, am_e3 15 (.getfield 163) 3 2 1 301, am_e3 18 (.goto 5) 3 23 0 0, am_ec 21 (.bipush (-3)) 2 0 (-3), am_e0 23 (.ireturn) 1]
set_option maxRecDepth 100000 in
def km_Pa_clearText : List am_E := [am_e0 0 (.aload_n 0) 1, am_e3 1 (.getfield 46) 3 9 4 339, am_e3 4 (.getfield 163) 3 2 1 301, am_e3 7 (.istore_n 1) 1 1 0 0, am_e0 8 (.aload_n 0) 1, am_e3 9 (.getfield 46) 3 9 4 339, am_ec 12 (.iconst 0) 1 0 0, am_e3 13 (.putfield 163) 3 2 1 301, am_e3 16 (.iload_n 1) 1 1 0 0, am_e0 17 (.ireturn) 1]
set_option maxRecDepth 100000 in
def km_Pa_letter : List am_E := [am_e0 0 (.aload_n 0) 1, am_e3 1 (.iload_n 1) 1 1 0 0, am_e3 2 (.invokevirtual 134) 3 97 2 466, am_e3 5 (.ifCond .ne 5) 3 10 0 0, am_ec 8 (.iconst (-1)) 1 0 (-1), am_e0 9 (.ireturn) 1, am_e3 10 (.iload_n 2) 1 2 0 0, am_ec 11 (.iconst 0) 1 0 0, am_ec 12 (.ldc 55) 2 359 100000, am_e3 14 (.invokestatic 51) 3 94 3 356, am_e3 17 (.ifCond .eq 6) 3 23 0 0, am_ec 20 (.bipush (-2)) 2 0 (-2), am_e0 22 (.ireturn) 1, am_e0 23 (.aload_n 0) 1, am_e3 24 (.getfield 46) 3 9 4 339, am_e0 27 (.aload_n 0) 1, am_e3 28 (.getfield 12) 3 9 0 335, am_e3 31 (.getfield 95) 3 7 1 183, am_e3 34 (.getfield 99) 3 3 4 115, am_e3 37 (.invokevirtual 166) 3 11 2 733, am_e3 40 (.istore_n 3) 1 3 0 0, am_e3 41 (.iload_n 3) 1 3 0 0, am_ec 42 (.iconst (-1)) 1 0 (-1), am_e3 43 (.if_icmp .eq 8) 3 51 0 0, am_ec 46 (.bipush (-100)) 2 0 (-100), am_e3 48 (.iload_n 3) 1 3 0 0, am_e0 49 (.isub) 1, am_e0 50 (.ireturn) 1, am_e0 51 (.aload_n 0) 1, am_e3 52 (.getfield 12) 3 9 0 335, am_e3 55 (.getfield 143) 3 7 4 192, am_e3 58 (.getfield 147) 3 0 6 159, am_e0 61 (.aload_n 0) 1, am_e3 62 (.getfield 46) 3 9 4 339, am_e3 65 (.getfield 169) 3 2 5 308, am_e0 68 (.iadd) 1, am_ec 69 (.bipush 60) 2 0 60, am_e3 71 (.if_icmp .le 6) 3 77 0 0, am_ec 74 (.bipush (-3)) 2 0 (-3), am_e0 76 (.ireturn) 1, am_e0 77 (.aload_n 0) 1, am_e3 78 (.invokevirtual 66) 3 99 1 372, am_ec 81 (.iconst 0) 1 0 0, am_e3 82 (.istore 4) 2 4 0 0, am_ec 84 (.iconst 0) 1 0 0, am_e3 85 (.istore 5) 2 5 0 0, am_e3 87 (.iload 5) 2 5 0 0, am_e0 89 (.aload_n 0) 1, am_e3 90 (.getfield 46) 3 9 4 339, am_e3 93 (.getfield 169) 3 2 5 308, am_e3 96 (.if_icmp .ge 97) 3 193 0 0, am_e0 99 (.aload_n 0) 1, am_e3 100 (.getfield 46) 3 9 4 339, am_e3 103 (.iload 5) 2 5 0 0, am_ec 105 (.iconst 1) 1 0 1, am_e0 106 (.isub) 1, am_e3 107 (.iload 5) 2 5 0 0, am_e3 109 (.invokevirtual 172) 3 10 3 763, am_e3 112 (.ifCond .ne 36) 3 148 0 0, am_e0 115 (.aload_n 0) 1, am_e3 116 (.getfield 46) 3 9 4 339, am_e3 119 (.iload 5) 2 5 0 0, am_e3 121 (.iload 5) 2 5 0 0, am_ec 123 (.iconst 1) 1 0 1, am_e0 124 (.iadd) 1, am_e3 125 (.invokevirtual 172) 3 10 3 763, am_e3 128 (.ifCond .eq 17) 3 145 0 0, am_e0 131 (.aload_n 0) 1, am_e3 132 (.getfield 12) 3 9 0 335, am_e3 135 (.getfield 143) 3 7 4 192, am_e3 138 (.iload_n 1) 1 1 0 0, am_e3 139 (.invokevirtual 176) 3 3 2 768, am_e3 142 (.goto 4) 3 146 0 0, am_ec 145 (.iconst 0) 1 0 0, am_e3 146 (.istore 4) 2 4 0 0, am_e0 148 (.aload_n 0) 1, am_e3 149 (.getfield 12) 3 9 0 335, am_e3 152 (.getfield 143) 3 7 4 192, am_e3 155 (.iload_n 1) 1 1 0 0, am_e0 156 (.aload_n 0) 1, am_e3 157 (.getfield 46) 3 9 4 339, am_e3 160 (.getfield 179) 3 2 2 303, am_e3 163 (.iload 5) 2 5 0 0, am_e3 165 (.invokevirtual 113) 3 29 2 447, am_e0 168 (.aload_n 0) 1, am_e3 169 (.getfield 46) 3 9 4 339, am_e3 172 (.getfield 180) 3 2 3 305, am_e3 175 (.iload 5) 2 5 0 0, am_e3 177 (.invokevirtual 113) 3 29 2 447, am_e3 180 (.iload_n 2) 1 2 0 0, am_e3 181 (.iload 4) 2 4 0 0, am_e3 183 (.invokevirtual 150) 3 2 6 481, am_e0 186 (.pop) 1, am_ei 187 (.iinc 5 1) 3 5 1, am_e3 190 (.goto (-103)) 3 87 0 0, am_e0 193 (.aload_n 0) 1, am_e3 194 (.getfield 46) 3 9 4 339, am_e3 197 (.getfield 169) 3 2 5 308, am_e0 200 (.ireturn) 1]
set_option maxRecDepth 100000 in
def km_Pa_undo : List am_E := [am_e0 0 (.aload_n 0) 1, am_e3 1 (.getfield 21) 3 9 1 336, am_e3 4 (.getfield 183) 3 1 1 220, am_e3 7 (.ifCond .gt 6) 3 13 0 0, am_ec 10 (.bipush (-5)) 2 0 (-5), am_e0 12 (.ireturn) 1, am_e0 13 (.aload_n 0) 1, am_e3 14 (.getfield 21) 3 9 1 336, am_e0 17 (.aload_n 0) 1, am_e3 18 (.getfield 12) 3 9 0 335, am_e3 21 (.invokevirtual 184) 3 6 2 718, am_e0 24 (.aload_n 0) 1, am_e3 25 (.getfield 30) 3 9 2 337, am_ec 28 (.iconst 0) 1 0 0, am_e3 29 (.putfield 187) 3 6 10 254, am_e0 32 (.aload_n 0) 1, am_e3 33 (.getfield 21) 3 9 1 336, am_e3 36 (.getfield 183) 3 1 1 220, am_e0 39 (.ireturn) 1]
set_option maxRecDepth 100000 in
def km_Pa_sale : List am_E := [am_e0 0 (.aload_n 0) 1, am_e3 1 (.iload_n 1) 1 1 0 0, am_e3 2 (.invokevirtual 106) 3 96 2 443, am_e3 5 (.ifCond .ne 5) 3 10 0 0, am_ec 8 (.iconst (-1)) 1 0 (-1), am_e0 9 (.ireturn) 1, am_e0 10 (.aload_n 0) 1, am_e3 11 (.getfield 30) 3 9 2 337, am_e3 14 (.invokevirtual 191) 3 35 1 498, am_e3 17 (.iload_n 2) 1 2 0 0, am_es 18 (.tableswitch 106 0 5 #[38, 50, 62, 74, 86, 96]) 38 124 [(0, 56), (1, 68), (2, 80), (3, 92), (4, 104), (5, 114)], am_e0 56 (.aload_n 0) 1, am_e3 57 (.getfield 30) 3 9 2 337, am_e3 60 (.getfield 194) 3 6 1 237, am_e3 63 (.iload_n 1) 1 1 0 0, am_e3 64 (.invokevirtual 113) 3 29 2 447, am_e0 67 (.ireturn) 1, am_e0 68 (.aload_n 0) 1, am_e3 69 (.getfield 30) 3 9 2 337, am_e3 72 (.getfield 197) 3 6 2 240, am_e3 75 (.iload_n 1) 1 1 0 0, am_e3 76 (.invokevirtual 113) 3 29 2 447, am_e0 79 (.ireturn) 1, am_e0 80 (.aload_n 0) 1, am_e3 81 (.getfield 30) 3 9 2 337, am_e3 84 (.getfield 200) 3 6 3 243, am_e3 87 (.iload_n 1) 1 1 0 0, am_e3 88 (.invokevirtual 113) 3 29 2 447, am_e0 91 (.ireturn) 1, am_e0 92 (.aload_n 0) 1, am_e3 93 (.getfield 30) 3 9 2 337, am_e3 96 (.getfield 203) 3 6 4 245, am_e3 99 (.iload_n 1) 1 1 0 0, am_e3 100 (.invokevirtual 113) 3 29 2 447, am_e0 103 (.ireturn) 1, am_e0 104 (.aload_n 0) 1, am_e3 105 (.getfield 30) 3 9 2 337, am_e3 108 (.iload_n 1) 1 1 0 0, am_ec 109 (.iconst 0) 1 0 0, am_e3 110 (.invokevirtual 206) 3 36 3 587, am_e0 113 (.ireturn) 1, am_e0 114 (.aload_n 0) 1, am_e3 115 (.getfield 30) 3 9 2 337, am_e3 118 (.iload_n 1) 1 1 0 0, am_ec 119 (.iconst 1) 1 0 1, am_e3 120 (.invokevirtual 206) 3 36 3 587, am_e0 123 (.ireturn) 1, am_ec 124 (.bipush (-2)) 2 0 (-2), am_e0 126 (.ireturn) 1]
set_option maxRecDepth 100000 in
def km_Pa_ranked : List am_E := [am_e0 0 (.aload_n 0) 1, am_e3 1 (.iload_n 1) 1 1 0 0, am_e3 2 (.invokevirtual 106) 3 96 2 443, am_e3 5 (.ifCond .ne 5) 3 10 0 0, am_ec 8 (.iconst (-1)) 1 0 (-1), am_e0 9 (.ireturn) 1, am_e3 10 (.iload_n 2) 1 2 0 0, am_e3 11 (.ifCond .ge 6) 3 17 0 0, am_ec 14 (.bipush (-2)) 2 0 (-2), am_e0 16 (.ireturn) 1, am_e0 17 (.aload_n 0) 1, am_e3 18 (.getfield 30) 3 9 2 337, am_e3 21 (.invokevirtual 191) 3 35 1 498, am_e0 24 (.aload_n 0) 1, am_e3 25 (.getfield 30) 3 9 2 337, am_e3 28 (.iload_n 1) 1 1 0 0, am_e3 29 (.iload_n 2) 1 2 0 0, am_e3 30 (.invokevirtual 206) 3 36 3 587, am_e0 33 (.ireturn) 1]
set_option maxRecDepth 100000 in
def km_Pa_fate : List am_E := [am_e0 0 (.aload_n 0) 1, am_e3 1 (.iload_n 1) 1 1 0 0, am_e3 2 (.invokevirtual 153) 3 98 2 490, am_e3 5 (.ifCond .ne 5) 3 10 0 0, am_ec 8 (.iconst (-1)) 1 0 (-1), am_e0 9 (.ireturn) 1, am_e0 10 (.aload_n 0) 1, am_e3 11 (.getfield 30) 3 9 2 337, am_e3 14 (.invokevirtual 191) 3 35 1 498, am_e0 17 (.aload_n 0) 1, am_e3 18 (.getfield 30) 3 9 2 337, am_e3 21 (.getfield 210) 3 6 8 251, am_e3 24 (.iload_n 1) 1 1 0 0, am_e3 25 (.invokevirtual 113) 3 29 2 447, am_e0 28 (.ireturn) 1]
set_option maxRecDepth 100000 in
def km_Pa_needed : List am_E := [am_e0 0 (.aload_n 0) 1, am_e3 1 (.iload_n 1) 1 1 0 0, am_e3 2 (.invokevirtual 134) 3 97 2 466, am_e3 5 (.ifCond .eq 11) 3 16 0 0, am_e0 8 (.aload_n 0) 1, am_e3 9 (.iload_n 2) 1 2 0 0, am_e3 10 (.invokevirtual 106) 3 96 2 443, am_e3 13 (.ifCond .ne 5) 3 18 0 0, am_ec 16 (.iconst (-1)) 1 0 (-1), am_e0 17 (.ireturn) 1, am_e3 18 (.iload_n 3) 1 3 0 0, am_ec 19 (.iconst 0) 1 0 0, am_ec 20 (.ldc 55) 2 359 100000, am_e3 22 (.invokestatic 51) 3 94 3 356, am_e3 25 (.ifCond .eq 6) 3 31 0 0, am_ec 28 (.bipush (-2)) 2 0 (-2), am_e0 30 (.ireturn) 1, am_e0 31 (.aload_n 0) 1, am_e3 32 (.getfield 12) 3 9 0 335, am_e3 35 (.getfield 143) 3 7 4 192, am_e3 38 (.getfield 147) 3 0 6 159, am_ec 41 (.bipush 60) 2 0 60, am_e3 43 (.if_icmp .ge 36) 3 79 0 0, am_e0 46 (.aload_n 0) 1, am_e3 47 (.getfield 12) 3 9 0 335, am_e3 50 (.getfield 95) 3 7 1 183, am_e3 53 (.getfield 121) 3 3 3 110, am_e3 56 (.iload_n 2) 1 2 0 0, am_e3 57 (.invokevirtual 113) 3 29 2 447, am_ec 60 (.iconst 1) 1 0 1, am_e3 61 (.if_icmp .eq 18) 3 79 0 0, am_e3 64 (.iload_n 3) 1 3 0 0, am_e0 65 (.aload_n 0) 1, am_e3 66 (.getfield 12) 3 9 0 335, am_e3 69 (.getfield 140) 3 7 5 195, am_ec 72 (.iconst 0) 1 0 0, am_e3 73 (.invokevirtual 113) 3 29 2 447, am_e3 76 (.if_icmp .le 6) 3 82 0 0, am_ec 79 (.bipush (-5)) 2 0 (-5), am_e0 81 (.ireturn) 1, am_e0 82 (.aload_n 0) 1, am_e3 83 (.getfield 30) 3 9 2 337, am_e3 86 (.invokevirtual 191) 3 35 1 498, am_e0 89 (.aload_n 0) 1, am_e3 90 (.getfield 30) 3 9 2 337, am_e3 93 (.iload_n 1) 1 1 0 0, am_e3 94 (.iload_n 2) 1 2 0 0, am_e3 95 (.iload_n 3) 1 3 0 0, am_e3 96 (.invokevirtual 213) 3 50 4 704, am_e0 99 (.ireturn) 1]
set_option maxRecDepth 100000 in
def km_Pa_lot : List am_E := [am_e0 0 (.aload_n 0) 1, am_e3 1 (.iload_n 1) 1 1 0 0, am_e3 2 (.invokevirtual 106) 3 96 2 443, am_e3 5 (.ifCond .ne 5) 3 10 0 0, am_ec 8 (.iconst (-1)) 1 0 (-1), am_e0 9 (.ireturn) 1, am_e3 10 (.iload_n 2) 1 2 0 0, am_es 11 (.tableswitch 131 0 5 #[37, 52, 67, 82, 97, 106]) 37 142 [(0, 48), (1, 63), (2, 78), (3, 93), (4, 108), (5, 117)], am_e0 48 (.aload_n 0) 1, am_e3 49 (.getfield 12) 3 9 0 335, am_e3 52 (.getfield 95) 3 7 1 183, am_e3 55 (.getfield 216) 3 3 0 100, am_e3 58 (.iload_n 1) 1 1 0 0, am_e3 59 (.invokevirtual 113) 3 29 2 447, am_e0 62 (.ireturn) 1, am_e0 63 (.aload_n 0) 1, am_e3 64 (.getfield 12) 3 9 0 335, am_e3 67 (.getfield 95) 3 7 1 183, am_e3 70 (.getfield 219) 3 3 1 104, am_e3 73 (.iload_n 1) 1 1 0 0, am_e3 74 (.invokevirtual 113) 3 29 2 447, am_e0 77 (.ireturn) 1, am_e0 78 (.aload_n 0) 1, am_e3 79 (.getfield 12) 3 9 0 335, am_e3 82 (.getfield 95) 3 7 1 183, am_e3 85 (.getfield 109) 3 3 2 107, am_e3 88 (.iload_n 1) 1 1 0 0, am_e3 89 (.invokevirtual 113) 3 29 2 447, am_e0 92 (.ireturn) 1, am_e0 93 (.aload_n 0) 1, am_e3 94 (.getfield 12) 3 9 0 335, am_e3 97 (.getfield 95) 3 7 1 183, am_e3 100 (.getfield 121) 3 3 3 110, am_e3 103 (.iload_n 1) 1 1 0 0, am_e3 104 (.invokevirtual 113) 3 29 2 447, am_e0 107 (.ireturn) 1, am_e0 108 (.aload_n 0) 1, am_e3 109 (.getfield 12) 3 9 0 335, am_e3 112 (.iload_n 1) 1 1 0 0, am_e3 113 (.invokevirtual 222) 3 54 2 592, am_e0 116 (.ireturn) 1, am_e0 117 (.aload_n 0) 1, am_e3 118 (.getfield 12) 3 9 0 335, am_e3 121 (.getfield 143) 3 7 4 192, am_e3 124 (.getfield 157) 3 0 1 142, am_e3 127 (.iload_n 1) 1 1 0 0, am_e0 128 (.aload_n 0) 1, am_e3 129 (.getfield 12) 3 9 0 335, am_e3 132 (.getfield 143) 3 7 4 192, am_e3 135 (.getfield 147) 3 0 6 159, am_e3 138 (.invokevirtual 225) 3 33 3 593, am_e0 141 (.ireturn) 1, am_ec 142 (.bipush (-2)) 2 0 (-2), am_e0 144 (.ireturn) 1]
set_option maxRecDepth 100000 in
def km_Pa_bidOf : List am_E := [am_e0 0 (.aload_n 0) 1, am_e3 1 (.iload_n 1) 1 1 0 0, am_e3 2 (.invokevirtual 153) 3 98 2 490, am_e3 5 (.ifCond .ne 5) 3 10 0 0, am_ec 8 (.iconst (-1)) 1 0 (-1), am_e0 9 (.ireturn) 1, am_e0 10 (.aload_n 0) 1, am_e3 11 (.getfield 30) 3 9 2 337, am_e3 14 (.invokevirtual 191) 3 35 1 498, am_e3 17 (.iload_n 2) 1 2 0 0, am_es 18 (.tableswitch 144 0 6 #[42, 57, 72, 87, 102, 117, 132]) 42 162 [(0, 60), (1, 75), (2, 90), (3, 105), (4, 120), (5, 135), (6, 150)], am_e0 60 (.aload_n 0) 1, am_e3 61 (.getfield 12) 3 9 0 335, am_e3 64 (.getfield 143) 3 7 4 192, am_e3 67 (.getfield 157) 3 0 1 142, am_e3 70 (.iload_n 1) 1 1 0 0, am_e3 71 (.invokevirtual 113) 3 29 2 447, am_e0 74 (.ireturn) 1, am_e0 75 (.aload_n 0) 1, am_e3 76 (.getfield 12) 3 9 0 335, am_e3 79 (.getfield 143) 3 7 4 192, am_e3 82 (.getfield 228) 3 0 0 139, am_e3 85 (.iload_n 1) 1 1 0 0, am_e3 86 (.invokevirtual 113) 3 29 2 447, am_e0 89 (.ireturn) 1, am_e0 90 (.aload_n 0) 1, am_e3 91 (.getfield 12) 3 9 0 335, am_e3 94 (.getfield 143) 3 7 4 192, am_e3 97 (.getfield 230) 3 0 2 145, am_e3 100 (.iload_n 1) 1 1 0 0, am_e3 101 (.invokevirtual 113) 3 29 2 447, am_e0 104 (.ireturn) 1, am_e0 105 (.aload_n 0) 1, am_e3 106 (.getfield 12) 3 9 0 335, am_e3 109 (.getfield 143) 3 7 4 192, am_e3 112 (.getfield 231) 3 0 3 149, am_e3 115 (.iload_n 1) 1 1 0 0, am_e3 116 (.invokevirtual 113) 3 29 2 447, am_e0 119 (.ireturn) 1, am_e0 120 (.aload_n 0) 1, am_e3 121 (.getfield 12) 3 9 0 335, am_e3 124 (.getfield 143) 3 7 4 192, am_e3 127 (.getfield 234) 3 0 4 152, am_e3 130 (.iload_n 1) 1 1 0 0, am_e3 131 (.invokevirtual 113) 3 29 2 447, am_e0 134 (.ireturn) 1, am_e0 135 (.aload_n 0) 1, am_e3 136 (.getfield 12) 3 9 0 335, am_e3 139 (.getfield 143) 3 7 4 192, am_e3 142 (.getfield 156) 3 0 5 155, am_e3 145 (.iload_n 1) 1 1 0 0, am_e3 146 (.invokevirtual 113) 3 29 2 447, am_e0 149 (.ireturn) 1, am_e0 150 (.aload_n 0) 1, am_e3 151 (.getfield 30) 3 9 2 337, am_e3 154 (.getfield 237) 3 6 7 249, am_e3 157 (.iload_n 1) 1 1 0 0, am_e3 158 (.invokevirtual 113) 3 29 2 447, am_e0 161 (.ireturn) 1, am_ec 162 (.bipush (-2)) 2 0 (-2), am_e0 164 (.ireturn) 1]
set_option maxRecDepth 100000 in
def km_Pa_bidder : List am_E := [am_e0 0 (.aload_n 0) 1, am_e3 1 (.iload_n 1) 1 1 0 0, am_e3 2 (.invokevirtual 134) 3 97 2 466, am_e3 5 (.ifCond .ne 5) 3 10 0 0, am_ec 8 (.iconst (-1)) 1 0 (-1), am_e0 9 (.ireturn) 1, am_e0 10 (.aload_n 0) 1, am_e3 11 (.getfield 30) 3 9 2 337, am_e3 14 (.invokevirtual 191) 3 35 1 498, am_e3 17 (.iload_n 2) 1 2 0 0, am_es 18 (.tableswitch 92 0 3 #[30, 42, 61, 83]) 30 110 [(0, 48), (1, 60), (2, 79), (3, 101)], am_e0 48 (.aload_n 0) 1, am_e3 49 (.getfield 12) 3 9 0 335, am_e3 52 (.getfield 131) 3 7 2 186, am_e3 55 (.iload_n 1) 1 1 0 0, am_e3 56 (.invokevirtual 113) 3 29 2 447, am_e0 59 (.ireturn) 1, am_e0 60 (.aload_n 0) 1, am_e3 61 (.getfield 30) 3 9 2 337, am_e0 64 (.aload_n 0) 1, am_e3 65 (.getfield 12) 3 9 0 335, am_e3 68 (.getfield 95) 3 7 1 183, am_e3 71 (.getfield 99) 3 3 4 115, am_e3 74 (.iload_n 1) 1 1 0 0, am_e3 75 (.invokevirtual 240) 3 37 3 605, am_e0 78 (.ireturn) 1, am_e0 79 (.aload_n 0) 1, am_e3 80 (.getfield 30) 3 9 2 337, am_e3 83 (.getfield 194) 3 6 1 237, am_e3 86 (.iload_n 1) 1 1 0 0, am_e0 87 (.aload_n 0) 1, am_e3 88 (.getfield 12) 3 9 0 335, am_e3 91 (.getfield 95) 3 7 1 183, am_e3 94 (.getfield 99) 3 3 4 115, am_e3 97 (.invokevirtual 225) 3 33 3 593, am_e0 100 (.ireturn) 1, am_e0 101 (.aload_n 0) 1, am_e3 102 (.getfield 39) 3 9 3 338, am_e3 105 (.iload_n 1) 1 1 0 0, am_e3 106 (.invokevirtual 243) 3 22 2 606, am_e0 109 (.ireturn) 1, am_ec 110 (.bipush (-2)) 2 0 (-2), am_e0 112 (.ireturn) 1]
set_option maxRecDepth 100000 in
def km_Pa_seller : List am_E := [am_e3 0 (.iload_n 1) 1 1 0 0, am_ec 1 (.iconst 0) 1 0 0, am_ec 2 (.iconst 4) 1 0 4, am_e3 3 (.invokestatic 51) 3 94 3 356, am_e3 6 (.ifCond .eq 7) 3 13 0 0, am_el 9 (.ldc2_w 246) 3 675 (-9223372036854775808), am_e0 12 (.lreturn) 1, am_e0 13 (.aload_n 0) 1, am_e3 14 (.getfield 30) 3 9 2 337, am_e3 17 (.invokevirtual 191) 3 35 1 498, am_e3 20 (.iload_n 2) 1 2 0 0, am_es 21 (.tableswitch 86 0 3 #[31, 57, 67, 77]) 31 107 [(0, 52), (1, 78), (2, 88), (3, 98)], am_e0 52 (.aload_n 0) 1, am_e3 53 (.getfield 12) 3 9 0 335, am_e3 56 (.getfield 95) 3 7 1 183, am_e3 59 (.getfield 216) 3 3 0 100, am_e3 62 (.iload_n 1) 1 1 0 0, am_e0 63 (.aload_n 0) 1, am_e3 64 (.getfield 12) 3 9 0 335, am_e3 67 (.getfield 95) 3 7 1 183, am_e3 70 (.getfield 99) 3 3 4 115, am_e3 73 (.invokevirtual 225) 3 33 3 593, am_e0 76 (.i2l) 1, am_e0 77 (.lreturn) 1, am_e0 78 (.aload_n 0) 1, am_e3 79 (.getfield 30) 3 9 2 337, am_e3 82 (.iload_n 1) 1 1 0 0, am_e3 83 (.invokevirtual 248) 3 38 2 623, am_e0 86 (.i2l) 1, am_e0 87 (.lreturn) 1, am_e0 88 (.aload_n 0) 1, am_e3 89 (.getfield 39) 3 9 3 338, am_ec 92 (.iconst 0) 1 0 0, am_e3 93 (.iload_n 1) 1 1 0 0, am_e3 94 (.invokevirtual 251) 3 23 3 676, am_e0 97 (.lreturn) 1, am_e0 98 (.aload_n 0) 1, am_e3 99 (.getfield 39) 3 9 3 338, am_e3 102 (.iload_n 1) 1 1 0 0, am_e3 103 (.invokevirtual 255) 3 25 2 680, am_e0 106 (.lreturn) 1, am_el 107 (.ldc2_w 246) 3 675 (-9223372036854775808), am_e0 110 (.lreturn) 1]
set_option maxRecDepth 100000 in
def km_Pa_account : List am_E := [am_e0 0 (.aload_n 0) 1, am_e3 1 (.getfield 30) 3 9 2 337, am_e3 4 (.invokevirtual 191) 3 35 1 498, am_e3 7 (.iload_n 1) 1 1 0 0, am_es 8 (.tableswitch 118 0 6 #[44, 54, 64, 74, 84, 92, 101]) 44 126 [(0, 52), (1, 62), (2, 72), (3, 82), (4, 92), (5, 100), (6, 109)], am_e0 52 (.aload_n 0) 1, am_e3 53 (.getfield 39) 3 9 3 338, am_ec 56 (.iconst 0) 1 0 0, am_ec 57 (.iconst (-1)) 1 0 (-1), am_e3 58 (.invokevirtual 251) 3 23 3 676, am_e0 61 (.lreturn) 1, am_e0 62 (.aload_n 0) 1, am_e3 63 (.getfield 39) 3 9 3 338, am_ec 66 (.iconst 1) 1 0 1, am_ec 67 (.iconst (-1)) 1 0 (-1), am_e3 68 (.invokevirtual 251) 3 23 3 676, am_e0 71 (.lreturn) 1, am_e0 72 (.aload_n 0) 1, am_e3 73 (.getfield 39) 3 9 3 338, am_ec 76 (.iconst 2) 1 0 2, am_ec 77 (.iconst (-1)) 1 0 (-1), am_e3 78 (.invokevirtual 251) 3 23 3 676, am_e0 81 (.lreturn) 1, am_e0 82 (.aload_n 0) 1, am_e3 83 (.getfield 39) 3 9 3 338, am_ec 86 (.iconst 3) 1 0 3, am_ec 87 (.iconst (-1)) 1 0 (-1), am_e3 88 (.invokevirtual 251) 3 23 3 676, am_e0 91 (.lreturn) 1, am_e0 92 (.aload_n 0) 1, am_e3 93 (.getfield 39) 3 9 3 338, am_e3 96 (.invokevirtual 259) 3 24 1 689, am_e0 99 (.lreturn) 1, am_e0 100 (.aload_n 0) 1, am_e3 101 (.getfield 39) 3 9 3 338, am_ec 104 (.iconst (-1)) 1 0 (-1), am_e3 105 (.invokevirtual 255) 3 25 2 680, am_e0 108 (.lreturn) 1, am_e0 109 (.aload_n 0) 1, am_e3 110 (.getfield 39) 3 9 3 338, am_e3 113 (.invokevirtual 259) 3 24 1 689, am_e0 116 (.aload_n 0) 1, am_e3 117 (.getfield 39) 3 9 3 338, am_ec 120 (.iconst (-1)) 1 0 (-1), am_e3 121 (.invokevirtual 255) 3 25 2 680, am_e0 124 (.lsub) 1, am_e0 125 (.lreturn) 1, am_el 126 (.ldc2_w 246) 3 675 (-9223372036854775808), am_e0 129 (.lreturn) 1]
set_option maxRecDepth 100000 in
def km_Pa_count : List am_E := [am_e3 0 (.iload_n 1) 1 1 0 0, am_es 1 (.tableswitch 248 0 13 #[71, 82, 90, 101, 117, 141, 149, 173, 184, 196, 208, 220, 232, 240]) 71 249 [(0, 72), (1, 83), (2, 91), (3, 102), (4, 118), (5, 142), (6, 150), (7, 174), (8, 185), (9, 197), (10, 209), (11, 221), (12, 233), (13, 241)], am_e0 72 (.aload_n 0) 1, am_e3 73 (.getfield 12) 3 9 0 335, am_e3 76 (.getfield 95) 3 7 1 183, am_e3 79 (.getfield 99) 3 3 4 115, am_e0 82 (.ireturn) 1, am_e0 83 (.aload_n 0) 1, am_e3 84 (.getfield 12) 3 9 0 335, am_e3 87 (.getfield 128) 3 7 3 189, am_e0 90 (.ireturn) 1, am_e0 91 (.aload_n 0) 1, am_e3 92 (.getfield 12) 3 9 0 335, am_e3 95 (.getfield 143) 3 7 4 192, am_e3 98 (.getfield 147) 3 0 6 159, am_e0 101 (.ireturn) 1, am_e0 102 (.aload_n 0) 1, am_e3 103 (.getfield 30) 3 9 2 337, am_e3 106 (.invokevirtual 191) 3 35 1 498, am_e0 109 (.aload_n 0) 1, am_e3 110 (.getfield 30) 3 9 2 337, am_ec 113 (.iconst (-1)) 1 0 (-1), am_e3 114 (.invokevirtual 248) 3 38 2 623, am_e0 117 (.ireturn) 1, am_e0 118 (.aload_n 0) 1, am_e3 119 (.getfield 12) 3 9 0 335, am_e3 122 (.getfield 95) 3 7 1 183, am_e3 125 (.getfield 121) 3 3 3 110, am_e0 128 (.aload_n 0) 1, am_e3 129 (.getfield 12) 3 9 0 335, am_e3 132 (.getfield 95) 3 7 1 183, am_e3 135 (.getfield 99) 3 3 4 115, am_e3 138 (.invokevirtual 124) 3 32 2 453, am_e0 141 (.ireturn) 1, am_e0 142 (.aload_n 0) 1, am_e3 143 (.getfield 12) 3 9 0 335, am_e3 146 (.invokevirtual 263) 3 56 1 627, am_e0 149 (.ireturn) 1, am_e0 150 (.aload_n 0) 1, am_e3 151 (.getfield 12) 3 9 0 335, am_e3 154 (.getfield 143) 3 7 4 192, am_e3 157 (.getfield 156) 3 0 5 155, am_e0 160 (.aload_n 0) 1, am_e3 161 (.getfield 12) 3 9 0 335, am_e3 164 (.getfield 143) 3 7 4 192, am_e3 167 (.getfield 147) 3 0 6 159, am_e3 170 (.invokevirtual 124) 3 32 2 453, am_e0 173 (.ireturn) 1, am_e0 174 (.aload_n 0) 1, am_e3 175 (.getfield 12) 3 9 0 335, am_e3 178 (.getfield 56) 3 7 0 178, am_e3 181 (.getfield 73) 3 8 2 81, am_e0 184 (.ireturn) 1, am_e0 185 (.aload_n 0) 1, am_e3 186 (.getfield 12) 3 9 0 335, am_e3 189 (.getfield 140) 3 7 5 195, am_ec 192 (.iconst 0) 1 0 0, am_e3 193 (.invokevirtual 113) 3 29 2 447, am_e0 196 (.ireturn) 1, am_e0 197 (.aload_n 0) 1, am_e3 198 (.getfield 12) 3 9 0 335, am_e3 201 (.getfield 140) 3 7 5 195, am_ec 204 (.iconst 1) 1 0 1, am_e3 205 (.invokevirtual 113) 3 29 2 447, am_e0 208 (.ireturn) 1, am_e0 209 (.aload_n 0) 1, am_e3 210 (.getfield 12) 3 9 0 335, am_e3 213 (.getfield 140) 3 7 5 195, am_ec 216 (.iconst 2) 1 0 2, am_e3 217 (.invokevirtual 113) 3 29 2 447, am_e0 220 (.ireturn) 1, am_e0 221 (.aload_n 0) 1, am_e3 222 (.getfield 12) 3 9 0 335, am_e3 225 (.getfield 140) 3 7 5 195, am_ec 228 (.iconst 3) 1 0 3, am_e3 229 (.invokevirtual 113) 3 29 2 447, am_e0 232 (.ireturn) 1, am_e0 233 (.aload_n 0) 1, am_e3 234 (.getfield 21) 3 9 1 336, am_e3 237 (.getfield 183) 3 1 1 220, am_e0 240 (.ireturn) 1, am_e0 241 (.aload_n 0) 1, am_e3 242 (.getfield 46) 3 9 4 339, am_e3 245 (.getfield 163) 3 2 1 301, am_e0 248 (.ireturn) 1, am_ec 249 (.bipush (-2)) 2 0 (-2), am_e0 251 (.ireturn) 1]
set_option maxRecDepth 100000 in
def km_Pa_isOutside : List am_E := [am_e0 0 (.iload_n 0) 1, am_e3 1 (.iload_n 1) 1 1 0 0, am_e3 2 (.if_icmp .lt 8) 3 10 0 0, am_e0 5 (.iload_n 0) 1, am_e3 6 (.iload_n 2) 1 2 0 0, am_e3 7 (.if_icmp .le 7) 3 14 0 0, am_ec 10 (.iconst 1) 1 0 1, am_e3 11 (.goto 4) 3 15 0 0, am_ec 14 (.iconst 0) 1 0 0, am_e0 15 (.ireturn) 1]
set_option maxRecDepth 100000 in
def km_Pa_mostOfSetting : List am_E := [am_e0 0 (.iload_n 0) 1, am_es 1 (.lookupswitch 34 #[(0, 27), (3, 30)]) 27 35 [(0, 28), (3, 31)], am_ec 28 (.ldc 55) 2 359 100000, am_e0 30 (.ireturn) 1, am_ec 31 (.sipush 1000) 3 0 1000, am_e0 34 (.ireturn) 1, am_ec 35 (.sipush 500) 3 0 500, am_e0 38 (.ireturn) 1]
set_option maxRecDepth 100000 in
def km_Pa_isLot : List am_E := [am_e3 0 (.iload_n 1) 1 1 0 0, am_e3 1 (.ifCond .lt 21) 3 22 0 0, am_e3 4 (.iload_n 1) 1 1 0 0, am_e0 5 (.aload_n 0) 1, am_e3 6 (.getfield 12) 3 9 0 335, am_e3 9 (.getfield 95) 3 7 1 183, am_e3 12 (.getfield 99) 3 3 4 115, am_e3 15 (.if_icmp .ge 7) 3 22 0 0, am_ec 18 (.iconst 1) 1 0 1, am_e3 19 (.goto 4) 3 23 0 0, am_ec 22 (.iconst 0) 1 0 0, am_e0 23 (.ireturn) 1]
set_option maxRecDepth 100000 in
def km_Pa_isBidder : List am_E := [am_e3 0 (.iload_n 1) 1 1 0 0, am_e3 1 (.ifCond .lt 18) 3 19 0 0, am_e3 4 (.iload_n 1) 1 1 0 0, am_e0 5 (.aload_n 0) 1, am_e3 6 (.getfield 12) 3 9 0 335, am_e3 9 (.getfield 128) 3 7 3 189, am_e3 12 (.if_icmp .ge 7) 3 19 0 0, am_ec 15 (.iconst 1) 1 0 1, am_e3 16 (.goto 4) 3 20 0 0, am_ec 19 (.iconst 0) 1 0 0, am_e0 20 (.ireturn) 1]
set_option maxRecDepth 100000 in
def km_Pa_isBid : List am_E := [am_e3 0 (.iload_n 1) 1 1 0 0, am_e3 1 (.ifCond .lt 21) 3 22 0 0, am_e3 4 (.iload_n 1) 1 1 0 0, am_e0 5 (.aload_n 0) 1, am_e3 6 (.getfield 12) 3 9 0 335, am_e3 9 (.getfield 143) 3 7 4 192, am_e3 12 (.getfield 147) 3 0 6 159, am_e3 15 (.if_icmp .ge 7) 3 22 0 0, am_ec 18 (.iconst 1) 1 0 1, am_e3 19 (.goto 4) 3 23 0 0, am_ec 22 (.iconst 0) 1 0 0, am_e0 23 (.ireturn) 1]
set_option maxRecDepth 100000 in
def km_Pa_beginAct : List am_E := [am_e0 0 (.aload_n 0) 1, am_e3 1 (.getfield 21) 3 9 1 336, am_e0 4 (.aload_n 0) 1, am_e3 5 (.getfield 12) 3 9 0 335, am_e3 8 (.invokevirtual 267) 3 5 2 376, am_e0 11 (.aload_n 0) 1, am_e3 12 (.getfield 30) 3 9 2 337, am_ec 15 (.iconst 0) 1 0 0, am_e3 16 (.putfield 187) 3 6 10 254, am_e0 19 (.return_) 1]
set_option maxRecDepth 100000 in
def km_L_cell : List am_E := [am_e3 0 (.iload_n 1) 1 1 0 0, am_e0 1 (.aload_n 0) 1, am_e0 2 (.arraylength) 1, am_e3 3 (.if_icmp .ge 9) 3 12 0 0, am_e0 6 (.aload_n 0) 1, am_e3 7 (.iload_n 1) 1 1 0 0, am_e0 8 (.iaload) 1, am_e3 9 (.goto 11) 3 20 0 0, am_ec 12 (.ldc 7) 2 635 8050009, am_e3 14 (.iload_n 1) 1 1 0 0, am_e0 15 (.imul) 1, am_ec 16 (.sipush 6101) 3 0 6101, am_e0 19 (.iadd) 1, am_e0 20 (.ireturn) 1]
set_option maxRecDepth 100000 in
def km_L_low : List am_E := [am_e0 0 (.iload_n 0) 1, am_ec 1 (.ldc 8) 2 639 2147483647, am_e0 3 (.iand) 1, am_e3 4 (.iload_n 1) 1 1 0 0, am_e0 5 (.irem) 1, am_e0 6 (.ireturn) 1]
set_option maxRecDepth 100000 in
def km_L_lost : List am_E := [am_e0 0 (.lload_n 0) 1, am_el 1 (.ldc2_w 9) 3 696 (-9000000000000000000), am_e0 4 (.lcmp) 1, am_e3 5 (.ifCond .ge 7) 3 12 0 0, am_ec 8 (.iconst 1) 1 0 1, am_e3 9 (.goto 4) 3 13 0 0, am_ec 12 (.iconst 0) 1 0 0, am_e0 13 (.ireturn) 1]
set_option maxRecDepth 100000 in
def km_L_steps : List am_E := [am_e0 0 (.aload_n 0) 1, am_e3 1 (.iload_n 1) 1 1 0 0, am_ec 2 (.iconst 0) 1 0 0, am_e3 3 (.invokevirtual 11) 3 71 3 643, am_e3 6 (.istore_n 2) 1 2 0 0, am_e0 7 (.aload_n 0) 1, am_e3 8 (.iload_n 1) 1 1 0 0, am_ec 9 (.iconst 1) 1 0 1, am_e3 10 (.invokevirtual 11) 3 71 3 643, am_e3 13 (.istore_n 3) 1 3 0 0, am_e0 14 (.aload_n 0) 1, am_e3 15 (.iload_n 1) 1 1 0 0, am_ec 16 (.iconst 2) 1 0 2, am_e3 17 (.invokevirtual 11) 3 71 3 643, am_e3 20 (.istore 4) 2 4 0 0, am_e0 22 (.aload_n 0) 1, am_e3 23 (.iload_n 2) 1 2 0 0, am_ec 24 (.iconst 0) 1 0 0, am_e3 25 (.invokevirtual 11) 3 71 3 643, am_e3 28 (.iload_n 2) 1 2 0 0, am_e3 29 (.if_icmp .ne 52) 3 81 0 0, am_e0 32 (.aload_n 0) 1, am_e3 33 (.iload_n 2) 1 2 0 0, am_ec 34 (.iconst 1) 1 0 1, am_e3 35 (.invokevirtual 11) 3 71 3 643, am_e3 38 (.iload_n 2) 1 2 0 0, am_e3 39 (.if_icmp .ne 42) 3 81 0 0, am_e3 42 (.iload_n 3) 1 3 0 0, am_ec 43 (.ldc 17) 2 651 2000000, am_e3 45 (.if_icmp .gt 13) 3 58 0 0, am_e0 48 (.aload_n 0) 1, am_e3 49 (.iload_n 3) 1 3 0 0, am_ec 50 (.iconst 0) 1 0 0, am_e3 51 (.invokevirtual 11) 3 71 3 643, am_e3 54 (.iload_n 3) 1 3 0 0, am_e3 55 (.if_icmp .ne 26) 3 81 0 0, am_e3 58 (.iload 4) 2 4 0 0, am_ec 60 (.ldc 17) 2 651 2000000, am_e3 62 (.if_icmp .gt 15) 3 77 0 0, am_e0 65 (.aload_n 0) 1, am_e3 66 (.iload 4) 2 4 0 0, am_ec 68 (.iconst 1) 1 0 1, am_e3 69 (.invokevirtual 11) 3 71 3 643, am_e3 72 (.iload 4) 2 4 0 0, am_e3 74 (.if_icmp .ne 7) 3 81 0 0, am_ec 77 (.iconst 1) 1 0 1, am_e3 78 (.goto 4) 3 82 0 0, am_ec 81 (.iconst 0) 1 0 0, am_e3 82 (.istore 5) 2 5 0 0, am_e3 84 (.iload 5) 2 5 0 0, am_e3 86 (.ifCond .eq 110) 3 196 0 0, am_e3 89 (.iload_n 2) 1 2 0 0, am_e3 90 (.iload_n 1) 1 1 0 0, am_e3 91 (.if_icmp .gt 105) 3 196 0 0, am_e3 94 (.iload_n 3) 1 3 0 0, am_e3 95 (.iload_n 1) 1 1 0 0, am_e3 96 (.if_icmp .lt 100) 3 196 0 0, am_e3 99 (.iload 4) 2 4 0 0, am_e3 101 (.iload_n 1) 1 1 0 0, am_e3 102 (.if_icmp .le 94) 3 196 0 0, am_e3 105 (.iload_n 2) 1 2 0 0, am_e3 106 (.iload_n 1) 1 1 0 0, am_e3 107 (.if_icmp .ne 7) 3 114 0 0, am_ec 110 (.iconst 1) 1 0 1, am_e3 111 (.goto 4) 3 115 0 0, am_ec 114 (.iconst 0) 1 0 0, am_e3 115 (.iload_n 3) 1 3 0 0, am_e3 116 (.iload_n 1) 1 1 0 0, am_e3 117 (.if_icmp .ne 7) 3 124 0 0, am_ec 120 (.iconst 1) 1 0 1, am_e3 121 (.goto 4) 3 125 0 0, am_ec 124 (.iconst 0) 1 0 0, am_e3 125 (.if_icmp .ne 71) 3 196 0 0, am_e3 128 (.iload_n 2) 1 2 0 0, am_e3 129 (.iload_n 1) 1 1 0 0, am_e3 130 (.if_icmp .eq 9) 3 139 0 0, am_e3 133 (.iload_n 3) 1 3 0 0, am_e3 134 (.iload 4) 2 4 0 0, am_e3 136 (.if_icmp .ne 60) 3 196 0 0, am_e3 139 (.iload_n 1) 1 1 0 0, am_ec 140 (.ldc 17) 2 651 2000000, am_e3 142 (.if_icmp .eq 16) 3 158 0 0, am_e0 145 (.aload_n 0) 1, am_e3 146 (.iload_n 1) 1 1 0 0, am_ec 147 (.iconst 1) 1 0 1, am_e0 148 (.iadd) 1, am_ec 149 (.iconst 1) 1 0 1, am_e3 150 (.invokevirtual 11) 3 71 3 643, am_e3 153 (.iload 4) 2 4 0 0, am_e3 155 (.if_icmp .ne 41) 3 196 0 0, am_e0 158 (.aload_n 0) 1, am_ec 159 (.iconst (-1)) 1 0 (-1), am_ec 160 (.iconst 0) 1 0 0, am_e3 161 (.invokevirtual 11) 3 71 3 643, am_ec 164 (.bipush (-2)) 2 0 (-2), am_e3 166 (.if_icmp .ne 30) 3 196 0 0, am_e0 169 (.aload_n 0) 1, am_e3 170 (.iload_n 1) 1 1 0 0, am_ec 171 (.iconst 3) 1 0 3, am_e3 172 (.invokevirtual 11) 3 71 3 643, am_ec 175 (.bipush (-2)) 2 0 (-2), am_e3 177 (.if_icmp .ne 19) 3 196 0 0, am_e0 180 (.aload_n 0) 1, am_ec 181 (.ldc 18) 2 652 2000001, am_ec 183 (.iconst 0) 1 0 0, am_e3 184 (.invokevirtual 11) 3 71 3 643, am_ec 187 (.bipush (-2)) 2 0 (-2), am_e3 189 (.if_icmp .ne 7) 3 196 0 0, am_ec 192 (.iconst 1) 1 0 1, am_e3 193 (.goto 4) 3 197 0 0, am_ec 196 (.iconst 0) 1 0 0, am_e0 197 (.ireturn) 1]
set_option maxRecDepth 100000 in
def km_L_ask : List am_E := [am_ec 0 (.iconst 0) 1 0 0, am_e3 1 (.istore 6) 2 6 0 0, am_e3 3 (.iload 6) 2 6 0 0, am_e0 5 (.aload_n 0) 1, am_ec 6 (.iconst 0) 1 0 0, am_e3 7 (.invokevirtual 19) 3 93 2 619, am_e3 10 (.if_icmp .ge 68) 3 78 0 0, am_e3 13 (.aload 5) 2 5 0 0, am_e3 15 (.iload 6) 2 6 0 0, am_e0 17 (.aload_n 0) 1, am_e3 18 (.iload 6) 2 6 0 0, am_ec 20 (.iconst 0) 1 0 0, am_e3 21 (.invokevirtual 23) 3 84 3 494, am_e0 24 (.iastore) 1, am_e3 25 (.aload 5) 2 5 0 0, am_ec 27 (.bipush 20) 2 0 20, am_e3 29 (.iload 6) 2 6 0 0, am_e0 31 (.iadd) 1, am_e0 32 (.aload_n 0) 1, am_e3 33 (.iload 6) 2 6 0 0, am_ec 35 (.iconst 1) 1 0 1, am_e3 36 (.invokevirtual 23) 3 84 3 494, am_e0 39 (.iastore) 1, am_e3 40 (.aload 5) 2 5 0 0, am_ec 42 (.bipush 40) 2 0 40, am_e3 44 (.iload 6) 2 6 0 0, am_e0 46 (.iadd) 1, am_e3 47 (.aload 5) 2 5 0 0, am_e3 49 (.iload 6) 2 6 0 0, am_e0 51 (.iaload) 1, am_e3 52 (.ifCond .ge 7) 3 59 0 0, am_ec 55 (.iconst 0) 1 0 0, am_e3 56 (.goto 15) 3 71 0 0, am_e0 59 (.aload_n 0) 1, am_e0 60 (.aload_n 0) 1, am_e3 61 (.iload 6) 2 6 0 0, am_ec 63 (.iconst 4) 1 0 4, am_e3 64 (.invokevirtual 23) 3 84 3 494, am_ec 67 (.iconst 4) 1 0 4, am_e3 68 (.invokevirtual 26) 3 89 3 597, am_e0 71 (.iastore) 1, am_ei 72 (.iinc 6 1) 3 6 1, am_e3 75 (.goto (-72)) 3 3 0 0, am_ec 78 (.iconst 0) 1 0 0, am_e3 79 (.istore 6) 2 6 0 0, am_e3 81 (.iload 6) 2 6 0 0, am_e0 83 (.aload_n 0) 1, am_ec 84 (.iconst 2) 1 0 2, am_e3 85 (.invokevirtual 19) 3 93 2 619, am_e3 88 (.if_icmp .ge 274) 3 362 0 0, am_e0 91 (.aload_n 0) 1, am_e3 92 (.iload 6) 2 6 0 0, am_ec 94 (.iconst 0) 1 0 0, am_e3 95 (.invokevirtual 26) 3 89 3 597, am_e3 98 (.istore 7) 2 7 0 0, am_e0 100 (.aload_n 0) 1, am_e3 101 (.iload 6) 2 6 0 0, am_ec 103 (.iconst 1) 1 0 1, am_e3 104 (.invokevirtual 26) 3 89 3 597, am_e3 107 (.istore 8) 2 8 0 0, am_e0 109 (.aload_n 0) 1, am_e3 110 (.iload 8) 2 8 0 0, am_ec 112 (.iconst 0) 1 0 0, am_e3 113 (.invokevirtual 29) 3 90 3 601, am_e3 116 (.istore 9) 2 9 0 0, am_ec 118 (.iconst 0) 1 0 0, am_e3 119 (.istore 10) 2 10 0 0, am_ec 121 (.iconst 0) 1 0 0, am_e3 122 (.istore 11) 2 11 0 0, am_e3 124 (.iload 11) 2 11 0 0, am_e3 126 (.iload 7) 2 7 0 0, am_e3 128 (.if_icmp .ge 87) 3 215 0 0, am_e3 131 (.iload 9) 2 9 0 0, am_e3 133 (.aload 5) 2 5 0 0, am_e3 135 (.iload 11) 2 11 0 0, am_e0 137 (.iaload) 1, am_e3 138 (.iload 8) 2 8 0 0, am_e3 140 (.if_icmp .ne 14) 3 154 0 0, am_e3 143 (.aload 5) 2 5 0 0, am_ec 145 (.bipush 20) 2 0 20, am_e3 147 (.iload 11) 2 11 0 0, am_e0 149 (.iadd) 1, am_e0 150 (.iaload) 1, am_e3 151 (.goto 4) 3 155 0 0, am_ec 154 (.iconst 0) 1 0 0, am_e0 155 (.isub) 1, am_e3 156 (.istore 9) 2 9 0 0, am_e3 158 (.iload 10) 2 10 0 0, am_e3 160 (.ifCond .ne 42) 3 202 0 0, am_e3 163 (.aload 5) 2 5 0 0, am_e3 165 (.iload 11) 2 11 0 0, am_e0 167 (.iaload) 1, am_e3 168 (.iload 8) 2 8 0 0, am_e3 170 (.if_icmp .ne 36) 3 206 0 0, am_e3 173 (.aload 5) 2 5 0 0, am_ec 175 (.bipush 40) 2 0 40, am_e3 177 (.iload 11) 2 11 0 0, am_e0 179 (.iadd) 1, am_e0 180 (.iaload) 1, am_e3 181 (.ifCond .le 25) 3 206 0 0, am_e3 184 (.aload 5) 2 5 0 0, am_ec 186 (.bipush 40) 2 0 40, am_e3 188 (.iload 11) 2 11 0 0, am_e0 190 (.iadd) 1, am_e0 191 (.iaload) 1, am_e0 192 (.aload_n 0) 1, am_e3 193 (.iload 6) 2 6 0 0, am_ec 195 (.iconst 4) 1 0 4, am_e3 196 (.invokevirtual 26) 3 89 3 597, am_e3 199 (.if_icmp .ne 7) 3 206 0 0, am_ec 202 (.iconst 1) 1 0 1, am_e3 203 (.goto 4) 3 207 0 0, am_ec 206 (.iconst 0) 1 0 0, am_e3 207 (.istore 10) 2 10 0 0, am_ei 209 (.iinc 11 1) 3 11 1, am_e3 212 (.goto (-88)) 3 124 0 0, am_e0 215 (.aload_n 0) 1, am_e3 216 (.iload 6) 2 6 0 0, am_ec 218 (.iconst 2) 1 0 2, am_e3 219 (.invokevirtual 26) 3 89 3 597, am_e3 222 (.istore 11) 2 11 0 0, am_e3 224 (.aload_n 1) 1 1 0 0, am_e3 225 (.iload 6) 2 6 0 0, am_ec 227 (.bipush 100) 2 0 100, am_e3 229 (.iload 7) 2 7 0 0, am_e0 231 (.imul) 1, am_e3 232 (.iload 8) 2 8 0 0, am_e0 234 (.iadd) 1, am_e0 235 (.iastore) 1, am_e3 236 (.aload 4) 2 4 0 0, am_e3 238 (.iload 6) 2 6 0 0, am_e0 240 (.aload_n 0) 1, am_e3 241 (.iload 6) 2 6 0 0, am_ec 243 (.iconst 3) 1 0 3, am_e3 244 (.invokevirtual 26) 3 89 3 597, am_e0 247 (.iastore) 1, am_e3 248 (.aload_n 2) 1 2 0 0, am_e3 249 (.iload 6) 2 6 0 0, am_e0 251 (.aload_n 0) 1, am_e3 252 (.iload 11) 2 11 0 0, am_e3 254 (.iload 9) 2 9 0 0, am_e3 256 (.if_icmp .ge 8) 3 264 0 0, am_e3 259 (.iload 11) 2 11 0 0, am_e3 261 (.goto 5) 3 266 0 0, am_e3 264 (.iload 9) 2 9 0 0, am_ec 266 (.iconst 0) 1 0 0, am_e3 267 (.invokevirtual 11) 3 71 3 643, am_e0 270 (.iastore) 1, am_e3 271 (.aload_n 3) 1 3 0 0, am_e3 272 (.iload 6) 2 6 0 0, am_e0 274 (.aload_n 0) 1, am_e3 275 (.iload 6) 2 6 0 0, am_ec 277 (.iconst 5) 1 0 5, am_e3 278 (.invokevirtual 26) 3 89 3 597, am_ec 281 (.iconst 1) 1 0 1, am_e3 282 (.if_icmp .ne 7) 3 289 0 0, am_ec 285 (.iconst 1) 1 0 1, am_e3 286 (.goto 69) 3 355 0 0, am_e3 289 (.aload 4) 2 4 0 0, am_e3 291 (.iload 6) 2 6 0 0, am_e0 293 (.iaload) 1, am_e0 294 (.aload_n 0) 1, am_ec 295 (.bipush 8) 2 0 8, am_e3 297 (.invokevirtual 19) 3 93 2 619, am_e3 300 (.if_icmp .le 7) 3 307 0 0, am_ec 303 (.iconst 2) 1 0 2, am_e3 304 (.goto 51) 3 355 0 0, am_e0 307 (.aload_n 0) 1, am_e3 308 (.iload 7) 2 7 0 0, am_ec 310 (.iconst 3) 1 0 3, am_e3 311 (.invokevirtual 32) 3 88 3 588, am_ec 314 (.iconst 1) 1 0 1, am_e3 315 (.if_icmp .ne 7) 3 322 0 0, am_ec 318 (.iconst 3) 1 0 3, am_e3 319 (.goto 36) 3 355 0 0, am_e3 322 (.iload 10) 2 10 0 0, am_e3 324 (.ifCond .eq 7) 3 331 0 0, am_ec 327 (.iconst 4) 1 0 4, am_e3 328 (.goto 27) 3 355 0 0, am_e3 331 (.aload_n 2) 1 2 0 0, am_e3 332 (.iload 6) 2 6 0 0, am_e0 334 (.iaload) 1, am_e0 335 (.aload_n 0) 1, am_e0 336 (.aload_n 0) 1, am_e3 337 (.iload 7) 2 7 0 0, am_ec 339 (.iconst 1) 1 0 1, am_e3 340 (.invokevirtual 32) 3 88 3 588, am_ec 343 (.iconst 1) 1 0 1, am_e3 344 (.invokevirtual 11) 3 71 3 643, am_e3 347 (.if_icmp .ge 7) 3 354 0 0, am_ec 350 (.iconst 5) 1 0 5, am_e3 351 (.goto 4) 3 355 0 0, am_ec 354 (.iconst 0) 1 0 0, am_e0 355 (.iastore) 1, am_ei 356 (.iinc 6 1) 3 6 1, am_e3 359 (.goto (-278)) 3 81 0 0, am_ec 362 (.iconst 0) 1 0 0, am_e3 363 (.istore 6) 2 6 0 0, am_e3 365 (.iload 6) 2 6 0 0, am_e0 367 (.aload_n 0) 1, am_ec 368 (.iconst 2) 1 0 2, am_e3 369 (.invokevirtual 19) 3 93 2 619, am_e3 372 (.if_icmp .ge 123) 3 495 0 0, am_ec 375 (.iconst 0) 1 0 0, am_e3 376 (.istore 7) 2 7 0 0, am_e3 378 (.iload 7) 2 7 0 0, am_e0 380 (.aload_n 0) 1, am_ec 381 (.iconst 2) 1 0 2, am_e3 382 (.invokevirtual 19) 3 93 2 619, am_e3 385 (.if_icmp .ge 104) 3 489 0 0, am_e3 388 (.aload_n 3) 1 3 0 0, am_e3 389 (.iload 6) 2 6 0 0, am_e0 391 (.iaload) 1, am_e3 392 (.ifCond .ne 97) 3 489 0 0, am_e3 395 (.iload 7) 2 7 0 0, am_e3 397 (.iload 6) 2 6 0 0, am_e3 399 (.if_icmp .eq 63) 3 462 0 0, am_e3 402 (.aload_n 1) 1 1 0 0, am_e3 403 (.iload 7) 2 7 0 0, am_e0 405 (.iaload) 1, am_e3 406 (.aload_n 1) 1 1 0 0, am_e3 407 (.iload 6) 2 6 0 0, am_e0 409 (.iaload) 1, am_e3 410 (.if_icmp .ne 52) 3 462 0 0, am_e3 413 (.aload_n 3) 1 3 0 0, am_e3 414 (.iload 7) 2 7 0 0, am_e0 416 (.iaload) 1, am_e3 417 (.ifCond .eq 12) 3 429 0 0, am_e3 420 (.aload_n 3) 1 3 0 0, am_e3 421 (.iload 7) 2 7 0 0, am_e0 423 (.iaload) 1, am_ec 424 (.bipush 6) 2 0 6, am_e3 426 (.if_icmp .ne 36) 3 462 0 0, am_e3 429 (.aload_n 2) 1 2 0 0, am_e3 430 (.iload 7) 2 7 0 0, am_e0 432 (.iaload) 1, am_e3 433 (.aload_n 2) 1 2 0 0, am_e3 434 (.iload 6) 2 6 0 0, am_e0 436 (.iaload) 1, am_e3 437 (.if_icmp .gt 21) 3 458 0 0, am_e3 440 (.aload_n 2) 1 2 0 0, am_e3 441 (.iload 7) 2 7 0 0, am_e0 443 (.iaload) 1, am_e3 444 (.aload_n 2) 1 2 0 0, am_e3 445 (.iload 6) 2 6 0 0, am_e0 447 (.iaload) 1, am_e3 448 (.if_icmp .ne 14) 3 462 0 0, am_e3 451 (.iload 7) 2 7 0 0, am_e3 453 (.iload 6) 2 6 0 0, am_e3 455 (.if_icmp .ge 7) 3 462 0 0, am_ec 458 (.iconst 1) 1 0 1, am_e3 459 (.goto 4) 3 463 0 0, am_ec 462 (.iconst 0) 1 0 0, am_e3 463 (.istore 8) 2 8 0 0, am_e3 465 (.aload_n 3) 1 3 0 0, am_e3 466 (.iload 6) 2 6 0 0, am_e3 468 (.iload 8) 2 8 0 0, am_e3 470 (.ifCond .eq 8) 3 478 0 0, am_ec 473 (.bipush 6) 2 0 6, am_e3 475 (.goto 7) 3 482 0 0, am_e3 478 (.aload_n 3) 1 3 0 0, am_e3 479 (.iload 6) 2 6 0 0, am_e0 481 (.iaload) 1, am_e0 482 (.iastore) 1, am_ei 483 (.iinc 7 1) 3 7 1, am_e3 486 (.goto (-108)) 3 378 0 0, am_ei 489 (.iinc 6 1) 3 6 1, am_e3 492 (.goto (-127)) 3 365 0 0, am_e0 495 (.return_) 1]
set_option maxRecDepth 100000 in
def km_L_lot : List am_E := [am_e0 0 (.aload_n 0) 1, am_ec 1 (.iconst 2) 1 0 2, am_e3 2 (.invokevirtual 19) 3 93 2 619, am_e3 5 (.istore 6) 2 6 0 0, am_e0 7 (.aload_n 0) 1, am_e3 8 (.iload 5) 2 5 0 0, am_ec 10 (.iconst 2) 1 0 2, am_e3 11 (.invokevirtual 32) 3 88 3 588, am_e3 14 (.istore 7) 2 7 0 0, am_e0 16 (.aload_n 0) 1, am_e3 17 (.iload 5) 2 5 0 0, am_ec 19 (.iconst 4) 1 0 4, am_e3 20 (.invokevirtual 32) 3 88 3 588, am_e3 23 (.istore 8) 2 8 0 0, am_ec 25 (.bipush (-5)) 2 0 (-5), am_e3 27 (.istore 9) 2 9 0 0, am_ec 29 (.bipush (-5)) 2 0 (-5), am_e3 31 (.istore 10) 2 10 0 0, am_ec 33 (.iconst 0) 1 0 0, am_e3 34 (.istore 11) 2 11 0 0, am_ec 36 (.iconst 0) 1 0 0, am_e3 37 (.istore 12) 2 12 0 0, am_ec 39 (.iconst 0) 1 0 0, am_e3 40 (.istore 13) 2 13 0 0, am_e3 42 (.iload 13) 2 13 0 0, am_e3 44 (.iload 6) 2 6 0 0, am_e3 46 (.if_icmp .ge 311) 3 357 0 0, am_ec 49 (.iconst 0) 1 0 0, am_e3 50 (.istore 14) 2 14 0 0, am_ec 52 (.iconst 0) 1 0 0, am_e3 53 (.istore 15) 2 15 0 0, am_e3 55 (.iload 15) 2 15 0 0, am_e3 57 (.iload 6) 2 6 0 0, am_e3 59 (.if_icmp .ge 124) 3 183 0 0, am_e3 62 (.aload_n 1) 1 1 0 0, am_e3 63 (.iload 13) 2 13 0 0, am_e0 65 (.iaload) 1, am_ec 66 (.bipush 100) 2 0 100, am_e0 68 (.idiv) 1, am_e3 69 (.iload 5) 2 5 0 0, am_e3 71 (.if_icmp .ne 112) 3 183 0 0, am_e3 74 (.aload_n 3) 1 3 0 0, am_e3 75 (.iload 13) 2 13 0 0, am_e0 77 (.iaload) 1, am_e3 78 (.ifCond .ne 105) 3 183 0 0, am_e3 81 (.aload_n 2) 1 2 0 0, am_e3 82 (.iload 15) 2 15 0 0, am_e0 84 (.iaload) 1, am_e3 85 (.aload_n 2) 1 2 0 0, am_e3 86 (.iload 13) 2 13 0 0, am_e0 88 (.iaload) 1, am_e3 89 (.if_icmp .gt 47) 3 136 0 0, am_e3 92 (.aload_n 2) 1 2 0 0, am_e3 93 (.iload 15) 2 15 0 0, am_e0 95 (.iaload) 1, am_e3 96 (.aload_n 2) 1 2 0 0, am_e3 97 (.iload 13) 2 13 0 0, am_e0 99 (.iaload) 1, am_e3 100 (.if_icmp .ne 40) 3 140 0 0, am_e3 103 (.aload 4) 2 4 0 0, am_e3 105 (.iload 15) 2 15 0 0, am_e0 107 (.iaload) 1, am_e3 108 (.aload 4) 2 4 0 0, am_e3 110 (.iload 13) 2 13 0 0, am_e0 112 (.iaload) 1, am_e3 113 (.if_icmp .lt 23) 3 136 0 0, am_e3 116 (.aload 4) 2 4 0 0, am_e3 118 (.iload 15) 2 15 0 0, am_e0 120 (.iaload) 1, am_e3 121 (.aload 4) 2 4 0 0, am_e3 123 (.iload 13) 2 13 0 0, am_e0 125 (.iaload) 1, am_e3 126 (.if_icmp .ne 14) 3 140 0 0, am_e3 129 (.iload 15) 2 15 0 0, am_e3 131 (.iload 13) 2 13 0 0, am_e3 133 (.if_icmp .ge 7) 3 140 0 0, am_ec 136 (.iconst 1) 1 0 1, am_e3 137 (.goto 4) 3 141 0 0, am_ec 140 (.iconst 0) 1 0 0, am_e3 141 (.istore 16) 2 16 0 0, am_e3 143 (.iload 14) 2 14 0 0, am_e3 145 (.aload_n 1) 1 1 0 0, am_e3 146 (.iload 15) 2 15 0 0, am_e0 148 (.iaload) 1, am_ec 149 (.bipush 100) 2 0 100, am_e0 151 (.idiv) 1, am_e3 152 (.iload 5) 2 5 0 0, am_e3 154 (.if_icmp .ne 19) 3 173 0 0, am_e3 157 (.aload_n 3) 1 3 0 0, am_e3 158 (.iload 15) 2 15 0 0, am_e0 160 (.iaload) 1, am_e3 161 (.ifCond .ne 12) 3 173 0 0, am_e3 164 (.iload 16) 2 16 0 0, am_e3 166 (.ifCond .eq 7) 3 173 0 0, am_ec 169 (.iconst 1) 1 0 1, am_e3 170 (.goto 4) 3 174 0 0, am_ec 173 (.iconst 0) 1 0 0, am_e0 174 (.iadd) 1, am_e3 175 (.istore 14) 2 14 0 0, am_ei 177 (.iinc 15 1) 3 15 1, am_e3 180 (.goto (-125)) 3 55 0 0, am_e3 183 (.aload_n 1) 1 1 0 0, am_e3 184 (.iload 13) 2 13 0 0, am_e0 186 (.iaload) 1, am_ec 187 (.bipush 100) 2 0 100, am_e0 189 (.idiv) 1, am_e3 190 (.iload 5) 2 5 0 0, am_e3 192 (.if_icmp .ne 159) 3 351 0 0, am_e3 195 (.aload_n 3) 1 3 0 0, am_e3 196 (.iload 13) 2 13 0 0, am_e0 198 (.iaload) 1, am_e3 199 (.ifCond .ne 7) 3 206 0 0, am_ec 202 (.iconst 1) 1 0 1, am_e3 203 (.goto 4) 3 207 0 0, am_ec 206 (.iconst 0) 1 0 0, am_e3 207 (.istore 15) 2 15 0 0, am_ei 209 (.iinc 12 1) 3 12 1, am_e3 212 (.iload 11) 2 11 0 0, am_e3 214 (.iload 15) 2 15 0 0, am_e3 216 (.ifCond .eq 7) 3 223 0 0, am_ec 219 (.iconst 1) 1 0 1, am_e3 220 (.goto 4) 3 224 0 0, am_ec 223 (.iconst 0) 1 0 0, am_e0 224 (.iadd) 1, am_e3 225 (.istore 11) 2 11 0 0, am_e3 227 (.iload 15) 2 15 0 0, am_e3 229 (.ifCond .eq 13) 3 242 0 0, am_e3 232 (.iload 14) 2 14 0 0, am_e3 234 (.ifCond .ne 8) 3 242 0 0, am_e3 237 (.iload 13) 2 13 0 0, am_e3 239 (.goto 5) 3 244 0 0, am_e3 242 (.iload 9) 2 9 0 0, am_e3 244 (.istore 9) 2 9 0 0, am_e3 246 (.iload 15) 2 15 0 0, am_e3 248 (.ifCond .eq 14) 3 262 0 0, am_e3 251 (.iload 14) 2 14 0 0, am_ec 253 (.iconst 1) 1 0 1, am_e3 254 (.if_icmp .ne 8) 3 262 0 0, am_e3 257 (.iload 13) 2 13 0 0, am_e3 259 (.goto 5) 3 264 0 0, am_e3 262 (.iload 10) 2 10 0 0, am_e3 264 (.istore 10) 2 10 0 0, am_e3 266 (.iload 15) 2 15 0 0, am_e3 268 (.ifCond .ne 10) 3 278 0 0, am_e3 271 (.aload_n 3) 1 3 0 0, am_e3 272 (.iload 13) 2 13 0 0, am_e0 274 (.iaload) 1, am_e3 275 (.goto 28) 3 303 0 0, am_e3 278 (.iload 14) 2 14 0 0, am_e3 280 (.ifCond .le 8) 3 288 0 0, am_ec 283 (.bipush 7) 2 0 7, am_e3 285 (.goto 18) 3 303 0 0, am_e3 288 (.aload_n 2) 1 2 0 0, am_e3 289 (.iload 13) 2 13 0 0, am_e0 291 (.iaload) 1, am_e3 292 (.iload 7) 2 7 0 0, am_e3 294 (.if_icmp .ge 8) 3 302 0 0, am_ec 297 (.bipush 8) 2 0 8, am_e3 299 (.goto 4) 3 303 0 0, am_ec 302 (.iconst 0) 1 0 0, am_e3 303 (.istore 16) 2 16 0 0, am_e0 305 (.aload_n 0) 1, am_e3 306 (.iload 13) 2 13 0 0, am_e3 308 (.invokevirtual 35) 3 86 2 659, am_e3 311 (.iload 16) 2 16 0 0, am_e3 313 (.if_icmp .ne 36) 3 349 0 0, am_e0 316 (.aload_n 0) 1, am_e3 317 (.iload 13) 2 13 0 0, am_ec 319 (.bipush 6) 2 0 6, am_e3 321 (.invokevirtual 26) 3 89 3 597, am_e3 324 (.aload_n 2) 1 2 0 0, am_e3 325 (.iload 13) 2 13 0 0, am_e0 327 (.iaload) 1, am_e3 328 (.if_icmp .ne 21) 3 349 0 0, am_e3 331 (.iload 15) 2 15 0 0, am_e3 333 (.ifCond .eq 18) 3 351 0 0, am_e0 336 (.aload_n 0) 1, am_e3 337 (.iload 5) 2 5 0 0, am_e3 339 (.iload 14) 2 14 0 0, am_e3 341 (.invokevirtual 38) 3 85 3 663, am_e3 344 (.iload 13) 2 13 0 0, am_e3 346 (.if_icmp .eq 5) 3 351 0 0, am_ec 349 (.iconst 0) 1 0 0, am_e0 350 (.ireturn) 1, am_ei 351 (.iinc 13 1) 3 13 1, am_e3 354 (.goto (-312)) 3 42 0 0, am_e0 357 (.aload_n 0) 1, am_e3 358 (.iload 5) 2 5 0 0, am_ec 360 (.iconst 3) 1 0 3, am_e3 361 (.invokevirtual 32) 3 88 3 588, am_ec 364 (.iconst 1) 1 0 1, am_e3 365 (.if_icmp .ne 7) 3 372 0 0, am_ec 368 (.iconst 3) 1 0 3, am_e3 369 (.goto 26) 3 395 0 0, am_e3 372 (.iload 11) 2 11 0 0, am_e3 374 (.ifCond .ne 7) 3 381 0 0, am_ec 377 (.iconst 1) 1 0 1, am_e3 378 (.goto 17) 3 395 0 0, am_e3 381 (.aload_n 2) 1 2 0 0, am_e3 382 (.iload 9) 2 9 0 0, am_e0 384 (.iaload) 1, am_e3 385 (.iload 7) 2 7 0 0, am_e3 387 (.if_icmp .ge 7) 3 394 0 0, am_ec 390 (.iconst 2) 1 0 2, am_e3 391 (.goto 4) 3 395 0 0, am_ec 394 (.iconst 0) 1 0 0, am_e3 395 (.istore 13) 2 13 0 0, am_e3 397 (.iload 13) 2 13 0 0, am_e3 399 (.ifCond .ne 8) 3 407 0 0, am_e3 402 (.iload 8) 2 8 0 0, am_e3 404 (.goto 4) 3 408 0 0, am_ec 407 (.iconst 0) 1 0 0, am_e3 408 (.istore 14) 2 14 0 0, am_e3 410 (.iload 13) 2 13 0 0, am_e3 412 (.ifCond .ne 35) 3 447 0 0, am_e3 415 (.iload 10) 2 10 0 0, am_e3 417 (.ifCond .lt 30) 3 447 0 0, am_e0 420 (.aload_n 0) 1, am_e3 421 (.aload_n 2) 1 2 0 0, am_e3 422 (.iload 10) 2 10 0 0, am_e0 424 (.iaload) 1, am_ec 425 (.iconst 2) 1 0 2, am_e3 426 (.invokevirtual 11) 3 71 3 643, am_e3 429 (.istore 15) 2 15 0 0, am_e3 431 (.iload 15) 2 15 0 0, am_e3 433 (.iload 14) 2 14 0 0, am_e3 435 (.if_icmp .le 8) 3 443 0 0, am_e3 438 (.iload 15) 2 15 0 0, am_e3 440 (.goto 5) 3 445 0 0, am_e3 443 (.iload 14) 2 14 0 0, am_e3 445 (.istore 14) 2 14 0 0, am_e3 447 (.iload 13) 2 13 0 0, am_e3 449 (.ifCond .ne 18) 3 467 0 0, am_e3 452 (.iload 14) 2 14 0 0, am_e3 454 (.aload_n 2) 1 2 0 0, am_e3 455 (.iload 9) 2 9 0 0, am_e0 457 (.iaload) 1, am_e3 458 (.if_icmp .le 9) 3 467 0 0, am_e3 461 (.aload_n 2) 1 2 0 0, am_e3 462 (.iload 9) 2 9 0 0, am_e0 464 (.iaload) 1, am_e3 465 (.istore 14) 2 14 0 0, am_e0 467 (.aload_n 0) 1, am_e3 468 (.iload 5) 2 5 0 0, am_ec 470 (.iconst 1) 1 0 1, am_e3 471 (.invokevirtual 32) 3 88 3 588, am_e3 474 (.istore 15) 2 15 0 0, am_e0 476 (.aload_n 0) 1, am_e3 477 (.iload 5) 2 5 0 0, am_ec 479 (.iconst 4) 1 0 4, am_e3 480 (.invokevirtual 23) 3 84 3 494, am_e3 483 (.iload 9) 2 9 0 0, am_e3 485 (.if_icmp .ne 44) 3 529 0 0, am_e0 488 (.aload_n 0) 1, am_e3 489 (.iload 5) 2 5 0 0, am_ec 491 (.iconst 5) 1 0 5, am_e3 492 (.invokevirtual 23) 3 84 3 494, am_e3 495 (.iload 10) 2 10 0 0, am_e3 497 (.if_icmp .ne 32) 3 529 0 0, am_e0 500 (.aload_n 0) 1, am_e3 501 (.iload 5) 2 5 0 0, am_e3 503 (.iload 11) 2 11 0 0, am_e3 505 (.invokevirtual 38) 3 85 3 663, am_ec 508 (.bipush (-5)) 2 0 (-5), am_e3 510 (.if_icmp .ne 19) 3 529 0 0, am_e0 513 (.aload_n 0) 1, am_e3 514 (.iload 5) 2 5 0 0, am_ec 516 (.iconst (-1)) 1 0 (-1), am_e3 517 (.invokevirtual 38) 3 85 3 663, am_ec 520 (.bipush (-2)) 2 0 (-2), am_e3 522 (.if_icmp .ne 7) 3 529 0 0, am_ec 525 (.iconst 1) 1 0 1, am_e3 526 (.goto 4) 3 530 0 0, am_ec 529 (.iconst 0) 1 0 0, am_e3 530 (.istore 16) 2 16 0 0, am_e3 532 (.iload 16) 2 16 0 0, am_e3 534 (.ifCond .eq 132) 3 666 0 0, am_e0 537 (.aload_n 0) 1, am_e3 538 (.iload 5) 2 5 0 0, am_ec 540 (.iconst 2) 1 0 2, am_e3 541 (.invokevirtual 23) 3 84 3 494, am_e3 544 (.iload 13) 2 13 0 0, am_e3 546 (.if_icmp .ne 120) 3 666 0 0, am_e0 549 (.aload_n 0) 1, am_e3 550 (.iload 5) 2 5 0 0, am_ec 552 (.iconst 0) 1 0 0, am_e3 553 (.invokevirtual 23) 3 84 3 494, am_e3 556 (.iload 13) 2 13 0 0, am_e3 558 (.ifCond .ne 13) 3 571 0 0, am_e3 561 (.aload_n 1) 1 1 0 0, am_e3 562 (.iload 9) 2 9 0 0, am_e0 564 (.iaload) 1, am_ec 565 (.bipush 100) 2 0 100, am_e0 567 (.irem) 1, am_e3 568 (.goto 5) 3 573 0 0, am_ec 571 (.bipush (-5)) 2 0 (-5), am_e3 573 (.if_icmp .ne 93) 3 666 0 0, am_e0 576 (.aload_n 0) 1, am_e3 577 (.iload 5) 2 5 0 0, am_ec 579 (.iconst 1) 1 0 1, am_e3 580 (.invokevirtual 23) 3 84 3 494, am_e3 583 (.iload 14) 2 14 0 0, am_e3 585 (.if_icmp .ne 81) 3 666 0 0, am_e0 588 (.aload_n 0) 1, am_e3 589 (.iload 5) 2 5 0 0, am_ec 591 (.iconst 3) 1 0 3, am_e3 592 (.invokevirtual 23) 3 84 3 494, am_e3 595 (.iload 11) 2 11 0 0, am_e3 597 (.if_icmp .ne 69) 3 666 0 0, am_e0 600 (.aload_n 0) 1, am_e3 601 (.iload 5) 2 5 0 0, am_ec 603 (.iconst 5) 1 0 5, am_e3 604 (.invokevirtual 32) 3 88 3 588, am_e3 607 (.iload 12) 2 12 0 0, am_e3 609 (.if_icmp .ne 57) 3 666 0 0, am_e3 612 (.iload 8) 2 8 0 0, am_e0 614 (.aload_n 0) 1, am_e3 615 (.iload 15) 2 15 0 0, am_e3 617 (.iload 7) 2 7 0 0, am_e3 619 (.if_icmp .le 8) 3 627 0 0, am_e3 622 (.iload 15) 2 15 0 0, am_e3 624 (.goto 5) 3 629 0 0, am_e3 627 (.iload 7) 2 7 0 0, am_ec 629 (.iconst 1) 1 0 1, am_e3 630 (.invokevirtual 11) 3 71 3 643, am_e3 633 (.if_icmp .ne 33) 3 666 0 0, am_e0 636 (.aload_n 0) 1, am_e3 637 (.iload 5) 2 5 0 0, am_ec 639 (.bipush 6) 2 0 6, am_e3 641 (.invokevirtual 23) 3 84 3 494, am_ec 644 (.bipush (-2)) 2 0 (-2), am_e3 646 (.if_icmp .ne 20) 3 666 0 0, am_e0 649 (.aload_n 0) 1, am_e3 650 (.iload 5) 2 5 0 0, am_ec 652 (.bipush 6) 2 0 6, am_e3 654 (.invokevirtual 32) 3 88 3 588, am_ec 657 (.bipush (-2)) 2 0 (-2), am_e3 659 (.if_icmp .ne 7) 3 666 0 0, am_ec 662 (.iconst 1) 1 0 1, am_e3 663 (.goto 4) 3 667 0 0, am_ec 666 (.iconst 0) 1 0 0, am_e0 667 (.ireturn) 1]
set_option maxRecDepth 100000 in
def km_L_money : List am_E := [am_el 0 (.lconst 0) 1 0 0, am_e3 1 (.lstore_n 1) 1 1 0 0, am_el 2 (.lconst 0) 1 0 0, am_e3 3 (.lstore_n 3) 1 3 0 0, am_el 4 (.lconst 0) 1 0 0, am_e3 5 (.lstore 5) 2 5 0 0, am_el 7 (.lconst 0) 1 0 0, am_e3 8 (.lstore 7) 2 7 0 0, am_ec 10 (.iconst 0) 1 0 0, am_e3 11 (.istore 9) 2 9 0 0, am_ec 13 (.iconst 0) 1 0 0, am_e3 14 (.istore 10) 2 10 0 0, am_ec 16 (.iconst 0) 1 0 0, am_e3 17 (.istore 11) 2 11 0 0, am_e3 19 (.iload 11) 2 11 0 0, am_e0 21 (.aload_n 0) 1, am_ec 22 (.iconst 0) 1 0 0, am_e3 23 (.invokevirtual 19) 3 93 2 619, am_e3 26 (.if_icmp .ge 132) 3 158 0 0, am_e0 29 (.aload_n 0) 1, am_e3 30 (.iload 11) 2 11 0 0, am_ec 32 (.iconst 1) 1 0 1, am_e3 33 (.invokevirtual 23) 3 84 3 494, am_e3 36 (.istore 12) 2 12 0 0, am_e3 38 (.lload_n 1) 1 1 0 0, am_e3 39 (.iload 12) 2 12 0 0, am_e0 41 (.i2l) 1, am_e0 42 (.ladd) 1, am_e3 43 (.lstore_n 1) 1 1 0 0, am_e3 44 (.lload_n 3) 1 3 0 0, am_e3 45 (.iload 12) 2 12 0 0, am_e0 47 (.i2l) 1, am_e0 48 (.aload_n 0) 1, am_ec 49 (.bipush 9) 2 0 9, am_e3 51 (.invokevirtual 19) 3 93 2 619, am_e0 54 (.i2l) 1, am_e0 55 (.lmul) 1, am_el 56 (.ldc2_w 41) 3 670 1000, am_e0 59 (.ldiv) 1, am_e0 60 (.ladd) 1, am_e3 61 (.lstore_n 3) 1 3 0 0, am_e3 62 (.lload 5) 2 5 0 0, am_e3 64 (.iload 12) 2 12 0 0, am_e0 66 (.i2l) 1, am_e0 67 (.aload_n 0) 1, am_ec 68 (.bipush 10) 2 0 10, am_e3 70 (.invokevirtual 19) 3 93 2 619, am_e0 73 (.i2l) 1, am_e0 74 (.lmul) 1, am_el 75 (.ldc2_w 41) 3 670 1000, am_e0 78 (.ldiv) 1, am_e0 79 (.ladd) 1, am_e3 80 (.lstore 5) 2 5 0 0, am_e3 82 (.lload 7) 2 7 0 0, am_e0 84 (.aload_n 0) 1, am_e3 85 (.iload 11) 2 11 0 0, am_ec 87 (.iconst 2) 1 0 2, am_e3 88 (.invokevirtual 23) 3 84 3 494, am_ec 91 (.iconst 1) 1 0 1, am_e3 92 (.if_icmp .eq 14) 3 106 0 0, am_e0 95 (.aload_n 0) 1, am_e3 96 (.iload 11) 2 11 0 0, am_ec 98 (.iconst 2) 1 0 2, am_e3 99 (.invokevirtual 23) 3 84 3 494, am_ec 102 (.iconst 2) 1 0 2, am_e3 103 (.if_icmp .ne 13) 3 116 0 0, am_e0 106 (.aload_n 0) 1, am_ec 107 (.bipush 11) 2 0 11, am_e3 109 (.invokevirtual 19) 3 93 2 619, am_e0 112 (.i2l) 1, am_e3 113 (.goto 4) 3 117 0 0, am_el 116 (.lconst 0) 1 0 0, am_e0 117 (.ladd) 1, am_e3 118 (.lstore 7) 2 7 0 0, am_e3 120 (.iload 9) 2 9 0 0, am_e0 122 (.aload_n 0) 1, am_e3 123 (.iload 11) 2 11 0 0, am_ec 125 (.iconst 2) 1 0 2, am_e3 126 (.invokevirtual 23) 3 84 3 494, am_e3 129 (.ifCond .ne 7) 3 136 0 0, am_ec 132 (.iconst 1) 1 0 1, am_e3 133 (.goto 4) 3 137 0 0, am_ec 136 (.iconst 0) 1 0 0, am_e0 137 (.iadd) 1, am_e3 138 (.istore 9) 2 9 0 0, am_e3 140 (.iload 10) 2 10 0 0, am_e0 142 (.aload_n 0) 1, am_e3 143 (.iload 11) 2 11 0 0, am_ec 145 (.iconst 3) 1 0 3, am_e3 146 (.invokevirtual 32) 3 88 3 588, am_e0 149 (.iadd) 1, am_e3 150 (.istore 10) 2 10 0 0, am_ei 152 (.iinc 11 1) 3 11 1, am_e3 155 (.goto (-136)) 3 19 0 0, am_el 158 (.lconst 0) 1 0 0, am_e3 159 (.lstore 11) 2 11 0 0, am_ec 161 (.iconst 0) 1 0 0, am_e3 162 (.istore 13) 2 13 0 0, am_ec 164 (.iconst 0) 1 0 0, am_e3 165 (.istore 14) 2 14 0 0, am_e3 167 (.iload 14) 2 14 0 0, am_e0 169 (.aload_n 0) 1, am_ec 170 (.iconst 1) 1 0 1, am_e3 171 (.invokevirtual 19) 3 93 2 619, am_e3 174 (.if_icmp .ge 121) 3 295 0 0, am_e3 177 (.lload 11) 2 11 0 0, am_e0 179 (.aload_n 0) 1, am_e3 180 (.iload 14) 2 14 0 0, am_ec 182 (.iconst 3) 1 0 3, am_e3 183 (.invokevirtual 29) 3 90 3 601, am_e0 186 (.i2l) 1, am_e0 187 (.ladd) 1, am_e3 188 (.lstore 11) 2 11 0 0, am_e3 190 (.iload 13) 2 13 0 0, am_e0 192 (.aload_n 0) 1, am_e3 193 (.iload 14) 2 14 0 0, am_ec 195 (.iconst 2) 1 0 2, am_e3 196 (.invokevirtual 29) 3 90 3 601, am_e0 199 (.iadd) 1, am_e3 200 (.istore 13) 2 13 0 0, am_e0 202 (.aload_n 0) 1, am_e3 203 (.iload 14) 2 14 0 0, am_ec 205 (.iconst 0) 1 0 0, am_e3 206 (.invokevirtual 29) 3 90 3 601, am_e3 209 (.istore 15) 2 15 0 0, am_ec 211 (.iconst 0) 1 0 0, am_e3 212 (.istore 16) 2 16 0 0, am_e3 214 (.iload 16) 2 16 0 0, am_e0 216 (.aload_n 0) 1, am_ec 217 (.iconst 0) 1 0 0, am_e3 218 (.invokevirtual 19) 3 93 2 619, am_e3 221 (.if_icmp .ge 37) 3 258 0 0, am_e3 224 (.iload 15) 2 15 0 0, am_e0 226 (.aload_n 0) 1, am_e3 227 (.iload 16) 2 16 0 0, am_ec 229 (.iconst 0) 1 0 0, am_e3 230 (.invokevirtual 23) 3 84 3 494, am_e3 233 (.iload 14) 2 14 0 0, am_e3 235 (.if_icmp .ne 13) 3 248 0 0, am_e0 238 (.aload_n 0) 1, am_e3 239 (.iload 16) 2 16 0 0, am_ec 241 (.iconst 1) 1 0 1, am_e3 242 (.invokevirtual 23) 3 84 3 494, am_e3 245 (.goto 4) 3 249 0 0, am_ec 248 (.iconst 0) 1 0 0, am_e0 249 (.isub) 1, am_e3 250 (.istore 15) 2 15 0 0, am_ei 252 (.iinc 16 1) 3 16 1, am_e3 255 (.goto (-41)) 3 214 0 0, am_e0 258 (.aload_n 0) 1, am_e3 259 (.iload 14) 2 14 0 0, am_ec 261 (.iconst 1) 1 0 1, am_e3 262 (.invokevirtual 29) 3 90 3 601, am_e3 265 (.iload 15) 2 15 0 0, am_e3 267 (.if_icmp .ne 20) 3 287 0 0, am_e3 270 (.iload 15) 2 15 0 0, am_e3 272 (.ifCond .lt 15) 3 287 0 0, am_e0 275 (.aload_n 0) 1, am_e3 276 (.iload 14) 2 14 0 0, am_ec 278 (.iconst 4) 1 0 4, am_e3 279 (.invokevirtual 29) 3 90 3 601, am_ec 282 (.bipush (-2)) 2 0 (-2), am_e3 284 (.if_icmp .eq 5) 3 289 0 0, am_ec 287 (.iconst 0) 1 0 0, am_e0 288 (.ireturn) 1, am_ei 289 (.iinc 14 1) 3 14 1, am_e3 292 (.goto (-125)) 3 167 0 0, am_el 295 (.lconst 0) 1 0 0, am_e3 296 (.lstore 14) 2 14 0 0, am_el 298 (.lconst 0) 1 0 0, am_e3 299 (.lstore 16) 2 16 0 0, am_ec 301 (.iconst 0) 1 0 0, am_e3 302 (.istore 18) 2 18 0 0, am_ec 304 (.iconst 0) 1 0 0, am_e3 305 (.istore 19) 2 19 0 0, am_e3 307 (.iload 19) 2 19 0 0, am_ec 309 (.iconst 5) 1 0 5, am_e3 310 (.if_icmp .ge 46) 3 356 0 0, am_e3 313 (.lload 14) 2 14 0 0, am_e0 315 (.aload_n 0) 1, am_e3 316 (.iload 19) 2 19 0 0, am_ec 318 (.iconst 3) 1 0 3, am_e3 319 (.invokevirtual 43) 3 91 3 671, am_e0 322 (.ladd) 1, am_e3 323 (.lstore 14) 2 14 0 0, am_e3 325 (.lload 16) 2 16 0 0, am_e0 327 (.aload_n 0) 1, am_e3 328 (.iload 19) 2 19 0 0, am_ec 330 (.iconst 2) 1 0 2, am_e3 331 (.invokevirtual 43) 3 91 3 671, am_e0 334 (.ladd) 1, am_e3 335 (.lstore 16) 2 16 0 0, am_e3 337 (.iload 18) 2 18 0 0, am_e0 339 (.aload_n 0) 1, am_e3 340 (.iload 19) 2 19 0 0, am_ec 342 (.iconst 0) 1 0 0, am_e3 343 (.invokevirtual 43) 3 91 3 671, am_e0 346 (.l2i) 1, am_e0 347 (.iadd) 1, am_e3 348 (.istore 18) 2 18 0 0, am_ei 350 (.iinc 19 1) 3 19 1, am_e3 353 (.goto (-46)) 3 307 0 0, am_e0 356 (.aload_n 0) 1, am_ec 357 (.iconst 0) 1 0 0, am_e3 358 (.invokevirtual 47) 3 92 2 685, am_e3 361 (.lload_n 1) 1 1 0 0, am_e0 362 (.lcmp) 1, am_e3 363 (.ifCond .ne 67) 3 430 0 0, am_e0 366 (.aload_n 0) 1, am_ec 367 (.iconst 1) 1 0 1, am_e3 368 (.invokevirtual 47) 3 92 2 685, am_e3 371 (.lload_n 3) 1 3 0 0, am_e0 372 (.lcmp) 1, am_e3 373 (.ifCond .ne 57) 3 430 0 0, am_e0 376 (.aload_n 0) 1, am_ec 377 (.iconst 2) 1 0 2, am_e3 378 (.invokevirtual 47) 3 92 2 685, am_e3 381 (.lload 5) 2 5 0 0, am_e0 383 (.lcmp) 1, am_e3 384 (.ifCond .ne 46) 3 430 0 0, am_e0 387 (.aload_n 0) 1, am_ec 388 (.iconst 3) 1 0 3, am_e3 389 (.invokevirtual 47) 3 92 2 685, am_e3 392 (.lload 7) 2 7 0 0, am_e0 394 (.lcmp) 1, am_e3 395 (.ifCond .ne 35) 3 430 0 0, am_e0 398 (.aload_n 0) 1, am_ec 399 (.iconst 4) 1 0 4, am_e3 400 (.invokevirtual 47) 3 92 2 685, am_e3 403 (.lload_n 1) 1 1 0 0, am_e3 404 (.lload_n 3) 1 3 0 0, am_e0 405 (.ladd) 1, am_e0 406 (.lcmp) 1, am_e3 407 (.ifCond .ne 23) 3 430 0 0, am_e0 410 (.aload_n 0) 1, am_ec 411 (.iconst 5) 1 0 5, am_e3 412 (.invokevirtual 47) 3 92 2 685, am_e3 415 (.lload_n 1) 1 1 0 0, am_e3 416 (.lload 5) 2 5 0 0, am_e0 418 (.lsub) 1, am_e3 419 (.lload 7) 2 7 0 0, am_e0 421 (.lsub) 1, am_e0 422 (.lcmp) 1, am_e3 423 (.ifCond .ne 7) 3 430 0 0, am_ec 426 (.iconst 1) 1 0 1, am_e3 427 (.goto 4) 3 431 0 0, am_ec 430 (.iconst 0) 1 0 0, am_e3 431 (.istore 19) 2 19 0 0, am_e3 433 (.iload 19) 2 19 0 0, am_e3 435 (.ifCond .eq 145) 3 580 0 0, am_e3 438 (.lload 11) 2 11 0 0, am_e3 440 (.lload_n 1) 1 1 0 0, am_e3 441 (.lload_n 3) 1 3 0 0, am_e0 442 (.ladd) 1, am_e0 443 (.lcmp) 1, am_e3 444 (.ifCond .ne 136) 3 580 0 0, am_e3 447 (.lload 14) 2 14 0 0, am_e0 449 (.aload_n 0) 1, am_ec 450 (.iconst 5) 1 0 5, am_e3 451 (.invokevirtual 47) 3 92 2 685, am_e0 454 (.lcmp) 1, am_e3 455 (.ifCond .ne 125) 3 580 0 0, am_e3 458 (.lload 16) 2 16 0 0, am_e3 460 (.lload_n 1) 1 1 0 0, am_e0 461 (.lcmp) 1, am_e3 462 (.ifCond .ne 118) 3 580 0 0, am_e3 465 (.iload 18) 2 18 0 0, am_e0 467 (.aload_n 0) 1, am_ec 468 (.iconst 0) 1 0 0, am_e3 469 (.invokevirtual 19) 3 93 2 619, am_e3 472 (.if_icmp .ne 108) 3 580 0 0, am_e0 475 (.aload_n 0) 1, am_ec 476 (.bipush 6) 2 0 6, am_e3 478 (.invokevirtual 47) 3 92 2 685, am_e0 481 (.aload_n 0) 1, am_ec 482 (.iconst 4) 1 0 4, am_e3 483 (.invokevirtual 47) 3 92 2 685, am_e0 486 (.aload_n 0) 1, am_ec 487 (.iconst 5) 1 0 5, am_e3 488 (.invokevirtual 47) 3 92 2 685, am_e0 491 (.lsub) 1, am_e0 492 (.lcmp) 1, am_e3 493 (.ifCond .ne 87) 3 580 0 0, am_e0 496 (.aload_n 0) 1, am_ec 497 (.bipush 6) 2 0 6, am_e3 499 (.invokevirtual 47) 3 92 2 685, am_e3 502 (.lload_n 3) 1 3 0 0, am_e3 503 (.lload 5) 2 5 0 0, am_e0 505 (.ladd) 1, am_e3 506 (.lload 7) 2 7 0 0, am_e0 508 (.ladd) 1, am_e0 509 (.lcmp) 1, am_e3 510 (.ifCond .ne 70) 3 580 0 0, am_e3 513 (.iload 9) 2 9 0 0, am_e0 515 (.aload_n 0) 1, am_ec 516 (.iconst 3) 1 0 3, am_e3 517 (.invokevirtual 19) 3 93 2 619, am_e3 520 (.if_icmp .ne 60) 3 580 0 0, am_e3 523 (.iload 13) 2 13 0 0, am_e3 525 (.iload 9) 2 9 0 0, am_e3 527 (.if_icmp .ne 53) 3 580 0 0, am_e3 530 (.iload 10) 2 10 0 0, am_e0 532 (.aload_n 0) 1, am_ec 533 (.iconst 4) 1 0 4, am_e3 534 (.invokevirtual 19) 3 93 2 619, am_e3 537 (.if_icmp .ne 43) 3 580 0 0, am_e0 540 (.aload_n 0) 1, am_ec 541 (.bipush 7) 2 0 7, am_e3 543 (.invokevirtual 47) 3 92 2 685, am_e3 546 (.invokestatic 51) 3 102 1 693, am_e3 549 (.ifCond .eq 31) 3 580 0 0, am_e0 552 (.aload_n 0) 1, am_ec 553 (.iconst 5) 1 0 5, am_ec 554 (.iconst 0) 1 0 0, am_e3 555 (.invokevirtual 43) 3 91 3 671, am_e3 558 (.invokestatic 51) 3 102 1 693, am_e3 561 (.ifCond .eq 19) 3 580 0 0, am_e0 564 (.aload_n 0) 1, am_ec 565 (.iconst 0) 1 0 0, am_ec 566 (.iconst 4) 1 0 4, am_e3 567 (.invokevirtual 43) 3 91 3 671, am_e3 570 (.invokestatic 51) 3 102 1 693, am_e3 573 (.ifCond .eq 7) 3 580 0 0, am_ec 576 (.iconst 1) 1 0 1, am_e3 577 (.goto 4) 3 581 0 0, am_ec 580 (.iconst 0) 1 0 0, am_e0 581 (.ireturn) 1]
set_option maxRecDepth 100000 in
def km_L_needs : List am_E := [am_e0 0 (.aload_n 0) 1, am_e3 1 (.iload_n 1) 1 1 0 0, am_e3 2 (.iload_n 2) 1 2 0 0, am_e3 3 (.iload_n 3) 1 3 0 0, am_e3 4 (.invokevirtual 57) 3 87 4 700, am_e3 7 (.istore 4) 2 4 0 0, am_e0 9 (.aload_n 0) 1, am_ec 10 (.iconst 2) 1 0 2, am_e3 11 (.invokevirtual 19) 3 93 2 619, am_e3 14 (.istore 5) 2 5 0 0, am_e3 16 (.iload 4) 2 4 0 0, am_ec 18 (.bipush (-5)) 2 0 (-5), am_e3 20 (.if_icmp .ne 78) 3 98 0 0, am_e3 23 (.iload 5) 2 5 0 0, am_ec 25 (.bipush 60) 2 0 60, am_e3 27 (.if_icmp .ge 32) 3 59 0 0, am_e0 30 (.aload_n 0) 1, am_e3 31 (.iload_n 1) 1 1 0 0, am_e3 32 (.iload_n 2) 1 2 0 0, am_e0 33 (.aload_n 0) 1, am_ec 34 (.ldc 61) 2 713 1000000, am_ec 36 (.iconst 0) 1 0 0, am_e3 37 (.invokevirtual 11) 3 71 3 643, am_e3 40 (.iload_n 3) 1 3 0 0, am_ec 41 (.iconst 0) 1 0 0, am_e3 42 (.invokevirtual 62) 3 78 6 477, am_e3 45 (.iload 5) 2 5 0 0, am_e3 47 (.if_icmp .ne 12) 3 59 0 0, am_e0 50 (.aload_n 0) 1, am_e3 51 (.iload 5) 2 5 0 0, am_e3 53 (.invokevirtual 35) 3 86 2 659, am_e3 56 (.goto 5) 3 61 0 0, am_ec 59 (.bipush 7) 2 0 7, am_e3 61 (.istore 6) 2 6 0 0, am_e3 63 (.iload 6) 2 6 0 0, am_e3 65 (.ifCond .eq 31) 3 96 0 0, am_e3 68 (.iload 5) 2 5 0 0, am_ec 70 (.bipush 60) 2 0 60, am_e3 72 (.if_icmp .eq 10) 3 82 0 0, am_e0 75 (.aload_n 0) 1, am_e3 76 (.invokevirtual 66) 3 83 1 714, am_e3 79 (.ifCond .lt 17) 3 96 0 0, am_e0 82 (.aload_n 0) 1, am_ec 83 (.iconst 2) 1 0 2, am_e3 84 (.invokevirtual 19) 3 93 2 619, am_e3 87 (.iload 5) 2 5 0 0, am_e3 89 (.if_icmp .ne 7) 3 96 0 0, am_ec 92 (.iconst 1) 1 0 1, am_e3 93 (.goto 4) 3 97 0 0, am_ec 96 (.iconst 0) 1 0 0, am_e0 97 (.ireturn) 1, am_e3 98 (.iload 4) 2 4 0 0, am_ec 100 (.iconst 1) 1 0 1, am_e3 101 (.if_icmp .lt 74) 3 175 0 0, am_e3 104 (.iload 4) 2 4 0 0, am_ec 106 (.ldc 61) 2 713 1000000, am_e3 108 (.if_icmp .gt 67) 3 175 0 0, am_e0 111 (.aload_n 0) 1, am_e3 112 (.iload 4) 2 4 0 0, am_ec 114 (.iconst 0) 1 0 0, am_e3 115 (.invokevirtual 11) 3 71 3 643, am_e3 118 (.iload 4) 2 4 0 0, am_e3 120 (.if_icmp .ne 55) 3 175 0 0, am_e0 123 (.aload_n 0) 1, am_e3 124 (.iload_n 1) 1 1 0 0, am_e3 125 (.iload_n 2) 1 2 0 0, am_e3 126 (.iload 4) 2 4 0 0, am_e3 128 (.iload_n 3) 1 3 0 0, am_ec 129 (.iconst 0) 1 0 0, am_e3 130 (.invokevirtual 62) 3 78 6 477, am_e3 133 (.iload 5) 2 5 0 0, am_e3 135 (.if_icmp .ne 40) 3 175 0 0, am_e0 138 (.aload_n 0) 1, am_e3 139 (.iload 5) 2 5 0 0, am_e3 141 (.invokevirtual 35) 3 86 2 659, am_e3 144 (.ifCond .ne 31) 3 175 0 0, am_e0 147 (.aload_n 0) 1, am_e3 148 (.iload_n 2) 1 2 0 0, am_ec 149 (.iconst 0) 1 0 0, am_e3 150 (.invokevirtual 23) 3 84 3 494, am_e3 153 (.iload_n 1) 1 1 0 0, am_e3 154 (.if_icmp .ne 21) 3 175 0 0, am_e0 157 (.aload_n 0) 1, am_e3 158 (.iload_n 2) 1 2 0 0, am_ec 159 (.iconst 4) 1 0 4, am_e3 160 (.invokevirtual 23) 3 84 3 494, am_e3 163 (.iload 5) 2 5 0 0, am_e3 165 (.if_icmp .ne 10) 3 175 0 0, am_e0 168 (.aload_n 0) 1, am_e3 169 (.invokevirtual 66) 3 83 1 714, am_e3 172 (.ifCond .ge 5) 3 177 0 0, am_ec 175 (.iconst 0) 1 0 0, am_e0 176 (.ireturn) 1, am_e0 177 (.aload_n 0) 1, am_e3 178 (.iload 4) 2 4 0 0, am_ec 180 (.iconst 1) 1 0 1, am_e0 181 (.isub) 1, am_ec 182 (.iconst 0) 1 0 0, am_e3 183 (.invokevirtual 11) 3 71 3 643, am_e3 186 (.istore 6) 2 6 0 0, am_e3 188 (.iload 6) 2 6 0 0, am_ec 190 (.iconst 1) 1 0 1, am_e3 191 (.if_icmp .ge 5) 3 196 0 0, am_ec 194 (.iconst 1) 1 0 1, am_e0 195 (.ireturn) 1, am_e0 196 (.aload_n 0) 1, am_e3 197 (.iload_n 1) 1 1 0 0, am_e3 198 (.iload_n 2) 1 2 0 0, am_e3 199 (.iload 6) 2 6 0 0, am_e3 201 (.iload_n 3) 1 3 0 0, am_ec 202 (.iconst 0) 1 0 0, am_e3 203 (.invokevirtual 62) 3 78 6 477, am_e3 206 (.iload 5) 2 5 0 0, am_e3 208 (.if_icmp .ne 33) 3 241 0 0, am_e0 211 (.aload_n 0) 1, am_e3 212 (.iload 5) 2 5 0 0, am_e3 214 (.invokevirtual 35) 3 86 2 659, am_e3 217 (.ifCond .eq 24) 3 241 0 0, am_e0 220 (.aload_n 0) 1, am_e3 221 (.invokevirtual 66) 3 83 1 714, am_e3 224 (.ifCond .lt 17) 3 241 0 0, am_e0 227 (.aload_n 0) 1, am_ec 228 (.iconst 2) 1 0 2, am_e3 229 (.invokevirtual 19) 3 93 2 619, am_e3 232 (.iload 5) 2 5 0 0, am_e3 234 (.if_icmp .ne 7) 3 241 0 0, am_ec 237 (.iconst 1) 1 0 1, am_e3 238 (.goto 4) 3 242 0 0, am_ec 241 (.iconst 0) 1 0 0, am_e0 242 (.ireturn) 1]
set_option maxRecDepth 100000 in
def km_L_letters : List am_E := [am_e0 0 (.aload_n 0) 1, am_ec 1 (.iconst 2) 1 0 2, am_e3 2 (.invokevirtual 19) 3 93 2 619, am_e3 5 (.istore 4) 2 4 0 0, am_ec 7 (.iconst 0) 1 0 0, am_e3 8 (.istore 5) 2 5 0 0, am_ec 10 (.iconst 0) 1 0 0, am_e3 11 (.istore 6) 2 6 0 0, am_e3 13 (.iload 6) 2 6 0 0, am_e3 15 (.iload 4) 2 4 0 0, am_e3 17 (.if_icmp .ge 46) 3 63 0 0, am_e0 20 (.aload_n 0) 1, am_e3 21 (.iload 6) 2 6 0 0, am_ec 23 (.iconst 1) 1 0 1, am_e3 24 (.invokevirtual 26) 3 89 3 597, am_e3 27 (.iload_n 1) 1 1 0 0, am_e3 28 (.if_icmp .ne 25) 3 53 0 0, am_e0 31 (.aload_n 0) 1, am_e3 32 (.iload 6) 2 6 0 0, am_ec 34 (.iconst 4) 1 0 4, am_e3 35 (.invokevirtual 26) 3 89 3 597, am_e3 38 (.iload 5) 2 5 0 0, am_e3 40 (.if_icmp .le 13) 3 53 0 0, am_e0 43 (.aload_n 0) 1, am_e3 44 (.iload 6) 2 6 0 0, am_ec 46 (.iconst 4) 1 0 4, am_e3 47 (.invokevirtual 26) 3 89 3 597, am_e3 50 (.goto 5) 3 55 0 0, am_e3 53 (.iload 5) 2 5 0 0, am_e3 55 (.istore 5) 2 5 0 0, am_ei 57 (.iinc 6 1) 3 6 1, am_e3 60 (.goto (-47)) 3 13 0 0, am_e0 63 (.aload_n 0) 1, am_e3 64 (.invokevirtual 70) 3 81 1 725, am_e0 67 (.pop) 1, am_e0 68 (.aload_n 0) 1, am_e3 69 (.iload_n 1) 1 1 0 0, am_ec 70 (.iconst 0) 1 0 0, am_e3 71 (.invokevirtual 73) 3 82 3 729, am_ec 74 (.bipush (-100)) 2 0 (-100), am_e3 76 (.if_icmp .ne 25) 3 101 0 0, am_e0 79 (.aload_n 0) 1, am_e3 80 (.iload_n 1) 1 1 0 0, am_ec 81 (.iconst (-1)) 1 0 (-1), am_e3 82 (.invokevirtual 73) 3 82 3 729, am_ec 85 (.bipush (-2)) 2 0 (-2), am_e3 87 (.if_icmp .ne 14) 3 101 0 0, am_e0 90 (.aload_n 0) 1, am_ec 91 (.bipush 8) 2 0 8, am_ec 93 (.iconst 0) 1 0 0, am_e3 94 (.invokevirtual 73) 3 82 3 729, am_ec 97 (.iconst (-1)) 1 0 (-1), am_e3 98 (.if_icmp .eq 5) 3 103 0 0, am_ec 101 (.iconst 0) 1 0 0, am_e0 102 (.ireturn) 1, am_e0 103 (.aload_n 0) 1, am_e3 104 (.iload_n 2) 1 2 0 0, am_e3 105 (.invokestatic 76) 3 109 2 774, am_e3 108 (.istore 6) 2 6 0 0, am_e0 110 (.aload_n 0) 1, am_e3 111 (.iload_n 1) 1 1 0 0, am_ec 112 (.iconst 0) 1 0 0, am_e3 113 (.invokevirtual 73) 3 82 3 729, am_ec 116 (.bipush (-100)) 2 0 (-100), am_e3 118 (.iload 6) 2 6 0 0, am_e0 120 (.isub) 1, am_e3 121 (.if_icmp .ne 7) 3 128 0 0, am_ec 124 (.iconst 1) 1 0 1, am_e3 125 (.goto 4) 3 129 0 0, am_ec 128 (.iconst 0) 1 0 0, am_e3 129 (.istore 7) 2 7 0 0, am_e0 131 (.aload_n 0) 1, am_ec 132 (.bipush 61) 2 0 61, am_e3 134 (.invokevirtual 80) 3 80 2 777, am_e0 137 (.pop) 1, am_e0 138 (.aload_n 0) 1, am_ec 139 (.bipush 55) 2 0 55, am_e3 141 (.invokevirtual 80) 3 80 2 777, am_e0 144 (.pop) 1, am_e0 145 (.aload_n 0) 1, am_ec 146 (.bipush 47) 2 0 47, am_e3 148 (.invokevirtual 80) 3 80 2 777, am_e0 151 (.pop) 1, am_e0 152 (.aload_n 0) 1, am_e3 153 (.iload_n 3) 1 3 0 0, am_e3 154 (.invokestatic 76) 3 109 2 774, am_e3 157 (.istore 6) 2 6 0 0, am_e0 159 (.aload_n 0) 1, am_ec 160 (.bipush 61) 2 0 61, am_e3 162 (.invokevirtual 80) 3 80 2 777, am_e0 165 (.pop) 1, am_e0 166 (.aload_n 0) 1, am_ec 167 (.bipush 51) 2 0 51, am_e3 169 (.invokevirtual 80) 3 80 2 777, am_e0 172 (.pop) 1, am_e0 173 (.aload_n 0) 1, am_ec 174 (.bipush 48) 2 0 48, am_e3 176 (.invokevirtual 80) 3 80 2 777, am_e0 179 (.pop) 1, am_e0 180 (.aload_n 0) 1, am_ec 181 (.bipush 44) 2 0 44, am_e3 183 (.invokevirtual 80) 3 80 2 777, am_e0 186 (.pop) 1, am_e0 187 (.aload_n 0) 1, am_e3 188 (.iload_n 2) 1 2 0 0, am_e3 189 (.invokestatic 76) 3 109 2 774, am_e0 192 (.pop) 1, am_e0 193 (.aload_n 0) 1, am_ec 194 (.bipush 61) 2 0 61, am_e3 196 (.invokevirtual 80) 3 80 2 777, am_e0 199 (.pop) 1, am_e0 200 (.aload_n 0) 1, am_ec 201 (.bipush 57) 2 0 57, am_e3 203 (.invokevirtual 80) 3 80 2 777, am_e3 206 (.istore 6) 2 6 0 0, am_e3 208 (.iload 4) 2 4 0 0, am_ec 210 (.iconst 3) 1 0 3, am_e0 211 (.iadd) 1, am_ec 212 (.bipush 60) 2 0 60, am_e3 214 (.if_icmp .le 8) 3 222 0 0, am_ec 217 (.bipush (-3)) 2 0 (-3), am_e3 219 (.goto 4) 3 223 0 0, am_ec 222 (.iconst 3) 1 0 3, am_e3 223 (.istore 8) 2 8 0 0, am_e3 225 (.iload 7) 2 7 0 0, am_e3 227 (.ifCond .eq 15) 3 242 0 0, am_e0 230 (.aload_n 0) 1, am_e3 231 (.iload_n 1) 1 1 0 0, am_ec 232 (.bipush 40) 2 0 40, am_e3 234 (.invokevirtual 73) 3 82 3 729, am_e3 237 (.iload 8) 2 8 0 0, am_e3 239 (.if_icmp .eq 5) 3 244 0 0, am_ec 242 (.iconst 0) 1 0 0, am_e0 243 (.ireturn) 1, am_e3 244 (.iload 8) 2 8 0 0, am_e3 246 (.ifCond .lt 121) 3 367 0 0, am_e0 249 (.aload_n 0) 1, am_ec 250 (.iconst 2) 1 0 2, am_e3 251 (.invokevirtual 19) 3 93 2 619, am_e3 254 (.iload 4) 2 4 0 0, am_ec 256 (.iconst 3) 1 0 3, am_e0 257 (.iadd) 1, am_e3 258 (.if_icmp .ne 113) 3 371 0 0, am_e0 261 (.aload_n 0) 1, am_e3 262 (.iload 4) 2 4 0 0, am_ec 264 (.iconst 0) 1 0 0, am_e3 265 (.invokevirtual 26) 3 89 3 597, am_e3 268 (.iload_n 2) 1 2 0 0, am_e3 269 (.if_icmp .ne 102) 3 371 0 0, am_e0 272 (.aload_n 0) 1, am_e3 273 (.iload 4) 2 4 0 0, am_ec 275 (.iconst 2) 1 0 2, am_e3 276 (.invokevirtual 26) 3 89 3 597, am_ec 279 (.bipush 7) 2 0 7, am_e3 281 (.if_icmp .ne 90) 3 371 0 0, am_e0 284 (.aload_n 0) 1, am_e3 285 (.iload 4) 2 4 0 0, am_ec 287 (.iconst 4) 1 0 4, am_e3 288 (.invokevirtual 26) 3 89 3 597, am_e3 291 (.iload 5) 2 5 0 0, am_ec 293 (.iconst 1) 1 0 1, am_e0 294 (.iadd) 1, am_e3 295 (.if_icmp .ne 76) 3 371 0 0, am_e0 298 (.aload_n 0) 1, am_e3 299 (.iload 4) 2 4 0 0, am_ec 301 (.iconst 1) 1 0 1, am_e0 302 (.iadd) 1, am_ec 303 (.iconst 0) 1 0 0, am_e3 304 (.invokevirtual 26) 3 89 3 597, am_e3 307 (.iload_n 3) 1 3 0 0, am_e3 308 (.if_icmp .ne 63) 3 371 0 0, am_e0 311 (.aload_n 0) 1, am_e3 312 (.iload 4) 2 4 0 0, am_ec 314 (.iconst 1) 1 0 1, am_e0 315 (.iadd) 1, am_ec 316 (.iconst 2) 1 0 2, am_e3 317 (.invokevirtual 26) 3 89 3 597, am_ec 320 (.bipush 30) 2 0 30, am_e3 322 (.if_icmp .ne 49) 3 371 0 0, am_e0 325 (.aload_n 0) 1, am_e3 326 (.iload 4) 2 4 0 0, am_ec 328 (.iconst 1) 1 0 1, am_e0 329 (.iadd) 1, am_ec 330 (.iconst 4) 1 0 4, am_e3 331 (.invokevirtual 26) 3 89 3 597, am_e3 334 (.iload 5) 2 5 0 0, am_ec 336 (.iconst 1) 1 0 1, am_e0 337 (.iadd) 1, am_e3 338 (.if_icmp .ne 33) 3 371 0 0, am_e0 341 (.aload_n 0) 1, am_e3 342 (.iload 4) 2 4 0 0, am_ec 344 (.iconst 2) 1 0 2, am_e0 345 (.iadd) 1, am_ec 346 (.iconst 4) 1 0 4, am_e3 347 (.invokevirtual 26) 3 89 3 597, am_e3 350 (.ifCond .ne 21) 3 371 0 0, am_e0 353 (.aload_n 0) 1, am_e3 354 (.iload 4) 2 4 0 0, am_ec 356 (.iconst 2) 1 0 2, am_e0 357 (.iadd) 1, am_ec 358 (.iconst 3) 1 0 3, am_e3 359 (.invokevirtual 26) 3 89 3 597, am_ec 362 (.bipush 40) 2 0 40, am_e3 364 (.if_icmp .ne 7) 3 371 0 0, am_ec 367 (.iconst 1) 1 0 1, am_e3 368 (.goto 4) 3 372 0 0, am_ec 371 (.iconst 0) 1 0 0, am_e3 372 (.istore 9) 2 9 0 0, am_e0 374 (.aload_n 0) 1, am_ec 375 (.bipush 120) 2 0 120, am_e3 377 (.invokevirtual 80) 3 80 2 777, am_e0 380 (.pop) 1, am_e3 381 (.iload 9) 2 9 0 0, am_e3 383 (.ifCond .eq 43) 3 426 0 0, am_e0 386 (.aload_n 0) 1, am_e3 387 (.iload_n 1) 1 1 0 0, am_ec 388 (.iconst 0) 1 0 0, am_e3 389 (.invokevirtual 73) 3 82 3 729, am_ec 392 (.bipush (-100)) 2 0 (-100), am_e3 394 (.iload 6) 2 6 0 0, am_e0 396 (.isub) 1, am_e3 397 (.if_icmp .ne 29) 3 426 0 0, am_e3 400 (.iload 8) 2 8 0 0, am_e3 402 (.ifCond .lt 20) 3 422 0 0, am_e0 405 (.aload_n 0) 1, am_e3 406 (.invokevirtual 66) 3 83 1 714, am_e3 409 (.ifCond .lt 17) 3 426 0 0, am_e0 412 (.aload_n 0) 1, am_ec 413 (.iconst 2) 1 0 2, am_e3 414 (.invokevirtual 19) 3 93 2 619, am_e3 417 (.iload 4) 2 4 0 0, am_e3 419 (.if_icmp .ne 7) 3 426 0 0, am_ec 422 (.iconst 1) 1 0 1, am_e3 423 (.goto 4) 3 427 0 0, am_ec 426 (.iconst 0) 1 0 0, am_e0 427 (.ireturn) 1]
set_option maxRecDepth 100000 in
def km_L_put : List am_E := [am_ec 0 (.iconst 0) 1 0 0, am_e3 1 (.istore_n 2) 1 2 0 0, am_e3 2 (.iload_n 1) 1 1 0 0, am_ec 3 (.bipush 9) 2 0 9, am_e3 5 (.if_icmp .le 16) 3 21 0 0, am_e0 8 (.aload_n 0) 1, am_ec 9 (.bipush 48) 2 0 48, am_e3 11 (.iload_n 1) 1 1 0 0, am_ec 12 (.bipush 10) 2 0 10, am_e0 14 (.idiv) 1, am_e0 15 (.iadd) 1, am_e0 16 (.i2c) 1, am_e3 17 (.invokevirtual 80) 3 80 2 777, am_e3 20 (.istore_n 2) 1 2 0 0, am_e0 21 (.aload_n 0) 1, am_ec 22 (.bipush 48) 2 0 48, am_e3 24 (.iload_n 1) 1 1 0 0, am_ec 25 (.bipush 10) 2 0 10, am_e0 27 (.irem) 1, am_e0 28 (.iadd) 1, am_e0 29 (.i2c) 1, am_e3 30 (.invokevirtual 80) 3 80 2 777, am_e3 33 (.istore_n 2) 1 2 0 0, am_e3 34 (.iload_n 2) 1 2 0 0, am_e0 35 (.ireturn) 1]
set_option maxRecDepth 100000 in
def km_L_errors : List am_E := [am_e0 0 (.aload_n 0) 1, am_ec 1 (.iconst 0) 1 0 0, am_e3 2 (.invokevirtual 19) 3 93 2 619, am_e3 5 (.istore_n 1) 1 1 0 0, am_e0 6 (.aload_n 0) 1, am_ec 7 (.iconst 1) 1 0 1, am_e3 8 (.invokevirtual 19) 3 93 2 619, am_e3 11 (.istore_n 2) 1 2 0 0, am_e0 12 (.aload_n 0) 1, am_ec 13 (.iconst 2) 1 0 2, am_e3 14 (.invokevirtual 19) 3 93 2 619, am_e3 17 (.istore_n 3) 1 3 0 0, am_e0 18 (.aload_n 0) 1, am_ec 19 (.iconst (-1)) 1 0 (-1), am_ec 20 (.iconst 1) 1 0 1, am_e3 21 (.invokevirtual 84) 3 69 3 351, am_ec 24 (.bipush (-2)) 2 0 (-2), am_e3 26 (.if_icmp .ne 176) 3 202 0 0, am_e0 29 (.aload_n 0) 1, am_ec 30 (.iconst 0) 1 0 0, am_ec 31 (.iconst 0) 1 0 0, am_e3 32 (.invokevirtual 84) 3 69 3 351, am_ec 35 (.bipush (-2)) 2 0 (-2), am_e3 37 (.if_icmp .ne 165) 3 202 0 0, am_e0 40 (.aload_n 0) 1, am_ec 41 (.ldc 87) 2 788 1000001, am_ec 43 (.iconst 1) 1 0 1, am_e3 44 (.invokevirtual 84) 3 69 3 351, am_ec 47 (.bipush (-2)) 2 0 (-2), am_e3 49 (.if_icmp .ne 153) 3 202 0 0, am_e0 52 (.aload_n 0) 1, am_ec 53 (.iconst 0) 1 0 0, am_e3 54 (.invokevirtual 88) 3 70 2 418, am_ec 57 (.bipush (-4)) 2 0 (-4), am_e3 59 (.if_icmp .ne 143) 3 202 0 0, am_e0 62 (.aload_n 0) 1, am_ec 63 (.bipush (-7)) 2 0 (-7), am_e3 65 (.invokevirtual 88) 3 70 2 418, am_ec 68 (.bipush (-4)) 2 0 (-4), am_e3 70 (.if_icmp .ne 132) 3 202 0 0, am_e0 73 (.aload_n 0) 1, am_ec 74 (.iconst 5) 1 0 5, am_ec 75 (.iconst 0) 1 0 0, am_ec 76 (.iconst 0) 1 0 0, am_e3 77 (.invokevirtual 91) 3 72 4 430, am_ec 80 (.iconst (-1)) 1 0 (-1), am_e3 81 (.if_icmp .ne 121) 3 202 0 0, am_e0 84 (.aload_n 0) 1, am_ec 85 (.iconst 0) 1 0 0, am_ec 86 (.ldc 87) 2 788 1000001, am_ec 88 (.iconst 0) 1 0 0, am_e3 89 (.invokevirtual 91) 3 72 4 430, am_ec 92 (.bipush (-2)) 2 0 (-2), am_e3 94 (.if_icmp .ne 108) 3 202 0 0, am_e0 97 (.aload_n 0) 1, am_ec 98 (.iconst 0) 1 0 0, am_ec 99 (.iconst 0) 1 0 0, am_ec 100 (.iconst (-1)) 1 0 (-1), am_e3 101 (.invokevirtual 91) 3 72 4 430, am_ec 104 (.bipush (-2)) 2 0 (-2), am_e3 106 (.if_icmp .ne 96) 3 202 0 0, am_e0 109 (.aload_n 0) 1, am_e3 110 (.iload_n 1) 1 1 0 0, am_ec 111 (.iconst 0) 1 0 0, am_e3 112 (.invokevirtual 94) 3 73 3 439, am_ec 115 (.iconst (-1)) 1 0 (-1), am_e3 116 (.if_icmp .ne 86) 3 202 0 0, am_e0 119 (.aload_n 0) 1, am_e3 120 (.iload_n 1) 1 1 0 0, am_ec 121 (.iconst 1) 1 0 1, am_e3 122 (.invokevirtual 97) 3 74 3 449, am_ec 125 (.iconst (-1)) 1 0 (-1), am_e3 126 (.if_icmp .ne 76) 3 202 0 0, am_e0 129 (.aload_n 0) 1, am_ec 130 (.ldc 101) 2 789 10000001, am_e3 132 (.invokevirtual 102) 3 75 2 457, am_ec 135 (.bipush (-2)) 2 0 (-2), am_e3 137 (.if_icmp .ne 65) 3 202 0 0, am_e0 140 (.aload_n 0) 1, am_e3 141 (.iload_n 2) 1 2 0 0, am_ec 142 (.iconst 0) 1 0 0, am_e3 143 (.invokevirtual 105) 3 76 3 462, am_ec 146 (.iconst (-1)) 1 0 (-1), am_e3 147 (.if_icmp .ne 55) 3 202 0 0, am_e0 150 (.aload_n 0) 1, am_ec 151 (.iconst 4) 1 0 4, am_ec 152 (.iconst 0) 1 0 0, am_e3 153 (.invokevirtual 108) 3 77 3 470, am_ec 156 (.iconst (-1)) 1 0 (-1), am_e3 157 (.if_icmp .ne 45) 3 202 0 0, am_e0 160 (.aload_n 0) 1, am_ec 161 (.iconst 0) 1 0 0, am_ec 162 (.ldc 111) 2 790 100001, am_e3 164 (.invokevirtual 108) 3 77 3 470, am_ec 167 (.bipush (-2)) 2 0 (-2), am_e3 169 (.if_icmp .ne 33) 3 202 0 0, am_e0 172 (.aload_n 0) 1, am_ec 173 (.iconst 1) 1 0 1, am_ec 174 (.sipush 501) 3 0 501, am_e3 177 (.invokevirtual 108) 3 77 3 470, am_ec 180 (.bipush (-2)) 2 0 (-2), am_e3 182 (.if_icmp .ne 20) 3 202 0 0, am_e0 185 (.aload_n 0) 1, am_ec 186 (.iconst 3) 1 0 3, am_ec 187 (.sipush 1001) 3 0 1001, am_e3 190 (.invokevirtual 108) 3 77 3 470, am_ec 193 (.bipush (-2)) 2 0 (-2), am_e3 195 (.if_icmp .ne 7) 3 202 0 0, am_ec 198 (.iconst 1) 1 0 1, am_e3 199 (.goto 4) 3 203 0 0, am_ec 202 (.iconst 0) 1 0 0, am_e3 203 (.istore 4) 2 4 0 0, am_e3 205 (.iload 4) 2 4 0 0, am_e3 207 (.ifCond .eq 189) 3 396 0 0, am_e0 210 (.aload_n 0) 1, am_e3 211 (.iload_n 2) 1 2 0 0, am_ec 212 (.iconst 0) 1 0 0, am_ec 213 (.iconst 1) 1 0 1, am_ec 214 (.iconst 0) 1 0 0, am_ec 215 (.iconst 0) 1 0 0, am_e3 216 (.invokevirtual 62) 3 78 6 477, am_ec 219 (.iconst (-1)) 1 0 (-1), am_e3 220 (.if_icmp .ne 176) 3 396 0 0, am_e0 223 (.aload_n 0) 1, am_ec 224 (.iconst 0) 1 0 0, am_e3 225 (.iload_n 1) 1 1 0 0, am_ec 226 (.iconst 1) 1 0 1, am_ec 227 (.iconst 0) 1 0 0, am_ec 228 (.iconst 0) 1 0 0, am_e3 229 (.invokevirtual 62) 3 78 6 477, am_ec 232 (.iconst (-1)) 1 0 (-1), am_e3 233 (.if_icmp .ne 163) 3 396 0 0, am_e0 236 (.aload_n 0) 1, am_ec 237 (.iconst 0) 1 0 0, am_ec 238 (.iconst 0) 1 0 0, am_ec 239 (.iconst 0) 1 0 0, am_ec 240 (.iconst 0) 1 0 0, am_ec 241 (.iconst 0) 1 0 0, am_e3 242 (.invokevirtual 62) 3 78 6 477, am_ec 245 (.bipush (-2)) 2 0 (-2), am_e3 247 (.if_icmp .ne 149) 3 396 0 0, am_e0 250 (.aload_n 0) 1, am_ec 251 (.iconst 0) 1 0 0, am_ec 252 (.iconst 0) 1 0 0, am_ec 253 (.iconst 1) 1 0 1, am_ec 254 (.ldc 111) 2 790 100001, am_ec 256 (.iconst 0) 1 0 0, am_e3 257 (.invokevirtual 62) 3 78 6 477, am_ec 260 (.bipush (-2)) 2 0 (-2), am_e3 262 (.if_icmp .ne 134) 3 396 0 0, am_e0 265 (.aload_n 0) 1, am_ec 266 (.iconst 0) 1 0 0, am_ec 267 (.iconst 0) 1 0 0, am_ec 268 (.iconst 1) 1 0 1, am_ec 269 (.iconst 0) 1 0 0, am_ec 270 (.iconst (-1)) 1 0 (-1), am_e3 271 (.invokevirtual 62) 3 78 6 477, am_ec 274 (.bipush (-2)) 2 0 (-2), am_e3 276 (.if_icmp .ne 120) 3 396 0 0, am_e0 279 (.aload_n 0) 1, am_e3 280 (.iload_n 3) 1 3 0 0, am_e3 281 (.invokevirtual 112) 3 79 2 486, am_ec 284 (.iconst (-1)) 1 0 (-1), am_e3 285 (.if_icmp .ne 111) 3 396 0 0, am_e0 288 (.aload_n 0) 1, am_e3 289 (.iload_n 1) 1 1 0 0, am_ec 290 (.iconst 0) 1 0 0, am_e3 291 (.invokevirtual 23) 3 84 3 494, am_ec 294 (.iconst (-1)) 1 0 (-1), am_e3 295 (.if_icmp .ne 101) 3 396 0 0, am_e0 298 (.aload_n 0) 1, am_e3 299 (.iload_n 1) 1 1 0 0, am_ec 300 (.iconst 0) 1 0 0, am_e3 301 (.invokevirtual 38) 3 85 3 663, am_ec 304 (.iconst (-1)) 1 0 (-1), am_e3 305 (.if_icmp .ne 91) 3 396 0 0, am_e0 308 (.aload_n 0) 1, am_e3 309 (.iload_n 3) 1 3 0 0, am_e3 310 (.invokevirtual 35) 3 86 2 659, am_ec 313 (.iconst (-1)) 1 0 (-1), am_e3 314 (.if_icmp .ne 82) 3 396 0 0, am_e0 317 (.aload_n 0) 1, am_e3 318 (.iload_n 2) 1 2 0 0, am_ec 319 (.iconst 0) 1 0 0, am_ec 320 (.iconst 0) 1 0 0, am_e3 321 (.invokevirtual 57) 3 87 4 700, am_ec 324 (.iconst (-1)) 1 0 (-1), am_e3 325 (.if_icmp .ne 71) 3 396 0 0, am_e0 328 (.aload_n 0) 1, am_ec 329 (.iconst 0) 1 0 0, am_e3 330 (.iload_n 1) 1 1 0 0, am_ec 331 (.iconst 0) 1 0 0, am_e3 332 (.invokevirtual 57) 3 87 4 700, am_ec 335 (.iconst (-1)) 1 0 (-1), am_e3 336 (.if_icmp .ne 60) 3 396 0 0, am_e0 339 (.aload_n 0) 1, am_ec 340 (.iconst 0) 1 0 0, am_ec 341 (.iconst 0) 1 0 0, am_ec 342 (.iconst (-1)) 1 0 (-1), am_e3 343 (.invokevirtual 57) 3 87 4 700, am_ec 346 (.bipush (-2)) 2 0 (-2), am_e3 348 (.if_icmp .ne 48) 3 396 0 0, am_e0 351 (.aload_n 0) 1, am_e3 352 (.iload_n 1) 1 1 0 0, am_ec 353 (.iconst 0) 1 0 0, am_e3 354 (.invokevirtual 32) 3 88 3 588, am_ec 357 (.iconst (-1)) 1 0 (-1), am_e3 358 (.if_icmp .ne 38) 3 396 0 0, am_e0 361 (.aload_n 0) 1, am_e3 362 (.iload_n 3) 1 3 0 0, am_ec 363 (.iconst 0) 1 0 0, am_e3 364 (.invokevirtual 26) 3 89 3 597, am_ec 367 (.iconst (-1)) 1 0 (-1), am_e3 368 (.if_icmp .ne 28) 3 396 0 0, am_e0 371 (.aload_n 0) 1, am_e3 372 (.iload_n 2) 1 2 0 0, am_ec 373 (.iconst 0) 1 0 0, am_e3 374 (.invokevirtual 29) 3 90 3 601, am_ec 377 (.iconst (-1)) 1 0 (-1), am_e3 378 (.if_icmp .ne 18) 3 396 0 0, am_e0 381 (.aload_n 0) 1, am_ec 382 (.bipush 14) 2 0 14, am_e3 384 (.invokevirtual 19) 3 93 2 619, am_ec 387 (.bipush (-2)) 2 0 (-2), am_e3 389 (.if_icmp .ne 7) 3 396 0 0, am_ec 392 (.iconst 1) 1 0 1, am_e3 393 (.goto 4) 3 397 0 0, am_ec 396 (.iconst 0) 1 0 0, am_e0 397 (.ireturn) 1]
set_option maxRecDepth 100000 in
def km_law : List am_E := [am_e3 0 (.new 12) 3 9 0 40, am_e0 3 (.dup) 1, am_e3 4 (.invokespecial 115) 3 68 1 42, am_e3 7 (.astore_n 1) 1 1 0 0, am_ec 8 (.bipush 64) 2 0 64, am_e0 10 (.newarray .int) 2, am_e3 12 (.astore_n 2) 1 2 0 0, am_ec 13 (.bipush 64) 2 0 64, am_e0 15 (.newarray .int) 2, am_e3 17 (.astore_n 3) 1 3 0 0, am_ec 18 (.bipush 64) 2 0 64, am_e0 20 (.newarray .int) 2, am_e3 22 (.astore 4) 2 4 0 0, am_ec 24 (.bipush 64) 2 0 64, am_e0 26 (.newarray .int) 2, am_e3 28 (.astore 5) 2 5 0 0, am_ec 30 (.bipush 64) 2 0 64, am_e0 32 (.newarray .int) 2, am_e3 34 (.astore 6) 2 6 0 0, am_e3 36 (.aload_n 1) 1 1 0 0, am_ec 37 (.iconst 0) 1 0 0, am_ec 38 (.bipush 10) 2 0 10, am_ec 40 (.iconst 0) 1 0 0, am_e3 41 (.invokevirtual 91) 3 72 4 430, am_e3 44 (.ifCond .ne 46) 3 90 0 0, am_e3 47 (.aload_n 1) 1 1 0 0, am_ec 48 (.iconst 1) 1 0 1, am_ec 49 (.iconst 0) 1 0 0, am_ec 50 (.bipush 40) 2 0 40, am_e3 52 (.invokevirtual 91) 3 72 4 430, am_ec 55 (.iconst 1) 1 0 1, am_e3 56 (.if_icmp .ne 34) 3 90 0 0, am_e3 59 (.aload_n 1) 1 1 0 0, am_ec 60 (.sipush 1000) 3 0 1000, am_e3 63 (.invokevirtual 102) 3 75 2 457, am_e3 66 (.ifCond .ne 24) 3 90 0 0, am_e3 69 (.aload_n 1) 1 1 0 0, am_ec 70 (.sipush 200) 3 0 200, am_e3 73 (.invokevirtual 102) 3 75 2 457, am_ec 76 (.iconst 1) 1 0 1, am_e3 77 (.if_icmp .ne 13) 3 90 0 0, am_e3 80 (.aload_n 1) 1 1 0 0, am_ec 81 (.iconst 0) 1 0 0, am_ec 82 (.iconst 2) 1 0 2, am_e3 83 (.invokevirtual 23) 3 84 3 494, am_ec 86 (.iconst 1) 1 0 1, am_e3 87 (.if_icmp .eq 5) 3 92 0 0, am_ec 90 (.iconst 0) 1 0 0, am_e0 91 (.ireturn) 1, am_ec 92 (.iconst 0) 1 0 0, am_e3 93 (.istore 7) 2 7 0 0, am_e3 95 (.iload 7) 2 7 0 0, am_ec 97 (.bipush 26) 2 0 26, am_e3 99 (.if_icmp .ge 783) 3 882 0 0, am_e0 102 (.aload_n 0) 1, am_ec 103 (.iconst 2) 1 0 2, am_e3 104 (.iload 7) 2 7 0 0, am_e0 106 (.imul) 1, am_e3 107 (.invokestatic 116) 3 100 2 632, am_e3 110 (.istore 8) 2 8 0 0, am_e0 112 (.aload_n 0) 1, am_ec 113 (.iconst 2) 1 0 2, am_e3 114 (.iload 7) 2 7 0 0, am_e0 116 (.imul) 1, am_ec 117 (.iconst 1) 1 0 1, am_e0 118 (.iadd) 1, am_e3 119 (.invokestatic 116) 3 100 2 632, am_e3 122 (.istore 9) 2 9 0 0, am_e3 124 (.iload 7) 2 7 0 0, am_ec 126 (.iconst 4) 1 0 4, am_e3 127 (.if_icmp .ge 7) 3 134 0 0, am_ec 130 (.iconst 4) 1 0 4, am_e3 131 (.goto 10) 3 141 0 0, am_e3 134 (.iload 8) 2 8 0 0, am_ec 136 (.bipush 13) 2 0 13, am_e3 138 (.invokestatic 120) 3 101 2 636, am_e3 141 (.istore 10) 2 10 0 0, am_e3 143 (.iload 8) 2 8 0 0, am_ec 145 (.iconst 4) 1 0 4, am_e0 146 (.ishr) 1, am_e3 147 (.istore 8) 2 8 0 0, am_e3 149 (.iload 8) 2 8 0 0, am_e3 151 (.aload_n 1) 1 1 0 0, am_ec 152 (.iconst 0) 1 0 0, am_e3 153 (.invokevirtual 19) 3 93 2 619, am_e3 156 (.invokestatic 120) 3 101 2 636, am_e3 159 (.istore 11) 2 11 0 0, am_e3 161 (.iload 8) 2 8 0 0, am_ec 163 (.iconst 4) 1 0 4, am_e0 164 (.ishr) 1, am_e3 165 (.aload_n 1) 1 1 0 0, am_ec 166 (.iconst 1) 1 0 1, am_e3 167 (.invokevirtual 19) 3 93 2 619, am_e3 170 (.invokestatic 120) 3 101 2 636, am_e3 173 (.istore 12) 2 12 0 0, am_e3 175 (.aload_n 1) 1 1 0 0, am_ec 176 (.iconst 2) 1 0 2, am_e3 177 (.invokevirtual 19) 3 93 2 619, am_e3 180 (.istore 13) 2 13 0 0, am_e3 182 (.iload 10) 2 10 0 0, am_e3 184 (.ifCond .ne 54) 3 238 0 0, am_e3 187 (.aload_n 1) 1 1 0 0, am_ec 188 (.iconst 0) 1 0 0, am_e3 189 (.invokevirtual 19) 3 93 2 619, am_e3 192 (.istore 14) 2 14 0 0, am_e3 194 (.iload 14) 2 14 0 0, am_ec 196 (.bipush 6) 2 0 6, am_e3 198 (.if_icmp .ge 37) 3 235 0 0, am_e3 201 (.aload_n 1) 1 1 0 0, am_e3 202 (.iload 8) 2 8 0 0, am_ec 204 (.iconst 5) 1 0 5, am_e3 205 (.invokestatic 120) 3 101 2 636, am_e3 208 (.iload 9) 2 9 0 0, am_ec 210 (.bipush 60) 2 0 60, am_e3 212 (.invokestatic 120) 3 101 2 636, am_e3 215 (.iload 9) 2 9 0 0, am_ec 217 (.bipush 8) 2 0 8, am_e0 219 (.ishr) 1, am_ec 220 (.bipush 90) 2 0 90, am_e3 222 (.invokestatic 120) 3 101 2 636, am_e3 225 (.invokevirtual 91) 3 72 4 430, am_e3 228 (.iload 14) 2 14 0 0, am_e3 230 (.if_icmp .eq 5) 3 235 0 0, am_ec 233 (.iconst 0) 1 0 0, am_e0 234 (.ireturn) 1, am_e3 235 (.goto 569) 3 804 0 0, am_e3 238 (.iload 10) 2 10 0 0, am_ec 240 (.iconst 1) 1 0 1, am_e3 241 (.if_icmp .ne 38) 3 279 0 0, am_e3 244 (.aload_n 1) 1 1 0 0, am_ec 245 (.iconst 1) 1 0 1, am_e3 246 (.invokevirtual 19) 3 93 2 619, am_e3 249 (.istore 14) 2 14 0 0, am_e3 251 (.iload 14) 2 14 0 0, am_ec 253 (.iconst 5) 1 0 5, am_e3 254 (.if_icmp .ge 22) 3 276 0 0, am_e3 257 (.aload_n 1) 1 1 0 0, am_e3 258 (.iload 9) 2 9 0 0, am_ec 260 (.sipush 400) 3 0 400, am_e3 263 (.invokestatic 120) 3 101 2 636, am_e3 266 (.invokevirtual 102) 3 75 2 457, am_e3 269 (.iload 14) 2 14 0 0, am_e3 271 (.if_icmp .eq 5) 3 276 0 0, am_ec 274 (.iconst 0) 1 0 0, am_e0 275 (.ireturn) 1, am_e3 276 (.goto 528) 3 804 0 0, am_e3 279 (.iload 10) 2 10 0 0, am_ec 281 (.iconst 2) 1 0 2, am_e3 282 (.if_icmp .ne 62) 3 344 0 0, am_e3 285 (.aload_n 1) 1 1 0 0, am_e3 286 (.iload 12) 2 12 0 0, am_ec 288 (.iconst 0) 1 0 0, am_e3 289 (.invokevirtual 29) 3 90 3 601, am_e3 292 (.istore 14) 2 14 0 0, am_e3 294 (.aload_n 1) 1 1 0 0, am_e3 295 (.iload 12) 2 12 0 0, am_e3 297 (.iload 9) 2 9 0 0, am_ec 299 (.sipush 300) 3 0 300, am_e3 302 (.invokestatic 120) 3 101 2 636, am_e3 305 (.invokevirtual 105) 3 76 3 462, am_e3 308 (.iload 14) 2 14 0 0, am_e3 310 (.if_icmp .ne 29) 3 339 0 0, am_e3 313 (.aload_n 1) 1 1 0 0, am_e3 314 (.iload 11) 2 11 0 0, am_ec 316 (.iconst 2) 1 0 2, am_e3 317 (.invokevirtual 32) 3 88 3 588, am_e3 320 (.aload_n 1) 1 1 0 0, am_e3 321 (.iload 11) 2 11 0 0, am_e3 323 (.iload 9) 2 9 0 0, am_ec 325 (.bipush 9) 2 0 9, am_e0 327 (.ishr) 1, am_ec 328 (.bipush 100) 2 0 100, am_e3 330 (.invokestatic 120) 3 101 2 636, am_e3 333 (.invokevirtual 94) 3 73 3 439, am_e3 336 (.if_icmp .eq 5) 3 341 0 0, am_ec 339 (.iconst 0) 1 0 0, am_e0 340 (.ireturn) 1, am_e3 341 (.goto 463) 3 804 0 0, am_e3 344 (.iload 10) 2 10 0 0, am_ec 346 (.iconst 3) 1 0 3, am_e3 347 (.if_icmp .ne 84) 3 431 0 0, am_e3 350 (.iload 9) 2 9 0 0, am_ec 352 (.iconst 1) 1 0 1, am_e0 353 (.iand) 1, am_ec 354 (.iconst 1) 1 0 1, am_e3 355 (.if_icmp .ne 7) 3 362 0 0, am_ec 358 (.iconst 1) 1 0 1, am_e3 359 (.goto 4) 3 363 0 0, am_ec 362 (.iconst 0) 1 0 0, am_e3 363 (.istore 14) 2 14 0 0, am_e3 365 (.aload_n 1) 1 1 0 0, am_e3 366 (.iload 11) 2 11 0 0, am_ec 368 (.iconst 3) 1 0 3, am_e3 369 (.invokevirtual 32) 3 88 3 588, am_ec 372 (.iconst 1) 1 0 1, am_e3 373 (.if_icmp .ne 7) 3 380 0 0, am_ec 376 (.iconst 1) 1 0 1, am_e3 377 (.goto 4) 3 381 0 0, am_ec 380 (.iconst 0) 1 0 0, am_e3 381 (.istore 15) 2 15 0 0, am_e3 383 (.iload 15) 2 15 0 0, am_e3 385 (.iload 14) 2 14 0 0, am_e3 387 (.if_icmp .ne 8) 3 395 0 0, am_ec 390 (.bipush (-4)) 2 0 (-4), am_e3 392 (.goto 19) 3 411 0 0, am_e3 395 (.aload_n 1) 1 1 0 0, am_ec 396 (.iconst 4) 1 0 4, am_e3 397 (.invokevirtual 19) 3 93 2 619, am_e3 400 (.iload 14) 2 14 0 0, am_e3 402 (.ifCond .eq 7) 3 409 0 0, am_ec 405 (.iconst 1) 1 0 1, am_e3 406 (.goto 4) 3 410 0 0, am_ec 409 (.iconst (-1)) 1 0 (-1), am_e0 410 (.iadd) 1, am_e3 411 (.istore 16) 2 16 0 0, am_e3 413 (.aload_n 1) 1 1 0 0, am_e3 414 (.iload 11) 2 11 0 0, am_e3 416 (.iload 14) 2 14 0 0, am_e3 418 (.invokevirtual 97) 3 74 3 449, am_e3 421 (.iload 16) 2 16 0 0, am_e3 423 (.if_icmp .eq 5) 3 428 0 0, am_ec 426 (.iconst 0) 1 0 0, am_e0 427 (.ireturn) 1, am_e3 428 (.goto 376) 3 804 0 0, am_e3 431 (.iload 10) 2 10 0 0, am_ec 433 (.bipush 8) 2 0 8, am_e3 435 (.if_icmp .ge 83) 3 518 0 0, am_e3 438 (.iload 13) 2 13 0 0, am_ec 440 (.bipush 20) 2 0 20, am_e3 442 (.if_icmp .ge 362) 3 804 0 0, am_e3 445 (.aload_n 1) 1 1 0 0, am_e3 446 (.iload 12) 2 12 0 0, am_e3 448 (.iload 11) 2 11 0 0, am_ec 450 (.iconst 1) 1 0 1, am_e3 451 (.iload 9) 2 9 0 0, am_ec 453 (.sipush 150) 3 0 150, am_e3 456 (.invokestatic 120) 3 101 2 636, am_e0 459 (.iadd) 1, am_e3 460 (.iload 9) 2 9 0 0, am_ec 462 (.bipush 9) 2 0 9, am_e0 464 (.ishr) 1, am_ec 465 (.iconst 5) 1 0 5, am_e3 466 (.invokestatic 120) 3 101 2 636, am_e3 469 (.ifCond .ne 8) 3 477 0 0, am_ec 472 (.ldc 123) 2 791 50001, am_e3 474 (.goto 13) 3 487 0 0, am_e3 477 (.iload 9) 2 9 0 0, am_ec 479 (.bipush 9) 2 0 9, am_e0 481 (.ishr) 1, am_ec 482 (.bipush 6) 2 0 6, am_e3 484 (.invokestatic 120) 3 101 2 636, am_e3 487 (.iload 8) 2 8 0 0, am_ec 489 (.bipush 9) 2 0 9, am_e0 491 (.ishr) 1, am_ec 492 (.iconst 4) 1 0 4, am_e3 493 (.invokestatic 120) 3 101 2 636, am_e3 496 (.invokevirtual 62) 3 78 6 477, am_e3 499 (.iload 13) 2 13 0 0, am_e3 501 (.if_icmp .ne 15) 3 516 0 0, am_e3 504 (.aload_n 1) 1 1 0 0, am_e3 505 (.iload 13) 2 13 0 0, am_ec 507 (.iconst 0) 1 0 0, am_e3 508 (.invokevirtual 26) 3 89 3 597, am_e3 511 (.iload 11) 2 11 0 0, am_e3 513 (.if_icmp .eq 291) 3 804 0 0, am_ec 516 (.iconst 0) 1 0 0, am_e0 517 (.ireturn) 1, am_e3 518 (.iload 10) 2 10 0 0, am_ec 520 (.bipush 8) 2 0 8, am_e3 522 (.if_icmp .ne 77) 3 599 0 0, am_e3 525 (.iload 13) 2 13 0 0, am_e3 527 (.ifCond .le 72) 3 599 0 0, am_e3 530 (.iload 9) 2 9 0 0, am_e3 532 (.iload 13) 2 13 0 0, am_e3 534 (.invokestatic 120) 3 101 2 636, am_e3 537 (.istore 14) 2 14 0 0, am_e3 539 (.aload_n 1) 1 1 0 0, am_e3 540 (.iload 14) 2 14 0 0, am_ec 542 (.iconst 5) 1 0 5, am_e3 543 (.invokevirtual 26) 3 89 3 597, am_ec 546 (.iconst 1) 1 0 1, am_e3 547 (.if_icmp .ne 7) 3 554 0 0, am_ec 550 (.iconst 1) 1 0 1, am_e3 551 (.goto 4) 3 555 0 0, am_ec 554 (.iconst 0) 1 0 0, am_e3 555 (.istore 15) 2 15 0 0, am_e3 557 (.aload_n 1) 1 1 0 0, am_e3 558 (.iload 14) 2 14 0 0, am_e3 560 (.invokevirtual 112) 3 79 2 486, am_e3 563 (.iload 15) 2 15 0 0, am_e3 565 (.ifCond .eq 8) 3 573 0 0, am_ec 568 (.bipush (-4)) 2 0 (-4), am_e3 570 (.goto 10) 3 580 0 0, am_e3 573 (.aload_n 1) 1 1 0 0, am_e3 574 (.iload 14) 2 14 0 0, am_ec 576 (.iconst 0) 1 0 0, am_e3 577 (.invokevirtual 26) 3 89 3 597, am_e3 580 (.if_icmp .ne 14) 3 594 0 0, am_e3 583 (.aload_n 1) 1 1 0 0, am_e3 584 (.iload 14) 2 14 0 0, am_ec 586 (.iconst 5) 1 0 5, am_e3 587 (.invokevirtual 26) 3 89 3 597, am_ec 590 (.iconst 1) 1 0 1, am_e3 591 (.if_icmp .eq 5) 3 596 0 0, am_ec 594 (.iconst 0) 1 0 0, am_e0 595 (.ireturn) 1, am_e3 596 (.goto 208) 3 804 0 0, am_e3 599 (.iload 10) 2 10 0 0, am_ec 601 (.bipush 9) 2 0 9, am_e3 603 (.if_icmp .ne 87) 3 690 0 0, am_e3 606 (.aload_n 1) 1 1 0 0, am_ec 607 (.bipush 7) 2 0 7, am_e3 609 (.invokevirtual 19) 3 93 2 619, am_e3 612 (.istore 14) 2 14 0 0, am_e3 614 (.iload 9) 2 9 0 0, am_ec 616 (.iconst 3) 1 0 3, am_e0 617 (.iand) 1, am_e3 618 (.ifCond .le 30) 3 648 0 0, am_e3 621 (.aload_n 1) 1 1 0 0, am_e3 622 (.iload 8) 2 8 0 0, am_ec 624 (.iconst 3) 1 0 3, am_e3 625 (.invokestatic 120) 3 101 2 636, am_ec 628 (.bipush 50) 2 0 50, am_e0 630 (.imul) 1, am_ec 631 (.iconst 1) 1 0 1, am_e3 632 (.iload 9) 2 9 0 0, am_ec 634 (.iconst 2) 1 0 2, am_e0 635 (.ishr) 1, am_ec 636 (.bipush 30) 2 0 30, am_e3 638 (.invokestatic 120) 3 101 2 636, am_e0 641 (.iadd) 1, am_e3 642 (.invokevirtual 84) 3 69 3 351, am_e3 645 (.goto 16) 3 661 0 0, am_e3 648 (.aload_n 1) 1 1 0 0, am_ec 649 (.bipush 50) 2 0 50, am_e3 651 (.iload 8) 2 8 0 0, am_ec 653 (.iconst 3) 1 0 3, am_e3 654 (.invokestatic 120) 3 101 2 636, am_e0 657 (.imul) 1, am_e3 658 (.invokevirtual 88) 3 70 2 418, am_e3 661 (.istore 15) 2 15 0 0, am_e3 663 (.iload 15) 2 15 0 0, am_ec 665 (.bipush (-4)) 2 0 (-4), am_e3 667 (.if_icmp .eq 20) 3 687 0 0, am_e3 670 (.iload 15) 2 15 0 0, am_ec 672 (.iconst 1) 1 0 1, am_e3 673 (.if_icmp .lt 12) 3 685 0 0, am_e3 676 (.iload 15) 2 15 0 0, am_e3 678 (.iload 14) 2 14 0 0, am_ec 680 (.iconst 1) 1 0 1, am_e0 681 (.iadd) 1, am_e3 682 (.if_icmp .le 5) 3 687 0 0, am_ec 685 (.iconst 0) 1 0 0, am_e0 686 (.ireturn) 1, am_e3 687 (.goto 117) 3 804 0 0, am_e3 690 (.iload 10) 2 10 0 0, am_ec 692 (.bipush 10) 2 0 10, am_e3 694 (.if_icmp .ne 60) 3 754 0 0, am_e3 697 (.iload 8) 2 8 0 0, am_ec 699 (.iconst 4) 1 0 4, am_e3 700 (.invokestatic 120) 3 101 2 636, am_e3 703 (.istore 14) 2 14 0 0, am_e3 705 (.aload_n 1) 1 1 0 0, am_ec 706 (.bipush 8) 2 0 8, am_e3 708 (.iload 14) 2 14 0 0, am_e0 710 (.iadd) 1, am_e3 711 (.invokevirtual 19) 3 93 2 619, am_e3 714 (.istore 15) 2 15 0 0, am_e3 716 (.aload_n 1) 1 1 0 0, am_e3 717 (.iload 14) 2 14 0 0, am_e3 719 (.iload 14) 2 14 0 0, am_e3 721 (.ifCond .ne 12) 3 733 0 0, am_e3 724 (.iload 9) 2 9 0 0, am_ec 726 (.iconst 5) 1 0 5, am_e3 727 (.invokestatic 120) 3 101 2 636, am_e3 730 (.goto 11) 3 741 0 0, am_e3 733 (.iload 9) 2 9 0 0, am_ec 735 (.sipush 501) 3 0 501, am_e3 738 (.invokestatic 120) 3 101 2 636, am_e3 741 (.invokevirtual 108) 3 77 3 470, am_e3 744 (.iload 15) 2 15 0 0, am_e3 746 (.if_icmp .eq 5) 3 751 0 0, am_ec 749 (.iconst 0) 1 0 0, am_e0 750 (.ireturn) 1, am_e3 751 (.goto 53) 3 804 0 0, am_e3 754 (.iload 10) 2 10 0 0, am_ec 756 (.bipush 11) 2 0 11, am_e3 758 (.if_icmp .ne 23) 3 781 0 0, am_e3 761 (.aload_n 1) 1 1 0 0, am_e3 762 (.iload 12) 2 12 0 0, am_e3 764 (.iload 11) 2 11 0 0, am_e3 766 (.iload 9) 2 9 0 0, am_ec 768 (.bipush 7) 2 0 7, am_e3 770 (.invokestatic 120) 3 101 2 636, am_e3 773 (.invokestatic 124) 3 107 4 697, am_e3 776 (.ifCond .ne 28) 3 804 0 0, am_ec 779 (.iconst 0) 1 0 0, am_e0 780 (.ireturn) 1, am_e3 781 (.aload_n 1) 1 1 0 0, am_e3 782 (.iload 12) 2 12 0 0, am_e3 784 (.iload 11) 2 11 0 0, am_e3 786 (.iload 9) 2 9 0 0, am_e3 788 (.aload_n 1) 1 1 0 0, am_ec 789 (.iconst 0) 1 0 0, am_e3 790 (.invokevirtual 19) 3 93 2 619, am_e3 793 (.invokestatic 120) 3 101 2 636, am_e3 796 (.invokestatic 128) 3 108 4 722, am_e3 799 (.ifCond .ne 5) 3 804 0 0, am_ec 802 (.iconst 0) 1 0 0, am_e0 803 (.ireturn) 1, am_e3 804 (.aload_n 1) 1 1 0 0, am_e3 805 (.iload 9) 2 9 0 0, am_ec 807 (.sipush 500) 3 0 500, am_e3 810 (.invokestatic 120) 3 101 2 636, am_e3 813 (.invokestatic 131) 3 103 2 640, am_e3 816 (.ifCond .eq 10) 3 826 0 0, am_e3 819 (.aload_n 1) 1 1 0 0, am_e3 820 (.invokestatic 135) 3 106 1 667, am_e3 823 (.ifCond .ne 5) 3 828 0 0, am_ec 826 (.iconst 0) 1 0 0, am_e0 827 (.ireturn) 1, am_e3 828 (.aload_n 1) 1 1 0 0, am_e3 829 (.aload_n 2) 1 2 0 0, am_e3 830 (.aload_n 3) 1 3 0 0, am_e3 831 (.aload 4) 2 4 0 0, am_e3 833 (.aload 5) 2 5 0 0, am_e3 835 (.aload 6) 2 6 0 0, am_e3 837 (.invokestatic 139) 3 104 6 653, am_ec 840 (.iconst 0) 1 0 0, am_e3 841 (.istore 14) 2 14 0 0, am_e3 843 (.iload 14) 2 14 0 0, am_e3 845 (.aload_n 1) 1 1 0 0, am_ec 846 (.iconst 0) 1 0 0, am_e3 847 (.invokevirtual 19) 3 93 2 619, am_e3 850 (.if_icmp .ge 26) 3 876 0 0, am_e3 853 (.aload_n 1) 1 1 0 0, am_e3 854 (.aload_n 2) 1 2 0 0, am_e3 855 (.aload_n 3) 1 3 0 0, am_e3 856 (.aload 4) 2 4 0 0, am_e3 858 (.aload 5) 2 5 0 0, am_e3 860 (.iload 14) 2 14 0 0, am_e3 862 (.invokestatic 143) 3 105 6 656, am_e3 865 (.ifCond .ne 5) 3 870 0 0, am_ec 868 (.iconst 0) 1 0 0, am_e0 869 (.ireturn) 1, am_ei 870 (.iinc 14 1) 3 14 1, am_e3 873 (.goto (-30)) 3 843 0 0, am_ei 876 (.iinc 7 1) 3 7 1, am_e3 879 (.goto (-784)) 3 95 0 0, am_e3 882 (.aload_n 1) 1 1 0 0, am_e3 883 (.invokestatic 146) 3 110 1 785, am_e0 886 (.ireturn) 1]
def am_code (i : Nat) : List am_E := bif Nat.blt i 56 then (bif Nat.blt i 28 then (bif Nat.blt i 14 then (bif Nat.blt i 7 then (bif Nat.blt i 3 then (bif Nat.blt i 1 then (km_Bids_init) else (bif Nat.blt i 2 then (km_Bids_copy) else (km_Bids_add))) else (bif Nat.blt i 5 then (bif Nat.blt i 4 then (km_Bids_freeGroup) else (km_History_init)) else (bif Nat.blt i 6 then (km_History_keep) else (km_History_restore)))) else (bif Nat.blt i 10 then (bif Nat.blt i 8 then (km_History_dropOldest) else (bif Nat.blt i 9 then (km_Letter_init) else (km_Letter_append))) else (bif Nat.blt i 12 then (bif Nat.blt i 11 then (km_Letter_isInOneWish) else (km_Letter_read)) else (bif Nat.blt i 13 then (km_Letter_startNumber) else (km_Letter_readDigit))))) else (bif Nat.blt i 21 then (bif Nat.blt i 17 then (bif Nat.blt i 15 then (km_Letter_readMark) else (bif Nat.blt i 16 then (km_Letter_readEnd) else (km_Letter_isTooGreat))) else (bif Nat.blt i 19 then (bif Nat.blt i 18 then (km_Letter_takeNumber) else (km_Lots_init)) else (bif Nat.blt i 20 then (km_Lots_copy) else (km_Lots_add)))) else (bif Nat.blt i 24 then (bif Nat.blt i 22 then (km_Money_init) else (bif Nat.blt i 23 then (km_Money_paidBy) else (km_Money_total))) else (bif Nat.blt i 26 then (bif Nat.blt i 25 then (km_Money_payments) else (km_Money_receipts)) else (bif Nat.blt i 27 then (km_Money_part) else (km_Money_owesFee)))))) else (bif Nat.blt i 42 then (bif Nat.blt i 35 then (bif Nat.blt i 31 then (bif Nat.blt i 29 then (km_Row_init) else (bif Nat.blt i 30 then (km_Row_get) else (km_Row_put))) else (bif Nat.blt i 33 then (bif Nat.blt i 32 then (km_Row_copy) else (km_Row_sum)) else (bif Nat.blt i 34 then (km_Row_countOf) else (km_Sale_init)))) else (bif Nat.blt i 38 then (bif Nat.blt i 36 then (km_Sale_hold) else (bif Nat.blt i 37 then (km_Sale_bidAt) else (km_Sale_leftBefore))) else (bif Nat.blt i 40 then (bif Nat.blt i 39 then (km_Sale_soldLots) else (km_Sale_judgeBids)) else (bif Nat.blt i 41 then (km_Sale_judge) else (km_Sale_reasonAgainst))))) else (bif Nat.blt i 49 then (bif Nat.blt i 45 then (bif Nat.blt i 43 then (km_Sale_hasAlternativeBought) else (bif Nat.blt i 44 then (km_Sale_chooseBetween) else (km_Sale_orderBids))) else (bif Nat.blt i 47 then (bif Nat.blt i 46 then (km_Sale_insert) else (km_Sale_goesBefore)) else (bif Nat.blt i 48 then (km_Sale_sell) else (km_Sale_stateOf)))) else (bif Nat.blt i 52 then (bif Nat.blt i 50 then (km_Sale_priceOf) else (bif Nat.blt i 51 then (km_Sale_leastAmount) else (km_Sale_leastWorth))) else (bif Nat.blt i 54 then (bif Nat.blt i 53 then (km_State_init) else (km_State_copy)) else (bif Nat.blt i 55 then (km_State_askingPrice) else (km_State_isLate))))))) else (bif Nat.blt i 84 then (bif Nat.blt i 70 then (bif Nat.blt i 63 then (bif Nat.blt i 59 then (bif Nat.blt i 57 then (km_State_lateBids) else (bif Nat.blt i 58 then (km_Steps_init) else (km_Steps_copy))) else (bif Nat.blt i 61 then (bif Nat.blt i 60 then (km_Steps_hasBand) else (km_Steps_hasRoomFor)) else (bif Nat.blt i 62 then (km_Steps_putBand) else (km_Steps_dropBand)))) else (bif Nat.blt i 66 then (bif Nat.blt i 64 then (km_Steps_placeOf) else (bif Nat.blt i 65 then (km_Steps_bandOf) else (km_Steps_floor))) else (bif Nat.blt i 68 then (bif Nat.blt i 67 then (km_Steps_ceiling) else (km_Steps_next)) else (bif Nat.blt i 69 then (km_Pa_init) else (km_Pa_setBand))))) else (bif Nat.blt i 77 then (bif Nat.blt i 73 then (bif Nat.blt i 71 then (km_Pa_removeBand) else (bif Nat.blt i 72 then (km_Pa_valid) else (km_Pa_addLot))) else (bif Nat.blt i 75 then (bif Nat.blt i 74 then (km_Pa_setReserve) else (km_Pa_withdrawLot)) else (bif Nat.blt i 76 then (km_Pa_addBidder) else (km_Pa_setLimit)))) else (bif Nat.blt i 80 then (bif Nat.blt i 78 then (km_Pa_set) else (bif Nat.blt i 79 then (km_Pa_bid) else (km_Pa_withdrawBid))) else (bif Nat.blt i 82 then (bif Nat.blt i 81 then (km_Pa_type) else (km_Pa_clearText)) else (bif Nat.blt i 83 then (km_Pa_letter) else (km_Pa_undo)))))) else (bif Nat.blt i 98 then (bif Nat.blt i 91 then (bif Nat.blt i 87 then (bif Nat.blt i 85 then (km_Pa_sale) else (bif Nat.blt i 86 then (km_Pa_ranked) else (km_Pa_fate))) else (bif Nat.blt i 89 then (bif Nat.blt i 88 then (km_Pa_needed) else (km_Pa_lot)) else (bif Nat.blt i 90 then (km_Pa_bidOf) else (km_Pa_bidder)))) else (bif Nat.blt i 94 then (bif Nat.blt i 92 then (km_Pa_seller) else (bif Nat.blt i 93 then (km_Pa_account) else (km_Pa_count))) else (bif Nat.blt i 96 then (bif Nat.blt i 95 then (km_Pa_isOutside) else (km_Pa_mostOfSetting)) else (bif Nat.blt i 97 then (km_Pa_isLot) else (km_Pa_isBidder))))) else (bif Nat.blt i 105 then (bif Nat.blt i 101 then (bif Nat.blt i 99 then (km_Pa_isBid) else (bif Nat.blt i 100 then (km_Pa_beginAct) else (km_L_cell))) else (bif Nat.blt i 103 then (bif Nat.blt i 102 then (km_L_low) else (km_L_lost)) else (bif Nat.blt i 104 then (km_L_steps) else (km_L_ask)))) else (bif Nat.blt i 108 then (bif Nat.blt i 106 then (km_L_lot) else (bif Nat.blt i 107 then (km_L_money) else (km_L_needs))) else (bif Nat.blt i 110 then (bif Nat.blt i 109 then (km_L_letters) else (km_L_put)) else (bif Nat.blt i 111 then (km_L_errors) else (km_law)))))))
/-- a method: its class, its name, its bytes, its locals, what it answers, its arguments, its rank, its kind (0 virtual, 1 static, 2 constructor) -/
abbrev am_M : Type := String × MethodName × ByteArray × Nat × Option FieldType × Nat × Nat × Nat
def qm_Bids_init : am_M := (RX0, yX0_init, cX0_init, 1, none, 1, 2, 2)
def qm_Bids_copy : am_M := (RX0, yX0_copy, cX0_copy, 2, none, 2, 2, 0)
def qm_Bids_add : am_M := (RX0, yX0_add, cX0_add, 6, some .int, 6, 1, 0)
def qm_Bids_freeGroup : am_M := (RX0, yX0_freeGroup, cX0_freeGroup, 4, some .int, 2, 1, 0)
def qm_History_init : am_M := (RX1, yX1_init, cX1_init, 2, none, 1, 4, 2)
def qm_History_keep : am_M := (RX1, yX1_keep, cX1_keep, 3, none, 2, 4, 0)
def qm_History_restore : am_M := (RX1, yX1_restore, cX1_restore, 3, none, 2, 4, 0)
def qm_History_dropOldest : am_M := (RX1, yX1_dropOldest, cX1_dropOldest, 3, none, 1, 0, 0)
def qm_Letter_init : am_M := (RX2, yX2_init, cX2_init, 1, none, 1, 2, 2)
def qm_Letter_append : am_M := (RX2, yX2_append, cX2_append, 2, some .boolean, 2, 0, 0)
def qm_Letter_isInOneWish : am_M := (RX2, yX2_isInOneWish, cX2_isInOneWish, 3, some .boolean, 3, 1, 0)
def qm_Letter_read : am_M := (RX2, yX2_read, cX2_read, 6, some .int, 2, 3, 0)
def qm_Letter_startNumber : am_M := (RX2, yX2_startNumber, cX2_startNumber, 1, none, 1, 0, 0)
def qm_Letter_readDigit : am_M := (RX2, yX2_readDigit, cX2_readDigit, 4, some .int, 3, 0, 0)
def qm_Letter_readMark : am_M := (RX2, yX2_readMark, cX2_readMark, 5, some .int, 4, 2, 0)
def qm_Letter_readEnd : am_M := (RX2, yX2_readEnd, cX2_readEnd, 2, some .int, 2, 2, 0)
def qm_Letter_isTooGreat : am_M := (RX2, yX2_isTooGreat, cX2_isTooGreat, 2, some .boolean, 2, 0, 0)
def qm_Letter_takeNumber : am_M := (RX2, yX2_takeNumber, cX2_takeNumber, 1, none, 1, 1, 0)
def qm_Lots_init : am_M := (RX3, yX3_init, cX3_init, 1, none, 1, 2, 2)
def qm_Lots_copy : am_M := (RX3, yX3_copy, cX3_copy, 2, none, 2, 2, 0)
def qm_Lots_add : am_M := (RX3, yX3_add, cX3_add, 4, some .int, 4, 1, 0)
def qm_Money_init : am_M := (RX4, yX4_init, cX4_init, 3, none, 3, 1, 2)
def qm_Money_paidBy : am_M := (RX4, yX4_paidBy, cX4_paidBy, 4, some .int, 2, 3, 0)
def qm_Money_total : am_M := (RX4, yX4_total, cX4_total, 6, some .long, 3, 3, 0)
def qm_Money_payments : am_M := (RX4, yX4_payments, cX4_payments, 1, some .long, 1, 4, 0)
def qm_Money_receipts : am_M := (RX4, yX4_receipts, cX4_receipts, 2, some .long, 2, 4, 0)
def qm_Money_part : am_M := (RX4, yX4_part, cX4_part, 4, some .int, 3, 2, 0)
def qm_Money_owesFee : am_M := (RX4, yX4_owesFee, cX4_owesFee, 3, some .boolean, 2, 1, 0)
def qm_Row_init : am_M := (RX5, yX5_init, cX5_init, 2, none, 2, 1, 2)
def qm_Row_get : am_M := (RX5, yX5_get, cX5_get, 2, some .int, 2, 0, 0)
def qm_Row_put : am_M := (RX5, yX5_put, cX5_put, 3, none, 3, 0, 0)
def qm_Row_copy : am_M := (RX5, yX5_copy, cX5_copy, 2, none, 2, 1, 0)
def qm_Row_sum : am_M := (RX5, yX5_sum, cX5_sum, 4, some .int, 2, 0, 0)
def qm_Row_countOf : am_M := (RX5, yX5_countOf, cX5_countOf, 5, some .int, 3, 0, 0)
def qm_Sale_init : am_M := (RX6, yX6_init, cX6_init, 2, none, 2, 2, 2)
def qm_Sale_hold : am_M := (RX6, yX6_hold, cX6_hold, 2, none, 1, 5, 0)
def qm_Sale_bidAt : am_M := (RX6, yX6_bidAt, cX6_bidAt, 3, some .int, 3, 1, 0)
def qm_Sale_leftBefore : am_M := (RX6, yX6_leftBefore, cX6_leftBefore, 5, some .int, 3, 1, 0)
def qm_Sale_soldLots : am_M := (RX6, yX6_soldLots, cX6_soldLots, 5, some .int, 2, 1, 0)
def qm_Sale_judgeBids : am_M := (RX6, yX6_judgeBids, cX6_judgeBids, 3, none, 2, 4, 0)
def qm_Sale_judge : am_M := (RX6, yX6_judge, cX6_judge, 6, none, 3, 3, 0)
def qm_Sale_reasonAgainst : am_M := (RX6, yX6_reasonAgainst, cX6_reasonAgainst, 3, some .int, 3, 2, 0)
def qm_Sale_hasAlternativeBought : am_M := (RX6, yX6_hasAlternativeBought, cX6_hasAlternativeBought, 7, some .boolean, 3, 1, 0)
def qm_Sale_chooseBetween : am_M := (RX6, yX6_chooseBetween, cX6_chooseBetween, 3, none, 3, 1, 0)
def qm_Sale_orderBids : am_M := (RX6, yX6_orderBids, cX6_orderBids, 4, none, 2, 3, 0)
def qm_Sale_insert : am_M := (RX6, yX6_insert, cX6_insert, 5, none, 3, 2, 0)
def qm_Sale_goesBefore : am_M := (RX6, yX6_goesBefore, cX6_goesBefore, 7, some .boolean, 3, 1, 0)
def qm_Sale_sell : am_M := (RX6, yX6_sell, cX6_sell, 5, none, 2, 4, 0)
def qm_Sale_stateOf : am_M := (RX6, yX6_stateOf, cX6_stateOf, 3, some .int, 3, 1, 0)
def qm_Sale_priceOf : am_M := (RX6, yX6_priceOf, cX6_priceOf, 4, some .int, 2, 3, 0)
def qm_Sale_leastAmount : am_M := (RX6, yX6_leastAmount, cX6_leastAmount, 6, some .int, 4, 4, 0)
def qm_Sale_leastWorth : am_M := (RX6, yX6_leastWorth, cX6_leastWorth, 9, some .int, 4, 3, 0)
def qm_State_init : am_M := (RX7, yX7_init, cX7_init, 1, none, 1, 3, 2)
def qm_State_copy : am_M := (RX7, yX7_copy, cX7_copy, 2, none, 2, 3, 0)
def qm_State_askingPrice : am_M := (RX7, yX7_askingPrice, cX7_askingPrice, 2, some .int, 2, 4, 0)
def qm_State_isLate : am_M := (RX7, yX7_isLate, cX7_isLate, 2, some .boolean, 2, 1, 0)
def qm_State_lateBids : am_M := (RX7, yX7_lateBids, cX7_lateBids, 3, some .int, 1, 2, 0)
def qm_Steps_init : am_M := (RX8, yX8_init, cX8_init, 1, none, 1, 2, 2)
def qm_Steps_copy : am_M := (RX8, yX8_copy, cX8_copy, 2, none, 2, 2, 0)
def qm_Steps_hasBand : am_M := (RX8, yX8_hasBand, cX8_hasBand, 2, some .boolean, 2, 2, 0)
def qm_Steps_hasRoomFor : am_M := (RX8, yX8_hasRoomFor, cX8_hasRoomFor, 2, some .boolean, 2, 2, 0)
def qm_Steps_putBand : am_M := (RX8, yX8_putBand, cX8_putBand, 4, none, 3, 2, 0)
def qm_Steps_dropBand : am_M := (RX8, yX8_dropBand, cX8_dropBand, 3, none, 2, 2, 0)
def qm_Steps_placeOf : am_M := (RX8, yX8_placeOf, cX8_placeOf, 3, some .int, 2, 1, 0)
def qm_Steps_bandOf : am_M := (RX8, yX8_bandOf, cX8_bandOf, 5, some .int, 2, 1, 0)
def qm_Steps_floor : am_M := (RX8, yX8_floor, cX8_floor, 5, some .int, 2, 2, 0)
def qm_Steps_ceiling : am_M := (RX8, yX8_ceiling, cX8_ceiling, 2, some .int, 2, 3, 0)
def qm_Steps_next : am_M := (RX8, yX8_next, cX8_next, 8, some .int, 2, 2, 0)
def qm_Pa_init : am_M := (RX9, yX9_init, cX9_init, 1, none, 1, 5, 2)
def qm_Pa_setBand : am_M := (RX9, yX9_setBand, cX9_setBand, 3, some .int, 3, 6, 0)
def qm_Pa_removeBand : am_M := (RX9, yX9_removeBand, cX9_removeBand, 2, some .int, 2, 6, 0)
def qm_Pa_valid : am_M := (RX9, yX9_valid, cX9_valid, 3, some .int, 3, 4, 0)
def qm_Pa_addLot : am_M := (RX9, yX9_addLot, cX9_addLot, 4, some .int, 4, 6, 0)
def qm_Pa_setReserve : am_M := (RX9, yX9_setReserve, cX9_setReserve, 4, some .int, 3, 6, 0)
def qm_Pa_withdrawLot : am_M := (RX9, yX9_withdrawLot, cX9_withdrawLot, 4, some .int, 3, 6, 0)
def qm_Pa_addBidder : am_M := (RX9, yX9_addBidder, cX9_addBidder, 2, some .int, 2, 6, 0)
def qm_Pa_setLimit : am_M := (RX9, yX9_setLimit, cX9_setLimit, 4, some .int, 3, 6, 0)
def qm_Pa_set : am_M := (RX9, yX9_set, cX9_set, 4, some .int, 3, 6, 0)
def qm_Pa_bid : am_M := (RX9, yX9_bid, cX9_bid, 6, some .int, 6, 6, 0)
def qm_Pa_withdrawBid : am_M := (RX9, yX9_withdrawBid, cX9_withdrawBid, 2, some .int, 2, 6, 0)
def qm_Pa_type : am_M := (RX9, yX9_type, cX9_type, 2, some .int, 2, 1, 0)
def qm_Pa_clearText : am_M := (RX9, yX9_clearText, cX9_clearText, 2, some .int, 1, 0, 0)
def qm_Pa_letter : am_M := (RX9, yX9_letter, cX9_letter, 6, some .int, 3, 6, 0)
def qm_Pa_undo : am_M := (RX9, yX9_undo, cX9_undo, 1, some .int, 1, 5, 0)
def qm_Pa_sale : am_M := (RX9, yX9_sale, cX9_sale, 3, some .int, 3, 6, 0)
def qm_Pa_ranked : am_M := (RX9, yX9_ranked, cX9_ranked, 3, some .int, 3, 6, 0)
def qm_Pa_fate : am_M := (RX9, yX9_fate, cX9_fate, 2, some .int, 2, 6, 0)
def qm_Pa_needed : am_M := (RX9, yX9_needed, cX9_needed, 4, some .int, 4, 6, 0)
def qm_Pa_lot : am_M := (RX9, yX9_lot, cX9_lot, 3, some .int, 3, 5, 0)
def qm_Pa_bidOf : am_M := (RX9, yX9_bidOf, cX9_bidOf, 3, some .int, 3, 6, 0)
def qm_Pa_bidder : am_M := (RX9, yX9_bidder, cX9_bidder, 3, some .int, 3, 6, 0)
def qm_Pa_seller : am_M := (RX9, yX9_seller, cX9_seller, 3, some .long, 3, 6, 0)
def qm_Pa_account : am_M := (RX9, yX9_account, cX9_account, 2, some .long, 2, 6, 0)
def qm_Pa_count : am_M := (RX9, yX9_count, cX9_count, 2, some .int, 2, 6, 0)
def qm_Pa_isOutside : am_M := (RX9, yX9_isOutside, cX9_isOutside, 3, some .boolean, 3, 0, 1)
def qm_Pa_mostOfSetting : am_M := (RX9, yX9_mostOfSetting, cX9_mostOfSetting, 1, some .int, 1, 0, 1)
def qm_Pa_isLot : am_M := (RX9, yX9_isLot, cX9_isLot, 2, some .boolean, 2, 0, 0)
def qm_Pa_isBidder : am_M := (RX9, yX9_isBidder, cX9_isBidder, 2, some .boolean, 2, 0, 0)
def qm_Pa_isBid : am_M := (RX9, yX9_isBid, cX9_isBid, 2, some .boolean, 2, 0, 0)
def qm_Pa_beginAct : am_M := (RX9, yX9_beginAct, cX9_beginAct, 1, none, 1, 5, 0)
def qm_L_cell : am_M := (RL, yL_cell, cL_cell, 2, some .int, 2, 0, 1)
def qm_L_low : am_M := (RL, yL_low, cL_low, 2, some .int, 2, 0, 1)
def qm_L_lost : am_M := (RL, yL_lost, cL_lost, 2, some .boolean, 1, 0, 1)
def qm_L_steps : am_M := (RL, yL_steps, cL_steps, 6, some .boolean, 2, 5, 1)
def qm_L_ask : am_M := (RL, yL_ask, cL_ask, 12, none, 6, 7, 1)
def qm_L_lot : am_M := (RL, yL_lot, cL_lot, 17, some .boolean, 6, 7, 1)
def qm_L_money : am_M := (RL, yL_money, cL_money, 20, some .boolean, 1, 7, 1)
def qm_L_needs : am_M := (RL, yL_needs, cL_needs, 7, some .boolean, 4, 7, 1)
def qm_L_letters : am_M := (RL, yL_letters, cL_letters, 10, some .boolean, 4, 7, 1)
def qm_L_put : am_M := (RL, yL_put, cL_put, 3, some .int, 2, 2, 1)
def qm_L_errors : am_M := (RL, yL_errors, cL_errors, 5, some .boolean, 1, 7, 1)
def qm_law : am_M := (RL, x, code, 17, some .boolean, 1, 8, 1)
def am_N : Nat := 112
def am_meth (i : Nat) : am_M := bif Nat.blt i 56 then (bif Nat.blt i 28 then (bif Nat.blt i 14 then (bif Nat.blt i 7 then (bif Nat.blt i 3 then (bif Nat.blt i 1 then (qm_Bids_init) else (bif Nat.blt i 2 then (qm_Bids_copy) else (qm_Bids_add))) else (bif Nat.blt i 5 then (bif Nat.blt i 4 then (qm_Bids_freeGroup) else (qm_History_init)) else (bif Nat.blt i 6 then (qm_History_keep) else (qm_History_restore)))) else (bif Nat.blt i 10 then (bif Nat.blt i 8 then (qm_History_dropOldest) else (bif Nat.blt i 9 then (qm_Letter_init) else (qm_Letter_append))) else (bif Nat.blt i 12 then (bif Nat.blt i 11 then (qm_Letter_isInOneWish) else (qm_Letter_read)) else (bif Nat.blt i 13 then (qm_Letter_startNumber) else (qm_Letter_readDigit))))) else (bif Nat.blt i 21 then (bif Nat.blt i 17 then (bif Nat.blt i 15 then (qm_Letter_readMark) else (bif Nat.blt i 16 then (qm_Letter_readEnd) else (qm_Letter_isTooGreat))) else (bif Nat.blt i 19 then (bif Nat.blt i 18 then (qm_Letter_takeNumber) else (qm_Lots_init)) else (bif Nat.blt i 20 then (qm_Lots_copy) else (qm_Lots_add)))) else (bif Nat.blt i 24 then (bif Nat.blt i 22 then (qm_Money_init) else (bif Nat.blt i 23 then (qm_Money_paidBy) else (qm_Money_total))) else (bif Nat.blt i 26 then (bif Nat.blt i 25 then (qm_Money_payments) else (qm_Money_receipts)) else (bif Nat.blt i 27 then (qm_Money_part) else (qm_Money_owesFee)))))) else (bif Nat.blt i 42 then (bif Nat.blt i 35 then (bif Nat.blt i 31 then (bif Nat.blt i 29 then (qm_Row_init) else (bif Nat.blt i 30 then (qm_Row_get) else (qm_Row_put))) else (bif Nat.blt i 33 then (bif Nat.blt i 32 then (qm_Row_copy) else (qm_Row_sum)) else (bif Nat.blt i 34 then (qm_Row_countOf) else (qm_Sale_init)))) else (bif Nat.blt i 38 then (bif Nat.blt i 36 then (qm_Sale_hold) else (bif Nat.blt i 37 then (qm_Sale_bidAt) else (qm_Sale_leftBefore))) else (bif Nat.blt i 40 then (bif Nat.blt i 39 then (qm_Sale_soldLots) else (qm_Sale_judgeBids)) else (bif Nat.blt i 41 then (qm_Sale_judge) else (qm_Sale_reasonAgainst))))) else (bif Nat.blt i 49 then (bif Nat.blt i 45 then (bif Nat.blt i 43 then (qm_Sale_hasAlternativeBought) else (bif Nat.blt i 44 then (qm_Sale_chooseBetween) else (qm_Sale_orderBids))) else (bif Nat.blt i 47 then (bif Nat.blt i 46 then (qm_Sale_insert) else (qm_Sale_goesBefore)) else (bif Nat.blt i 48 then (qm_Sale_sell) else (qm_Sale_stateOf)))) else (bif Nat.blt i 52 then (bif Nat.blt i 50 then (qm_Sale_priceOf) else (bif Nat.blt i 51 then (qm_Sale_leastAmount) else (qm_Sale_leastWorth))) else (bif Nat.blt i 54 then (bif Nat.blt i 53 then (qm_State_init) else (qm_State_copy)) else (bif Nat.blt i 55 then (qm_State_askingPrice) else (qm_State_isLate))))))) else (bif Nat.blt i 84 then (bif Nat.blt i 70 then (bif Nat.blt i 63 then (bif Nat.blt i 59 then (bif Nat.blt i 57 then (qm_State_lateBids) else (bif Nat.blt i 58 then (qm_Steps_init) else (qm_Steps_copy))) else (bif Nat.blt i 61 then (bif Nat.blt i 60 then (qm_Steps_hasBand) else (qm_Steps_hasRoomFor)) else (bif Nat.blt i 62 then (qm_Steps_putBand) else (qm_Steps_dropBand)))) else (bif Nat.blt i 66 then (bif Nat.blt i 64 then (qm_Steps_placeOf) else (bif Nat.blt i 65 then (qm_Steps_bandOf) else (qm_Steps_floor))) else (bif Nat.blt i 68 then (bif Nat.blt i 67 then (qm_Steps_ceiling) else (qm_Steps_next)) else (bif Nat.blt i 69 then (qm_Pa_init) else (qm_Pa_setBand))))) else (bif Nat.blt i 77 then (bif Nat.blt i 73 then (bif Nat.blt i 71 then (qm_Pa_removeBand) else (bif Nat.blt i 72 then (qm_Pa_valid) else (qm_Pa_addLot))) else (bif Nat.blt i 75 then (bif Nat.blt i 74 then (qm_Pa_setReserve) else (qm_Pa_withdrawLot)) else (bif Nat.blt i 76 then (qm_Pa_addBidder) else (qm_Pa_setLimit)))) else (bif Nat.blt i 80 then (bif Nat.blt i 78 then (qm_Pa_set) else (bif Nat.blt i 79 then (qm_Pa_bid) else (qm_Pa_withdrawBid))) else (bif Nat.blt i 82 then (bif Nat.blt i 81 then (qm_Pa_type) else (qm_Pa_clearText)) else (bif Nat.blt i 83 then (qm_Pa_letter) else (qm_Pa_undo)))))) else (bif Nat.blt i 98 then (bif Nat.blt i 91 then (bif Nat.blt i 87 then (bif Nat.blt i 85 then (qm_Pa_sale) else (bif Nat.blt i 86 then (qm_Pa_ranked) else (qm_Pa_fate))) else (bif Nat.blt i 89 then (bif Nat.blt i 88 then (qm_Pa_needed) else (qm_Pa_lot)) else (bif Nat.blt i 90 then (qm_Pa_bidOf) else (qm_Pa_bidder)))) else (bif Nat.blt i 94 then (bif Nat.blt i 92 then (qm_Pa_seller) else (bif Nat.blt i 93 then (qm_Pa_account) else (qm_Pa_count))) else (bif Nat.blt i 96 then (bif Nat.blt i 95 then (qm_Pa_isOutside) else (qm_Pa_mostOfSetting)) else (bif Nat.blt i 97 then (qm_Pa_isLot) else (qm_Pa_isBidder))))) else (bif Nat.blt i 105 then (bif Nat.blt i 101 then (bif Nat.blt i 99 then (qm_Pa_isBid) else (bif Nat.blt i 100 then (qm_Pa_beginAct) else (qm_L_cell))) else (bif Nat.blt i 103 then (bif Nat.blt i 102 then (qm_L_low) else (qm_L_lost)) else (bif Nat.blt i 104 then (qm_L_steps) else (qm_L_ask)))) else (bif Nat.blt i 108 then (bif Nat.blt i 106 then (qm_L_lot) else (bif Nat.blt i 107 then (qm_L_money) else (qm_L_needs))) else (bif Nat.blt i 110 then (bif Nat.blt i 109 then (qm_L_letters) else (qm_L_put)) else (bif Nat.blt i 111 then (qm_L_errors) else (qm_law)))))))
def am_maxl (i : Nat) : Nat := bif Nat.blt i 56 then (bif Nat.blt i 28 then (bif Nat.blt i 14 then (bif Nat.blt i 7 then (bif Nat.blt i 3 then (bif Nat.blt i 1 then (1) else (bif Nat.blt i 2 then (2) else (6))) else (bif Nat.blt i 5 then (bif Nat.blt i 4 then (4) else (2)) else (bif Nat.blt i 6 then (3) else (3)))) else (bif Nat.blt i 10 then (bif Nat.blt i 8 then (3) else (bif Nat.blt i 9 then (1) else (2))) else (bif Nat.blt i 12 then (bif Nat.blt i 11 then (3) else (6)) else (bif Nat.blt i 13 then (1) else (4))))) else (bif Nat.blt i 21 then (bif Nat.blt i 17 then (bif Nat.blt i 15 then (5) else (bif Nat.blt i 16 then (2) else (2))) else (bif Nat.blt i 19 then (bif Nat.blt i 18 then (1) else (1)) else (bif Nat.blt i 20 then (2) else (4)))) else (bif Nat.blt i 24 then (bif Nat.blt i 22 then (3) else (bif Nat.blt i 23 then (4) else (6))) else (bif Nat.blt i 26 then (bif Nat.blt i 25 then (1) else (2)) else (bif Nat.blt i 27 then (4) else (3)))))) else (bif Nat.blt i 42 then (bif Nat.blt i 35 then (bif Nat.blt i 31 then (bif Nat.blt i 29 then (2) else (bif Nat.blt i 30 then (2) else (3))) else (bif Nat.blt i 33 then (bif Nat.blt i 32 then (2) else (4)) else (bif Nat.blt i 34 then (5) else (2)))) else (bif Nat.blt i 38 then (bif Nat.blt i 36 then (2) else (bif Nat.blt i 37 then (3) else (5))) else (bif Nat.blt i 40 then (bif Nat.blt i 39 then (5) else (3)) else (bif Nat.blt i 41 then (6) else (3))))) else (bif Nat.blt i 49 then (bif Nat.blt i 45 then (bif Nat.blt i 43 then (7) else (bif Nat.blt i 44 then (3) else (4))) else (bif Nat.blt i 47 then (bif Nat.blt i 46 then (5) else (7)) else (bif Nat.blt i 48 then (5) else (3)))) else (bif Nat.blt i 52 then (bif Nat.blt i 50 then (4) else (bif Nat.blt i 51 then (6) else (9))) else (bif Nat.blt i 54 then (bif Nat.blt i 53 then (1) else (2)) else (bif Nat.blt i 55 then (2) else (2))))))) else (bif Nat.blt i 84 then (bif Nat.blt i 70 then (bif Nat.blt i 63 then (bif Nat.blt i 59 then (bif Nat.blt i 57 then (3) else (bif Nat.blt i 58 then (1) else (2))) else (bif Nat.blt i 61 then (bif Nat.blt i 60 then (2) else (2)) else (bif Nat.blt i 62 then (4) else (3)))) else (bif Nat.blt i 66 then (bif Nat.blt i 64 then (3) else (bif Nat.blt i 65 then (5) else (5))) else (bif Nat.blt i 68 then (bif Nat.blt i 67 then (2) else (8)) else (bif Nat.blt i 69 then (1) else (3))))) else (bif Nat.blt i 77 then (bif Nat.blt i 73 then (bif Nat.blt i 71 then (2) else (bif Nat.blt i 72 then (3) else (4))) else (bif Nat.blt i 75 then (bif Nat.blt i 74 then (4) else (4)) else (bif Nat.blt i 76 then (2) else (4)))) else (bif Nat.blt i 80 then (bif Nat.blt i 78 then (4) else (bif Nat.blt i 79 then (6) else (2))) else (bif Nat.blt i 82 then (bif Nat.blt i 81 then (2) else (2)) else (bif Nat.blt i 83 then (6) else (1)))))) else (bif Nat.blt i 98 then (bif Nat.blt i 91 then (bif Nat.blt i 87 then (bif Nat.blt i 85 then (3) else (bif Nat.blt i 86 then (3) else (2))) else (bif Nat.blt i 89 then (bif Nat.blt i 88 then (4) else (3)) else (bif Nat.blt i 90 then (3) else (3)))) else (bif Nat.blt i 94 then (bif Nat.blt i 92 then (3) else (bif Nat.blt i 93 then (2) else (2))) else (bif Nat.blt i 96 then (bif Nat.blt i 95 then (3) else (1)) else (bif Nat.blt i 97 then (2) else (2))))) else (bif Nat.blt i 105 then (bif Nat.blt i 101 then (bif Nat.blt i 99 then (2) else (bif Nat.blt i 100 then (1) else (2))) else (bif Nat.blt i 103 then (bif Nat.blt i 102 then (2) else (2)) else (bif Nat.blt i 104 then (6) else (12)))) else (bif Nat.blt i 108 then (bif Nat.blt i 106 then (17) else (bif Nat.blt i 107 then (20) else (7))) else (bif Nat.blt i 110 then (bif Nat.blt i 109 then (10) else (3)) else (bif Nat.blt i 111 then (5) else (17)))))))
def am_ret (i : Nat) : Option FieldType := bif Nat.blt i 56 then (bif Nat.blt i 28 then (bif Nat.blt i 14 then (bif Nat.blt i 7 then (bif Nat.blt i 3 then (bif Nat.blt i 1 then (none) else (bif Nat.blt i 2 then (none) else (some .int))) else (bif Nat.blt i 5 then (bif Nat.blt i 4 then (some .int) else (none)) else (bif Nat.blt i 6 then (none) else (none)))) else (bif Nat.blt i 10 then (bif Nat.blt i 8 then (none) else (bif Nat.blt i 9 then (none) else (some .boolean))) else (bif Nat.blt i 12 then (bif Nat.blt i 11 then (some .boolean) else (some .int)) else (bif Nat.blt i 13 then (none) else (some .int))))) else (bif Nat.blt i 21 then (bif Nat.blt i 17 then (bif Nat.blt i 15 then (some .int) else (bif Nat.blt i 16 then (some .int) else (some .boolean))) else (bif Nat.blt i 19 then (bif Nat.blt i 18 then (none) else (none)) else (bif Nat.blt i 20 then (none) else (some .int)))) else (bif Nat.blt i 24 then (bif Nat.blt i 22 then (none) else (bif Nat.blt i 23 then (some .int) else (some .long))) else (bif Nat.blt i 26 then (bif Nat.blt i 25 then (some .long) else (some .long)) else (bif Nat.blt i 27 then (some .int) else (some .boolean)))))) else (bif Nat.blt i 42 then (bif Nat.blt i 35 then (bif Nat.blt i 31 then (bif Nat.blt i 29 then (none) else (bif Nat.blt i 30 then (some .int) else (none))) else (bif Nat.blt i 33 then (bif Nat.blt i 32 then (none) else (some .int)) else (bif Nat.blt i 34 then (some .int) else (none)))) else (bif Nat.blt i 38 then (bif Nat.blt i 36 then (none) else (bif Nat.blt i 37 then (some .int) else (some .int))) else (bif Nat.blt i 40 then (bif Nat.blt i 39 then (some .int) else (none)) else (bif Nat.blt i 41 then (none) else (some .int))))) else (bif Nat.blt i 49 then (bif Nat.blt i 45 then (bif Nat.blt i 43 then (some .boolean) else (bif Nat.blt i 44 then (none) else (none))) else (bif Nat.blt i 47 then (bif Nat.blt i 46 then (none) else (some .boolean)) else (bif Nat.blt i 48 then (none) else (some .int)))) else (bif Nat.blt i 52 then (bif Nat.blt i 50 then (some .int) else (bif Nat.blt i 51 then (some .int) else (some .int))) else (bif Nat.blt i 54 then (bif Nat.blt i 53 then (none) else (none)) else (bif Nat.blt i 55 then (some .int) else (some .boolean))))))) else (bif Nat.blt i 84 then (bif Nat.blt i 70 then (bif Nat.blt i 63 then (bif Nat.blt i 59 then (bif Nat.blt i 57 then (some .int) else (bif Nat.blt i 58 then (none) else (none))) else (bif Nat.blt i 61 then (bif Nat.blt i 60 then (some .boolean) else (some .boolean)) else (bif Nat.blt i 62 then (none) else (none)))) else (bif Nat.blt i 66 then (bif Nat.blt i 64 then (some .int) else (bif Nat.blt i 65 then (some .int) else (some .int))) else (bif Nat.blt i 68 then (bif Nat.blt i 67 then (some .int) else (some .int)) else (bif Nat.blt i 69 then (none) else (some .int))))) else (bif Nat.blt i 77 then (bif Nat.blt i 73 then (bif Nat.blt i 71 then (some .int) else (bif Nat.blt i 72 then (some .int) else (some .int))) else (bif Nat.blt i 75 then (bif Nat.blt i 74 then (some .int) else (some .int)) else (bif Nat.blt i 76 then (some .int) else (some .int)))) else (bif Nat.blt i 80 then (bif Nat.blt i 78 then (some .int) else (bif Nat.blt i 79 then (some .int) else (some .int))) else (bif Nat.blt i 82 then (bif Nat.blt i 81 then (some .int) else (some .int)) else (bif Nat.blt i 83 then (some .int) else (some .int)))))) else (bif Nat.blt i 98 then (bif Nat.blt i 91 then (bif Nat.blt i 87 then (bif Nat.blt i 85 then (some .int) else (bif Nat.blt i 86 then (some .int) else (some .int))) else (bif Nat.blt i 89 then (bif Nat.blt i 88 then (some .int) else (some .int)) else (bif Nat.blt i 90 then (some .int) else (some .int)))) else (bif Nat.blt i 94 then (bif Nat.blt i 92 then (some .long) else (bif Nat.blt i 93 then (some .long) else (some .int))) else (bif Nat.blt i 96 then (bif Nat.blt i 95 then (some .boolean) else (some .int)) else (bif Nat.blt i 97 then (some .boolean) else (some .boolean))))) else (bif Nat.blt i 105 then (bif Nat.blt i 101 then (bif Nat.blt i 99 then (some .boolean) else (bif Nat.blt i 100 then (none) else (some .int))) else (bif Nat.blt i 103 then (bif Nat.blt i 102 then (some .int) else (some .boolean)) else (bif Nat.blt i 104 then (some .boolean) else (none)))) else (bif Nat.blt i 108 then (bif Nat.blt i 106 then (some .boolean) else (bif Nat.blt i 107 then (some .boolean) else (some .boolean))) else (bif Nat.blt i 110 then (bif Nat.blt i 109 then (some .boolean) else (some .int)) else (bif Nat.blt i 111 then (some .boolean) else (some .boolean)))))))
/-- the class of which a receiver has to be, for a method that is called on an object -/
def am_rk (i : Nat) : Option Nat := bif Nat.blt i 56 then (bif Nat.blt i 28 then (bif Nat.blt i 14 then (bif Nat.blt i 7 then (bif Nat.blt i 3 then (bif Nat.blt i 1 then (some 0) else (bif Nat.blt i 2 then (some 0) else (some 0))) else (bif Nat.blt i 5 then (bif Nat.blt i 4 then (some 0) else (some 1)) else (bif Nat.blt i 6 then (some 1) else (some 1)))) else (bif Nat.blt i 10 then (bif Nat.blt i 8 then (some 1) else (bif Nat.blt i 9 then (some 2) else (some 2))) else (bif Nat.blt i 12 then (bif Nat.blt i 11 then (some 2) else (some 2)) else (bif Nat.blt i 13 then (some 2) else (some 2))))) else (bif Nat.blt i 21 then (bif Nat.blt i 17 then (bif Nat.blt i 15 then (some 2) else (bif Nat.blt i 16 then (some 2) else (some 2))) else (bif Nat.blt i 19 then (bif Nat.blt i 18 then (some 2) else (some 3)) else (bif Nat.blt i 20 then (some 3) else (some 3)))) else (bif Nat.blt i 24 then (bif Nat.blt i 22 then (some 4) else (bif Nat.blt i 23 then (some 4) else (some 4))) else (bif Nat.blt i 26 then (bif Nat.blt i 25 then (some 4) else (some 4)) else (bif Nat.blt i 27 then (some 4) else (some 4)))))) else (bif Nat.blt i 42 then (bif Nat.blt i 35 then (bif Nat.blt i 31 then (bif Nat.blt i 29 then (some 5) else (bif Nat.blt i 30 then (some 5) else (some 5))) else (bif Nat.blt i 33 then (bif Nat.blt i 32 then (some 5) else (some 5)) else (bif Nat.blt i 34 then (some 5) else (some 6)))) else (bif Nat.blt i 38 then (bif Nat.blt i 36 then (some 6) else (bif Nat.blt i 37 then (some 6) else (some 6))) else (bif Nat.blt i 40 then (bif Nat.blt i 39 then (some 6) else (some 6)) else (bif Nat.blt i 41 then (some 6) else (some 6))))) else (bif Nat.blt i 49 then (bif Nat.blt i 45 then (bif Nat.blt i 43 then (some 6) else (bif Nat.blt i 44 then (some 6) else (some 6))) else (bif Nat.blt i 47 then (bif Nat.blt i 46 then (some 6) else (some 6)) else (bif Nat.blt i 48 then (some 6) else (some 6)))) else (bif Nat.blt i 52 then (bif Nat.blt i 50 then (some 6) else (bif Nat.blt i 51 then (some 6) else (some 6))) else (bif Nat.blt i 54 then (bif Nat.blt i 53 then (some 7) else (some 7)) else (bif Nat.blt i 55 then (some 7) else (some 7))))))) else (bif Nat.blt i 84 then (bif Nat.blt i 70 then (bif Nat.blt i 63 then (bif Nat.blt i 59 then (bif Nat.blt i 57 then (some 7) else (bif Nat.blt i 58 then (some 8) else (some 8))) else (bif Nat.blt i 61 then (bif Nat.blt i 60 then (some 8) else (some 8)) else (bif Nat.blt i 62 then (some 8) else (some 8)))) else (bif Nat.blt i 66 then (bif Nat.blt i 64 then (some 8) else (bif Nat.blt i 65 then (some 8) else (some 8))) else (bif Nat.blt i 68 then (bif Nat.blt i 67 then (some 8) else (some 8)) else (bif Nat.blt i 69 then (some 9) else (some 9))))) else (bif Nat.blt i 77 then (bif Nat.blt i 73 then (bif Nat.blt i 71 then (some 9) else (bif Nat.blt i 72 then (some 9) else (some 9))) else (bif Nat.blt i 75 then (bif Nat.blt i 74 then (some 9) else (some 9)) else (bif Nat.blt i 76 then (some 9) else (some 9)))) else (bif Nat.blt i 80 then (bif Nat.blt i 78 then (some 9) else (bif Nat.blt i 79 then (some 9) else (some 9))) else (bif Nat.blt i 82 then (bif Nat.blt i 81 then (some 9) else (some 9)) else (bif Nat.blt i 83 then (some 9) else (some 9)))))) else (bif Nat.blt i 98 then (bif Nat.blt i 91 then (bif Nat.blt i 87 then (bif Nat.blt i 85 then (some 9) else (bif Nat.blt i 86 then (some 9) else (some 9))) else (bif Nat.blt i 89 then (bif Nat.blt i 88 then (some 9) else (some 9)) else (bif Nat.blt i 90 then (some 9) else (some 9)))) else (bif Nat.blt i 94 then (bif Nat.blt i 92 then (some 9) else (bif Nat.blt i 93 then (some 9) else (some 9))) else (bif Nat.blt i 96 then (bif Nat.blt i 95 then (none) else (none)) else (bif Nat.blt i 97 then (some 9) else (some 9))))) else (bif Nat.blt i 105 then (bif Nat.blt i 101 then (bif Nat.blt i 99 then (some 9) else (bif Nat.blt i 100 then (some 9) else (none))) else (bif Nat.blt i 103 then (bif Nat.blt i 102 then (none) else (none)) else (bif Nat.blt i 104 then (none) else (none)))) else (bif Nat.blt i 108 then (bif Nat.blt i 106 then (none) else (bif Nat.blt i 107 then (none) else (none))) else (bif Nat.blt i 110 then (bif Nat.blt i 109 then (none) else (none)) else (bif Nat.blt i 111 then (none) else (none)))))))
/-- where the words of a method stand: its code, its class as initialised, instance or static, selects -/
def am_mp (i : Nat) : Nat × Nat × Nat × Nat := bif Nat.blt i 56 then (bif Nat.blt i 28 then (bif Nat.blt i 14 then (bif Nat.blt i 7 then (bif Nat.blt i 3 then (bif Nat.blt i 1 then ((133, 34, 132, 0)) else (bif Nat.blt i 2 then ((411, 34, 409, 410)) else ((484, 34, 482, 483)))) else (bif Nat.blt i 5 then (bif Nat.blt i 4 then ((771, 34, 769, 770)) else ((213, 35, 212, 0))) else (bif Nat.blt i 6 then ((379, 35, 377, 378)) else ((721, 35, 719, 720))))) else (bif Nat.blt i 10 then (bif Nat.blt i 8 then ((383, 35, 382, 2)) else (bif Nat.blt i 9 then ((295, 38, 294, 0)) else ((784, 38, 782, 783)))) else (bif Nat.blt i 12 then (bif Nat.blt i 11 then ((766, 38, 764, 765)) else ((736, 38, 734, 735))) else (bif Nat.blt i 13 then ((740, 38, 739, 21)) else ((744, 38, 743, 22)))))) else (bif Nat.blt i 21 then (bif Nat.blt i 17 then (bif Nat.blt i 15 then ((748, 38, 747, 23)) else (bif Nat.blt i 16 then ((762, 38, 761, 26)) else ((752, 38, 751, 24)))) else (bif Nat.blt i 19 then (bif Nat.blt i 18 then ((757, 38, 756, 25)) else ((93, 33, 92, 0))) else (bif Nat.blt i 20 then ((405, 33, 403, 404)) else ((437, 33, 435, 436))))) else (bif Nat.blt i 24 then (bif Nat.blt i 22 then ((282, 37, 281, 0)) else (bif Nat.blt i 23 then ((609, 37, 607, 608)) else ((679, 37, 677, 678)))) else (bif Nat.blt i 26 then (bif Nat.blt i 25 then ((692, 37, 690, 691)) else ((683, 37, 681, 682))) else (bif Nat.blt i 27 then ((614, 37, 613, 18)) else ((618, 37, 617, 19))))))) else (bif Nat.blt i 42 then (bif Nat.blt i 35 then (bif Nat.blt i 31 then (bif Nat.blt i 29 then ((64, 31, 63, 0)) else (bif Nat.blt i 30 then ((371, 31, 369, 370)) else ((77, 31, 75, 76)))) else (bif Nat.blt i 33 then (bif Nat.blt i 32 then ((395, 31, 393, 394)) else ((456, 31, 454, 455))) else (bif Nat.blt i 34 then ((596, 31, 594, 595)) else ((230, 36, 229, 0))))) else (bif Nat.blt i 38 then (bif Nat.blt i 36 then ((501, 36, 499, 500)) else (bif Nat.blt i 37 then ((576, 36, 574, 575)) else ((538, 36, 536, 537)))) else (bif Nat.blt i 40 then (bif Nat.blt i 39 then ((626, 36, 624, 625)) else ((529, 36, 528, 7))) else (bif Nat.blt i 41 then ((534, 36, 533, 8)) else ((544, 36, 543, 9)))))) else (bif Nat.blt i 49 then (bif Nat.blt i 45 then (bif Nat.blt i 43 then ((552, 36, 551, 10)) else (bif Nat.blt i 44 then ((556, 36, 555, 11)) else ((560, 36, 559, 12)))) else (bif Nat.blt i 47 then (bif Nat.blt i 46 then ((564, 36, 563, 13)) else ((568, 36, 567, 14))) else (bif Nat.blt i 48 then ((572, 36, 571, 15)) else ((580, 36, 579, 16))))) else (bif Nat.blt i 52 then (bif Nat.blt i 50 then ((584, 36, 583, 17)) else (bif Nat.blt i 51 then ((707, 36, 705, 706)) else ((711, 36, 710, 20)))) else (bif Nat.blt i 54 then (bif Nat.blt i 53 then ((52, 29, 51, 0)) else ((387, 29, 385, 386))) else (bif Nat.blt i 55 then ((505, 29, 503, 504)) else ((548, 29, 546, 547)))))))) else (bif Nat.blt i 84 then (bif Nat.blt i 70 then (bif Nat.blt i 63 then (bif Nat.blt i 59 then (bif Nat.blt i 57 then ((630, 29, 628, 629)) else (bif Nat.blt i 58 then ((58, 30, 57, 0)) else ((391, 30, 389, 390)))) else (bif Nat.blt i 61 then (bif Nat.blt i 60 then ((425, 30, 423, 424)) else ((363, 30, 361, 362))) else (bif Nat.blt i 62 then ((416, 30, 414, 415)) else ((429, 30, 427, 428))))) else (bif Nat.blt i 66 then (bif Nat.blt i 64 then ((367, 30, 366, 0)) else (bif Nat.blt i 65 then ((519, 30, 518, 6)) else ((515, 30, 513, 514)))) else (bif Nat.blt i 68 then (bif Nat.blt i 67 then ((511, 30, 509, 510)) else ((523, 30, 521, 522))) else (bif Nat.blt i 69 then ((44, 28, 43, 0)) else ((354, 28, 352, 353)))))) else (bif Nat.blt i 77 then (bif Nat.blt i 73 then (bif Nat.blt i 71 then ((421, 28, 419, 420)) else (bif Nat.blt i 72 then ((646, 28, 644, 645)) else ((433, 28, 431, 432)))) else (bif Nat.blt i 75 then (bif Nat.blt i 74 then ((442, 28, 440, 441)) else ((452, 28, 450, 451))) else (bif Nat.blt i 76 then ((460, 28, 458, 459)) else ((465, 28, 463, 464))))) else (bif Nat.blt i 80 then (bif Nat.blt i 78 then ((473, 28, 471, 472)) else (bif Nat.blt i 79 then ((480, 28, 478, 479)) else ((489, 28, 487, 488)))) else (bif Nat.blt i 82 then (bif Nat.blt i 81 then ((780, 28, 778, 779)) else ((728, 28, 726, 727))) else (bif Nat.blt i 83 then ((732, 28, 730, 731)) else ((717, 28, 715, 716))))))) else (bif Nat.blt i 98 then (bif Nat.blt i 91 then (bif Nat.blt i 87 then (bif Nat.blt i 85 then ((497, 28, 495, 496)) else (bif Nat.blt i 86 then ((666, 28, 664, 665)) else ((662, 28, 660, 661)))) else (bif Nat.blt i 89 then (bif Nat.blt i 88 then ((703, 28, 701, 702)) else ((591, 28, 589, 590))) else (bif Nat.blt i 90 then ((600, 28, 598, 599)) else ((604, 28, 602, 603))))) else (bif Nat.blt i 94 then (bif Nat.blt i 92 then ((674, 28, 672, 673)) else (bif Nat.blt i 93 then ((688, 28, 686, 687)) else ((622, 28, 620, 621)))) else (bif Nat.blt i 96 then (bif Nat.blt i 95 then ((358, 28, 357, 0)) else ((476, 28, 475, 0))) else (bif Nat.blt i 97 then ((446, 28, 445, 3)) else ((469, 28, 468, 4)))))) else (bif Nat.blt i 105 then (bif Nat.blt i 101 then (bif Nat.blt i 99 then ((493, 28, 492, 5)) else (bif Nat.blt i 100 then ((375, 28, 374, 1)) else ((634, 27, 633, 0)))) else (bif Nat.blt i 103 then (bif Nat.blt i 102 then ((638, 27, 637, 0)) else ((695, 27, 694, 0))) else (bif Nat.blt i 104 then ((642, 27, 641, 0)) else ((655, 27, 654, 0))))) else (bif Nat.blt i 108 then (bif Nat.blt i 106 then ((658, 27, 657, 0)) else (bif Nat.blt i 107 then ((669, 27, 668, 0)) else ((699, 27, 698, 0)))) else (bif Nat.blt i 110 then (bif Nat.blt i 109 then ((724, 27, 723, 0)) else ((776, 27, 775, 0))) else (bif Nat.blt i 111 then ((787, 27, 786, 0)) else ((0, 0, 0, 0))))))))
/-- places of the words of Math.max, Math.min, System.arraycopy, Object(), of the kinds of arrays -/
def am_pm : List Nat := [67, 32, 68, 397, 398, 401, 400, 39, 46, 47]
def am_pa : List Nat := [73, 334]
/-- the class of which there are arrays, and the place of its word -/
def am_qc : Nat := 7
def am_qp : Nat := 216
/-- of a class: the places of its words instantiable and initialized, and of its fields -/
def am_cp1 (c : Nat) : Nat × Nat × List Nat := bif Nat.beq c 0 then (130, 34, [160, 162, 164, 166, 168, 170, 172]) else (bif Nat.beq c 1 then (210, 35, [221, 223]) else (bif Nat.beq c 2 then (292, 38, [313, 315, 317, 319, 321, 323, 325, 327, 329, 331]) else (bif Nat.beq c 3 then (90, 33, [116, 118, 120, 122, 124]) else (bif Nat.beq c 4 then (279, 37, [286, 288]) else (bif Nat.beq c 5 then (61, 31, [70]) else (bif Nat.beq c 6 then (227, 36, [255, 257, 259, 261, 263, 265, 267, 269, 271, 273, 275]) else (bif Nat.beq c 7 then (49, 29, [196, 198, 200, 202, 204, 206]) else (bif Nat.beq c 8 then (55, 30, [82, 84, 86]) else ((41, 28, [340, 342, 344, 346, 348]))))))))))
/-- the classes whose objects the heap holds -/
def am_cls : List vw_C := [(RX0, TX0, 7), (RX1, TX1, 2), (RX2, TX2, 10), (RX3, TX3, 5), (RX4, TX4, 2), (RX5, TX5, 1), (RX6, TX6, 11), (RX7, TX7, 6), (RX8, TX8, 3), (RX9, TX9, 5)]
def am_ty (c : Nat) : Nat → FieldType := bif Nat.beq c 0 then tyX0 else (bif Nat.beq c 1 then tyX1 else (bif Nat.beq c 2 then tyX2 else (bif Nat.beq c 3 then tyX3 else (bif Nat.beq c 4 then tyX4 else (bif Nat.beq c 5 then tyX5 else (bif Nat.beq c 6 then tyX6 else (bif Nat.beq c 7 then tyX7 else (bif Nat.beq c 8 then tyX8 else (tyX9)))))))))
def fX0 : List Value := [.null, .null, .null, .null, .null, .null, .int 0]
def fX1 : List Value := [.null, .int 0]
def fX2 : List Value := [.null, .int 0, .null, .null, .null, .int 0, .int 0, .int 0, .int 0, .int 0]
def fX3 : List Value := [.null, .null, .null, .null, .int 0]
def fX4 : List Value := [.null, .null]
def fX5 : List Value := [.null]
def fX6 : List Value := [.null, .null, .null, .null, .null, .null, .null, .null, .null, .null, .int 0]
def fX7 : List Value := [.null, .null, .null, .int 0, .null, .null]
def fX8 : List Value := [.null, .null, .int 0]
def fX9 : List Value := [.null, .null, .null, .null, .null]
/-- a new object of a class -/
def am_new (c : Nat) : List Value := bif Nat.beq c 0 then fX0 else (bif Nat.beq c 1 then fX1 else (bif Nat.beq c 2 then fX2 else (bif Nat.beq c 3 then fX3 else (bif Nat.beq c 4 then fX4 else (bif Nat.beq c 5 then fX5 else (bif Nat.beq c 6 then fX6 else (bif Nat.beq c 7 then fX7 else (bif Nat.beq c 8 then fX8 else (fX9)))))))))
def am_host : String := "PostalAuction"
end
section
/-! THE ABSTRACT MACHINE: a heap is a list of cells, a reference is a place in it (place 0: the law's script). A cell: an array of ints (kind 0), of chars (kind 1), the script (kind 7), or values: an object of a class (its number below 100) or an array of references (100 and the class's number). -/
abbrev am_C : Type := (Nat × List Int32) ⊕ (Nat × List Value)
abbrev am_H : Type := List am_C
abbrev am_R : Type := Option Value × am_H
abbrev am_S : Type := Nat × List Value × List Value × am_H
/-- what an instruction does: answers; goes on; branches; switches; reads an int; reads a reference; writes; calls (for an int, a long, nothing) -/
abbrev am_A : Type := am_R ⊕ am_S ⊕ (Bool × am_S × am_S) ⊕ (Int32 × List (Int32 × Nat) × Nat × List Value × List Value × am_H) ⊕ (Option Int32 × (Int32 → am_S)) ⊕ (Option Nat × (Nat → am_S)) ⊕ (Option am_H × (am_H → am_S)) ⊕ (Nat × List Value × am_H × (Int32 → am_H → am_S)) ⊕ (Nat × List Value × am_H × (Int64 → am_H → am_S)) ⊕ (Nat × List Value × am_H × (am_H → am_S)) ⊕ (Option Int32 × am_H)
abbrev am_Ret (r : am_R) : Option am_A := some (.inl r)
abbrev am_Go (s : am_S) : Option am_A := some (.inr (.inl s))
abbrev am_Br (b : Bool) (s t : am_S) : Option am_A := some (.inr (.inr (.inl (b, s, t))))
abbrev am_Sw (x : Int32) (t : List (Int32 × Nat)) (d : Nat) (L S : List Value) (h : am_H) : Option am_A := some (.inr (.inr (.inr (.inl (x, t, d, L, S, h)))))
abbrev am_Ri (o : Option Int32) (f : Int32 → am_S) : Option am_A := some (.inr (.inr (.inr (.inr (.inl (o, f))))))
abbrev am_Rr (o : Option Nat) (f : Nat → am_S) : Option am_A := some (.inr (.inr (.inr (.inr (.inr (.inl (o, f)))))))
abbrev am_Wr (o : Option am_H) (f : am_H → am_S) : Option am_A := some (.inr (.inr (.inr (.inr (.inr (.inr (.inl (o, f))))))))
abbrev am_Ci (j : Nat) (As : List Value) (h : am_H) (f : Int32 → am_H → am_S) : Option am_A := some (.inr (.inr (.inr (.inr (.inr (.inr (.inr (.inl (j, As, h, f)))))))))
abbrev am_Cl (j : Nat) (As : List Value) (h : am_H) (f : Int64 → am_H → am_S) : Option am_A := some (.inr (.inr (.inr (.inr (.inr (.inr (.inr (.inr (.inl (j, As, h, f))))))))))
abbrev am_Cv (j : Nat) (As : List Value) (h : am_H) (f : am_H → am_S) : Option am_A := some (.inr (.inr (.inr (.inr (.inr (.inr (.inr (.inr (.inr (.inl (j, As, h, f)))))))))))
/-- answers an int, if there is one -/
abbrev am_Rb (o : Option Int32) (h : am_H) : Option am_A := some (.inr (.inr (.inr (.inr (.inr (.inr (.inr (.inr (.inr (.inr (o, h)))))))))))
-- what a call gave
def am_bi (o : Option am_R) (f : Int32 → am_H → Option am_R) : Option am_R := match o with
  | some (some (.int x), h) => f x h
  | _ => none
def am_bl (o : Option am_R) (f : Int64 → am_H → Option am_R) : Option am_R := match o with
  | some (some (.long x), h) => f x h
  | _ => none
def am_bv (o : Option am_R) (f : am_H → Option am_R) : Option am_R := match o with
  | some (none, h) => f h
  | _ => none
def am_sw (x : Int32) (t : List (Int32 × Nat)) (d : Nat) (K : Nat → Option am_R) : Option am_R := match t with
  | [] => K d
  | q :: r => bif decide (x = q.1) then K q.2 else am_sw x r d K
-- the heap
def am_gi (h : am_H) (a c k : Nat) : Option Int32 := match h[a]? with
  | some (.inr (c', fs)) => bif Nat.beq c' c then (match fs[k]? with
    | some (.int x) => some x
    | _ => none) else none
  | _ => none
def am_gr (h : am_H) (a c k : Nat) : Option Nat := match h[a]? with
  | some (.inr (c', fs)) => bif Nat.beq c' c then (match fs[k]? with
    | some (.ref x) => some x
    | _ => none) else none
  | _ => none
def am_pf (h : am_H) (a c k : Nat) (v : Value) : Option am_H := match h[a]? with
  | some (.inr (c', fs)) => bif Nat.beq c' c && Nat.blt k fs.length then some (h.set a (.inr (c', fs.set k v))) else none
  | _ => none
def am_len (h : am_H) (a : Nat) : Option Int32 := match h[a]? with
  | some (.inl (t, l)) => bif Nat.ble t 1 || (Nat.beq t 7 && Nat.beq a 0) then some (Int32.ofNat l.length) else none
  | some (.inr (c, vs)) => bif Nat.beq c (am_qc + 100) then some (Int32.ofNat vs.length) else none
  | none => none
def am_in (i : Int32) (n : Nat) : Bool := !(decide (i < 0)) && Nat.blt i.toNatClampNeg n
/-- reads an array of kind t -/
def am_al (h : am_H) (t a : Nat) (i : Int32) : Option Int32 := match h[a]? with
  | some (.inl (t', l)) => bif (Nat.beq t' t || (Nat.beq t' 7 && (Nat.beq a 0 && Nat.beq t 0))) && am_in i l.length then l[i.toNatClampNeg]? else none
  | _ => none
/-- writes an array of kind t -/
def am_as (h : am_H) (t a : Nat) (i v : Int32) : Option am_H := match h[a]? with
  | some (.inl (t', l)) => bif Nat.beq t' t && am_in i l.length then some (h.set a (.inl (t', l.set i.toNatClampNeg v))) else none
  | _ => none
def am_ql (h : am_H) (a : Nat) (i : Int32) : Option Nat := match h[a]? with
  | some (.inr (c, vs)) => bif Nat.beq c (am_qc + 100) && am_in i vs.length then (match vs[i.toNatClampNeg]? with
    | some (.ref x) => some x
    | _ => none) else none
  | _ => none
def am_qs (h : am_H) (a : Nat) (i : Int32) (v : Nat) : Option am_H := match h[a]? with
  | some (.inr (c, vs)) => bif Nat.beq c (am_qc + 100) && am_in i vs.length then (match h[v]? with
    | some (.inr (c', _)) => bif Nat.beq (c' + 100) c then some (h.set a (.inr (c, vs.set i.toNatClampNeg (.ref v)))) else none
    | _ => none) else none
  | _ => none
def am_na (h : am_H) (t : Nat) (n : Int32) : Option am_H := bif decide (n < 0) || Nat.blt 1000000 n.toNatClampNeg then none else some (h ++ [.inl (t, List.replicate n.toNatClampNeg 0)])
def am_nq (h : am_H) (c : Nat) (n : Int32) : Option am_H := bif decide (n < 0) || Nat.blt 1000000 n.toNatClampNeg then none else some (h ++ [.inr (c + 100, List.replicate n.toNatClampNeg .null)])
/-- System.arraycopy of ints -/
def am_cpl (f g : List Int32) (sp dp n : Nat) : List Int32 := (List.range g.length).map (fun k => if dp ≤ k ∧ k < dp + n then f.getD (sp + (k - dp)) 0 else g.getD k 0)
def am_cp (h : am_H) (a : Nat) (sp : Int32) (b : Nat) (dp n : Int32) : Option am_H := match h[a]? with
  | some (.inl (0, f)) => (match h[b]? with
    | some (.inl (0, g)) => bif !(decide (sp < 0)) && (!(decide (dp < 0)) && (!(decide (n < 0)) && (Nat.ble (sp.toNatClampNeg + n.toNatClampNeg) f.length && Nat.ble (dp.toNatClampNeg + n.toNatClampNeg) g.length))) then some (h.set b (.inl (0, am_cpl f g sp.toNatClampNeg dp.toNatClampNeg n.toNatClampNeg))) else none
    | _ => none)
  | _ => none
-- numbers
def am_dv (x y : Int32) : Option Int32 := bif decide (y = 0) then none else some (x / y)
def am_rm (x y : Int32) : Option Int32 := bif decide (y = 0) then none else some (x - x / y * y)
def am_bz (x : Int32) : Option Int32 := bif decide (x = 0) || decide (x = 1) then some x else none
def am_cm (c : ClassFile.Cond) (x y : Int32) : Bool := match c with
  | .eq => decide (x = y)
  | .ne => decide (¬ x = y)
  | .lt => decide (x < y)
  | .ge => decide (y ≤ x)
  | .gt => decide (y < x)
  | .le => decide (x ≤ y)
abbrev am_max (x y : Int32) : Int32 := if x < y then y else x
abbrev am_min (x y : Int32) : Int32 := if y < x then y else x
-- locals: a place that holds nothing that may be read is .float 0
def am_st1 (L : List Value) (i : Nat) (v : Value) : List Value := L.set i v
def am_st2 (L : List Value) (i : Nat) (v : Value) : List Value := (L.set i v).set (i + 1) (.float 0)
def am_l0 (j : Nat) (As : List Value) : List Value := As ++ List.replicate (am_maxl j - As.length) (.float 0)
def am_cat (S : List Value) : Nat := (S.map fun v => v.category).sum
def am_find (l : List am_E) (pc : Nat) : Option am_E := match l with
  | [] => none
  | e :: r => bif Nat.beq e.1 pc then some e else am_find r pc
/-- a call of method j with the top n of the stack; j from 1000: Math.max, Math.min, System.arraycopy, Object() -/
def am_inv (j n pc : Nat) (L S : List Value) (h : am_H) : Option am_A :=
  bif Nat.blt 8 (am_cat (S.drop n)) || (Nat.blt S.length n || !(Nat.beq (am_cat (S.take n)) n)) then none else
  bif Nat.blt j 1000 then (match am_ret j with
    | some .long => am_Cl j (S.take n).reverse h (fun x h => (pc, L, .long x :: S.drop n, h))
    | some _ => am_Ci j (S.take n).reverse h (fun x h => (pc, L, .int x :: S.drop n, h))
    | none => am_Cv j (S.take n).reverse h (fun h => (pc, L, S.drop n, h))) else
  (match j, S with
    | 1000, .int y :: .int x :: r => am_Go (pc, L, .int (am_max x y) :: r, h)
    | 1001, .int y :: .int x :: r => am_Go (pc, L, .int (am_min x y) :: r, h)
    | 1002, .int n :: .int dp :: .ref b :: .int sp :: .ref a :: r => am_Wr (am_cp h a sp b dp n) (fun h => (pc, L, r, h))
    | 1003, .ref _ :: r => am_Go (pc, L, r, h)
    | _, _ => none)
/-- one instruction of method i -/
def am_step (i : Nat) (e : am_E) (L S : List Value) (h : am_H) : Option am_A := match e with
  | (pc, ins, len, a1, a2, _, ci, cl, sw) => match ins with
    | .iconst _ | .bipush _ | .sipush _ | .ldc _ => am_Go (pc + len, L, .int ci :: S, h)
    | .lconst _ | .ldc2_w _ => am_Go (pc + len, L, .long cl :: S, h)
    | .aconst_null => am_Go (pc + 1, L, .null :: S, h)
    | .iload_n _ | .iload _ => (match L[a1]? with
      | some (.int x) => am_Go (pc + len, L, .int x :: S, h)
      | _ => none)
    | .lload_n _ | .lload _ => (match L[a1]? with
      | some (.long x) => am_Go (pc + len, L, .long x :: S, h)
      | _ => none)
    | .aload_n _ | .aload _ => (match L[a1]? with
      | some (.ref x) => am_Go (pc + len, L, .ref x :: S, h)
      | some .null => am_Go (pc + len, L, .null :: S, h)
      | _ => none)
    | .istore_n _ | .istore _ => (match S with
      | .int x :: r => am_Go (pc + len, am_st1 L a1 (.int x), r, h)
      | _ => none)
    | .lstore_n _ | .lstore _ => (match S with
      | .long x :: r => am_Go (pc + len, am_st2 L a1 (.long x), r, h)
      | _ => none)
    | .astore_n _ | .astore _ => (match S with
      | .ref x :: r => am_Go (pc + len, am_st1 L a1 (.ref x), r, h)
      | .null :: r => am_Go (pc + len, am_st1 L a1 .null, r, h)
      | _ => none)
    | .iinc _ _ => (match L[a1]? with
      | some (.int x) => am_Go (pc + 3, am_st1 L a1 (.int (x + ci)), S, h)
      | _ => none)
    | .iadd => (match S with
      | .int y :: .int x :: r => am_Go (pc + 1, L, .int (x + y) :: r, h)
      | _ => none)
    | .isub => (match S with
      | .int y :: .int x :: r => am_Go (pc + 1, L, .int (x - y) :: r, h)
      | _ => none)
    | .imul => (match S with
      | .int y :: .int x :: r => am_Go (pc + 1, L, .int (x * y) :: r, h)
      | _ => none)
    | .iand => (match S with
      | .int y :: .int x :: r => am_Go (pc + 1, L, .int (x &&& y) :: r, h)
      | _ => none)
    | .ishr => (match S with
      | .int y :: .int x :: r => am_Go (pc + 1, L, .int (x >>> (y &&& 31)) :: r, h)
      | _ => none)
    | .idiv => (match S with
      | .int y :: .int x :: r => am_Ri (am_dv x y) (fun z => (pc + 1, L, .int z :: r, h))
      | _ => none)
    | .irem => (match S with
      | .int y :: .int x :: r => am_Ri (am_rm x y) (fun z => (pc + 1, L, .int z :: r, h))
      | _ => none)
    | .ladd => (match S with
      | .long y :: .long x :: r => am_Go (pc + 1, L, .long (x + y) :: r, h)
      | _ => none)
    | .lsub => (match S with
      | .long y :: .long x :: r => am_Go (pc + 1, L, .long (x - y) :: r, h)
      | _ => none)
    | .lmul => (match S with
      | .long y :: .long x :: r => am_Go (pc + 1, L, .long (x * y) :: r, h)
      | _ => none)
    | .ldiv => (match S with
      | .long y :: .long x :: r => bif decide (y = 0) then none else am_Go (pc + 1, L, .long (x / y) :: r, h)
      | _ => none)
    | .lcmp => (match S with
      | .long y :: .long x :: r => am_Go (pc + 1, L, .int (lg_cmp x y) :: r, h)
      | _ => none)
    | .i2l => (match S with
      | .int x :: r => am_Go (pc + 1, L, .long x.toInt64 :: r, h)
      | _ => none)
    | .l2i => (match S with
      | .long x :: r => am_Go (pc + 1, L, .int x.toInt32 :: r, h)
      | _ => none)
    | .i2c => (match S with
      | .int x :: r => am_Go (pc + 1, L, .int (x.toUInt32 % 65536).toInt32 :: r, h)
      | _ => none)
    | .dup => (match S with
      | .ref x :: r => am_Go (pc + 1, L, .ref x :: .ref x :: r, h)
      | .int x :: r => am_Go (pc + 1, L, .int x :: .int x :: r, h)
      | _ => none)
    | .dup2 => (match S with
      | .int y :: .ref x :: r => am_Go (pc + 1, L, .int y :: .ref x :: .int y :: .ref x :: r, h)
      | _ => none)
    | .pop => (match S with
      | .int _ :: r => am_Go (pc + 1, L, r, h)
      | _ => none)
    | .if_icmp c _ => (match S with
      | .int y :: .int x :: r => am_Br (am_cm c x y) (a1, L, r, h) (pc + 3, L, r, h)
      | _ => none)
    | .ifCond c _ => (match S with
      | .int x :: r => am_Br (am_cm c x 0) (a1, L, r, h) (pc + 3, L, r, h)
      | _ => none)
    | .ifnull _ => (match S with
      | .ref _ :: r => am_Go (pc + 3, L, r, h)
      | .null :: r => am_Go (a1, L, r, h)
      | _ => none)
    | .goto _ => am_Go (a1, L, S, h)
    | .tableswitch _ _ _ _ | .lookupswitch _ _ => (match S with
      | .int x :: r => am_Sw x sw a1 L r h
      | _ => none)
    | .getfield _ => (match S with
      | .ref a :: r => (match am_ty a1 a2 with
        | .object _ | .array _ => am_Rr (am_gr h a a1 a2) (fun x => (pc + 3, L, .ref x :: r, h))
        | _ => am_Ri (am_gi h a a1 a2) (fun x => (pc + 3, L, .int x :: r, h)))
      | _ => none)
    | .putfield _ => (match S with
      | .int x :: .ref a :: r => (match am_ty a1 a2 with
        | .int => am_Wr (am_pf h a a1 a2 (.int x)) (fun h => (pc + 3, L, r, h))
        | .boolean => am_Wr (bif decide (x = 0) || decide (x = 1) then am_pf h a a1 a2 (.int x) else none) (fun h => (pc + 3, L, r, h))
        | _ => none)
      | .ref x :: .ref a :: r => (match am_ty a1 a2 with
        | .object _ | .array _ => am_Wr (am_pf h a a1 a2 (.ref x)) (fun h => (pc + 3, L, r, h))
        | _ => none)
      | _ => none)
    | .arraylength => (match S with
      | .ref a :: r => am_Ri (am_len h a) (fun x => (pc + 1, L, .int x :: r, h))
      | _ => none)
    | .iaload => (match S with
      | .int i :: .ref a :: r => am_Ri (am_al h 0 a i) (fun x => (pc + 1, L, .int x :: r, h))
      | _ => none)
    | .caload => (match S with
      | .int i :: .ref a :: r => am_Ri (am_al h 1 a i) (fun x => (pc + 1, L, .int x :: r, h))
      | _ => none)
    | .aaload => (match S with
      | .int i :: .ref a :: r => am_Rr (am_ql h a i) (fun x => (pc + 1, L, .ref x :: r, h))
      | _ => none)
    | .iastore => (match S with
      | .int v :: .int i :: .ref a :: r => am_Wr (am_as h 0 a i v) (fun h => (pc + 1, L, r, h))
      | _ => none)
    | .castore => (match S with
      | .int v :: .int i :: .ref a :: r => am_Wr (am_as h 1 a i (vp_nar .char v)) (fun h => (pc + 1, L, r, h))
      | _ => none)
    | .aastore => (match S with
      | .ref v :: .int i :: .ref a :: r => am_Wr (am_qs h a i v) (fun h => (pc + 1, L, r, h))
      | _ => none)
    | .new _ => am_Go (pc + 3, L, .ref h.length :: S, h ++ [.inr (a1, am_new a1)])
    | .newarray _ => (match S with
      | .int n :: r => am_Wr (am_na h a1 n) (fun h' => (pc + 2, L, .ref h.length :: r, h'))
      | _ => none)
    | .anewarray _ => (match S with
      | .int n :: r => am_Wr (am_nq h a1 n) (fun h' => (pc + 3, L, .ref h.length :: r, h'))
      | _ => none)
    | .invokevirtual _ | .invokespecial _ | .invokestatic _ => am_inv a1 a2 (pc + 3) L S h
    | .ireturn => (match S with
      | [.int x] => (match am_ret i with
        | some .boolean => am_Rb (am_bz x) h
        | some .int => am_Ret (some (.int x), h)
        | _ => none)
      | _ => none)
    | .lreturn => (match S with
      | [.long x] => (match am_ret i with
        | some .long => am_Ret (some (.long x), h)
        | _ => none)
      | _ => none)
    | .return_ => (match S with
      | [] => (match am_ret i with
        | none => am_Ret (none, h)
        | _ => none)
      | _ => none)
    | _ => none
end
section
/-- what an instruction gives, with E for calls and K for what goes on -/
def am_do (E : Nat → List Value → am_H → Option am_R) (K : am_S → Option am_R) (a : Option am_A) : Option am_R := match a with
  | none => none
  | some (.inl r) => some r
  | some (.inr (.inl s)) => K s
  | some (.inr (.inr (.inl (b, s, t)))) => bif b then K s else K t
  | some (.inr (.inr (.inr (.inl (x, t, d, L, S, h))))) => am_sw x t d (fun pc => K (pc, L, S, h))
  | some (.inr (.inr (.inr (.inr (.inl (o, f)))))) => Option.bind o (fun x => K (f x))
  | some (.inr (.inr (.inr (.inr (.inr (.inl (o, f))))))) => Option.bind o (fun x => K (f x))
  | some (.inr (.inr (.inr (.inr (.inr (.inr (.inl (o, f)))))))) => Option.bind o (fun x => K (f x))
  | some (.inr (.inr (.inr (.inr (.inr (.inr (.inr (.inl (j, As, h, f))))))))) => am_bi (E j As h) (fun x h => K (f x h))
  | some (.inr (.inr (.inr (.inr (.inr (.inr (.inr (.inr (.inl (j, As, h, f)))))))))) => am_bl (E j As h) (fun x h => K (f x h))
  | some (.inr (.inr (.inr (.inr (.inr (.inr (.inr (.inr (.inr (.inl (j, As, h, f))))))))))) => am_bv (E j As h) (fun h => K (f h))
  | some (.inr (.inr (.inr (.inr (.inr (.inr (.inr (.inr (.inr (.inr (o, h))))))))))) => Option.bind o (fun x => some (some (.int x), h))
def am_act (i : Nat) (s : am_S) : Option am_A := match s with
  | (pc, L, S, h) => match am_find (am_code i) pc with
    | some e => am_step i e L S h
    | none => none
/-- the receiver is an object of the method's class -/
def am_rc (j : Nat) (As : List Value) (h : am_H) : Bool := match am_rk j with
  | none => true
  | some c => (match As with
    | .ref a :: _ => (match h[a]? with
      | some (.inr (c', _)) => Nat.beq c' c
      | _ => false)
    | _ => false)
def am_run : Nat → Nat → am_S → Option am_R
  | 0, _, _ => none
  | n + 1, i, s => am_do (fun j As h => bif am_rc j As h then am_run n j (0, am_l0 j As, [], h) else none) (am_run n i) (am_act i s)
/-- one computation is below another -/
def am_le (a b : Option am_R) : Prop := ∀ r, a = some r → b = some r
theorem am_sw_le {x : Int32} {t : List (Int32 × Nat)} {d : Nat} {K K' : Nat → Option am_R} (h : ∀ p, am_le (K p) (K' p)) : am_le (am_sw x t d K) (am_sw x t d K') := by
  induction t with
  | nil => exact h d
  | cons q r ih =>
    unfold am_sw
    cases decide (x = q.1)
    · exact ih
    · exact h q.2
theorem am_do_le {E E' : Nat → List Value → am_H → Option am_R} {K K' : am_S → Option am_R} (hE : ∀ j As h, am_le (E j As h) (E' j As h)) (hK : ∀ s, am_le (K s) (K' s)) (a : Option am_A) : am_le (am_do E K a) (am_do E' K' a) := by
  intro z hz
  match a, hz with
  | some (.inl r), hz => exact hz
  | some (.inr (.inl s)), hz => exact hK s z hz
  | some (.inr (.inr (.inl (b, s, t)))), hz =>
    cases b
    · exact hK t z hz
    · exact hK s z hz
  | some (.inr (.inr (.inr (.inl (x, t, d, L, S, h))))), hz => exact am_sw_le (fun p => hK _) z hz
  | some (.inr (.inr (.inr (.inr (.inl (o, f)))))), hz =>
    cases o with
    | none => exact hz
    | some x => exact hK _ z hz
  | some (.inr (.inr (.inr (.inr (.inr (.inl (o, f))))))), hz =>
    cases o with
    | none => exact hz
    | some x => exact hK _ z hz
  | some (.inr (.inr (.inr (.inr (.inr (.inr (.inl (o, f)))))))), hz =>
    cases o with
    | none => exact hz
    | some x => exact hK _ z hz
  | some (.inr (.inr (.inr (.inr (.inr (.inr (.inr (.inl (j, As, h, f))))))))), hz =>
    have e := hE j As h
    simp only [am_do] at hz ⊢
    generalize E j As h = a at hz e
    cases a with
    | none => cases hz
    | some r => rw [e r rfl]; match r, hz with
      | (some (.int x), h1), hz => exact hK _ z hz
  | some (.inr (.inr (.inr (.inr (.inr (.inr (.inr (.inr (.inl (j, As, h, f)))))))))), hz =>
    have e := hE j As h
    simp only [am_do] at hz ⊢
    generalize E j As h = a at hz e
    cases a with
    | none => cases hz
    | some r => rw [e r rfl]; match r, hz with
      | (some (.long x), h1), hz => exact hK _ z hz
  | some (.inr (.inr (.inr (.inr (.inr (.inr (.inr (.inr (.inr (.inl (j, As, h, f))))))))))), hz =>
    have e := hE j As h
    simp only [am_do] at hz ⊢
    generalize E j As h = a at hz e
    cases a with
    | none => cases hz
    | some r => rw [e r rfl]; match r, hz with
      | (none, h1), hz => exact hK _ z hz
  | some (.inr (.inr (.inr (.inr (.inr (.inr (.inr (.inr (.inr (.inr (o, h))))))))))), hz => exact hz
theorem am_run_succ (n : Nat) : ∀ (i : Nat) (s : am_S), am_le (am_run n i s) (am_run (n + 1) i s) := by
  induction n with
  | zero => intro i s r h; cases h
  | succ n ih =>
    intro i s
    refine am_do_le (fun j As h => ?_) (fun s => ih i s) _
    cases am_rc j As h
    · exact fun r h => h
    · exact ih j _
theorem am_run_le {n m : Nat} (h : n ≤ m) (i : Nat) (s : am_S) : am_le (am_run n i s) (am_run m i s) := by
  induction h with
  | refl => exact fun r h => h
  | step _ ih => exact fun r h => am_run_succ _ i s r (ih r h)
/-- what method i gives from a state, if it comes to an end -/
noncomputable def am_ev (i : Nat) (s : am_S) : Option am_R := @dite _ (∃ r n, am_run n i s = some r) (Classical.propDecidable _) (fun h => some h.choose) (fun _ => none)
theorem am_ev_iff {i : Nat} {s : am_S} {r : am_R} : am_ev i s = some r ↔ ∃ n, am_run n i s = some r := by
  unfold am_ev
  constructor
  · intro h
    split at h
    · rename_i g
      cases h
      exact g.choose_spec
    · cases h
  · intro h
    have g : ∃ r n, am_run n i s = some r := ⟨r, h⟩
    rw [dif_pos g]
    obtain ⟨n, hn⟩ := h
    obtain ⟨m, hm⟩ := g.choose_spec
    have h1 := am_run_le (Nat.le_max_left n m) i s _ hn
    have h2 := am_run_le (Nat.le_max_right n m) i s _ hm
    rw [h1] at h2
    exact h2.symm
theorem am_ev_none {i : Nat} {s : am_S} : am_ev i s = none ↔ ∀ n, am_run n i s = none := by
  constructor
  · intro h n
    cases g : am_run n i s with
    | none => rfl
    | some r => rw [am_ev_iff.mpr ⟨n, g⟩] at h; cases h
  · intro h
    cases g : am_ev i s with
    | none => rfl
    | some r => obtain ⟨n, hn⟩ := am_ev_iff.mp g; rw [h n] at hn; cases hn
/-- a call -/
noncomputable def am_cl (j : Nat) (As : List Value) (h : am_H) : Option am_R := bif am_rc j As h then am_ev j (0, am_l0 j As, [], h) else none
theorem am_cl_iff {j : Nat} {As : List Value} {h : am_H} {r : am_R} : am_cl j As h = some r ↔ ∃ n, (bif am_rc j As h then am_run n j (0, am_l0 j As, [], h) else none) = some r := by
  unfold am_cl
  cases am_rc j As h
  · constructor
    · intro h
      cases h
    · intro h
      obtain ⟨_, h⟩ := h
      cases h
  · exact am_ev_iff
theorem am_cl_le {n m : Nat} (hnm : n ≤ m) {j : Nat} {As : List Value} {h : am_H} {r : am_R} (hn : (bif am_rc j As h then am_run n j (0, am_l0 j As, [], h) else none) = some r) : (bif am_rc j As h then am_run m j (0, am_l0 j As, [], h) else none) = some r := by
  cases e : am_rc j As h <;> rw [e] at hn
  · cases hn
  · exact am_run_le hnm _ _ _ hn
theorem am_sw_fin {x : Int32} {t : List (Int32 × Nat)} {d : Nat} {K : Nat → Option am_R} {K' : Nat → Nat → Option am_R} {r : am_R} (h : ∀ p, K p = some r → ∃ n, K' n p = some r) (hz : am_sw x t d K = some r) : ∃ n, am_sw x t d (K' n) = some r := by
  induction t with
  | nil => exact h d hz
  | cons q rest ih =>
    unfold am_sw at hz ⊢
    cases g : decide (x = q.1) <;> rw [g] at hz
    · exact ih hz
    · exact h q.2 hz
theorem am_do_fin {i : Nat} (a : Option am_A) {z : am_R} (hz : am_do am_cl (am_ev i) a = some z) : ∃ n, am_do (fun j As h => bif am_rc j As h then am_run n j (0, am_l0 j As, [], h) else none) (am_run n i) a = some z := by
  match a, hz with
  | some (.inl r), hz => exact ⟨0, hz⟩
  | some (.inr (.inl s)), hz => exact am_ev_iff.mp hz
  | some (.inr (.inr (.inl (b, s, t)))), hz =>
    cases b
    · exact am_ev_iff.mp hz
    · exact am_ev_iff.mp hz
  | some (.inr (.inr (.inr (.inl (x, t, d, L, S, h))))), hz =>
    exact am_sw_fin (K' := fun n pc => am_run n i (pc, L, S, h)) (fun p hp => am_ev_iff.mp hp) hz
  | some (.inr (.inr (.inr (.inr (.inl (o, f)))))), hz =>
    cases o with
    | none => cases hz
    | some x => exact am_ev_iff.mp hz
  | some (.inr (.inr (.inr (.inr (.inr (.inl (o, f))))))), hz =>
    cases o with
    | none => cases hz
    | some x => exact am_ev_iff.mp hz
  | some (.inr (.inr (.inr (.inr (.inr (.inr (.inl (o, f)))))))), hz =>
    cases o with
    | none => cases hz
    | some x => exact am_ev_iff.mp hz
  | some (.inr (.inr (.inr (.inr (.inr (.inr (.inr (.inl (j, As, h, f))))))))), hz =>
    cases e : am_cl j As h with
    | none => simp only [am_do, e, am_bi] at hz; cases hz
    | some r => match r, e with
      | (some (.int x), h1), e =>
        simp only [am_do, e, am_bi] at hz
        obtain ⟨n, hn⟩ := am_cl_iff.mp e
        obtain ⟨m, hm⟩ := am_ev_iff.mp hz
        refine ⟨max n m, ?_⟩
        simp only [am_do]
        rw [am_cl_le (Nat.le_max_left n m) hn]
        exact am_run_le (Nat.le_max_right n m) _ _ _ hm
      | (some (.long _), _), e | (some (.float _), _), e | (some (.double _), _), e | (some .null, _), e | (some (.ref _), _), e | (some (.retAddr _), _), e | (none, _), e => simp only [am_do, e, am_bi] at hz; cases hz
  | some (.inr (.inr (.inr (.inr (.inr (.inr (.inr (.inr (.inl (j, As, h, f)))))))))), hz =>
    cases e : am_cl j As h with
    | none => simp only [am_do, e, am_bl] at hz; cases hz
    | some r => match r, e with
      | (some (.long x), h1), e =>
        simp only [am_do, e, am_bl] at hz
        obtain ⟨n, hn⟩ := am_cl_iff.mp e
        obtain ⟨m, hm⟩ := am_ev_iff.mp hz
        refine ⟨max n m, ?_⟩
        simp only [am_do]
        rw [am_cl_le (Nat.le_max_left n m) hn]
        exact am_run_le (Nat.le_max_right n m) _ _ _ hm
      | (some (.int _), _), e | (some (.float _), _), e | (some (.double _), _), e | (some .null, _), e | (some (.ref _), _), e | (some (.retAddr _), _), e | (none, _), e => simp only [am_do, e, am_bl] at hz; cases hz
  | some (.inr (.inr (.inr (.inr (.inr (.inr (.inr (.inr (.inr (.inl (j, As, h, f))))))))))), hz =>
    cases e : am_cl j As h with
    | none => simp only [am_do, e, am_bv] at hz; cases hz
    | some r => match r, e with
      | (none, h1), e =>
        simp only [am_do, e, am_bv] at hz
        obtain ⟨n, hn⟩ := am_cl_iff.mp e
        obtain ⟨m, hm⟩ := am_ev_iff.mp hz
        refine ⟨max n m, ?_⟩
        simp only [am_do]
        rw [am_cl_le (Nat.le_max_left n m) hn]
        exact am_run_le (Nat.le_max_right n m) _ _ _ hm
      | (some x, _), e => simp only [am_do, e, am_bv] at hz; cases hz
  | some (.inr (.inr (.inr (.inr (.inr (.inr (.inr (.inr (.inr (.inr (o, h))))))))))), hz => exact ⟨0, hz⟩
theorem am_ev_eq (i : Nat) (s : am_S) : am_ev i s = am_do am_cl (am_ev i) (am_act i s) := by
  cases e : am_do am_cl (am_ev i) (am_act i s) with
  | some z =>
    obtain ⟨n, hn⟩ := am_do_fin _ e
    exact am_ev_iff.mpr ⟨n + 1, hn⟩
  | none =>
    refine am_ev_none.mpr fun n => ?_
    cases g : am_run n i s with
    | none => rfl
    | some r =>
      cases n with
      | zero => cases g
      | succ n =>
        have := am_do_le (E' := am_cl) (K' := am_ev i) (fun j As h r hr => am_cl_iff.mpr ⟨n, hr⟩) (fun s r hr => am_ev_iff.mpr ⟨n, hr⟩) _ r g
        rw [e] at this
        cases this
def am_elem (l : List Nat) (k : Nat) : Bool := match l with
  | [] => false
  | x :: r => bif Nat.beq x k then true else am_elem r k
/-- n instructions at most, not beyond the places of 'stop' -/
noncomputable def am_go (stop : List Nat) : Nat → Nat → am_S → Option am_R
  | 0, i, s => am_ev i s
  | n + 1, i, s => am_do am_cl (fun s' => bif am_elem stop s'.1 then am_ev i s' else am_go stop n i s') (am_act i s)
theorem am_go_eq (stop : List Nat) (n : Nat) : ∀ (i : Nat) (s : am_S), am_go stop n i s = am_ev i s := by
  induction n with
  | zero => intro i s; rfl
  | succ n ih =>
    intro i s
    show am_do am_cl (fun s' => bif am_elem stop s'.1 then am_ev i s' else am_go stop n i s') (am_act i s) = _
    rw [am_ev_eq i s]
    congr 1
    funext s'
    rw [ih]
    cases am_elem stop s'.1 <;> rfl
theorem am_blk (stop : List Nat) (n : Nat) {i : Nat} {s : am_S} {t : Option am_R} (h : am_go stop n i s = t) : am_ev i s = t := (am_go_eq stop n i s).symm.trans h
end
section
/-! WHAT IS CHECKED OF THE TABLES, by decide -/
def am_okw (w : Cond) : Bool := match w with
  | .fieldLinkNest .. => true
  | .methodLinkNest .. => true
  | .arrayOver (.object _) => true
  | w => goodWord w
def am_has (p : Nat) (w : Cond) : Bool := decide (lw_tbl[p]? = some w) && am_okw w
def am_cl1 (c : Nat) : vw_C := am_cls.getD c ("", fun _ => ("", "", "", false), 0)
def am_fl (own : String) (idx c k p : Nat) : Bool :=
  Nat.blt c am_cls.length && Nat.blt k (am_cl1 c).2.2 && (am_has p (.fieldLink own idx (am_cl1 c).1 ((am_cl1 c).2.1 k).2.1 ((am_cl1 c).2.1 k).2.2.1) || am_has p (.fieldLinkNest own idx (am_cl1 c).1 ((am_cl1 c).2.1 k).2.1 ((am_cl1 c).2.1 k).2.2.1 am_host))
def am_fw (i : Nat) (own : String) (idx c k p : Nat) : Bool :=
  Nat.blt c am_cls.length && Nat.blt k (am_cl1 c).2.2 && (bif ((am_cl1 c).2.1 k).2.2.2 then am_has p (.fieldLink own idx (am_cl1 c).1 ((am_cl1 c).2.1 k).2.1 ((am_cl1 c).2.1 k).2.2.1) && decide ((am_meth i).2.1.name = "<init>") && decide ((am_cl1 c).1 = own) else (am_has p (.fieldLink own idx (am_cl1 c).1 ((am_cl1 c).2.1 k).2.1 ((am_cl1 c).2.1 k).2.2.1) || am_has p (.fieldLinkNest own idx (am_cl1 c).1 ((am_cl1 c).2.1 k).2.1 ((am_cl1 c).2.1 k).2.2.1 am_host)))
abbrev am_own (i : Nat) : String := (am_meth i).1
abbrev am_nm (i : Nat) : MethodName := (am_meth i).2.1
abbrev am_by (i : Nat) : ByteArray := (am_meth i).2.2.1
abbrev am_ml (i : Nat) : Nat := (am_meth i).2.2.2.1
abbrev am_rt (i : Nat) : Option FieldType := (am_meth i).2.2.2.2.1
abbrev am_na_ (i : Nat) : Nat := (am_meth i).2.2.2.2.2.1
abbrev am_rank (i : Nat) : Nat := (am_meth i).2.2.2.2.2.2.1
abbrev am_kd (i : Nat) : Nat := (am_meth i).2.2.2.2.2.2.2
def am_cj (i j n : Nat) : Bool := Nat.blt j am_N && Nat.blt j 1000 && Nat.beq n (am_na_ j) && Nat.blt (am_rank j) (am_rank i) && decide (j ≠ m_law)
/-- the places of the locals where method i keeps longs -/
def am_lp (i j : Nat) : Bool := (am_code i).any (fun e => match e.2.1 with
  | .lstore_n _ | .lstore _ => Nat.beq e.2.2.2.1 j
  | _ => false)
def am_lq (i a : Nat) : Bool := Nat.beq a 0 || !(am_lp i (a - 1))
def am_ck (i : Nat) (e : am_E) : Bool := match e with
  | (pc, ins, len, a1, a2, a3, ci, cl, sw) => decide (decode (am_by i) pc = .ok (ins, len)) && (match ins with
    | .iconst n => Nat.beq len 1 && decide (Int32.ofInt n = ci)
    | .bipush n => Nat.beq len 2 && decide ((Int8.ofInt n).toInt32 = ci)
    | .sipush n => Nat.beq len 3 && decide ((Int16.ofInt n).toInt32 = ci)
    | .ldc k => Nat.beq len 2 && am_has a3 (.constant (am_own i) k ci)
    | .lconst n => Nat.beq len 1 && decide (Int64.ofNat (n : Nat) = cl)
    | .ldc2_w k => Nat.beq len 3 && am_has a3 (.constantLong (am_own i) k cl)
    | .aconst_null => Nat.beq len 1
    | .iload_n k | .lload_n k | .aload_n k => Nat.beq len 1 && Nat.beq k.val a1
    | .iload k | .lload k | .aload k => Nat.beq len 2 && Nat.beq k a1
    | .istore_n k | .astore_n k => Nat.beq len 1 && Nat.beq k.val a1 && Nat.blt a1 (am_ml i) && am_lq i a1
    | .istore k | .astore k => Nat.beq len 2 && Nat.beq k a1 && Nat.blt a1 (am_ml i) && am_lq i a1
    | .lstore_n k => Nat.beq len 1 && Nat.beq k.val a1 && Nat.blt (a1 + 1) (am_ml i) && am_lq i a1 && am_lp i a1
    | .lstore k => Nat.beq len 2 && Nat.beq k a1 && Nat.blt (a1 + 1) (am_ml i) && am_lq i a1 && am_lp i a1
    | .iinc k n => Nat.beq len 3 && Nat.beq k a1 && decide (Int32.ofInt n = ci) && Nat.blt a1 (am_ml i) && am_lq i a1
    | .iadd | .isub | .imul | .iand | .ishr | .idiv | .irem | .ladd | .lsub | .lmul | .ldiv | .lcmp | .i2l | .l2i | .i2c | .dup | .dup2 | .pop | .iaload | .caload | .aaload | .iastore | .castore | .aastore | .arraylength | .ireturn | .lreturn | .return_ => Nat.beq len 1
    | .if_icmp _ off | .ifCond _ off | .ifnull off | .goto off => Nat.beq len 3 && decide ((pc : Int) + off = (a1 : Int))
    | .tableswitch d lo hi offs => decide ((pc : Int) + d = (a1 : Int)) && decide (hi + 1 = lo + sw.length) && Nat.beq sw.length offs.size && (List.range sw.length).all (fun k => match sw[k]?, offs[k]? with
      | some q, some o => decide (q.1.toInt = lo + k) && decide ((pc : Int) + o = (q.2 : Int))
      | _, _ => false)
    | .lookupswitch d ps => decide ((pc : Int) + d = (a1 : Int)) && (ps.toList.zip (ps.toList.drop 1)).all (fun (a, next) => decide (a.1 < next.1)) && Nat.beq sw.length ps.toList.length && (sw.zip ps.toList).all (fun q => decide (q.1.1.toInt = q.2.1) && decide ((pc : Int) + q.2.2 = (q.1.2 : Int)))
    | .getfield k => Nat.beq len 3 && am_fl (am_own i) k a1 a2 a3
    | .putfield k => Nat.beq len 3 && am_fw i (am_own i) k a1 a2 a3
    | .new k => Nat.beq len 3 && Nat.blt a1 am_cls.length && am_has a3 (.classLink (am_own i) k (am_cl1 a1).1)
    | .newarray t => Nat.beq len 2 && ((decide (t = .int) && Nat.beq a1 0) || (decide (t = .char) && Nat.beq a1 1))
    | .anewarray k => Nat.beq len 3 && Nat.beq a1 am_qc && am_has a3 (.classLink (am_own i) k (am_cl1 a1).1)
    | .invokevirtual k => Nat.beq len 3 && am_cj i a1 a2 && Nat.beq (am_kd a1) 0 && am_has a3 (.methodLink (am_own i) k (am_nm a1))
    | .invokespecial k => Nat.beq len 3 && (bif Nat.beq a1 1003 then Nat.beq a2 1 && Nat.blt 0 (am_rank i) && am_has a3 (.methodLink (am_own i) k objectInit) else am_cj i a1 a2 && Nat.beq (am_kd a1) 2 && (am_has a3 (.methodLink (am_own i) k (am_nm a1)) || am_has a3 (.methodLinkNest (am_own i) k (am_nm a1) am_host)))
    | .invokestatic k => Nat.beq len 3 && (bif Nat.beq a1 1000 then Nat.beq a2 2 && Nat.blt 0 (am_rank i) && am_has a3 (.methodLink (am_own i) k Lib.Math.max.name) else bif Nat.beq a1 1001 then Nat.beq a2 2 && Nat.blt 0 (am_rank i) && am_has a3 (.methodLink (am_own i) k Lib.Math.min.name) else bif Nat.beq a1 1002 then Nat.beq a2 5 && Nat.blt 0 (am_rank i) && am_has a3 (.methodLink (am_own i) k arraycopyName) else am_cj i a1 a2 && Nat.beq (am_kd a1) 1 && am_has a3 (.methodLink (am_own i) k (am_nm a1)))
    | _ => false)
def am_mck (j : Nat) : Bool :=
  am_has (am_mp j).1 (.code (am_nm j) (am_by j) (am_ml j) (am_rt j)) && am_has (am_mp j).2.1 (.initialized (am_nm j).cls)
  && (bif Nat.beq (am_kd j) 1 then am_has (am_mp j).2.2.1 (.static (am_nm j)) else am_has (am_mp j).2.2.1 (.instanceMethod (am_nm j)))
  && (bif Nat.beq (am_kd j) 0 then am_has (am_mp j).2.2.2 (.selects (am_nm j).cls (am_nm j) (am_nm j)) else true)
  && (bif Nat.beq (am_kd j) 1 then true else (match am_rk j with
    | some c => Nat.blt c am_cls.length && decide ((am_cl1 c).1 = (am_nm j).cls) && Nat.blt 0 (am_na_ j)
    | none => false))
  && (bif Nat.beq (am_kd j) 2 then decide ((am_nm j).name = "<init>") && decide (am_rt j = none) else true)
  && plainName (am_nm j).cls && decide ((am_nm j).cls ≠ "java/lang/invoke/MethodHandle") && decide ((am_nm j).cls ≠ "java/lang/invoke/VarHandle")
  && decide ((parseMethodDescriptor (am_nm j).desc).map (fun d => d.parameters.length) = some (am_na_ j - (bif Nat.beq (am_kd j) 1 then 0 else 1)))
  && Nat.ble (am_ml j) 20 && Nat.ble (am_na_ j) (am_ml j) && Nat.beq (am_maxl j) (am_ml j) && decide (am_ret j = am_rt j) && decide (am_own j = (am_nm j).cls)
  && (match am_rt j with
    | none | some .int | some .boolean | some .long => true
    | _ => false)
def am_cck (c : Nat) : Bool :=
  am_has (am_cp1 c).1 (.instantiable (am_cl1 c).1 (am_cl1 c).2.2) && am_has (am_cp1 c).2.1 (.initialized (am_cl1 c).1)
  && (List.range (am_cl1 c).2.2).all (fun k => am_has ((am_cp1 c).2.2.getD k 0) (u_lay (am_cl1 c).1 (am_cl1 c).2.1 k) && decide (parseFieldDescriptor ((am_cl1 c).2.1 k).2.2.1 = some (am_ty c k)) && decide (((am_cl1 c).2.1 k).1 = (am_cl1 c).1)
    && (List.range (am_cl1 c).2.2).all (fun k' => Nat.beq k k' || decide (((am_cl1 c).2.1 k).2.1 ≠ ((am_cl1 c).2.1 k').2.1))
    && decide ((am_new c)[k]? = some (defaultValue (am_ty c k))))
  && Nat.beq (am_new c).length (am_cl1 c).2.2

/-- the words of what the library does itself, and of the kinds of arrays -/
def am_nck : Bool := am_has (am_pm.getD 0 0) (.static Lib.Math.max.name) && am_has (am_pm.getD 1 0) (.initialized "java/lang/Math") && am_has (am_pm.getD 2 0) (.code Lib.Math.max.name Lib.Math.max.code 2 (some .int))
  && am_has (am_pm.getD 3 0) (.static Lib.Math.min.name) && am_has (am_pm.getD 4 0) (.code Lib.Math.min.name Lib.Math.min.code 2 (some .int))
  && am_has (am_pm.getD 5 0) (.native arraycopyName) && am_has (am_pm.getD 6 0) (.static arraycopyName) && am_has (am_pm.getD 7 0) (.initialized "java/lang/System")
  && am_has (am_pm.getD 8 0) (.instanceMethod objectInit) && am_has (am_pm.getD 9 0) (.code objectInit ⟨#[0xb1]⟩ 1 none)
  && am_has (am_pa.getD 0 0) (.arrayClass .int) && am_has (am_pa.getD 1 0) (.arrayClass .char) && am_has am_qp (.arrayOver (.object (am_cl1 am_qc).1)) && Nat.blt am_qc am_cls.length
/-- the tables are in order -/
def am_tab : Prop := (∀ i, i < am_N → ∀ e, e ∈ am_code i → am_ck i e = true) ∧ (∀ j, j < am_N → j ≠ m_law → am_mck j = true) ∧ (∀ c, c < am_cls.length → am_cck c = true) ∧ am_nck = true ∧ (∀ i, i < am_N → am_ret i = am_rt i)
end
section
/-! HOW THE ABSTRACT HEAP LIES IN THE MACHINE'S: place 0 is the script's address b, place k + 1 the address base + k -/
theorem am_okw_keep {w : Cond} (h : am_okw w = true) {s U : State} (hW : s.WarmedH U.vm) (hs : w.before #[] s = true) : w.before #[] U = true := by
  cases w with
  | fieldLinkNest a i b n d o => exact va_Nw.warmF hW hs
  | methodLinkNest a i x o => exact va_Nw.warmM hW hs
  | arrayOver ty =>
    cases ty with
    | object C => exact va_AO.moved hW.alike hs
    | _ => simp [am_okw, goodWord, Cond.onTables] at h
  | _ => exact word_at hW (good_of_word h) hs
theorem am_okw_at {w : Cond} (h : am_okw w = true) {s U : State} (hv : s.vm = U.vm) {args args' : Array Value} (hs : w.before args s = true) : w.before args' U = true := by
  cases w with
  | fieldLinkNest a i b n d o => exact va_tabs rfl hv hs
  | methodLinkNest a i x o => exact va_tabs rfl hv hs
  | arrayOver ty =>
    cases ty with
    | object C => 
      have hs : va_AO C s := hs
      exact va_AO.moved (by rw [hv]; exact Vm.Alike.refl _) hs
    | _ => simp [am_okw, goodWord, Cond.onTables] at h
  | arrayClass ty =>
    have e : (Cond.arrayClass ty).before args s = (Cond.arrayClass ty).before args' U := by
      simp only [Cond.before, Cond.holds, Cond.value, hv]
    rw [← e]; exact hs
  | _ => first | exact va_tabs rfl hv hs | exact absurd (show false = true from h) (by decide)
/-- the tables' words hold -/
def am_T (U : State) : Prop := ∀ w ∈ lw_tbl, am_okw w = true → w.before #[] U = true
theorem am_T.warm {s U : State} (hW : s.WarmedH U.vm) (h : am_T s) : am_T U := fun w hw ho => am_okw_keep ho hW (h w hw ho)
theorem am_T.same {s U : State} (hv : s.vm = U.vm) (h : am_T s) : am_T U := fun w hw ho => am_okw_at ho hv (h w hw ho)
theorem am_has_at {p : Nat} {w : Cond} (h : am_has p w = true) {s : State} (hT : am_T s) (args : Array Value) : w.before args s = true := by
  have h2 := Bool.and_eq_true_iff.mp h
  exact am_okw_at h2.2 rfl (hT w (List.mem_of_getElem? (of_decide_eq_true h2.1)) h2.2)
theorem am_has_good {p : Nat} {w : Cond} (h : am_has p w = true) : am_okw w = true := (Bool.and_eq_true_iff.mp h).2
def am_ad (b base : Nat) (k : Nat) : Nat := match k with
  | 0 => b
  | j + 1 => base + j
def am_cv (ρ : Nat → Nat) (v : Value) : Value := match v with
  | .ref k => .ref (ρ k)
  | v => v
def am_or (ρ : Nat → Nat) (v : Value) : Option Nat := match v with
  | .ref k => some (ρ k)
  | _ => none
def am_cc (ky : Nat → ClassId) (ρ : Nat → Nat) (c : am_C) : va_E := match c with
  | .inl (t, l) => .inl (ky t, l.length, .inl (fun j => l.getD j 0))
  | .inr (c, vs) => bif Nat.ble 100 c then .inl (ky c, vs.length, .inr (.inr (.inr (.inr (fun j => am_or ρ (vs.getD j .null)))))) else .inr (c, vs.map (am_cv ρ))
def am_ws (ky : Nat → ClassId) (b base : Nat) (h : am_H) : va_W := (h.drop 1).mapIdx (fun k c => (base + k, am_cc ky (am_ad b base) c))
theorem am_ws_get {ky : Nat → ClassId} {b base : Nat} {h : am_H} (k : Nat) : (am_ws ky b base h)[k]? = (h[k + 1]?).map (fun c => (base + k, am_cc ky (am_ad b base) c)) := by
  unfold am_ws
  rw [List.getElem?_mapIdx, List.getElem?_drop, Nat.add_comm 1 k]
theorem am_ws_set {ky : Nat → ClassId} {b base : Nat} {h : am_H} (k : Nat) (c : am_C) : (am_ws ky b base h).set k (base + k, am_cc ky (am_ad b base) c) = am_ws ky b base (h.set (k + 1) c) := by
  apply List.ext_getElem?
  intro j
  rw [am_ws_get, List.getElem?_set, List.getElem?_set]
  by_cases hj : k = j
  · subst hj
    have e : (am_ws ky b base h).length = h.length - 1 := by simp [am_ws]
    rw [if_pos rfl, if_pos rfl, e]
    by_cases hl : k + 1 < h.length
    · rw [if_pos (by omega), if_pos hl]; rfl
    · rw [if_neg (by omega), if_neg hl]; rfl
  · rw [if_neg hj, if_neg (by omega), am_ws_get]
theorem am_ws_app {ky : Nat → ClassId} {b base : Nat} {h : am_H} (h0 : 0 < h.length) (c : am_C) : am_ws ky b base h ++ [(base + (h.length - 1), am_cc ky (am_ad b base) c)] = am_ws ky b base (h ++ [c]) := by
  apply List.ext_getElem?
  intro j
  have e : (am_ws ky b base h).length = h.length - 1 := by simp [am_ws]
  rw [am_ws_get, List.getElem?_append, List.getElem?_append, e]
  by_cases hl : j < h.length - 1
  · rw [if_pos hl, if_pos (by omega), am_ws_get]
  · rw [if_neg hl, if_neg (by omega)]
    rcases Nat.eq_or_lt_of_le (Nat.le_of_not_lt hl) with q | q
    · rw [← q, Nat.sub_self, show h.length - 1 + 1 - h.length = 0 by omega]; rfl
    · have h1 : ([(base + (h.length - 1), am_cc ky (am_ad b base) c)] : va_W)[j - (h.length - 1)]? = none := List.getElem?_eq_none (by simp; omega)
      have h2 : ([c] : List am_C)[j + 1 - h.length]? = none := List.getElem?_eq_none (by simp; omega)
      rw [h1, h2]; rfl
theorem am_ws_D {ky : Nat → ClassId} {b base : Nat} (h : am_H) : va_D (fun q : Nat => base ≤ q) (am_ws ky b base h) := by
  have key : ∀ (k : Nat) (q : Nat × va_E), (am_ws ky b base h)[k]? = some q → q.1 = base + k := by
    intro k q hq
    rw [am_ws_get] at hq
    cases e : h[k + 1]? with
    | none => rw [e] at hq; cases hq
    | some c => rw [e] at hq; cases hq; rfl
  refine ⟨fun i j p q hi hj hpq => ?_, fun k q hk => ?_⟩
  · have h1 := key i p hi; have h2 := key j q hj; omega
  · have h1 := key k q hk
    show base ≤ q.1
    omega
/-- the kinds of arrays -/
def am_tys (ky : Nat → ClassId) : List (ClassId × FieldType) := [(ky 0, .int), (ky 1, .char), (ky (am_qc + 100), .object (am_cl1 am_qc).1)]
/-- the abstract heap h lies in H -/
def am_hp (D : va_G) (ky : Nat → ClassId) (b base : Nat) (xs : List Int32) (h : am_H) (H : Heap) : Prop :=
  va_P D am_cls (am_ws ky b base h) H ∧ H.size + 1 = base + h.length ∧ h[0]? = some (.inl (7, xs))
/-- what holds of a state at a method's start -/
def am_ok (D : va_G) (ky : Nat → ClassId) (b base : Nat) (xs : List Int32) (U : State) : Prop :=
  am_T U ∧ va_K D am_cls (am_tys ky) U ∧ va_X b xs.length (fun j => xs.getD j 0) U U.heap ∧ b < base ∧ base ≤ U.heap.size
theorem am_ok.calling {D : va_G} {ky : Nat → ClassId} {b base : Nat} {xs : List Int32} {U : State} (h : am_ok D ky b base xs U) (g : JFrame) (mk : MethodId) (a : Array Value) : am_ok D ky b base xs (U.calling g mk a) :=
  ⟨am_T.same (s := U) (U := U.calling g mk a) rfl h.1, va_K.moved (u := U) (U := U.calling g mk a) (Vm.Alike.refl U.vm) h.2.1, va_X.moved (u := U) (U := U.calling g mk a) (Vm.Alike.refl U.vm) h.2.2.1, h.2.2.2⟩
/-- in a state of the same method: another heap, in which nothing below base is changed -/
theorem am_ok.moved {D : va_G} {ky : Nat → ClassId} {b base : Nat} {xs : List Int32} {s U : State} (h : am_ok D ky b base xs s) (hW : s.WarmedH U.vm) {H : Heap} {locs : List Loc} (hS : va_S (fun q : Nat => base ≤ q) s.heap H locs) (hU : U.heap = H) : am_ok D ky b base xs U := by
  obtain ⟨h1, h2, h3, h4, h5⟩ := h
  refine ⟨h1.warm hW, va_K.moved hW.alike h2, ?_, h4, by rw [hU]; exact Nat.le_trans h5 hS.1⟩
  refine va_X.kept (va_X.moved hW.alike h3) ?_
  rw [hU]
  exact hS.2.1 b (Nat.lt_of_lt_of_le h4 h5) (Nat.not_le.mpr h4)
/-- locals -/
def am_nf (v : Value) : Bool := match v with
  | .float _ => false
  | .double _ => false
  | .retAddr _ => false
  | _ => true
def am_ls (ρ : Nat → Nat) (k : Nat) (L : List Value) : List (Nat × Value) := match L with
  | [] => []
  | v :: r => bif am_nf v then (k, am_cv ρ v) :: am_ls ρ (k + 1) r else am_ls ρ (k + 1) r
theorem am_ls_mem {ρ : Nat → Nat} {L : List Value} {k : Nat} {q : Nat × Value} : q ∈ am_ls ρ k L ↔ ∃ j v, L[j]? = some v ∧ am_nf v = true ∧ q = (k + j, am_cv ρ v) := by
  induction L generalizing k with
  | nil => simp [am_ls]
  | cons v r ih =>
    constructor
    · intro h
      unfold am_ls at h
      cases e : am_nf v <;> rw [e] at h
      · obtain ⟨j, w, h1, h2, h3⟩ := ih.mp h
        exact ⟨j + 1, w, by simpa using h1, h2, by rw [h3]; congr 1; omega⟩
      · rcases List.mem_cons.mp h with h | h
        · exact ⟨0, v, rfl, e, h⟩
        · obtain ⟨j, w, h1, h2, h3⟩ := ih.mp h
          exact ⟨j + 1, w, by simpa using h1, h2, by rw [h3]; congr 1; omega⟩
    · rintro ⟨j, w, h1, h2, h3⟩
      unfold am_ls
      cases j with
      | zero =>
        have h1 : v = w := by simpa using h1
        subst h1
        rw [h2]
        exact List.mem_cons.mpr (Or.inl h3)
      | succ j =>
        have : q ∈ am_ls ρ (k + 1) r := ih.mpr ⟨j, w, by simpa using h1, h2, by rw [h3]; congr 1; omega⟩
        cases am_nf v
        · exact this
        · exact List.mem_cons.mpr (Or.inr this)
theorem am_ls_at {ρ : Nat → Nat} {L : List Value} {ls : Array Slot} {n : Nat} (h : lv_has ls n (am_ls ρ 0 L)) {i : Nat} {v : Value} (hi : L[i]? = some v) (hv : am_nf v = true) : ls[i]? = some (.val (am_cv ρ v)) := h.2.2 (i, am_cv ρ v) (am_ls_mem.mpr ⟨i, v, hi, hv, by simp⟩)
theorem am_ls_sub {ρ : Nat → Nat} {L : List Value} {ls : Array Slot} {n : Nat} {l : List (Nat × Value)} (h : lv_has ls n l) (hl : ∀ j v, L[j]? = some v → am_nf v = true → (j, am_cv ρ v) ∈ l) : lv_has ls n (am_ls ρ 0 L) := by
  refine ⟨h.1, h.2.1, fun q hq => ?_⟩
  obtain ⟨j, v, h1, h2, h3⟩ := am_ls_mem.mp hq
  rw [h3, Nat.zero_add]
  exact h.2.2 _ (hl j v h1 h2)
theorem am_cv_cat {ρ : Nat → Nat} (v : Value) : (am_cv ρ v).category = v.category := by cases v <;> rfl
theorem am_ls_old {ρ : Nat → Nat} {L : List Value} {i j : Nat} {u : Value} (hl : ∀ j x, i = j + 1 → L[j]? ≠ some (.long x)) (hj : L[j]? = some u) (hu : am_nf u = true) : ¬ (j + 1 = i ∧ u.category = 2) := by
  rintro ⟨q1, q2⟩
  cases u with
  | long x => exact hl j x q1.symm hj
  | double x => cases hu
  | _ => cases q2
theorem am_ls_st1 {ρ : Nat → Nat} {L : List Value} {ls : Array Slot} {n i : Nat} {v w : Value} (hl : ∀ j x, i = j + 1 → L[j]? ≠ some (.long x)) (hw : am_cv ρ v = w) (h : lv_has ls n ((i, w) :: (am_ls ρ 0 L).filter (fun q => !(q.1 == i) && !(q.1 + 1 == i && q.2.category == 2)))) : lv_has ls n (am_ls ρ 0 (am_st1 L i v)) := by
  refine am_ls_sub h fun j u hj hu => ?_
  unfold am_st1 at hj
  rw [List.getElem?_set] at hj
  by_cases q : i = j
  · rw [if_pos q] at hj
    split at hj
    · cases hj; subst q; rw [hw]; exact List.mem_cons_self
    · cases hj
  · rw [if_neg q] at hj
    have h2 := am_ls_old (ρ := ρ) hl hj hu
    refine List.mem_cons.mpr (Or.inr (List.mem_filter.mpr ⟨am_ls_mem.mpr ⟨j, u, hj, hu, by simp⟩, ?_⟩))
    simp only [am_cv_cat]
    simp only [Bool.and_eq_true, Bool.not_eq_true', beq_eq_false_iff_ne, ne_eq, Bool.and_eq_false_imp, beq_iff_eq]
    exact ⟨fun z => q z.symm, fun z1 z2 => h2 ⟨z1, z2⟩⟩
theorem am_ls_st2 {ρ : Nat → Nat} {L : List Value} {ls : Array Slot} {n i : Nat} {v w : Value} (hl : ∀ j x, i = j + 1 → L[j]? ≠ some (.long x)) (hw : am_cv ρ v = w) (h : lv_has ls n ((i, w) :: (am_ls ρ 0 L).filter (fun q => !(q.1 == i) && (!(q.1 == i + 1) && !(q.1 + 1 == i && q.2.category == 2))))) : lv_has ls n (am_ls ρ 0 (am_st2 L i v)) := by
  refine am_ls_sub h fun j u hj hu => ?_
  unfold am_st2 at hj
  rw [List.getElem?_set] at hj
  by_cases q : i + 1 = j
  · rw [if_pos q] at hj
    split at hj
    · cases hj; cases hu
    · cases hj
  · rw [if_neg q, List.getElem?_set] at hj
    by_cases q2 : i = j
    · rw [if_pos q2] at hj
      split at hj
      · cases hj; subst q2; rw [hw]; exact List.mem_cons_self
      · cases hj
    · rw [if_neg q2] at hj
      have h2 := am_ls_old (ρ := ρ) hl hj hu
      refine List.mem_cons.mpr (Or.inr (List.mem_filter.mpr ⟨am_ls_mem.mpr ⟨j, u, hj, hu, by simp⟩, ?_⟩))
      simp only [am_cv_cat]
      simp only [Bool.and_eq_true, Bool.not_eq_true', beq_eq_false_iff_ne, ne_eq, Bool.and_eq_false_imp, beq_iff_eq]
      exact ⟨fun z => q2 z.symm, fun z => q z.symm, fun z1 z2 => h2 ⟨z1, z2⟩⟩
/-- longs lie in their places alone -/
def am_lg (i : Nat) (L : List Value) : Prop := ∀ (j : Nat) x, L[j]? = some (.long x) → am_lp i j = true
theorem am_lg_no {i a : Nat} {L : List Value} (h : am_lg i L) (hq : am_lq i a = true) : ∀ j x, a = j + 1 → L[j]? ≠ some (.long x) := by
  intro j x e hj
  subst e
  have h1 := h j x hj
  rcases Bool.or_eq_true_iff.mp hq with q | q
  · cases q
  · rw [show j + 1 - 1 = j by omega, h1] at q; cases q
theorem am_lg_st1 {i a : Nat} {L : List Value} {v : Value} (h : am_lg i L) (hv : ∀ x, v ≠ .long x) : am_lg i (am_st1 L a v) := by
  intro j x hj
  unfold am_st1 at hj
  rw [List.getElem?_set] at hj
  split at hj
  · split at hj
    · cases hj; exact absurd rfl (hv x)
    · cases hj
  · exact h j x hj
theorem am_lg_st2 {i a : Nat} {L : List Value} {v : Value} (h : am_lg i L) (ha : am_lp i a = true) : am_lg i (am_st2 L a v) := by
  intro j x hj
  unfold am_st2 at hj
  rw [List.getElem?_set] at hj
  split at hj
  · split at hj
    · cases hj
    · cases hj
  · rw [List.getElem?_set] at hj
    split at hj
    · rename_i q; rw [← q]; exact ha
    · exact h j x hj
end
section
/-! the abstract heap only grows -/
def am_sz (c : am_C) : Nat := match c with
  | .inl (_, l) => l.length
  | .inr (_, vs) => vs.length
def am_sl (h : am_H) : Nat := (h.map am_sz).sum
def am_gr_ (h h' : am_H) : Prop := h.length ≤ h'.length ∧ am_sl h ≤ am_sl h'
theorem am_gr_.rfl {h : am_H} : am_gr_ h h := ⟨Nat.le_refl _, Nat.le_refl _⟩
theorem am_gr_.trans {a b c : am_H} (h1 : am_gr_ a b) (h2 : am_gr_ b c) : am_gr_ a c := ⟨Nat.le_trans h1.1 h2.1, Nat.le_trans h1.2 h2.2⟩
theorem am_sl_set {h : am_H} {a : Nat} {c c' : am_C} (hc : h[a]? = some c) (hz : am_sz c' = am_sz c) : am_sl (h.set a c') = am_sl h := by
  induction h generalizing a with
  | nil => simp at hc
  | cons x r ih =>
    cases a with
    | zero =>
      have e : x = c := by simpa using hc
      subst e
      simp [am_sl, hz]
    | succ a =>
      have e := ih (a := a) (by simpa using hc)
      simp only [am_sl, List.set_cons_succ, List.map_cons, List.sum_cons] at e ⊢
      rw [e]
theorem am_sl_app (h : am_H) (c : am_C) : am_sl (h ++ [c]) = am_sl h + am_sz c := by simp [am_sl]
theorem am_set_eq {h : am_H} {a : Nat} {c c' : am_C} (hc : h[a]? = some c) (hz : am_sz c' = am_sz c) : (h.set a c').length = h.length ∧ am_sl (h.set a c') = am_sl h := ⟨by simp, am_sl_set hc hz⟩
theorem am_pf_spec {h h' : am_H} {a c k : Nat} {v : Value} (hh : am_pf h a c k v = some h') : ∃ fs, h[a]? = some (.inr (c, fs)) ∧ k < fs.length ∧ h' = h.set a (.inr (c, fs.set k v)) := by
  unfold am_pf at hh
  split at hh
  · rename_i c' fs e
    cases q : (Nat.beq c' c && Nat.blt k fs.length) <;> rw [q] at hh
    · cases hh
    · obtain ⟨q1, q2⟩ := Bool.and_eq_true_iff.mp q
      have q1 := Nat.eq_of_beq_eq_true q1
      subst q1
      cases hh
      exact ⟨fs, e, Nat.le_of_ble_eq_true q2, rfl⟩
  · cases hh
theorem am_as_spec {h h' : am_H} {t a : Nat} {i v : Int32} (hh : am_as h t a i v = some h') : ∃ l, h[a]? = some (.inl (t, l)) ∧ am_in i l.length = true ∧ h' = h.set a (.inl (t, l.set i.toNatClampNeg v)) := by
  unfold am_as at hh
  split at hh
  · rename_i t' l e
    cases q : (Nat.beq t' t && am_in i l.length) <;> rw [q] at hh
    · cases hh
    · obtain ⟨q1, q2⟩ := Bool.and_eq_true_iff.mp q
      have q1 := Nat.eq_of_beq_eq_true q1
      subst q1
      cases hh
      exact ⟨l, e, q2, rfl⟩
  · cases hh
theorem am_qs_spec {h h' : am_H} {a v : Nat} {i : Int32} (hh : am_qs h a i v = some h') : ∃ vs fs, h[a]? = some (.inr (am_qc + 100, vs)) ∧ am_in i vs.length = true ∧ h[v]? = some (.inr (am_qc, fs)) ∧ h' = h.set a (.inr (am_qc + 100, vs.set i.toNatClampNeg (.ref v))) := by
  unfold am_qs at hh
  split at hh
  · rename_i c vs e
    cases q : (Nat.beq c (am_qc + 100) && am_in i vs.length) <;> rw [q] at hh
    · cases hh
    · obtain ⟨q1, q2⟩ := Bool.and_eq_true_iff.mp q
      have hh : (match h[v]? with
        | some (.inr (c', _)) => bif Nat.beq (c' + 100) c then some (h.set a (.inr (c, vs.set i.toNatClampNeg (.ref v)))) else none
        | _ => none) = some h' := hh
      split at hh
      · rename_i c' fs e2
        cases q3 : Nat.beq (c' + 100) c <;> rw [q3] at hh
        · cases hh
        · have q3 := Nat.eq_of_beq_eq_true q3
          have q1 := Nat.eq_of_beq_eq_true q1
          have q4 : c' = am_qc := by omega
          subst q1
          subst q4
          cases hh
          exact ⟨vs, fs, e, q2, e2, rfl⟩
      · cases hh
  · cases hh
theorem am_na_spec {h h' : am_H} {t : Nat} {n : Int32} (hh : am_na h t n = some h') : ¬ n < 0 ∧ n.toNatClampNeg ≤ 1000000 ∧ h' = h ++ [.inl (t, List.replicate n.toNatClampNeg 0)] := by
  unfold am_na at hh
  cases q : (decide (n < 0) || Nat.blt 1000000 n.toNatClampNeg) <;> rw [q] at hh
  · obtain ⟨q1, q2⟩ := Bool.or_eq_false_iff.mp q
    cases hh
    refine ⟨of_decide_eq_false q1, ?_, rfl⟩
    have : ¬ 1000000 < n.toNatClampNeg := fun z => by
      have := Nat.ble_eq_true_of_le (show 1000000 + 1 ≤ n.toNatClampNeg from z)
      rw [show Nat.blt 1000000 n.toNatClampNeg = Nat.ble (1000000 + 1) n.toNatClampNeg from rfl, this] at q2
      cases q2
    omega
  · cases hh
theorem am_nq_spec {h h' : am_H} {c : Nat} {n : Int32} (hh : am_nq h c n = some h') : ¬ n < 0 ∧ n.toNatClampNeg ≤ 1000000 ∧ h' = h ++ [.inr (c + 100, List.replicate n.toNatClampNeg .null)] := by
  unfold am_nq at hh
  cases q : (decide (n < 0) || Nat.blt 1000000 n.toNatClampNeg) <;> rw [q] at hh
  · obtain ⟨q1, q2⟩ := Bool.or_eq_false_iff.mp q
    cases hh
    refine ⟨of_decide_eq_false q1, ?_, rfl⟩
    have : ¬ 1000000 < n.toNatClampNeg := fun z => by
      have := Nat.ble_eq_true_of_le (show 1000000 + 1 ≤ n.toNatClampNeg from z)
      rw [show Nat.blt 1000000 n.toNatClampNeg = Nat.ble (1000000 + 1) n.toNatClampNeg from rfl, this] at q2
      cases q2
    omega
  · cases hh
theorem am_cp_spec {h h' : am_H} {a b : Nat} {sp dp n : Int32} (hh : am_cp h a sp b dp n = some h') : ∃ f g, h[a]? = some (.inl (0, f)) ∧ h[b]? = some (.inl (0, g)) ∧ ¬ sp < 0 ∧ ¬ dp < 0 ∧ ¬ n < 0 ∧ sp.toNatClampNeg + n.toNatClampNeg ≤ f.length ∧ dp.toNatClampNeg + n.toNatClampNeg ≤ g.length ∧ h' = h.set b (.inl (0, am_cpl f g sp.toNatClampNeg dp.toNatClampNeg n.toNatClampNeg)) := by
  unfold am_cp at hh
  split at hh
  · rename_i f e1
    split at hh
    · rename_i g e2
      cases q : (!(decide (sp < 0)) && (!(decide (dp < 0)) && (!(decide (n < 0)) && (Nat.ble (sp.toNatClampNeg + n.toNatClampNeg) f.length && Nat.ble (dp.toNatClampNeg + n.toNatClampNeg) g.length)))) <;> rw [q] at hh
      · cases hh
      · simp only [Bool.and_eq_true, Bool.not_eq_true', decide_eq_false_iff_not] at q
        obtain ⟨q1, q2, q3, q4, q5⟩ := q
        cases hh
        exact ⟨f, g, e1, e2, q1, q2, q3, Nat.le_of_ble_eq_true q4, Nat.le_of_ble_eq_true q5, rfl⟩
    · cases hh
  · cases hh
theorem am_gr_pf {h h' : am_H} {a c k : Nat} {v : Value} (hh : am_pf h a c k v = some h') : am_gr_ h h' := by
  obtain ⟨fs, h1, -, rfl⟩ := am_pf_spec hh
  have := am_set_eq h1 (c' := .inr (c, fs.set k v)) (by simp [am_sz])
  exact ⟨Nat.le_of_eq this.1.symm, Nat.le_of_eq this.2.symm⟩
theorem am_gr_as {h h' : am_H} {t a : Nat} {i v : Int32} (hh : am_as h t a i v = some h') : am_gr_ h h' := by
  obtain ⟨l, h1, -, rfl⟩ := am_as_spec hh
  have := am_set_eq h1 (c' := .inl (t, l.set i.toNatClampNeg v)) (by simp [am_sz])
  exact ⟨Nat.le_of_eq this.1.symm, Nat.le_of_eq this.2.symm⟩
theorem am_gr_qs {h h' : am_H} {a v : Nat} {i : Int32} (hh : am_qs h a i v = some h') : am_gr_ h h' := by
  obtain ⟨vs, fs, h1, -, -, rfl⟩ := am_qs_spec hh
  have := am_set_eq h1 (c' := .inr (am_qc + 100, vs.set i.toNatClampNeg (.ref v))) (by simp [am_sz])
  exact ⟨Nat.le_of_eq this.1.symm, Nat.le_of_eq this.2.symm⟩
theorem am_gr_cp {h h' : am_H} {a b : Nat} {sp dp n : Int32} (hh : am_cp h a sp b dp n = some h') : am_gr_ h h' := by
  obtain ⟨f, g, h1, h2, -, -, -, -, -, rfl⟩ := am_cp_spec hh
  have := am_set_eq h2 (c' := .inl (0, am_cpl f g sp.toNatClampNeg dp.toNatClampNeg n.toNatClampNeg)) (by simp [am_sz, am_cpl])
  exact ⟨Nat.le_of_eq this.1.symm, Nat.le_of_eq this.2.symm⟩
theorem am_gr_app {h : am_H} {c : am_C} : am_gr_ h (h ++ [c]) := ⟨by simp, by rw [am_sl_app]; omega⟩
theorem am_gr_na {h h' : am_H} {t : Nat} {n : Int32} (hh : am_na h t n = some h') : am_gr_ h h' := by
  obtain ⟨-, -, rfl⟩ := am_na_spec hh
  exact am_gr_app
theorem am_gr_nq {h h' : am_H} {c : Nat} {n : Int32} (hh : am_nq h c n = some h') : am_gr_ h h' := by
  obtain ⟨-, -, rfl⟩ := am_nq_spec hh
  exact am_gr_app
/-- an action's states have heaps that grew -/
def am_ag (h : am_H) (a : Option am_A) : Prop := match a with
  | none => True
  | some (.inl r) => am_gr_ h r.2
  | some (.inr (.inl s)) => am_gr_ h s.2.2.2
  | some (.inr (.inr (.inl (b, s, t)))) => am_gr_ h s.2.2.2 ∧ am_gr_ h t.2.2.2
  | some (.inr (.inr (.inr (.inl (x, t, d, L, S, h1))))) => am_gr_ h h1
  | some (.inr (.inr (.inr (.inr (.inl (o, f)))))) => ∀ x, o = some x → am_gr_ h (f x).2.2.2
  | some (.inr (.inr (.inr (.inr (.inr (.inl (o, f))))))) => ∀ x, o = some x → am_gr_ h (f x).2.2.2
  | some (.inr (.inr (.inr (.inr (.inr (.inr (.inl (o, f)))))))) => ∀ x, o = some x → am_gr_ h (f x).2.2.2
  | some (.inr (.inr (.inr (.inr (.inr (.inr (.inr (.inl (j, As, h1, f))))))))) => am_gr_ h h1 ∧ ∀ x h2, (f x h2).2.2.2 = h2
  | some (.inr (.inr (.inr (.inr (.inr (.inr (.inr (.inr (.inl (j, As, h1, f)))))))))) => am_gr_ h h1 ∧ ∀ x h2, (f x h2).2.2.2 = h2
  | some (.inr (.inr (.inr (.inr (.inr (.inr (.inr (.inr (.inr (.inl (j, As, h1, f))))))))))) => am_gr_ h h1 ∧ ∀ h2, (f h2).2.2.2 = h2
  | some (.inr (.inr (.inr (.inr (.inr (.inr (.inr (.inr (.inr (.inr (o, h1))))))))))) => am_gr_ h h1
theorem am_inv_ag (j n pc : Nat) (L S : List Value) (h : am_H) : am_ag h (am_inv j n pc L S h) := by
  unfold am_inv
  cases (Nat.blt 8 (am_cat (S.drop n)) || (Nat.blt S.length n || !(Nat.beq (am_cat (S.take n)) n)))
  · cases Nat.blt j 1000
    · show am_ag h (match j, S with
        | 1000, .int y :: .int x :: r => am_Go (pc, L, .int (am_max x y) :: r, h)
        | 1001, .int y :: .int x :: r => am_Go (pc, L, .int (am_min x y) :: r, h)
        | 1002, .int n :: .int dp :: .ref b :: .int sp :: .ref a :: r => am_Wr (am_cp h a sp b dp n) (fun h => (pc, L, r, h))
        | 1003, .ref _ :: r => am_Go (pc, L, r, h)
        | _, _ => none)
      split
      · exact am_gr_.rfl
      · exact am_gr_.rfl
      · exact fun x hx => am_gr_cp hx
      · exact am_gr_.rfl
      · trivial
    · show am_ag h (match am_ret j with
        | some .long => am_Cl j (S.take n).reverse h (fun x h => (pc, L, .long x :: S.drop n, h))
        | some _ => am_Ci j (S.take n).reverse h (fun x h => (pc, L, .int x :: S.drop n, h))
        | none => am_Cv j (S.take n).reverse h (fun h => (pc, L, S.drop n, h)))
      split
      · exact ⟨am_gr_.rfl, fun _ _ => rfl⟩
      · exact ⟨am_gr_.rfl, fun _ _ => rfl⟩
      · exact ⟨am_gr_.rfl, fun _ => rfl⟩
  · trivial

theorem am_gr_bf {h h' : am_H} {b : Bool} {a c k : Nat} {v : Value} (hh : (bif b then am_pf h a c k v else none) = some h') : am_gr_ h h' := by
  cases b
  · cases hh
  · exact am_gr_pf hh
theorem am_step_ag (i : Nat) (e : am_E) (L S : List Value) (h : am_H) : am_ag h (am_step i e L S h) := by
  obtain ⟨pc, ins, len, a1, a2, a3, ci, cl, sw⟩ := e
  cases ins <;> dsimp only [am_step] <;> (repeat' split) <;> first
    | exact am_gr_.rfl
    | exact ⟨am_gr_.rfl, am_gr_.rfl⟩
    | exact fun x _ => am_gr_.rfl
    | exact fun x hx => am_gr_pf hx
    | exact fun x hx => am_gr_bf hx
    | exact fun x hx => am_gr_as hx
    | exact fun x hx => am_gr_qs hx
    | exact fun x hx => am_gr_na hx
    | exact fun x hx => am_gr_nq hx
    | exact am_gr_app
    | exact am_inv_ag ..
    | trivial
    | (rename_i x y r; cases decide (x = 0) <;> first | exact am_gr_.rfl | trivial)
theorem am_act_ag (i : Nat) (s : am_S) : am_ag s.2.2.2 (am_act i s) := by
  obtain ⟨pc, L, S, h⟩ := s
  show am_ag h (match am_find (am_code i) pc with
    | some e => am_step i e L S h
    | none => none)
  split
  · exact am_step_ag ..
  · trivial
theorem am_sw_in {x : Int32} {t : List (Int32 × Nat)} {d : Nat} {K : Nat → Option am_R} {P : Option am_R → Prop} (h : ∀ p, P (K p)) : P (am_sw x t d K) := by
  induction t with
  | nil => exact h d
  | cons q r ih =>
    unfold am_sw
    cases decide (x = q.1)
    · exact ih
    · exact h q.2
theorem am_run_gr (n : Nat) : ∀ (i : Nat) (s : am_S) (r : am_R), am_run n i s = some r → am_gr_ s.2.2.2 r.2 := by
  induction n with
  | zero => intro i s r h; cases h
  | succ n ih =>
    intro i s r hz
    have hg := am_act_ag i s
    have hz : am_do (fun j As h => bif am_rc j As h then am_run n j (0, am_l0 j As, [], h) else none) (am_run n i) (am_act i s) = some r := hz
    have hE : ∀ j As h r, (bif am_rc j As h then am_run n j (0, am_l0 j As, [], h) else none) = some r → am_gr_ h r.2 := by
      intro j As h r hr
      cases q : am_rc j As h <;> rw [q] at hr
      · cases hr
      · exact ih j _ r hr
    generalize am_act i s = a at hg hz
    match a, hg, hz with
    | some (.inl r0), hg, hz => cases hz; exact hg
    | some (.inr (.inl s)), hg, hz => exact hg.trans (ih _ _ _ hz)
    | some (.inr (.inr (.inl (b, s, t)))), hg, hz =>
      cases b
      · exact hg.2.trans (ih _ _ _ hz)
      · exact hg.1.trans (ih _ _ _ hz)
    | some (.inr (.inr (.inr (.inl (x, t, d, L, S, h1))))), hg, hz =>
      exact am_sw_in (x := x) (t := t) (d := d) (K := fun pc => am_run n i (pc, L, S, h1)) (P := fun o => o = some r → am_gr_ s.2.2.2 r.2) (fun p hp => am_gr_.trans hg (ih _ _ _ hp)) hz
    | some (.inr (.inr (.inr (.inr (.inl (o, f)))))), hg, hz =>
      cases o with
      | none => cases hz
      | some x => exact (hg x rfl).trans (ih _ _ _ hz)
    | some (.inr (.inr (.inr (.inr (.inr (.inl (o, f))))))), hg, hz =>
      cases o with
      | none => cases hz
      | some x => exact (hg x rfl).trans (ih _ _ _ hz)
    | some (.inr (.inr (.inr (.inr (.inr (.inr (.inl (o, f)))))))), hg, hz =>
      cases o with
      | none => cases hz
      | some x => exact (hg x rfl).trans (ih _ _ _ hz)
    | some (.inr (.inr (.inr (.inr (.inr (.inr (.inr (.inl (j, As, h1, f))))))))), hg, hz =>
      have e := hE j As h1
      simp only [am_do] at hz
      generalize (bif am_rc j As h1 then am_run n j (0, am_l0 j As, [], h1) else none) = o at hz e
      match o, hz, e with
      | some (some (.int x), h2), hz, e =>
        have h3 := ih _ _ _ hz
        rw [hg.2 x h2] at h3
        exact hg.1.trans (am_gr_.trans (e _ rfl) h3)
    | some (.inr (.inr (.inr (.inr (.inr (.inr (.inr (.inr (.inl (j, As, h1, f)))))))))), hg, hz =>
      have e := hE j As h1
      simp only [am_do] at hz
      generalize (bif am_rc j As h1 then am_run n j (0, am_l0 j As, [], h1) else none) = o at hz e
      match o, hz, e with
      | some (some (.long x), h2), hz, e =>
        have h3 := ih _ _ _ hz
        rw [hg.2 x h2] at h3
        exact hg.1.trans (am_gr_.trans (e _ rfl) h3)
    | some (.inr (.inr (.inr (.inr (.inr (.inr (.inr (.inr (.inr (.inl (j, As, h1, f))))))))))), hg, hz =>
      have e := hE j As h1
      simp only [am_do] at hz
      generalize (bif am_rc j As h1 then am_run n j (0, am_l0 j As, [], h1) else none) = o at hz e
      match o, hz, e with
      | some (none, h2), hz, e =>
        have h3 := ih _ _ _ hz
        rw [hg.2 h2] at h3
        exact hg.1.trans (am_gr_.trans (e _ rfl) h3)
    | some (.inr (.inr (.inr (.inr (.inr (.inr (.inr (.inr (.inr (.inr (o, h1))))))))))), hg, hz =>
      cases o with
      | none => cases hz
      | some x => cases hz; exact hg
end
section
/-! ROWS: what the heap's instructions do to the abstract heap (each with the machine's heap's size, which the allocation needs) -/
theorem am_cls_len : am_cls.length ≤ 100 := by decide
theorem am_cls_at {k : Nat} (h : k < am_cls.length) : am_cls[k]? = some (am_cl1 k) := by
  unfold am_cl1
  rw [List.getD_eq_getElem?_getD, List.getElem?_eq_getElem h]; rfl
theorem am_cck_lay {k : Nat} (h : am_cck k = true) : ∀ j, j < (am_cl1 k).2.2 → am_has ((am_cp1 k).2.2.getD j 0) (u_lay (am_cl1 k).1 (am_cl1 k).2.1 j) = true ∧ parseFieldDescriptor ((am_cl1 k).2.1 j).2.2.1 = some (am_ty k j) ∧ ((am_cl1 k).2.1 j).1 = (am_cl1 k).1 ∧ (∀ j', j' < (am_cl1 k).2.2 → j ≠ j' → ((am_cl1 k).2.1 j).2.1 ≠ ((am_cl1 k).2.1 j').2.1) ∧ (am_new k)[j]? = some (defaultValue (am_ty k j)) := by
  intro j hj
  have h1 := (Bool.and_eq_true_iff.mp (Bool.and_eq_true_iff.mp h).1).2
  have h2 := List.all_eq_true.mp h1 j (List.mem_range.mpr hj)
  simp only [Bool.and_eq_true, decide_eq_true_eq] at h2
  obtain ⟨⟨⟨⟨a1, a2⟩, a3⟩, a4⟩, a5⟩ := h2
  refine ⟨a1, a2, a3, fun j' hj' hne => ?_, a5⟩
  have h3 := List.all_eq_true.mp a4 j' (List.mem_range.mpr hj')
  simp only [Bool.or_eq_true, decide_eq_true_eq] at h3
  rcases h3 with h3 | h3
  · exact absurd (Nat.eq_of_beq_eq_true h3) hne
  · exact h3
theorem am_cck_ws {k : Nat} (h : am_cck k = true) {s : State} (hT : am_T s) (args : Array Value) : ∀ w ∈ u_ws (am_cl1 k).1 (am_cl1 k).2.1 (am_cl1 k).2.2, w.before args s = true := by
  intro w hw
  obtain ⟨j, hj, rfl⟩ := List.mem_map.mp hw
  exact am_has_at (am_cck_lay h j (List.mem_range.mp hj)).1 hT args
theorem am_pos {D : va_G} {ky : Nat → ClassId} {b base : Nat} {xs : List Int32} {h : am_H} {H : Heap} (hh : am_hp D ky b base xs h H) {a : Nat} {x : am_C} (hc : h[a]? = some x) (hne : ∀ l, x ≠ .inl (7, l)) : ∃ k, a = k + 1 ∧ (am_ws ky b base h)[k]? = some (base + k, am_cc ky (am_ad b base) x) := by
  cases a with
  | zero => rw [hh.2.2] at hc; cases hc; exact absurd rfl (hne xs)
  | succ k => exact ⟨k, rfl, by rw [am_ws_get, hc]; rfl⟩
theorem am_in_vp {i : Int32} {n : Nat} (h : am_in i n = true) : vp_in i n := by
  obtain ⟨h1, h2⟩ := Bool.and_eq_true_iff.mp h
  rintro (q | q)
  · rw [decide_eq_true q] at h1; cases h1
  · have := Nat.le_of_ble_eq_true h2
    omega
theorem am_hp_set {D : va_G} {ky : Nat → ClassId} {b base : Nat} {xs : List Int32} {h : am_H} {H H1 : Heap} (hh : am_hp D ky b base xs h H) {k : Nat} {x : am_C} {y : va_E} (hy : y = am_cc ky (am_ad b base) x) (hP : va_P D am_cls ((am_ws ky b base h).set k (base + k, y)) H1) (hz : H1.size = H.size) : am_hp D ky b base xs (h.set (k + 1) x) H1 := by
  refine ⟨?_, by rw [hz, List.length_set]; exact hh.2.1, by rw [List.getElem?_set_ne (by omega)]; exact hh.2.2⟩
  rw [← am_ws_set, ← hy]
  exact hP
theorem am_hp_app {D : va_G} {ky : Nat → ClassId} {b base : Nat} {xs : List Int32} {h : am_H} {H H1 : Heap} (hh : am_hp D ky b base xs h H) {x : am_C} {y : va_E} (hy : y = am_cc ky (am_ad b base) x) (hP : va_P D am_cls (am_ws ky b base h ++ [(H.size, y)]) H1) (hz : H1.size = H.size + 1) : am_hp D ky b base xs (h ++ [x]) H1 ∧ am_ad b base h.length = H.size := by
  have h0 : 0 < h.length := (List.getElem?_eq_some_iff.mp hh.2.2).1
  have e : H.size = base + (h.length - 1) := by have := hh.2.1; omega
  refine ⟨⟨?_, by rw [hz, List.length_append]; have := hh.2.1; simp; omega, by rw [List.getElem?_append_left h0]; exact hh.2.2⟩, ?_⟩
  · rw [← am_ws_app h0, ← hy, ← e]
    exact hP
  · obtain ⟨n, hn⟩ : ∃ n, h.length = n + 1 := ⟨h.length - 1, by omega⟩
    rw [hn] at e ⊢
    exact e.symm
section AMR
variable {p : Program} {l : Launch} {e : Env} {R : Room} {s : State} {m : MethodId} {args : Array Value} {below : List Frame} {meth : Method} {c : Code} {H : Heap} {locs : List Loc} {cells slots : Nat} {Q : State → Prop} {pc : Nat} {ls : Array Slot} {rest : List Value} {cc : ByteArray}
variable {D : va_G} {ky : Nat → ClassId} {b base : Nat} {xs : List Int32} {h : am_H} {own : String} {a : Nat}
theorem am_rt_get (hx : p.tables.exec = Jvm.exec) (hb : c.code = cc) (hown : s.vm.findClass own = some m.cls) (hok : am_ok D ky b base xs s) (hh : am_hp D ky b base xs h H) {ci k idx q : Nat} (hck : am_cck ci = true) (hfl : am_fl own idx ci k q = true) {fs : List Value} {v : Value} (hc : h[a]? = some (.inr (ci, fs))) (hv : fs[k]? = some v) (hdg : decode cc pc = .ok (.getfield idx, 3))
    (kk : W p l e R s m args below meth c H locs cells slots Q (F0 m (pc + 3) ls (am_cv (am_ad b base) v :: rest))) : W p l e R s m args below meth c H locs cells slots Q (F0 m pc ls (.ref (am_ad b base a) :: rest)) := by
  obtain ⟨h1, h2⟩ := Bool.and_eq_true_iff.mp hfl
  obtain ⟨h3, h4⟩ := Bool.and_eq_true_iff.mp h1
  have hci : ci < am_cls.length := Nat.le_of_ble_eq_true h3
  have hk : k < (am_cl1 ci).2.2 := Nat.le_of_ble_eq_true h4
  obtain ⟨k', rfl, hw⟩ := am_pos hh hc (fun l q => by cases q)
  have hcc : am_cc ky (am_ad b base) (.inr (ci, fs)) = .inr (ci, fs.map (am_cv (am_ad b base))) := by
    have : Nat.ble 100 ci = false := by
      cases z : Nat.ble 100 ci
      · rfl
      · have := Nat.le_of_ble_eq_true z; have := am_cls_len; omega
    simp only [am_cc, this]; rfl
  rw [hcc] at hw
  have hlay := am_cck_lay hck k hk
  have hv' : (fs.map (am_cv (am_ad b base)))[k]? = some (am_cv (am_ad b base) v) := by rw [List.getElem?_map, hv]; rfl
  rcases Bool.or_eq_true_iff.mp h2 with g | g
  · exact va_get (Ts := u_ws (am_cl1 ci).1 (am_cl1 ci).2.1 (am_cl1 ci).2.2) hx hb (am_cck_ws hck hok.1 args) (fun w h => h) hown hok.2.1 hh.1 k' hw (am_cls_at hci) k hk (am_has_at g hok.1 args) (fun x h => by rw [hlay.2.2.1] at h; exact h) hv' hdg kk
  · exact va_getN (Ts := u_ws (am_cl1 ci).1 (am_cl1 ci).2.1 (am_cl1 ci).2.2) hx hb (am_cck_ws hck hok.1 args) (fun w h => h) hown hok.2.1 hh.1 k' hw (am_cls_at hci) k hk (am_has_at g hok.1 args) (fun x h => by rw [hlay.2.2.1] at h; exact h) hv' hdg kk
theorem am_rt_put {i : Nat} (hx : p.tables.exec = Jvm.exec) (hb : c.code = cc) (hown : s.vm.findClass own = some m.cls) (hname : (am_nm i).name = "<init>" → meth.name = "<init>") (hok : am_ok D ky b base xs s) (hh : am_hp D ky b base xs h H) (hS : va_S (fun q : Nat => base ≤ q) s.heap H locs) {ci k idx q : Nat} (hck : am_cck ci = true) (hfl : am_fw i own idx ci k q = true) {fs : List Value} {v : Value} (hc : h[a]? = some (.inr (ci, fs))) (hl : k < fs.length) (hn : narrow (am_ty ci k) (am_cv (am_ad b base) v) = am_cv (am_ad b base) v) (hfit : fits (am_ty ci k) (am_cv (am_ad b base) v) = true) (hdg : decode cc pc = .ok (.putfield idx, 3))
    (kk : ∀ H1 locs1, am_hp D ky b base xs (h.set a (.inr (ci, fs.set k v))) H1 → va_S (fun q : Nat => base ≤ q) s.heap H1 locs1 → W p l e R s m args below meth c H1 locs1 cells slots Q (F0 m (pc + 3) ls rest)) : W p l e R s m args below meth c H locs cells slots Q (F0 m pc ls (am_cv (am_ad b base) v :: .ref (am_ad b base a) :: rest)) := by
  obtain ⟨h1, h2⟩ := Bool.and_eq_true_iff.mp hfl
  obtain ⟨h3, h4⟩ := Bool.and_eq_true_iff.mp h1
  have hci : ci < am_cls.length := Nat.le_of_ble_eq_true h3
  have hk : k < (am_cl1 ci).2.2 := Nat.le_of_ble_eq_true h4
  obtain ⟨k', rfl, hw⟩ := am_pos hh hc (fun l q => by cases q)
  have h100 : Nat.ble 100 ci = false := by
    cases z : Nat.ble 100 ci
    · rfl
    · have := Nat.le_of_ble_eq_true z; have := am_cls_len; omega
  have hcc : ∀ fs, am_cc ky (am_ad b base) (.inr (ci, fs)) = .inr (ci, fs.map (am_cv (am_ad b base))) := by
    intro fs
    simp only [am_cc, h100]; rfl
  rw [hcc] at hw
  have hlay := am_cck_lay hck k hk
  have hts := am_cck_ws hck hok.1 args
  have hin : ∀ w ∈ u_ws (am_cl1 ci).1 (am_cl1 ci).2.1 (am_cl1 ci).2.2, w ∈ u_ws (am_cl1 ci).1 (am_cl1 ci).2.1 (am_cl1 ci).2.2 := fun w h => h
  have hcl := am_cls_at hci
  have hap := va_apart (own := own) hts hin (am_ty ci) (fun j hj => (am_cck_lay hck j hj).2.1) (fun x hx y hy hne => (am_cck_lay hck x hx).2.2.2.1 y hy hne) hok.2.1 hcl
  obtain ⟨r, hr1, cell, q1, q2, q3, q4⟩ := hh.1 k' _ hw
  have hr : r = am_cl1 ci := Option.some.inj (hr1.symm.trans hcl)
  subst hr
  obtain ⟨hSl, hfc, kC, hkC, hkind⟩ := hok.2.1.1 ci _ hcl
  obtain ⟨cf, kf, fi, f, hi, hsl⟩ := hSl k hk
  have hlw := hts _ (hin _ (u_in_lay hk))
  have hst := (u_facts hfc hkC (u_lays hts hin hk) hi).1
  have hsame : s.fieldFound? (am_cl1 ci).1 ((am_cl1 ci).2.1 k).2.1 ((am_cl1 ci).2.1 k).2.2.1 = some (cf, kf, fi, f) := by rw [hlay.2.2.1] at hi; exact hi
  have fin : ∀ H', H'[base + k']? = some (cell.setSlot ((D.2 ci) k) (am_cv (am_ad b base) v)) → H'.size = H.size → (∀ q : Nat, q ≠ base + k' → H'[q]? = H[q]?) → am_hp D ky b base xs (h.set (k' + 1) (.inr (ci, fs.set k v))) H' := by
    intro H' e1 e2 e3
    refine am_hp_set hh (y := .inr (ci, (fs.map (am_cv (am_ad b base))).set k (am_cv (am_ad b base) v))) (by rw [hcc, List.map_set]) (va_P.set hh.1 (am_ws_D h) hw ⟨_, hcl, t_OB.to (V := updV (vp_V (fs.map (am_cv (am_ad b base)))) k (am_cv (am_ad b base) v)) ⟨_, e1, q2, q3, t_set q4 hap hk _⟩ (fun j _ => vp_updV_set (by simpa using hl) _ j)⟩ e3) e2
  cases hfin : ((am_cl1 ci).2.1 k).2.2.2
  · rw [hfin] at h2
    unfold u_lay at hlw
    rw [if_neg (by rw [hfin]; decide)] at hlw
    have h6 := u_store hfc hkC hkind hlw hi hlay.2.1 hn hfit
    rcases Bool.or_eq_true_iff.mp h2 with g | g
    · refine W.putK hx hb (f := f) ⟨hown, am_has_at g hok.1 args, ⟨_, _, _, hsame⟩, hst⟩ (by rw [q2]; exact h6) q1 q3 (by rw [hsl]; exact k2_hasslot (q4 k hk)) rfl rfl hdg fun H' e1 e2 e3 => ?_
      rw [hsl] at e1 ⊢
      exact kk H' _ (fin H' e1 e2 e3) (hS.put e2 e3 (Nat.le_add_right _ _))
    · refine va_WputK hx hb (f := f) hown (am_has_at g hok.1 args) hsame hst (by rw [q2]; exact h6) q1 q3 (by rw [hsl]; exact k2_hasslot (q4 k hk)) rfl rfl hdg fun H' e1 e2 e3 => ?_
      rw [hsl] at e1 ⊢
      exact kk H' _ (fin H' e1 e2 e3) (hS.put e2 e3 (Nat.le_add_right _ _))
  · rw [hfin] at h2
    obtain ⟨h5, h7⟩ := Bool.and_eq_true_iff.mp h2
    obtain ⟨h5, h6⟩ := Bool.and_eq_true_iff.mp h5
    have hin2 : meth.name = "<init>" := hname (of_decide_eq_true h6)
    have hdecl : (am_cl1 ci).1 = own := of_decide_eq_true h7
    unfold u_lay at hlw
    rw [if_pos hfin] at hlw
    have hcf : m.cls = cf := by
      obtain ⟨_, _, c', _, _, _, -, -, hf', -, -, -, hown2, -⟩ := Cond.laysFinal_spec hlw
      have e1 : c' = cf := by have := hi.symm.trans hf'; simp at this; exact this.1.symm
      rw [hlay.2.2.1, hdecl] at hown2
      rw [← e1]; exact Option.some.inj (hown.symm.trans hown2)
    have h6 := u_fits hfc hkC hkind (Or.inr hlw) hi hlay.2.1 hn hfit
    refine W.putFinK hx hb hown (am_has_at h5 hok.1 args) hsame hst hcf hin2 (by rw [q2]; exact h6) q1 q3 (by rw [hsl]; exact k2_hasslot (q4 k hk)) rfl rfl hdg fun H' e1 e2 e3 => ?_
    rw [hsl] at e1 ⊢
    exact kk H' _ (fin H' e1 e2 e3) (hS.put e2 e3 (Nat.le_add_right _ _))
end AMR
end
section
theorem am_in_lt {i : Int32} {n : Nat} (h : am_in i n = true) : i.toNatClampNeg < n := Nat.le_of_ble_eq_true (Bool.and_eq_true_iff.mp h).2
theorem am_getD_at {l : List Int32} {k : Nat} {x : Int32} (h : l[k]? = some x) : l.getD k 0 = x := by rw [List.getD_eq_getElem?_getD, h]; rfl
theorem am_upd_set {l : List Int32} {k : Nat} {x : Int32} (hk : k < l.length) : upd (fun j => l.getD j 0) k x = fun j => (l.set k x).getD j 0 := by
  funext j
  simp only [upd, List.getD_eq_getElem?_getD, List.getElem?_set]
  by_cases hj : j = k
  · subst hj
    simp [hk]
  · rw [if_neg hj, if_neg (fun q => hj q.symm)]
theorem am_up_set {ρ : Nat → Nat} {vs : List Value} {k v : Nat} (hk : k < vs.length) : va_up (fun j => am_or ρ (vs.getD j .null)) k (some (ρ v)) = fun j => am_or ρ ((vs.set k (.ref v)).getD j .null) := by
  funext j
  simp only [va_up, List.getD_eq_getElem?_getD, List.getElem?_set]
  by_cases hj : j = k
  · subst hj
    simp [hk, am_or]
  · rw [if_neg hj, if_neg (fun q => hj q.symm)]
theorem am_cpy_fun {f g : List Int32} {sp dp n : Nat} (hg : dp + n ≤ g.length) : va_cpy (fun j => f.getD j 0) (fun j => g.getD j 0) sp dp n = fun j => (am_cpl f g sp dp n).getD j 0 := by
  funext j
  simp only [va_cpy, am_cpl, List.getD_eq_getElem?_getD, List.getElem?_map]
  by_cases hj : j < g.length
  · rw [List.getElem?_range hj]; rfl
  · have e1 : (List.range g.length)[j]? = none := List.getElem?_eq_none (by simpa using Nat.le_of_not_lt hj)
    have e2 : g[j]? = none := List.getElem?_eq_none (Nat.le_of_not_lt hj)
    rw [e1, if_neg (by omega), e2]; rfl
section AMR
variable {p : Program} {l : Launch} {e : Env} {R : Room} {s : State} {m : MethodId} {args : Array Value} {below : List Frame} {meth : Method} {c : Code} {H : Heap} {locs : List Loc} {cells slots : Nat} {Q : State → Prop} {pc : Nat} {ls : Array Slot} {rest : List Value} {cc : ByteArray}
variable {D : va_G} {ky : Nat → ClassId} {b base : Nat} {xs : List Int32} {h : am_H} {own : String} {a : Nat}
theorem am_rt_al (hx : p.tables.exec = Jvm.exec) (hb : c.code = cc) (hok : am_ok D ky b base xs s) (hh : am_hp D ky b base xs h H) (hS : va_S (fun q : Nat => base ≤ q) s.heap H locs) {i x : Int32} (hr : am_al h 0 a i = some x) (hdg : decode cc pc = .ok (.iaload, 1))
    (kk : W p l e R s m args below meth c H locs cells slots Q (F0 m (pc + 1) ls (.int x :: rest))) : W p l e R s m args below meth c H locs cells slots Q (F0 m pc ls (.int i :: .ref (am_ad b base a) :: rest)) := by
  unfold am_al at hr
  split at hr
  · rename_i t q hc
    cases g : ((Nat.beq t 0 || (Nat.beq t 7 && (Nat.beq a 0 && Nat.beq 0 0))) && am_in i q.length) <;> rw [g] at hr
    · cases hr
    · obtain ⟨g1, g2⟩ := Bool.and_eq_true_iff.mp g
      have hr : q[i.toNatClampNeg]? = some x := hr
      cases a with
      | zero =>
        rw [hh.2.2] at hc
        cases hc
        rw [← am_getD_at hr] at kk
        exact va_sld (A := fun q : Nat => base ≤ q) hx hb hok.2.2.1 (Nat.lt_of_lt_of_le hok.2.2.2.1 hok.2.2.2.2) (Nat.not_le.mpr hok.2.2.2.1) hS (am_in_vp g2) hdg kk
      | succ k =>
        have g3 : t = 0 := by
          rcases Bool.or_eq_true_iff.mp g1 with z | z
          · exact Nat.eq_of_beq_eq_true z
          · have z2 := (Bool.and_eq_true_iff.mp (Bool.and_eq_true_iff.mp z).2).1
            cases z2
        subst g3
        have hw : (am_ws ky b base h)[k]? = some (base + k, .inl (ky 0, q.length, .inl (fun j => q.getD j 0))) := by rw [am_ws_get, hc]; rfl
        rw [← am_getD_at hr] at kk
        exact va_iald hx hb hok.2.1 hh.1 k 0 hw (by rfl) (am_in_vp g2) hdg kk
  · cases hr
theorem am_rt_cl (hx : p.tables.exec = Jvm.exec) (hb : c.code = cc) (hok : am_ok D ky b base xs s) (hh : am_hp D ky b base xs h H) {i x : Int32} (hr : am_al h 1 a i = some x) (hdg : decode cc pc = .ok (.caload, 1))
    (kk : W p l e R s m args below meth c H locs cells slots Q (F0 m (pc + 1) ls (.int x :: rest))) : W p l e R s m args below meth c H locs cells slots Q (F0 m pc ls (.int i :: .ref (am_ad b base a) :: rest)) := by
  unfold am_al at hr
  split at hr
  · rename_i t q hc
    cases g : ((Nat.beq t 1 || (Nat.beq t 7 && (Nat.beq a 0 && Nat.beq 1 0))) && am_in i q.length) <;> rw [g] at hr
    · cases hr
    · obtain ⟨g1, g2⟩ := Bool.and_eq_true_iff.mp g
      have hr : q[i.toNatClampNeg]? = some x := hr
      have g3 : t = 1 := by
        rcases Bool.or_eq_true_iff.mp g1 with z | z
        · exact Nat.eq_of_beq_eq_true z
        · have z2 := (Bool.and_eq_true_iff.mp (Bool.and_eq_true_iff.mp z).2).2
          cases z2
      subst g3
      obtain ⟨k, rfl, hw⟩ := am_pos hh hc (fun l q => by cases q)
      rw [← am_getD_at hr] at kk
      exact va_cald hx hb hok.2.1 hh.1 k 1 hw (by rfl) (am_in_vp g2) hdg kk
  · cases hr
theorem am_rt_ql (hx : p.tables.exec = Jvm.exec) (hb : c.code = cc) (hok : am_ok D ky b base xs s) (hh : am_hp D ky b base xs h H) {i : Int32} {x : Nat} (hr : am_ql h a i = some x) (hdg : decode cc pc = .ok (.aaload, 1))
    (kk : W p l e R s m args below meth c H locs cells slots Q (F0 m (pc + 1) ls (.ref (am_ad b base x) :: rest))) : W p l e R s m args below meth c H locs cells slots Q (F0 m pc ls (.int i :: .ref (am_ad b base a) :: rest)) := by
  unfold am_ql at hr
  split at hr
  · rename_i t q hc
    cases g : (Nat.beq t (am_qc + 100) && am_in i q.length) <;> rw [g] at hr
    · cases hr
    · obtain ⟨g1, g2⟩ := Bool.and_eq_true_iff.mp g
      have g3 := Nat.eq_of_beq_eq_true g1
      subst g3
      have hr : (match q[i.toNatClampNeg]? with
        | some (.ref x) => some x
        | _ => none) = some x := hr
      split at hr
      · rename_i y hy
        cases hr
        obtain ⟨k, rfl, hw⟩ := am_pos hh hc (fun l q => by cases q)
        have hw : (am_ws ky b base h)[k]? = some (base + k, .inl (ky (am_qc + 100), q.length, .inr (.inr (.inr (.inr (fun j => am_or (am_ad b base) (q.getD j .null))))))) := hw
        have e1 : am_or (am_ad b base) (q.getD i.toNatClampNeg .null) = some (am_ad b base x) := by rw [List.getD_eq_getElem?_getD, hy]; rfl
        refine va_aldq hx hb hok.2.1 hh.1 k 2 hw (by rfl) (am_in_vp g2) hdg ?_
        show W p l e R s m args below meth c H locs cells slots Q (F0 m (pc + 1) ls (va_rf (am_or (am_ad b base) (q.getD i.toNatClampNeg .null)) :: rest))
        rw [e1]
        exact kk
      · cases hr
  · cases hr
theorem am_rt_len (hx : p.tables.exec = Jvm.exec) (hb : c.code = cc) (hok : am_ok D ky b base xs s) (hh : am_hp D ky b base xs h H) (hS : va_S (fun q : Nat => base ≤ q) s.heap H locs) {x : Int32} (hr : am_len h a = some x) (hdg : decode cc pc = .ok (.arraylength, 1))
    (kk : W p l e R s m args below meth c H locs cells slots Q (F0 m (pc + 1) ls (.int x :: rest))) : W p l e R s m args below meth c H locs cells slots Q (F0 m pc ls (.ref (am_ad b base a) :: rest)) := by
  unfold am_len at hr
  split at hr
  · rename_i t q hc
    cases g : (Nat.ble t 1 || (Nat.beq t 7 && Nat.beq a 0)) <;> rw [g] at hr
    · cases hr
    · cases hr
      cases a with
      | zero =>
        rw [hh.2.2] at hc
        cases hc
        exact va_slen (A := fun q : Nat => base ≤ q) hx hb hok.2.2.1 (Nat.lt_of_lt_of_le hok.2.2.2.1 hok.2.2.2.2) (Nat.not_le.mpr hok.2.2.2.1) hS hdg kk
      | succ k =>
        have g3 : t = 0 ∨ t = 1 := by
          rcases Bool.or_eq_true_iff.mp g with z | z
          · have := Nat.le_of_ble_eq_true z; omega
          · have z2 := (Bool.and_eq_true_iff.mp z).2
            cases z2
        have hw : (am_ws ky b base h)[k]? = some (base + k, .inl (ky t, q.length, .inl (fun j => q.getD j 0))) := by rw [am_ws_get, hc]; rfl
        rcases g3 with g3 | g3
        · subst g3
          exact va_alen hx hb hok.2.1 hh.1 k 0 hw (ty := .int) (by rfl) rfl hdg kk
        · subst g3
          exact va_alen hx hb hok.2.1 hh.1 k 1 hw (ty := .char) (by rfl) rfl hdg kk
  · rename_i t q hc
    cases g : Nat.beq t (am_qc + 100) <;> rw [g] at hr
    · cases hr
    · have g3 := Nat.eq_of_beq_eq_true g
      subst g3
      cases hr
      obtain ⟨k, rfl, hw⟩ := am_pos hh hc (fun l q => by cases q)
      have hw : (am_ws ky b base h)[k]? = some (base + k, .inl (ky (am_qc + 100), q.length, .inr (.inr (.inr (.inr (fun j => am_or (am_ad b base) (q.getD j .null))))))) := hw
      exact va_alen hx hb hok.2.1 hh.1 k 2 hw (ty := .object (am_cl1 am_qc).1) (by rfl) rfl hdg kk
  · cases hr
theorem am_rt_ias (hx : p.tables.exec = Jvm.exec) (hb : c.code = cc) (hok : am_ok D ky b base xs s) (hh : am_hp D ky b base xs h H) (hS : va_S (fun q : Nat => base ≤ q) s.heap H locs) {i v : Int32} {h1 : am_H} (hr : am_as h 0 a i v = some h1) (hdg : decode cc pc = .ok (.iastore, 1))
    (kk : ∀ H1 locs1, am_hp D ky b base xs h1 H1 → va_S (fun q : Nat => base ≤ q) s.heap H1 locs1 → W p l e R s m args below meth c H1 locs1 cells slots Q (F0 m (pc + 1) ls rest)) : W p l e R s m args below meth c H locs cells slots Q (F0 m pc ls (.int v :: .int i :: .ref (am_ad b base a) :: rest)) := by
  obtain ⟨q, hc, hin, rfl⟩ := am_as_spec hr
  obtain ⟨k, rfl, hw⟩ := am_pos hh hc (fun l q => by cases q)
  have hw : (am_ws ky b base h)[k]? = some (base + k, .inl (ky 0, q.length, .inl (fun j => q.getD j 0))) := hw
  have ht : (am_tys ky)[0]? = some (ky 0, .int) := rfl
  refine W.iast hx hb (hh.1 k _ hw) ((hok.2.1.2 0 _ ht).1 q.length (fun j => .int (q.getD j 0))) (fun q => by cases q) (by show ¬ (i < 0 ∨ (arrV _ _ _).slots.size ≤ _); rw [arrV_size]; exact am_in_vp hin) rfl rfl hdg fun H1 e1 e2 e3 => ?_
  refine kk H1 _ (am_hp_set hh (y := .inl (ky 0, q.length, .inl (upd (fun j => q.getD j 0) i.toNatClampNeg v))) ?_ (va_P.set hh.1 (am_ws_D h) hw ?_ e3) e2) (hS.put e2 e3 (Nat.le_add_right _ _))
  · rw [am_upd_set (am_in_lt hin)]
    simp only [am_cc, List.length_set]
  · show H1[base + k]? = some (vp_cell _ _)
    rw [e1, vp_cell_i, vp_cell_i, arrV_store]
    congr 2
    funext j
    by_cases hj : j = i.toNatClampNeg
    · subst hj
      simp [updV, upd, vp_nar]
      try rfl
    · simp [updV, upd, hj]
theorem am_rt_cas (hx : p.tables.exec = Jvm.exec) (hb : c.code = cc) (hok : am_ok D ky b base xs s) (hh : am_hp D ky b base xs h H) (hS : va_S (fun q : Nat => base ≤ q) s.heap H locs) {i v : Int32} {h1 : am_H} (hr : am_as h 1 a i (vp_nar .char v) = some h1) (hdg : decode cc pc = .ok (.castore, 1))
    (kk : ∀ H1 locs1, am_hp D ky b base xs h1 H1 → va_S (fun q : Nat => base ≤ q) s.heap H1 locs1 → W p l e R s m args below meth c H1 locs1 cells slots Q (F0 m (pc + 1) ls rest)) : W p l e R s m args below meth c H locs cells slots Q (F0 m pc ls (.int v :: .int i :: .ref (am_ad b base a) :: rest)) := by
  obtain ⟨q, hc, hin, rfl⟩ := am_as_spec hr
  obtain ⟨k, rfl, hw⟩ := am_pos hh hc (fun l q => by cases q)
  have hw : (am_ws ky b base h)[k]? = some (base + k, .inl (ky 1, q.length, .inl (fun j => q.getD j 0))) := hw
  have ht : (am_tys ky)[1]? = some (ky 1, .char) := rfl
  refine W.cast hx hb (hh.1 k _ hw) ((hok.2.1.2 1 _ ht).1 q.length (fun j => .int (q.getD j 0))) (fun q => by cases q) (by show ¬ (i < 0 ∨ (arrV _ _ _).slots.size ≤ _); rw [arrV_size]; exact am_in_vp hin) rfl rfl hdg fun H1 e1 e2 e3 => ?_
  refine kk H1 _ (am_hp_set hh (y := .inl (ky 1, q.length, .inl (upd (fun j => q.getD j 0) i.toNatClampNeg (vp_nar .char v)))) ?_ (va_P.set hh.1 (am_ws_D h) hw ?_ e3) e2) (hS.put e2 e3 (Nat.le_add_right _ _))
  · rw [am_upd_set (am_in_lt hin)]
    simp only [am_cc, List.length_set]
  · show H1[base + k]? = some (vp_cell _ _)
    rw [e1, vp_cell_i, vp_cell_i, arrV_store]
    congr 2
    funext j
    by_cases hj : j = i.toNatClampNeg
    · subst hj
      simp [updV, upd, vp_nar]
      try rfl
    · simp [updV, upd, hj]
theorem am_rt_qs (hx : p.tables.exec = Jvm.exec) (hb : c.code = cc) (hok : am_ok D ky b base xs s) (hh : am_hp D ky b base xs h H) (hS : va_S (fun q : Nat => base ≤ q) s.heap H locs) (hqc : am_qc < am_cls.length) {i : Int32} {v : Nat} {h1 : am_H} (hr : am_qs h a i v = some h1) (hdg : decode cc pc = .ok (.aastore, 1))
    (kk : ∀ H1 locs1, am_hp D ky b base xs h1 H1 → va_S (fun q : Nat => base ≤ q) s.heap H1 locs1 → W p l e R s m args below meth c H1 locs1 cells slots Q (F0 m (pc + 1) ls rest)) : W p l e R s m args below meth c H locs cells slots Q (F0 m pc ls (.ref (am_ad b base v) :: .int i :: .ref (am_ad b base a) :: rest)) := by
  obtain ⟨q, fs, hc, hin, hv, rfl⟩ := am_qs_spec hr
  obtain ⟨k, rfl, hw⟩ := am_pos hh hc (fun l q => by cases q)
  obtain ⟨k2, rfl, hw2⟩ := am_pos hh hv (fun l q => by cases q)
  have hw : (am_ws ky b base h)[k]? = some (base + k, .inl (ky (am_qc + 100), q.length, .inr (.inr (.inr (.inr (fun j => am_or (am_ad b base) (q.getD j .null))))))) := hw
  have hw2 : (am_ws ky b base h)[k2]? = some (base + k2, .inr (am_qc, fs.map (am_cv (am_ad b base)))) := hw2
  have ht : (am_tys ky)[2]? = some (ky (am_qc + 100), .object (am_cl1 am_qc).1) := rfl
  have hlt := am_in_lt hin
  have h0 : ¬ i < 0 := fun q => am_in_vp hin (Or.inl q)
  obtain ⟨r', hr', cellV, g1, g2, g3, -⟩ := hh.1 k2 _ hw2
  have hcls := (hok.2.1.1 am_qc _ (am_cls_at hqc)).2
  obtain ⟨kA, comp, k1, k2', k3, -⟩ := (hok.2.1.2 2 _ ht).2
  have hcomp : comp = D.1 am_qc := Option.some.inj (k3.symm.trans hcls.1)
  subst hcomp
  obtain ⟨kC, hkC, -⟩ := hcls.2
  refine W.aast hx hb (hh.1 k _ hw) (fun q h => by cases h) (fun h => by cases h) k1 k2' rfl hkC ⟨h0, by show _ < (arrV _ _ _).slots.size; rw [arrV_size]; exact hlt⟩ g1 (fun q h => by rw [g3] at h; cases h) (by rw [g2]; exact hkC) (by rw [g2]; exact va_assign hcls) rfl rfl hdg fun H1 e1 e2 e3 => ?_
  refine kk H1 _ (am_hp_set hh (y := .inl (ky (am_qc + 100), q.length, .inr (.inr (.inr (.inr (va_up (fun j => am_or (am_ad b base) (q.getD j .null)) i.toNatClampNeg (some (base + k2)))))))) ?_ (va_P.set hh.1 (am_ws_D h) hw ?_ e3) e2) (hS.put e2 e3 (Nat.le_add_right _ _))
  · have e4 := am_up_set (ρ := am_ad b base) (v := k2 + 1) hlt
    have e5 : am_ad b base (k2 + 1) = base + k2 := rfl
    rw [e5] at e4
    rw [e4]
    simp only [am_cc, List.length_set]
    rfl
  · show H1[base + k]? = some (vp_cell _ _)
    rw [e1, vp_cell_q, vp_cell_q, arrV_store]
    congr 2
    funext j
    by_cases hj : j = i.toNatClampNeg
    · subst hj
      simp [updV, va_up, va_rf]
      try rfl
    · simp [updV, va_up, hj]
end AMR
end
section
section AMR
variable {p : Program} {l : Launch} {e : Env} {R : Room} {s : State} {m : MethodId} {args : Array Value} {below : List Frame} {meth : Method} {c : Code} {H : Heap} {locs : List Loc} {cells slots : Nat} {Q : State → Prop} {pc : Nat} {ls : Array Slot} {rest : List Value} {cc : ByteArray}
variable {D : va_G} {ky : Nat → ClassId} {b base : Nat} {xs : List Int32} {h : am_H} {own : String} {a : Nat}
theorem am_S_new {A : Nat → Prop} {H0 H1 : Heap} (hS : va_S A H0 H locs) (hz : H1.size = H.size + 1) (ho : ∀ q, q < H.size → H1[q]? = H[q]?) : va_S A H0 H1 locs :=
  ⟨Nat.le_trans hS.1 (by omega), fun x h1 h2 => (ho x (Nat.lt_of_lt_of_le h1 hS.1)).trans (hS.2.1 x h1 h2), hS.2.2⟩
theorem am_P_new {ws : va_W} {H1 : Heap} {y : va_E} (hP : va_P D am_cls ws H) (ho : ∀ q, q < H.size → H1[q]? = H[q]?) (hy : va_at D am_cls (H.size, y) H1) : va_P D am_cls (ws ++ [(H.size, y)]) H1 := by
  refine (hP.kept (fun k x hx => ho x.1 ((hP k x hx).lt))).app (fun k x hx => ?_)
  have hz : k < 1 := (List.getElem?_eq_some_iff.mp hx).1
  rw [show k = 0 by omega] at hx
  cases hx
  exact hy
theorem am_rt_new (hx : p.tables.exec = Jvm.exec) (hb : c.code = cc) (hown : s.vm.findClass own = some m.cls) (hok : am_ok D ky b base xs s) (hh : am_hp D ky b base xs h H) (hS : va_S (fun q : Nat => base ≤ q) s.heap H locs) {ci idx q : Nat} (hck : am_cck ci = true) (hci : ci < am_cls.length) (hl : am_has q (.classLink own idx (am_cl1 ci).1) = true) (hcells : cells + 1 ≤ R.cells) (hslots : slots + (am_new ci).length ≤ R.slots) (hdg : decode cc pc = .ok (.new idx, 3))
    (kk : ∀ H1, am_hp D ky b base xs (h ++ [.inr (ci, am_new ci)]) H1 → va_S (fun q : Nat => base ≤ q) s.heap H1 locs → W p l e R s m args below meth c H1 locs (cells + 1) (slots + (am_new ci).length) Q (F0 m (pc + 3) ls (.ref (am_ad b base h.length) :: rest))) : W p l e R s m args below meth c H locs cells slots Q (F0 m pc ls rest) := by
  obtain ⟨h1, h2⟩ := Bool.and_eq_true_iff.mp hck
  obtain ⟨h1, h3⟩ := Bool.and_eq_true_iff.mp h1
  obtain ⟨h1, h4⟩ := Bool.and_eq_true_iff.mp h1
  have hlen : (am_new ci).length = (am_cl1 ci).2.2 := Nat.eq_of_beq_eq_true h2
  have hKn := hok.2.1.1 ci _ (am_cls_at hci)
  have h100 : Nat.ble 100 ci = false := by
    cases z : Nat.ble 100 ci
    · rfl
    · have := Nat.le_of_ble_eq_true z; have := am_cls_len; omega
  have hnr : ∀ v, v ∈ am_new ci → am_cv (am_ad b base) v = v := by
    intro v hv
    obtain ⟨j, hj⟩ := List.getElem?_of_mem hv
    have hjl := (List.getElem?_eq_some_iff.mp hj).1
    have h5 := (am_cck_lay hck j (by omega)).2.2.2.2
    rw [hj] at h5
    cases h5
    cases am_ty ci j <;> rfl
  have hcc : am_cc ky (am_ad b base) (.inr (ci, am_new ci)) = .inr (ci, am_new ci) := by
    simp only [am_cc, h100]
    show Sum.inr (ci, (am_new ci).map (am_cv (am_ad b base))) = _
    rw [List.map_congr_left hnr, List.map_id']
  rw [hlen] at hslots kk
  refine W.newcK hx hb hown (am_has_at hl hok.1 args) (am_has_at h1 hok.1 args) (am_has_at h4 hok.1 args) rfl hdg hcells hslots hKn.2.1 rfl fun H1 kC hkC e1 z1 o1 => ?_
  have hy : va_at D am_cls (H.size, .inr (ci, am_new ci)) H1 := ⟨_, am_cls_at hci, (u_born (am_ty ci) (am_cck_ws hck hok.1 args) (fun w h => h) hKn hkC e1 (fun j hj => (am_cck_lay hck j hj).2.1)).to (fun j hj => by
    have h5 := (am_cck_lay hck j hj).2.2.2.2
    show _ = (am_new ci).getD j .null
    rw [List.getD_eq_getElem?_getD, h5]; rfl)⟩
  obtain ⟨g1, g2⟩ := am_hp_app hh (x := .inr (ci, am_new ci)) hcc.symm (am_P_new hh.1 o1 hy) z1
  have := kk H1 g1 (am_S_new hS z1 o1)
  rw [g2] at this
  exact this
theorem am_rt_na (hx : p.tables.exec = Jvm.exec) (hb : c.code = cc) (hok : am_ok D ky b base xs s) (hh : am_hp D ky b base xs h H) (hS : va_S (fun q : Nat => base ≤ q) s.heap H locs) {t q : Nat} {at_ : ArrayType} {n : Int32} {h1 : am_H} (hl : am_has q (.arrayClass (newarray.typeOf at_)) = true) (ht : (am_tys ky)[t]? = some (ky t, newarray.typeOf at_)) (hdv : defaultValue (newarray.typeOf at_) = .int 0) (hcb : componentBytes (newarray.typeOf at_) ≤ 4) (hnm : ("[" ++ (newarray.typeOf at_).toString) = ("[" ++ (newarray.typeOf at_).toString)) (hra : ∀ cA, va_RA s cA (newarray.typeOf at_) → s.vm.findClass ("[" ++ (newarray.typeOf at_).toString) = some cA) (hr : am_na h t n = some h1) (hcells : cells + 1 ≤ R.cells) (hslots : slots + n.toNatClampNeg ≤ R.slots) (hdg : decode cc pc = .ok (.newarray at_, 2))
    (kk : ∀ H1, am_hp D ky b base xs h1 H1 → va_S (fun q : Nat => base ≤ q) s.heap H1 locs → W p l e R s m args below meth c H1 locs (cells + 1) (slots + n.toNatClampNeg) Q (F0 m (pc + 2) ls (.ref (am_ad b base h.length) :: rest))) : W p l e R s m args below meth c H locs cells slots Q (F0 m pc ls (.int n :: rest)) := by
  obtain ⟨hn, hle, rfl⟩ := am_na_spec hr
  have hb2 : n.toNatClampNeg * componentBytes (newarray.typeOf at_) ≤ 536870912 := Nat.le_trans (Nat.mul_le_mul hle hcb) (by decide)
  refine va_newaK hx hb (am_has_at hl hok.1 args) rfl hdg rfl hn rfl hb2 hcells hslots rfl fun H1 cA e1 z1 o1 hAr hNm => ?_
  have hcA : cA = ky t := by
    have h2 := hra _ (hok.2.1.2 t _ ht).2
    exact Option.some.inj (hNm.symm.trans h2)
  subst hcA
  have hy : va_at D am_cls (H.size, .inl (ky t, n.toNatClampNeg, .inl (fun j => (List.replicate n.toNatClampNeg (0 : Int32)).getD j 0))) H1 := by
    show H1[H.size]? = some (vp_cell _ _)
    rw [e1, vp_cell_i, hdv]
    congr 2
    funext j
    congr 1
    rw [List.getD_eq_getElem?_getD, List.getElem?_replicate]
    split <;> rfl
  obtain ⟨g1, g2⟩ := am_hp_app hh (x := .inl (t, List.replicate n.toNatClampNeg 0)) (by simp only [am_cc, List.length_replicate]) (am_P_new hh.1 o1 hy) z1
  have := kk H1 g1 (am_S_new hS z1 o1)
  rw [g2] at this
  exact this
theorem am_rt_nq (hx : p.tables.exec = Jvm.exec) (hb : c.code = cc) (hown : s.vm.findClass own = some m.cls) (hok : am_ok D ky b base xs s) (hh : am_hp D ky b base xs h H) (hS : va_S (fun q : Nat => base ≤ q) s.heap H locs) {idx q q2 : Nat} {n : Int32} {h1 : am_H} (hl : am_has q (.classLink own idx (am_cl1 am_qc).1) = true) (hl2 : am_has q2 (.arrayOver (.object (am_cl1 am_qc).1)) = true) (hr : am_nq h am_qc n = some h1) (hcells : cells + 1 ≤ R.cells) (hslots : slots + n.toNatClampNeg ≤ R.slots) (hdg : decode cc pc = .ok (.anewarray idx, 3))
    (kk : ∀ H1, am_hp D ky b base xs h1 H1 → va_S (fun q : Nat => base ≤ q) s.heap H1 locs → W p l e R s m args below meth c H1 locs (cells + 1) (slots + n.toNatClampNeg) Q (F0 m (pc + 3) ls (.ref (am_ad b base h.length) :: rest))) : W p l e R s m args below meth c H locs cells slots Q (F0 m pc ls (.int n :: rest)) := by
  obtain ⟨hn, hle, rfl⟩ := am_nq_spec hr
  refine W.anew hx hb hown (am_has_at hl hok.1 args) (am_has_at hl2 hok.1 args) rfl hdg rfl hn (Nat.le_trans (Nat.mul_le_mul_right 4 hle) (by decide)) hcells hslots fun cA kA comp f1 f2 f3 f4 => ?_
  have ht : (am_tys ky)[2]? = some (ky (am_qc + 100), .object (am_cl1 am_qc).1) := rfl
  have hcA : cA = ky (am_qc + 100) := by
    obtain ⟨_, _, -, -, -, h2⟩ := (hok.2.1.2 2 _ ht).2
    exact Option.some.inj (f1.symm.trans h2)
  subst hcA
  generalize hH1 : H.push ({ cls := ky (am_qc + 100), slots := Array.replicate n.toNatClampNeg .null, vm := .none } : Cell) = H1
  have z1 : H1.size = H.size + 1 := by rw [← hH1, Array.size_push]
  have e1 : H1[H.size]? = some (arrV (ky (am_qc + 100)) n.toNatClampNeg (fun _ => .null)) := by rw [← hH1, Array.getElem?_push_size, ← arrV_new]
  have o1 : ∀ q : Nat, q < H.size → H1[q]? = H[q]? := fun q hq => by rw [← hH1, Array.getElem?_push, if_neg (Nat.ne_of_lt hq)]
  have hor : ∀ j, am_or (am_ad b base) ((List.replicate n.toNatClampNeg Value.null).getD j .null) = none := by
    intro j
    rw [List.getD_eq_getElem?_getD, List.getElem?_replicate]
    split <;> rfl
  have hy : va_at D am_cls (H.size, .inl (ky (am_qc + 100), n.toNatClampNeg, .inr (.inr (.inr (.inr (fun j => am_or (am_ad b base) ((List.replicate n.toNatClampNeg Value.null).getD j .null))))))) H1 := by
    show H1[H.size]? = some (vp_cell _ _)
    rw [e1, vp_cell_q]
    congr 2
    funext j
    rw [hor j]; rfl
  obtain ⟨g1, g2⟩ := am_hp_app hh (x := .inr (am_qc + 100, List.replicate n.toNatClampNeg .null)) (by simp only [am_cc, List.length_replicate]; rfl) (am_P_new hh.1 o1 hy) z1
  have := kk H1 g1 (am_S_new hS z1 o1)
  rw [g2] at this
  exact this
theorem am_rt_cp (hx : p.tables.exec = Jvm.exec) (hb : c.code = cc) (hml : c.maxLocals = ls.size) (hown : s.vm.findClass own = some m.cls) (hok : am_ok D ky b base xs s) (hh : am_hp D ky b base xs h H) (hS : va_S (fun q : Nat => base ≤ q) s.heap H locs) {idx q q1 q2 q3 a2 : Nat} (hl : am_has q (.methodLink own idx arraycopyName) = true) (hl1 : am_has q1 (.native arraycopyName) = true) (hl2 : am_has q2 (.static arraycopyName) = true) (hl3 : am_has q3 (.initialized "java/lang/System") = true) {sp dp n : Int32} {h1 : am_H} (hr : am_cp h a sp a2 dp n = some h1) (hframes : 1 ≤ R.frames) (hlocals : 38 ≤ R.locals) (hrest : (rest.map fun v => v.category).sum ≤ 8) (hdg : decode cc pc = .ok (.invokestatic idx, 3))
    (kk : ∀ H1 locs1, am_hp D ky b base xs h1 H1 → va_S (fun q : Nat => base ≤ q) s.heap H1 locs1 → W p l e R s m args below meth c H1 locs1 cells slots Q (F0 m (pc + 3) ls rest)) : W p l e R s m args below meth c H locs cells slots Q (F0 m pc ls (.int n :: .int dp :: .ref (am_ad b base a2) :: .int sp :: .ref (am_ad b base a) :: rest)) := by
  obtain ⟨f, g, hc0, hc1, g1, g2, g3, g4, g5, rfl⟩ := am_cp_spec hr
  obtain ⟨k, rfl, hw⟩ := am_pos hh hc0 (fun l q => by cases q)
  obtain ⟨k2, rfl, hw2⟩ := am_pos hh hc1 (fun l q => by cases q)
  have hw : (am_ws ky b base h)[k]? = some (base + k, .inl (ky 0, f.length, .inl (fun j => f.getD j 0))) := hw
  have hw2 : (am_ws ky b base h)[k2]? = some (base + k2, .inl (ky 0, g.length, .inl (fun j => g.getD j 0))) := hw2
  have ht : (am_tys ky)[0]? = some (ky 0, .int) := rfl
  have nn : ∀ z : Int32, ¬ z < 0 → z.toInt = (z.toNatClampNeg : Int) := by
    intro z hz
    have hz0 : (0 : Int) ≤ z.toInt := by
      have := Int32.not_lt.mp hz
      simpa using Int32.le_iff_toInt_le.mp this
    show z.toInt = ((z.toInt.toNat : Nat) : Int)
    omega
  have hw7 : 2 * 0 + (rest.map fun v => v.category).sum + (nativeFrameWords "java/lang/System" "arraycopy" 5 + 11) ≤ R.locals := by
    have e7 : nativeFrameWords "java/lang/System" "arraycopy" 5 = 7 := by decide +kernel
    rw [e7]
    omega
  intro T hT X
  have hc0 := hh.1 k _ hw
  have hc1 := hh.1 k2 _ hw2
  obtain ⟨-, kk0, hk0, cm0, hkk0⟩ := (hok.2.1.2 0 _ ht).1 f.length (fun j => .int (f.getD j 0))
  obtain ⟨-, kk1, hk1, cm1, hkk1⟩ := (hok.2.1.2 0 _ ht).1 g.length (fun j => .int (g.getD j 0))
  have hc0 : H[base + k]? = some (vp_cell (ky 0) (f.length, .inl (fun j => f.getD j 0))) := hc0
  have hc1 : H[base + k2]? = some (vp_cell (ky 0) (g.length, .inl (fun j => g.getD j 0))) := hc1
  obtain ⟨vm', X', step⟩ := X.arraycopy hx hown (am_has_at hl hok.1 args) (am_has_at hl1 hok.1 args) (am_has_at hl2 hok.1 args) (am_has_at hl3 hok.1 args) (src := base + k) (dst := base + k2) (cs := vp_cell (ky 0) (f.length, .inl (fun j => f.getD j 0))) (cd := vp_cell (ky 0) (g.length, .inl (fun j => g.getD j 0))) (srcPos := sp) (destPos := dp) (n := n) (by rw [hT]; exact hc0) (by rw [hT]; exact hc1)
    (fun _ h => by cases h) (fun _ h => by cases h) (fun h => by cases h) (fun h => by cases h) hk0 hk1 hkk0 hkk1 (by simp [refKind]) g1 g2 g3
    (by rw [nn sp g1, nn n g3]; show ¬ _ > ((arrV (ky 0) f.length (fun j => .int (f.getD j 0))).slots.size : Int); rw [arrV_size]; omega)
    (by rw [nn dp g2, nn n g3]; show ¬ _ > ((arrV (ky 0) g.length (fun j => .int (g.getD j 0))).slots.size : Int); rw [arrV_size]; omega)
    (fun vm₁ _ i hi => by
      have e : (vp_cell (ky 0) (f.length, .inl (fun j => f.getD j 0))).slots.getD (sp.toNatClampNeg + i) .null = .int (f.getD (sp.toNatClampNeg + i) 0) := by
        show (arrV (ky 0) f.length (fun j => .int (f.getD j 0))).slots.getD _ _ = _
        rw [Array.getD_eq_getD_getElem?, arrV_read _ _ (by omega)]
        rfl
      refine ⟨?_, ?_⟩
      · rw [e]
        rfl
      · rw [e]
        exact trivial)
    (g := F0 m pc ls (.int n :: .int dp :: .ref (base + k2) :: .int sp :: .ref (base + k) :: rest)) rfl (by rw [hml]) (rest := rest) rfl (by rw [hb]; exact hdg) hframes hw7
  have e1 : copied (vp_cell (ky 0) (f.length, .inl (fun j => f.getD j 0))) (vp_cell (ky 0) (g.length, .inl (fun j => g.getD j 0))) sp dp n = vp_cell (ky 0) (g.length, .inl (va_cpy (fun j => f.getD j 0) (fun j => g.getD j 0) sp.toNatClampNeg dp.toNatClampNeg n.toNatClampNeg)) := va_copied (fun z => .int z) (ky 0) (ky 0) (fun j => f.getD j 0) (fun j => g.getD j 0) g4
  rw [e1, am_cpy_fun g5] at X' step
  have hl : base + k2 < H.size := (Array.getElem?_eq_some_iff.mp hc1).1
  generalize hce : vp_cell (ky 0) (g.length, .inl (fun j => (am_cpl f g sp.toNatClampNeg dp.toNatClampNeg n.toNatClampNeg).getD j 0)) = ce at X' step
  have hheap : ((T.setVm vm').setCell (base + k2) ce).heap = H.setIfInBounds (base + k2) ce := by rw [← hT]; rfl
  have oq : ∀ q : Nat, q ≠ base + k2 → (H.setIfInBounds (base + k2) ce)[q]? = H[q]? := fun q hq => by simp [Array.getElem?_setIfInBounds, Ne.symm hq]
  obtain ⟨t, a1, b1⟩ := kk _ _ (am_hp_set hh (k := k2) (x := .inl (0, am_cpl f g sp.toNatClampNeg dp.toNatClampNeg n.toNatClampNeg)) (y := .inl (ky 0, g.length, .inl (fun j => (am_cpl f g sp.toNatClampNeg dp.toNatClampNeg n.toNatClampNeg).getD j 0))) (by simp only [am_cc]; congr 2; simp [am_cpl]) (va_P.set hh.1 (am_ws_D h) hw2 (show (H.setIfInBounds (base + k2) _)[base + k2]? = some _ by rw [← hce]; simp [Array.getElem?_setIfInBounds, hl]) oq) (by simp)) ⟨by simp; exact hS.1, fun q g1 g2 => by
      rw [oq q (fun e => g2 (by rw [e]; exact Nat.le_add_right _ _))]
      exact hS.2.1 q g1 g2, fun q hq => by
      rcases List.mem_append.mp hq with h | h
      · exact hS.2.2 q h
      · obtain ⟨z, -, hz⟩ := List.mem_map.mp h
        rw [← hz]
        exact Nat.le_add_right _ _⟩ _ hheap X'
  exact ⟨t, step t a1, b1⟩
end AMR
end
section
/-! SOUNDNESS: what the abstract machine does, the machine does -/
def am_fr (p : Program) (s : State) (m : MethodId) (meth : Method) (c : Code) (i : Nat) : Prop := p.tables.exec = Jvm.exec ∧ c.code = am_by i ∧ c.maxLocals = am_ml i ∧ meth.sig.returnType = am_rt i ∧ s.vm.findClass (am_own i) = some m.cls ∧ ((am_nm i).name = "<init>" → meth.name = "<init>")
def am_end (i pc : Nat) (r : Option Value) : Prop := match r with
  | some (.int x) => decode (am_by i) pc = .ok (.ireturn, 1) ∧ (am_rt i = some .int ∨ (am_rt i = some .boolean ∧ (x = 0 ∨ x = 1)))
  | some (.long _) => decode (am_by i) pc = .ok (.lreturn, 1) ∧ am_rt i = some .long
  | none => decode (am_by i) pc = .ok (.return_, 1) ∧ am_rt i = none
  | _ => False
def am_snd (l : Launch) (D : va_G) (ky : Nat → ClassId) (b base : Nat) (xs : List Int32) (n : Nat) : Prop :=
  ∀ (i pc : Nat) (L S : List Value) (h : am_H) (r : Option Value) (h' : am_H), i < am_N → am_run n i (pc, L, S, h) = some (r, h') →
    ∀ {p : Program} {e : Env} {R : Room} {s : State} {m : MethodId} {args : Array Value} {below : List Frame} {meth : Method} {c : Code} {H : Heap} {locs : List Loc} {cells slots : Nat} {Q : State → Prop} {ls : Array Slot} (C Sl : Nat),
    am_fr p s m meth c i → am_ok D ky b base xs s → am_rank i ≤ R.frames → 39 * am_rank i ≤ R.locals → am_hp D ky b base xs h H → va_S (fun q : Nat => base ≤ q) s.heap H locs → lv_has ls (am_ml i) (am_ls (am_ad b base) 0 L) → am_lg i L →
    cells + h'.length = C + h.length → slots + am_sl h' = Sl + am_sl h → C ≤ R.cells → Sl ≤ R.slots →
    (∀ pc' ls' H' locs', am_hp D ky b base xs h' H' → va_S (fun q : Nat => base ≤ q) s.heap H' locs' → am_end i pc' r → W p l e R s m args below meth c H' locs' C Sl Q (F0 m pc' ls' (r.toList.map (am_cv (am_ad b base))))) →
    W p l e R s m args below meth c H locs cells slots Q (F0 m pc ls (S.map (am_cv (am_ad b base))))
def am_Q (D : va_G) (ky : Nat → ClassId) (b base : Nat) (xs : List Int32) (r : Option Value) (h' : am_H) : Array Value → State → Outcome → State → Prop := match r with
  | some (.int x) => va_Qi (fun y (_ : Unit) => y = x) (fun _ t => am_hp D ky b base xs h' t.heap) (fun q : Nat => base ≤ q)
  | some (.long x) => va_Ql (fun y (_ : Unit) => y = x) (fun _ t => am_hp D ky b base xs h' t.heap) (fun q : Nat => base ≤ q)
  | none => va_Qv (fun (_ : Unit) => True) (fun _ t => am_hp D ky b base xs h' t.heap) (fun q : Nat => base ≤ q)
  | _ => fun _ _ _ _ => False
abbrev am_rm_ (j : Nat) (mc ms : Nat) : Room := { frames := am_rank j, cells := mc, slots := ms, locals := 39 * am_rank j }
abbrev am_wl (j : Nat) : List Jvm.Cond := [.code (am_nm j) (am_by j) (am_ml j) (am_rt j)]
def am_mt (l : Launch) (D : va_G) (ky : Nat → ClassId) (b base : Nat) (xs : List Int32) (n : Nat) : Prop :=
  ∀ (j : Nat) (As : List Value) (h : am_H) (r : Option Value) (h' : am_H), j < am_N → j ≠ m_law → am_cat As = am_na_ j → As.length = am_na_ j → am_run n j (0, am_l0 j As, [], h) = some (r, h') →
    Met l (am_nm j) (am_wl j) (am_rm_ j (h'.length - h.length) (am_sl h' - am_sl h)) (va_Pc (As.map (am_cv (am_ad b base))) (fun U => am_ok D ky b base xs U ∧ am_hp D ky b base xs h U.heap)) (am_Q D ky b base xs r h') (h'.length - h.length) (am_sl h' - am_sl h) (fun q : Nat => base ≤ q)
theorem am_find_spec {l : List am_E} {pc : Nat} {e : am_E} (h : am_find l pc = some e) : e ∈ l ∧ e.1 = pc := by
  induction l with
  | nil => cases h
  | cons x r ih =>
    unfold am_find at h
    cases q : Nat.beq x.1 pc <;> rw [q] at h
    · obtain ⟨h1, h2⟩ := ih h
      exact ⟨List.mem_cons_of_mem _ h1, h2⟩
    · cases h
      exact ⟨List.mem_cons_self, Nat.eq_of_beq_eq_true q⟩
theorem am_bt {α : Type} {c : Bool} {A B z : α} (hc : c = true) (hz : (bif c then A else B) = z) : A = z := by rw [hc] at hz; exact hz
theorem am_bf {α : Type} {c : Bool} {A B z : α} (hc : c = false) (hz : (bif c then A else B) = z) : B = z := by rw [hc] at hz; exact hz
theorem am_sw_tab {x : Int32} {sw : List (Int32 × Nat)} {d : Nat} {K : Nat → Option am_R} : ∀ {lo : Int}, (∀ (k : Nat) q, sw[k]? = some q → q.1.toInt = lo + k) →
    (∃ (k : Nat) (q : Int32 × Nat), sw[k]? = some q ∧ x.toInt = lo + k ∧ am_sw x sw d K = K q.2) ∨ ((x.toInt < lo ∨ lo + sw.length ≤ x.toInt) ∧ am_sw x sw d K = K d) := by
  induction sw with
  | nil =>
    intro lo _
    refine Or.inr ⟨?_, rfl⟩
    simp only [List.length_nil]
    omega
  | cons q r ih =>
    intro lo hl
    have h0 := hl 0 q rfl
    cases g : decide (x = q.1)
    · have hx : x.toInt ≠ lo := fun z => by
        have : x = q.1 := Int32.toInt_inj.mp (by rw [h0, z]; simp)
        rw [decide_eq_true this] at g
        cases g
      have e : am_sw x (q :: r) d K = am_sw x r d K := by
        rw [am_sw, g]; rfl
      rcases ih (lo := lo + 1) (fun k p hp => by rw [hl (k + 1) p (by simpa using hp)]; push_cast; omega) with ⟨k, p, h1, h2, h3⟩ | ⟨h1, h2⟩
      · exact Or.inl ⟨k + 1, p, by simpa using h1, by push_cast; omega, e.trans h3⟩
      · refine Or.inr ⟨?_, e.trans h2⟩
        simp only [List.length_cons]
        push_cast
        omega
    · refine Or.inl ⟨0, q, rfl, ?_, ?_⟩
      · rw [of_decide_eq_true g, h0]
      · rw [am_sw, g]; rfl
theorem am_sw_look {x : Int32} {sw : List (Int32 × Nat)} {d : Nat} {K : Nat → Option am_R} {dflt pc : Int} (hd : pc + dflt = (d : Int)) : ∀ {ps : List (Int × Int)}, sw.length = ps.length → (sw.zip ps).all (fun q => decide (q.1.1.toInt = q.2.1) && decide (pc + q.2.2 = (q.1.2 : Int))) = true →
    ∃ t : Nat, am_sw x sw d K = K t ∧ pc + Op.lookupswitch.offset ps dflt x.toInt = (t : Int) := by
  induction sw with
  | nil =>
    intro ps hl _
    cases ps with
    | nil => exact ⟨d, rfl, hd⟩
    | cons _ _ => cases hl
  | cons q r ih =>
    intro ps hl ha
    cases ps with
    | nil => cases hl
    | cons y ys =>
      obtain ⟨ya, yo⟩ := y
      simp only [List.zip_cons_cons, List.all_cons, Bool.and_eq_true, decide_eq_true_eq] at ha
      obtain ⟨⟨h1, h2⟩, h3⟩ := ha
      cases g : decide (x = q.1)
      · have hx : ¬ x = q.1 := of_decide_eq_false g
        obtain ⟨t, h4, h5⟩ := ih (ps := ys) (by simpa using hl) h3
        refine ⟨t, ?_, ?_⟩
        · rw [am_sw, g]; exact h4
        · rw [lv_osw hx h1]; exact h5
      · refine ⟨q.2, ?_, ?_⟩
        · rw [am_sw, g]; rfl
        · rw [Op.lookupswitch.offset_cons, if_pos (by rw [of_decide_eq_true g, h1])]
          exact h2
end
section
theorem am_cat_map (ρ : Nat → Nat) (S : List Value) : ((S.map (am_cv ρ)).map fun v => v.category).sum = am_cat S := by
  unfold am_cat
  rw [List.map_map]
  congr 1
  apply List.map_congr_left
  intro v _
  exact am_cv_cat v
theorem am_cat_one {S : List Value} (h : am_cat S = S.length) : ∀ v ∈ S, v.category = 1 := by
  have hge : ∀ S : List Value, S.length ≤ am_cat S := by
    intro S
    induction S with
    | nil => exact Nat.le_refl _
    | cons v r ih =>
      have e : am_cat (v :: r) = v.category + am_cat r := by simp [am_cat]
      rw [e, List.length_cons]
      rcases lv_cat v with q | q <;> omega
  induction S with
  | nil => intro v hv; cases hv
  | cons x r ih =>
    have e : am_cat (x :: r) = x.category + am_cat r := by simp [am_cat]
    rw [e, List.length_cons] at h
    have h1 := hge r
    intro v hv
    rcases List.mem_cons.mp hv with q | q
    · subst q
      rcases lv_cat v with z | z <;> omega
    · exact ih (by rcases lv_cat x with z | z <;> omega) v q
theorem am_sl_len {vs : List Value} (h : ∀ v ∈ vs, v.category = 1) : (lg_sl vs).length = vs.length := by
  induction vs with
  | nil => rfl
  | cons v r ih =>
    have h1 := h v List.mem_cons_self
    have e : lg_sl (v :: r) = .val v :: lg_sl r := by simp [lg_sl, h1]
    rw [e, List.length_cons, List.length_cons, ih (fun w hw => h w (List.mem_cons_of_mem _ hw))]
theorem am_lv_args {vs : List Value} (h : ∀ v ∈ vs, v.category = 1) : ∀ (k j : Nat) (v : Value), vs[j]? = some v → (k + j, v) ∈ lv_args k vs := by
  induction vs with
  | nil => intro k j v hv; simp at hv
  | cons x r ih =>
    intro k j v hv
    have h1 := h x List.mem_cons_self
    have e : lv_args k (x :: r) = (k, x) :: lv_args (k + 1) r := by
      show (k, x) :: lv_args (if x.category = 2 then k + 2 else k + 1) r = _
      rw [if_neg (by omega)]
    rw [e]
    cases j with
    | zero =>
      have hv : x = v := by simpa using hv
      rw [hv]
      exact List.mem_cons_self
    | succ j =>
      have := ih (fun w hw => h w (List.mem_cons_of_mem _ hw)) (k + 1) j v (by simpa using hv)
      rw [show k + (j + 1) = k + 1 + j by omega]
      exact List.mem_cons_of_mem _ this
theorem am_mck_all {j : Nat} (h : am_mck j = true) :
    (am_has (am_mp j).1 (.code (am_nm j) (am_by j) (am_ml j) (am_rt j)) = true ∧ am_has (am_mp j).2.1 (.initialized (am_nm j).cls) = true ∧ plainName (am_nm j).cls = true) ∧
    (am_kd j = 1 → am_has (am_mp j).2.2.1 (.static (am_nm j)) = true) ∧ (am_kd j ≠ 1 → am_has (am_mp j).2.2.1 (.instanceMethod (am_nm j)) = true) ∧ (am_kd j = 0 → am_has (am_mp j).2.2.2 (.selects (am_nm j).cls (am_nm j) (am_nm j)) = true) ∧
    (am_kd j ≠ 1 → ∃ c, am_rk j = some c ∧ c < am_cls.length ∧ (am_cl1 c).1 = (am_nm j).cls ∧ 0 < am_na_ j) ∧ (am_kd j = 2 → (am_nm j).name = "<init>" ∧ am_rt j = none) ∧
    ((am_nm j).cls ≠ "java/lang/invoke/MethodHandle" ∧ (am_nm j).cls ≠ "java/lang/invoke/VarHandle") ∧ (parseMethodDescriptor (am_nm j).desc).map (fun d => d.parameters.length) = some (am_na_ j - (bif Nat.beq (am_kd j) 1 then 0 else 1)) ∧
    am_ml j ≤ 20 ∧ am_na_ j ≤ am_ml j ∧ am_maxl j = am_ml j ∧ am_own j = (am_nm j).cls := by
  unfold am_mck at h
  simp only [Bool.and_eq_true, decide_eq_true_eq, and_assoc] at h
  obtain ⟨a1, a2, a3, a4, a5, a6, a7, a8, a9, b1, b2, b3, b4, b5, b6, b7⟩ := h
  refine ⟨⟨a1, a2, a7⟩, fun k => ?_, fun k => ?_, fun k => ?_, fun k => ?_, fun k => ?_, ⟨a8, a9⟩, b1, Nat.le_of_ble_eq_true b2, Nat.le_of_ble_eq_true b3, Nat.eq_of_beq_eq_true b4, b6⟩
  · rw [k] at a3; exact a3
  · have : Nat.beq (am_kd j) 1 = false := by
      cases z : Nat.beq (am_kd j) 1
      · rfl
      · exact absurd (Nat.eq_of_beq_eq_true z) k
    rw [this] at a3; exact a3
  · rw [k] at a4; exact a4
  · have : Nat.beq (am_kd j) 1 = false := by
      cases z : Nat.beq (am_kd j) 1
      · rfl
      · exact absurd (Nat.eq_of_beq_eq_true z) k
    rw [this] at a5
    have a5 : (match am_rk j with
      | some c => Nat.blt c am_cls.length && decide ((am_cl1 c).1 = (am_nm j).cls) && Nat.blt 0 (am_na_ j)
      | none => false) = true := a5
    split at a5
    · rename_i c hc
      simp only [Bool.and_eq_true, decide_eq_true_eq] at a5
      simp only [and_assoc] at a5
      exact ⟨c, hc, Nat.le_of_ble_eq_true a5.1, a5.2.1, Nat.le_of_ble_eq_true a5.2.2⟩
    · cases a5
  · rw [k] at a6
    have a6 : (decide ((am_nm j).name = "<init>") && decide (am_rt j = none)) = true := a6
    simp only [Bool.and_eq_true, decide_eq_true_eq] at a6
    exact a6
theorem am_met_of (htab : am_tab) {l : Launch} {D : va_G} {ky : Nat → ClassId} {b base : Nat} {xs : List Int32} {n : Nat} (hs : am_snd l D ky b base xs n) : am_mt l D ky b base xs n := by
  intro j As h r h' hj hlaw hcat hlen hrun
  obtain ⟨⟨m1, m2, m3⟩, m4, m5, m6, m7, m8, m9, m10, m11, m12, m13, m14⟩ := am_mck_all (htab.2.1 j hj hlaw)
  have hgr := am_run_gr n _ _ _ hrun
  have hgr1 : h.length ≤ h'.length := hgr.1
  have hgr2 : am_sl h ≤ am_sl h' := hgr.2
  refine Met.ofW (cc := am_by j) (maxL := am_ml j) (ret := am_rt j) m3 rfl ?_
  intro p e s m args below meth c s₁ B hml hv
  obtain ⟨rfl, hok, hh⟩ := hv
  have hx := B.exec
  have hb := B.bytes
  have hr := B.returns
  have hown : s.vm.findClass (am_own j) = some m.cls := by rw [m14]; exact findClass_of_methodNamed B.named
  have hlocks := B.notSynchronized
  have hname : (am_nm j).name = "<init>" → meth.name = "<init>" := fun z => (name_of_methodNamed B.named B.method).1.trans z
  rw [lg_entry_eq]
  have h1 : ∀ v ∈ As.map (am_cv (am_ad b base)), v.category = 1 := by
    intro v hv
    obtain ⟨w, hw, rfl⟩ := List.mem_map.mp hv
    rw [am_cv_cat]
    exact am_cat_one (by omega) w hw
  have hl := lv_entry (As.map (am_cv (am_ad b base))) (n := am_ml j) (by rw [am_sl_len h1, List.length_map]; omega)
  have hl2 := am_ls_sub (ρ := am_ad b base) (L := am_l0 j As) hl (fun i v hi hv => by
    unfold am_l0 at hi
    rw [List.getElem?_append] at hi
    split at hi
    · have := am_lv_args h1 0 i (am_cv (am_ad b base) v) (by rw [List.getElem?_map, hi]; rfl)
      rw [Nat.zero_add] at this
      exact this
    · have := List.eq_of_mem_replicate (List.mem_of_getElem? hi)
      rw [this] at hv
      cases hv)
  refine hs j 0 (am_l0 j As) [] h r h' hj hrun (h'.length - h.length) (am_sl h' - am_sl h) ⟨hx, hb, hml, hr, hown, hname⟩ hok (Nat.le_refl _) (Nat.le_refl _) hh va_S.rf hl2 (fun i x hi => by
    unfold am_l0 at hi
    rw [List.getElem?_append] at hi
    split at hi
    · have := am_cat_one (by omega) _ (List.mem_of_getElem? hi)
      cases this
    · have := List.eq_of_mem_replicate (List.mem_of_getElem? hi)
      cases this) (by omega) (by omega) (Nat.le_refl _) (Nat.le_refl _) ?_
  intro pc' ls' H' locs' hh' hS' hend
  match r, hend with
  | some (.int x), hend =>
    obtain ⟨hd, h2 | ⟨h2, h3⟩⟩ := hend
    · exact W.zret (ty := .int) hx hb (by rw [hr]; exact h2) rfl (fun t ht hW => ⟨⟨x, (), rfl, rfl, show am_hp D ky b base xs h' t.heap by rw [ht]; exact hh'⟩, hS'.F ht⟩) hS'.2.2 hd hlocks
    · exact W.zret (ty := .boolean) hx hb (by rw [hr]; exact h2) (by rcases h3 with h3 | h3 <;> subst h3 <;> rfl) (fun t ht hW => ⟨⟨x, (), rfl, rfl, show am_hp D ky b base xs h' t.heap by rw [ht]; exact hh'⟩, hS'.F ht⟩) hS'.2.2 hd hlocks
  | some (.long x), hend =>
    exact W.lret hx hb (by rw [hr]; exact hend.2) (fun t ht hW => ⟨⟨x, (), rfl, rfl, show am_hp D ky b base xs h' t.heap by rw [ht]; exact hh'⟩, hS'.F ht⟩) hS'.2.2 hend.1 hlocks
  | none, hend =>
    exact W.vret hx hb (by rw [hr]; exact hend.2) (fun t ht hW => ⟨⟨(), rfl, trivial, show am_hp D ky b base xs h' t.heap by rw [ht]; exact hh'⟩, hS'.F ht⟩) hS'.2.2 hend.1 hlocks
end
section
section AMR
variable {p : Program} {l : Launch} {e : Env} {R : Room} {s : State} {m : MethodId} {args : Array Value} {below : List Frame} {meth : Method} {c : Code} {H : Heap} {locs : List Loc} {cells slots : Nat} {Q : State → Prop} {pc : Nat} {ls : Array Slot} {rest : List Value} {cc : ByteArray}
variable {D : va_G} {ky : Nat → ClassId} {b base : Nat} {xs : List Int32} {h : am_H} {own : String} {a : Nat}
theorem am_rc_spec {j c : Nat} {As : List Value} {h : am_H} (hr : am_rc j As h = true) (hk : am_rk j = some c) : ∃ a As0 fs, As = .ref a :: As0 ∧ h[a]? = some (.inr (c, fs)) := by
  unfold am_rc at hr
  rw [hk] at hr
  dsimp only at hr
  split at hr
  · split at hr
    · rename_i hc
      have := Nat.eq_of_beq_eq_true hr
      subst this
      exact ⟨_, _, _, rfl, hc⟩
    · cases hr
  · cases hr
/-- a call of one of the system's methods -/
theorem am_rt_call (htab : am_tab) {n i j idx q : Nat} (hmt : am_mt l D ky b base xs n) {S : List Value} {r : Option Value} {h1 : am_H} {ins : Instr} (hx : p.tables.exec = Jvm.exec) (hb : c.code = am_by i) (hml : c.maxLocals = ls.size) (hown : s.vm.findClass (am_own i) = some m.cls) (hok : am_ok D ky b base xs s) (hh : am_hp D ky b base xs h H) (hS : va_S (fun q : Nat => base ≤ q) s.heap H locs)
    (hfr : am_rank i ≤ R.frames) (hlo : 39 * am_rank i ≤ R.locals) {na : Nat} (hcj : am_cj i j na = true) (hcat : am_cat (S.drop na) ≤ 8) (hlen : na ≤ S.length) (hca : am_cat (S.take na) = na)
    (hz : (bif am_rc j (S.take na).reverse h then am_run n j (0, am_l0 j (S.take na).reverse, [], h) else none) = some (r, h1)) (hcells : cells + (h1.length - h.length) ≤ R.cells) (hslots : slots + (am_sl h1 - am_sl h) ≤ R.slots)
    (hins : (ins = .invokevirtual idx ∧ am_kd j = 0 ∧ am_has q (.methodLink (am_own i) idx (am_nm j)) = true) ∨ (ins = .invokespecial idx ∧ am_kd j = 2 ∧ (am_has q (.methodLink (am_own i) idx (am_nm j)) = true ∨ am_has q (.methodLinkNest (am_own i) idx (am_nm j) am_host) = true)) ∨ (ins = .invokestatic idx ∧ am_kd j = 1 ∧ am_has q (.methodLink (am_own i) idx (am_nm j)) = true))
    (hdg : decode (am_by i) pc = .ok (ins, 3)) :
    ∃ av, va_Run p l e R s m args below meth c H locs cells slots (h1.length - h.length) (am_sl h1 - am_sl h) (F0 m pc ls (S.map (am_cv (am_ad b base)))) ((S.drop na).map (am_cv (am_ad b base))) (am_Q D ky b base xs r h1 av) (fun q : Nat => base ≤ q) := by
  unfold am_cj at hcj
  simp only [Bool.and_eq_true, decide_eq_true_eq, and_assoc] at hcj
  obtain ⟨c1, c2, c3, c4, c5⟩ := hcj
  have hj : j < am_N := Nat.le_of_ble_eq_true c1
  have hna : na = am_na_ j := Nat.eq_of_beq_eq_true c3
  have hrk : am_rank j < am_rank i := Nat.le_of_ble_eq_true c4
  obtain ⟨⟨m1, m2, m3⟩, m4, m5, m6, m7, m8, m9, m10, m11, m12, m13, m14⟩ := am_mck_all (htab.2.1 j hj c5)
  cases hrc : am_rc j (S.take na).reverse h <;> rw [hrc] at hz
  · cases hz
  · have hz : am_run n j (0, am_l0 j (S.take na).reverse, [], h) = some (r, h1) := hz
    have hlt : (S.take na).reverse.length = am_na_ j := by rw [List.length_reverse, List.length_take]; omega
    have hct : am_cat (S.take na).reverse = am_na_ j := by
      have : am_cat (S.take na).reverse = am_cat (S.take na) := by unfold am_cat; rw [List.map_reverse, List.sum_reverse]
      rw [this, hca, hna]
    have hM := hmt j _ h r h1 hj c5 hct hlt hz
    have hbl : FrameBlind (va_Pc ((S.take na).reverse.map (am_cv (am_ad b base))) (fun U => am_ok D ky b base xs U ∧ am_hp D ky b base xs h U.heap)) := fun a U g mk z => ⟨z.1, z.2.1.calling g mk a, z.2.2⟩
    have hPc : ∀ U : State, U.heap = H → s.WarmedH U.vm → va_Pc ((S.take na).reverse.map (am_cv (am_ad b base))) (fun U => am_ok D ky b base xs U ∧ am_hp D ky b base xs h U.heap) ((S.take na).reverse.map (am_cv (am_ad b base))).toArray U := fun U hU hW => ⟨rfl, hok.moved hW hS hU, show am_hp D ky b base xs h U.heap by rw [hU]; exact hh⟩
    have hws : ∀ w ∈ am_wl j, ∀ (a' : Array Value) (U : State), s.WarmedH U.vm → w.before a' U = true := by
      intro w hw a' U hW
      have : w = .code (am_nm j) (am_by j) (am_ml j) (am_rt j) := by simpa using hw
      subst this
      exact word_at hW (Or.inl rfl) (am_has_at m1 hok.1 args)
    have hrest : (((S.drop na).map (am_cv (am_ad b base))).map fun v => v.category).sum ≤ 8 := by rw [am_cat_map]; exact hcat
    have hst0 : S.map (am_cv (am_ad b base)) = ((S.take na).reverse.map (am_cv (am_ad b base))).reverse ++ (S.drop na).map (am_cv (am_ad b base)) := by
      rw [← List.map_reverse, List.reverse_reverse, ← List.map_append, List.take_append_drop]
    have hfx : CallFix p m c (am_by i) ls.size s args [] (am_own i) := ⟨hx, hb, hml, hown, fun w hw => by cases hw⟩
    have hcb : ∀ k, (Cond.methodLink (am_own i) idx (am_nm j)).before args s = true → am_na_ j - k = am_na_ j - (bif Nat.beq (am_kd j) 1 then 0 else 1) → CallB R s args (am_own i) idx (am_nm j) (am_by j) (am_ml j) (am_rt j) (am_wl j) (am_rm_ j (h1.length - h.length) (am_sl h1 - am_sl h)) (h1.length - h.length) (am_sl h1 - am_sl h) (am_na_ j - k) := by
      intro k hl hk
      refine ⟨rfl, rfl, ?_, ?_, hws, List.mem_cons_self, am_has_at m1 hok.1 args, am_has_at m2 hok.1 args, m9, fun sig h => ?_, hl⟩
      · show am_rank j + 1 ≤ R.frames
        omega
      · show 8 + (am_ml j + 11) + 39 * am_rank j ≤ R.locals
        omega
      · rw [h] at m10
        rw [hk]
        exact (Option.some.inj m10).symm
    rcases hins with ⟨rfl, hkd, hl⟩ | ⟨rfl, hkd, hl⟩ | ⟨rfl, hkd, hl⟩
    · obtain ⟨ci, k1, k2, k3, k4⟩ := m7 (by omega)
      obtain ⟨a, As0, fs, e1, e2⟩ := am_rc_spec hrc k1
      rw [e1] at hM hPc hbl hst0
      obtain ⟨k, rfl, hw⟩ := am_pos hh e2 (fun l q => by cases q)
      have h100 : Nat.ble 100 ci = false := by
        cases z : Nat.ble 100 ci
        · rfl
        · have := Nat.le_of_ble_eq_true z; have := am_cls_len; omega
      have hw : (am_ws ky b base h)[k]? = some (base + k, .inr (ci, fs.map (am_cv (am_ad b base)))) := by
        rw [hw]
        simp only [am_cc, h100]; rfl
      have hrec := va_recv hok.2.1 hh.1 (am_cls_at k2) hw
      rw [k3] at hrec
      have hl0 : As0.length = am_na_ j - 1 := by rw [e1] at hlt; simp at hlt; omega
      refine ⟨_, va_runV (As := As0.map (am_cv (am_ad b base))) (rest := (S.drop na).map (am_cv (am_ad b base))) (b := base + k) (C := (am_nm j).cls) hfx hM ⟨hcb 1 (am_has_at hl hok.1 args) (by rw [hkd]; rfl), am_has_at (m5 (by omega)) hok.1 args, am_has_at (m6 hkd) hok.1 args⟩ ⟨hbl, hrec, hPc⟩ rfl (by rw [List.length_map]; exact hl0) rfl ?_ (lv_room hrest) hdg ⟨hcells, hslots⟩⟩
      show S.map (am_cv (am_ad b base)) = _
      rw [hst0]
      simp [am_cv, am_ad]
    · obtain ⟨ci, k1, k2, k3, k4⟩ := m7 (by omega)
      obtain ⟨a, As0, fs, e1, e2⟩ := am_rc_spec hrc k1
      rw [e1] at hM hPc hbl hst0
      obtain ⟨hnm, hrt⟩ := m8 hkd
      have hl0 : As0.length = am_na_ j - 1 := by rw [e1] at hlt; simp at hlt; omega
      have hst : S.map (am_cv (am_ad b base)) = (As0.map (am_cv (am_ad b base))).reverse ++ .ref (am_ad b base a) :: (S.drop na).map (am_cv (am_ad b base)) := by
        rw [hst0]
        simp [am_cv]
      rcases hl with hl | hl
      · have hcb1 := hcb 1 (am_has_at hl hok.1 args) (by rw [hkd]; rfl)
        have hwl : am_wl j = [.code (am_nm j) (am_by j) (am_ml j) none] := by unfold am_wl; rw [hrt]
        rw [hrt] at hcb1
        exact ⟨_, va_runI (As := As0.map (am_cv (am_ad b base))) (rest := (S.drop na).map (am_cv (am_ad b base))) (b := am_ad b base a) hfx hM ⟨hcb1, hnm, am_has_at (m5 (by omega)) hok.1 args⟩ ⟨hbl, hPc⟩ rfl (by rw [List.length_map]; exact hl0) rfl hst (lv_room hrest) hdg ⟨hcells, hslots⟩⟩
      · have hcn : va_CN R s args (am_own i) idx (am_nm j) am_host (am_by j) (am_ml j) none (am_wl j) (am_rm_ j (h1.length - h.length) (am_sl h1 - am_sl h)) (h1.length - h.length) (am_sl h1 - am_sl h) (am_na_ j - 1) := by
          have hc0 : Cond.code (am_nm j) (am_by j) (am_ml j) none ∈ am_wl j := by unfold am_wl; rw [hrt]; exact List.mem_cons_self
          refine ⟨⟨rfl, rfl, ?_, ?_, hws, hc0⟩, ?_, am_has_at m2 hok.1 args, m9, fun sig h => ?_, am_has_at hl hok.1 args⟩
          · show am_rank j + 1 ≤ R.frames
            omega
          · show 8 + (am_ml j + 11) + 39 * am_rank j ≤ R.locals
            omega
          · have := am_has_at m1 hok.1 args
            rw [hrt] at this
            exact this
          · rw [h, hkd] at m10
            exact (Option.some.inj m10).symm
        exact ⟨_, va_runIN (As := As0.map (am_cv (am_ad b base))) (rest := (S.drop na).map (am_cv (am_ad b base))) (b := am_ad b base a) hfx hM ⟨hcn, hnm, am_has_at (m5 (by omega)) hok.1 args⟩ ⟨hbl, hPc⟩ rfl (by rw [List.length_map]; exact hl0) rfl hst (lv_room hrest) hdg ⟨hcells, hslots⟩⟩
    · refine ⟨_, va_runS (As := (S.take na).reverse.map (am_cv (am_ad b base))) (rest := (S.drop na).map (am_cv (am_ad b base))) hfx hM ⟨hcb 0 (am_has_at hl hok.1 args) (by rw [hkd]; rfl), am_has_at (m4 hkd) hok.1 args⟩ ⟨hbl, hPc⟩ rfl (by rw [List.length_map]; exact hlt) rfl hst0 (lv_room hrest) hdg ⟨hcells, hslots⟩⟩
end AMR
end
section
theorem am_gi_spec {h : am_H} {a c k : Nat} {x : Int32} (hh : am_gi h a c k = some x) : ∃ fs, h[a]? = some (.inr (c, fs)) ∧ fs[k]? = some (.int x) := by
  unfold am_gi at hh
  split at hh
  · rename_i c' fs e
    cases q : Nat.beq c' c <;> rw [q] at hh
    · cases hh
    · have q := Nat.eq_of_beq_eq_true q
      subst q
      dsimp only [cond] at hh
      split at hh
      · rename_i y hy
        cases hh
        exact ⟨fs, e, hy⟩
      · cases hh
  · cases hh
theorem am_gr_spec {h : am_H} {a c k : Nat} {x : Nat} (hh : am_gr h a c k = some x) : ∃ fs, h[a]? = some (.inr (c, fs)) ∧ fs[k]? = some (.ref x) := by
  unfold am_gr at hh
  split at hh
  · rename_i c' fs e
    cases q : Nat.beq c' c <;> rw [q] at hh
    · cases hh
    · have q := Nat.eq_of_beq_eq_true q
      subst q
      dsimp only [cond] at hh
      split at hh
      · rename_i y hy
        cases hh
        exact ⟨fs, e, hy⟩
      · cases hh
  · cases hh
theorem am_bi_spec {o : Option am_R} {f : Int32 → am_H → Option am_R} {z : am_R} (h : am_bi o f = some z) : ∃ x h1, o = some (some (.int x), h1) ∧ f x h1 = some z := by
  unfold am_bi at h
  split at h
  · exact ⟨_, _, rfl, h⟩
  · cases h
theorem am_bl_spec {o : Option am_R} {f : Int64 → am_H → Option am_R} {z : am_R} (h : am_bl o f = some z) : ∃ x h1, o = some (some (.long x), h1) ∧ f x h1 = some z := by
  unfold am_bl at h
  split at h
  · exact ⟨_, _, rfl, h⟩
  · cases h
theorem am_bv_spec {o : Option am_R} {f : am_H → Option am_R} {z : am_R} (h : am_bv o f = some z) : ∃ h1, o = some (none, h1) ∧ f h1 = some z := by
  unfold am_bv at h
  split at h
  · exact ⟨_, rfl, h⟩
  · cases h
def am_nat (j pc : Nat) (L S : List Value) (h : am_H) : Option am_A := match j, S with
    | 1000, .int y :: .int x :: r => am_Go (pc, L, .int (am_max x y) :: r, h)
    | 1001, .int y :: .int x :: r => am_Go (pc, L, .int (am_min x y) :: r, h)
    | 1002, .int n :: .int dp :: .ref b :: .int sp :: .ref a :: r => am_Wr (am_cp h a sp b dp n) (fun h => (pc, L, r, h))
    | 1003, .ref _ :: r => am_Go (pc, L, r, h)
    | _, _ => none
theorem am_inv_spec {E : Nat → List Value → am_H → Option am_R} {K : am_S → Option am_R} {j n pc : Nat} {L S : List Value} {h : am_H} {z : am_R} (hz : am_do E K (am_inv j n pc L S h) = some z) :
    (am_cat (S.drop n) ≤ 8 ∧ n ≤ S.length ∧ am_cat (S.take n) = n) ∧
    (j < 1000 → (∃ x h1, E j (S.take n).reverse h = some (some (.long x), h1) ∧ K (pc, L, .long x :: S.drop n, h1) = some z) ∨ (∃ x h1, E j (S.take n).reverse h = some (some (.int x), h1) ∧ K (pc, L, .int x :: S.drop n, h1) = some z) ∨ (∃ h1, E j (S.take n).reverse h = some (none, h1) ∧ K (pc, L, S.drop n, h1) = some z)) ∧
    (1000 ≤ j → am_do E K (am_nat j pc L S h) = some z) := by
  unfold am_inv at hz
  cases q : (Nat.blt 8 (am_cat (S.drop n)) || (Nat.blt S.length n || !(Nat.beq (am_cat (S.take n)) n))) <;> rw [q] at hz
  · simp only [Bool.or_eq_false_iff, Bool.not_eq_false'] at q
    obtain ⟨q1, q2, q3⟩ := q
    have nb : ∀ {a b : Nat}, Nat.blt a b = false → b ≤ a := fun {a b} q => Nat.le_of_not_lt fun z => by
      have := Nat.ble_eq_true_of_le (show a + 1 ≤ b from z)
      rw [show Nat.blt a b = Nat.ble (a + 1) b from rfl, this] at q
      cases q
    refine ⟨⟨nb q1, nb q2, Nat.eq_of_beq_eq_true q3⟩, fun hj => ?_, fun hj => ?_⟩
    · have hb : Nat.blt j 1000 = true := Nat.ble_eq_true_of_le hj
      rw [hb] at hz
      dsimp only [cond] at hz
      split at hz
      · exact Or.inl (am_bl_spec hz)
      · exact Or.inr (Or.inl (am_bi_spec hz))
      · exact Or.inr (Or.inr (am_bv_spec hz))
    · have hb : Nat.blt j 1000 = false := by
        cases w : Nat.blt j 1000
        · rfl
        · have := Nat.le_of_ble_eq_true w; omega
      rw [hb] at hz
      exact hz
  · cases hz
theorem am_bz_spec {x y : Int32} (h : am_bz x = some y) : y = x ∧ (x = 0 ∨ x = 1) := by
  unfold am_bz at h
  cases q : (decide (x = 0) || decide (x = 1)) <;> rw [q] at h
  · cases h
  · cases h
    exact ⟨rfl, by simpa using q⟩
theorem am_dv_spec {x y z : Int32} (h : am_dv x y = some z) : ¬ y = 0 ∧ z = x / y := by
  unfold am_dv at h
  cases q : decide (y = 0) <;> rw [q] at h
  · cases h
    exact ⟨of_decide_eq_false q, rfl⟩
  · cases h
theorem am_rm_spec {x y z : Int32} (h : am_rm x y = some z) : ¬ y = 0 ∧ z = x - x / y * y := by
  unfold am_rm at h
  cases q : decide (y = 0) <;> rw [q] at h
  · cases h
    exact ⟨of_decide_eq_false q, rfl⟩
  · cases h
set_option maxHeartbeats 4000000 in
theorem am_snd_succ (htab : am_tab) {l : Launch} {D : va_G} {ky : Nat → ClassId} {b base : Nat} {xs : List Int32} {n : Nat} (ih : am_snd l D ky b base xs n) : am_snd l D ky b base xs (n + 1) := by
  have hmt := am_met_of htab ih
  intro i pc L S h r h' hi hrun p e R s m args below meth c H locs cells slots Q ls C Sl hfr hok hfm hlo hh hS hl hlg hC hSl hC2 hSl2 kr
  obtain ⟨hx, hb, hml, hrt, hown, hname⟩ := id hfr
  have hz : am_do (fun j As h => bif am_rc j As h then am_run n j (0, am_l0 j As, [], h) else none) (am_run n i) (am_act i (pc, L, S, h)) = some (r, h') := hrun
  have hret := htab.2.2.2.2 i hi
  cases hf : am_find (am_code i) pc with
  | none => simp [am_act, hf, am_do] at hz
  | some e0 =>
  obtain ⟨hmem, hpc⟩ := am_find_spec hf
  have hck := htab.1 i hi e0 hmem
  obtain ⟨pc0, ins, len, a1, a2, a3, ci, cl, sw⟩ := e0
  have hpc : pc0 = pc := hpc
  subst hpc
  have hz : am_do (fun j As h => bif am_rc j As h then am_run n j (0, am_l0 j As, [], h) else none) (am_run n i) (am_step i (pc0, ins, len, a1, a2, a3, ci, cl, sw) L S h) = some (r, h') := by simpa only [am_act, hf] using hz
  obtain ⟨hd, hck⟩ := Bool.and_eq_true_iff.mp hck
  have hd : decode (am_by i) pc0 = .ok (ins, len) := of_decide_eq_true hd
  have hsz : c.maxLocals = ls.size := by rw [hml, hl.1]
  have go : ∀ {pc' : Nat} {L' S' : List Value} {h1 : am_H} {H1 : Heap} {locs1 : List Loc} {cells1 slots1 : Nat} {ls1 : Array Slot}, am_run n i (pc', L', S', h1) = some (r, h') → am_hp D ky b base xs h1 H1 → va_S (fun q : Nat => base ≤ q) s.heap H1 locs1 → lv_has ls1 (am_ml i) (am_ls (am_ad b base) 0 L') → am_lg i L' → cells1 + h'.length = C + h1.length → slots1 + am_sl h' = Sl + am_sl h1 → W p l e R s m args below meth c H1 locs1 cells1 slots1 Q (F0 m pc' ls1 (S'.map (am_cv (am_ad b base)))) := fun hz a1 a2 a3 a6 a4 a5 => ih i _ _ _ _ r h' hi hz C Sl hfr hok hfm hlo a1 a2 a3 a6 a4 a5 hC2 hSl2 kr
  have go0 : ∀ {pc' : Nat} {S' : List Value}, am_run n i (pc', L, S', h) = some (r, h') → W p l e R s m args below meth c H locs cells slots Q (F0 m pc' ls (S'.map (am_cv (am_ad b base)))) := fun hz => go hz hh hS hl hlg hC hSl
  have goL : ∀ {pc' : Nat} {L' S' : List Value} {ls1 : Array Slot}, am_run n i (pc', L', S', h) = some (r, h') → lv_has ls1 (am_ml i) (am_ls (am_ad b base) 0 L') → am_lg i L' → W p l e R s m args below meth c H locs cells slots Q (F0 m pc' ls1 (S'.map (am_cv (am_ad b base)))) := fun hz hl hlg => go hz hh hS hl hlg hC hSl
  have gow : ∀ {pc' : Nat} {S' : List Value} {h1 : am_H} {H1 : Heap} {locs1 : List Loc}, am_run n i (pc', L, S', h1) = some (r, h') → am_hp D ky b base xs h1 H1 → va_S (fun q : Nat => base ≤ q) s.heap H1 locs1 → h1.length = h.length ∧ am_sl h1 = am_sl h → W p l e R s m args below meth c H1 locs1 cells slots Q (F0 m pc' ls (S'.map (am_cv (am_ad b base)))) := fun hz a1 a2 a3 => go hz a1 a2 hl hlg (by rw [a3.1]; exact hC) (by rw [a3.2]; exact hSl)
  have h'le : h.length ≤ h'.length := (am_run_gr (n + 1) _ _ _ hrun).1
  have h'sl : am_sl h ≤ am_sl h' := (am_run_gr (n + 1) _ _ _ hrun).2
  have hcl : cells ≤ R.cells := by omega
  have hsl : slots ≤ R.slots := by omega
  have lenq : ∀ {k : Nat}, Nat.beq len k = true → len = k := fun z => Nat.eq_of_beq_eq_true z
  -- a call of a method of the system
  have sys : ∀ {idx : Nat} {ins : Instr}, decode (am_by i) pc0 = .ok (ins, 3) → am_cj i a1 a2 = true → ((ins = .invokevirtual idx ∧ am_kd a1 = 0 ∧ am_has a3 (.methodLink (am_own i) idx (am_nm a1)) = true) ∨ (ins = .invokespecial idx ∧ am_kd a1 = 2 ∧ (am_has a3 (.methodLink (am_own i) idx (am_nm a1)) = true ∨ am_has a3 (.methodLinkNest (am_own i) idx (am_nm a1) am_host) = true)) ∨ (ins = .invokestatic idx ∧ am_kd a1 = 1 ∧ am_has a3 (.methodLink (am_own i) idx (am_nm a1)) = true)) → am_do (fun j As h => bif am_rc j As h then am_run n j (0, am_l0 j As, [], h) else none) (am_run n i) (am_inv a1 a2 (pc0 + 3) L S h) = some (r, h') → W p l e R s m args below meth c H locs cells slots Q (F0 m pc0 ls (S.map (am_cv (am_ad b base)))) := by
    intro idx ins hd hcj hins hz
    obtain ⟨⟨g1, g2, g3⟩, g4, -⟩ := am_inv_spec hz
    have hj : a1 < 1000 := by
      have hcj := hcj
      unfold am_cj at hcj
      simp only [Bool.and_eq_true, decide_eq_true_eq, and_assoc] at hcj
      exact Nat.le_of_ble_eq_true hcj.2.1
    have grow : ∀ {v : Option Value} {h1 : am_H}, (bif am_rc a1 (S.take a2).reverse h then am_run n a1 (0, am_l0 a1 (S.take a2).reverse, [], h) else none) = some (v, h1) → am_gr_ h h1 := by
      intro v h1 hE
      cases q : am_rc a1 (S.take a2).reverse h <;> rw [q] at hE
      · cases hE
      · exact am_run_gr n _ _ _ hE
    rcases g4 hj with ⟨x, h1, hE, hz⟩ | ⟨x, h1, hE, hz⟩ | ⟨h1, hE, hz⟩
    · have e1 := grow hE
      have e2 : am_gr_ h1 h' := am_run_gr n _ _ _ hz
      have e11 := e1.1; have e12 := e1.2; have e21 := e2.1; have e22 := e2.2
      obtain ⟨av, hr⟩ := am_rt_call htab hmt hx hb hsz hown hok hh hS hfm hlo hcj g1 g2 g3 hE (cells := cells) (slots := slots) (by omega) (by omega) hins hd
      have hr : va_Run p l e R s m args below meth c H locs cells slots (h1.length - h.length) (am_sl h1 - am_sl h) (F0 m pc0 ls (S.map (am_cv (am_ad b base)))) ((S.drop a2).map (am_cv (am_ad b base))) (va_Ql (fun y (_ : Unit) => y = x) (fun _ t => am_hp D ky b base xs h1 t.heap) (fun q : Nat => base ≤ q) av) (fun q : Nat => base ≤ q) := hr
      refine va_calll hr hS (fun _ _ h => h) (fun _ h => h) (fun r2 u t H1 locs1 ht hvm hpost hB hz1 hk1 hS1 => ?_)
      subst hpost
      rw [ht] at hB
      exact go (S' := .long r2 :: S.drop a2) hz hB hS1 hl hlg (by omega) (by omega)
    · have e1 := grow hE
      have e2 : am_gr_ h1 h' := am_run_gr n _ _ _ hz
      have e11 := e1.1; have e12 := e1.2; have e21 := e2.1; have e22 := e2.2
      obtain ⟨av, hr⟩ := am_rt_call htab hmt hx hb hsz hown hok hh hS hfm hlo hcj g1 g2 g3 hE (cells := cells) (slots := slots) (by omega) (by omega) hins hd
      have hr : va_Run p l e R s m args below meth c H locs cells slots (h1.length - h.length) (am_sl h1 - am_sl h) (F0 m pc0 ls (S.map (am_cv (am_ad b base)))) ((S.drop a2).map (am_cv (am_ad b base))) (va_Qi (fun y (_ : Unit) => y = x) (fun _ t => am_hp D ky b base xs h1 t.heap) (fun q : Nat => base ≤ q) av) (fun q : Nat => base ≤ q) := hr
      refine va_calli hr hS (fun _ _ h => h) (fun _ h => h) (fun r2 u t H1 locs1 ht hvm hpost hB hz1 hk1 hS1 => ?_)
      subst hpost
      rw [ht] at hB
      exact go (S' := .int r2 :: S.drop a2) hz hB hS1 hl hlg (by omega) (by omega)
    · have e1 := grow hE
      have e2 : am_gr_ h1 h' := am_run_gr n _ _ _ hz
      have e11 := e1.1; have e12 := e1.2; have e21 := e2.1; have e22 := e2.2
      obtain ⟨av, hr⟩ := am_rt_call htab hmt hx hb hsz hown hok hh hS hfm hlo hcj g1 g2 g3 hE (cells := cells) (slots := slots) (by omega) (by omega) hins hd
      have hr : va_Run p l e R s m args below meth c H locs cells slots (h1.length - h.length) (am_sl h1 - am_sl h) (F0 m pc0 ls (S.map (am_cv (am_ad b base)))) ((S.drop a2).map (am_cv (am_ad b base))) (va_Qv (fun (_ : Unit) => True) (fun _ t => am_hp D ky b base xs h1 t.heap) (fun q : Nat => base ≤ q) av) (fun q : Nat => base ≤ q) := hr
      refine va_callv hr hS (fun _ _ h => h) (fun _ h => h) (fun u t H1 locs1 ht hvm hpost hB hz1 hk1 hS1 => ?_)
      rw [ht] at hB
      exact go (S' := S.drop a2) hz hB hS1 hl hlg (by omega) (by omega)
  have hnck := htab.2.2.2.1
  unfold am_nck at hnck
  simp only [Bool.and_eq_true, and_assoc] at hnck
  obtain ⟨k1, k2, k3, k4, k5, k6, k7, k8, k9, k10, k11, k12, k13, k14⟩ := hnck
  cases ins with
  | iconst k =>
    obtain ⟨c1, c2⟩ := Bool.and_eq_true_iff.mp hck
    have e1 := lenq c1; subst e1
    exact lv_iconst hx hb hd (of_decide_eq_true c2) (go0 (S' := .int ci :: S) hz)
  | bipush k =>
    obtain ⟨c1, c2⟩ := Bool.and_eq_true_iff.mp hck
    have e1 := lenq c1; subst e1
    exact lv_bipush hx hb hd (of_decide_eq_true c2) (go0 (S' := .int ci :: S) hz)
  | sipush k =>
    obtain ⟨c1, c2⟩ := Bool.and_eq_true_iff.mp hck
    have e1 := lenq c1; subst e1
    exact lv_sipush hx hb hd (of_decide_eq_true c2) (go0 (S' := .int ci :: S) hz)
  | ldc k =>
    obtain ⟨c1, c2⟩ := Bool.and_eq_true_iff.mp hck
    have e1 := lenq c1; subst e1
    exact lv_ldc hx hb hown (am_has_at c2 hok.1 args) hd (go0 (S' := .int ci :: S) hz)
  | lconst k =>
    obtain ⟨c1, c2⟩ := Bool.and_eq_true_iff.mp hck
    have e1 := lenq c1; subst e1
    exact lv_lconst hx hb hd (of_decide_eq_true c2) (go0 (S' := .long cl :: S) hz)
  | ldc2_w k =>
    obtain ⟨c1, c2⟩ := Bool.and_eq_true_iff.mp hck
    have e1 := lenq c1; subst e1
    exact lv_ldc2 hx hb hown (am_has_at c2 hok.1 args) hd (go0 (S' := .long cl :: S) hz)
  | aconst_null =>
    have e1 := lenq hck; subst e1
    exact lv_null hx hb hd (go0 (S' := .null :: S) hz)
  | iload_n k =>
    obtain ⟨c1, c2⟩ := Bool.and_eq_true_iff.mp hck
    have e1 := lenq c1; subst e1
    cases hL : L[a1]? with
    | none => simp [am_step, hL, am_do] at hz
    | some v => cases v with
      | int x => exact lv_iload_n hx hb hd (Nat.eq_of_beq_eq_true c2) (am_ls_at hl hL rfl) (go0 (S' := .int x :: S) (by simpa only [am_step, hL, am_do] using hz))
      | _ => simp [am_step, hL, am_do] at hz
  | iload k =>
    obtain ⟨c1, c2⟩ := Bool.and_eq_true_iff.mp hck
    have e1 := lenq c1; subst e1
    cases hL : L[a1]? with
    | none => simp [am_step, hL, am_do] at hz
    | some v => cases v with
      | int x => exact lv_iload hx hb (by rw [Nat.eq_of_beq_eq_true c2] at hd; exact hd) (am_ls_at hl hL rfl) (go0 (S' := .int x :: S) (by simpa only [am_step, hL, am_do] using hz))
      | _ => simp [am_step, hL, am_do] at hz
  | lload_n k =>
    obtain ⟨c1, c2⟩ := Bool.and_eq_true_iff.mp hck
    have e1 := lenq c1; subst e1
    cases hL : L[a1]? with
    | none => simp [am_step, hL, am_do] at hz
    | some v => cases v with
      | long x => exact lv_lload_n hx hb hd (Nat.eq_of_beq_eq_true c2) (am_ls_at hl hL rfl) (go0 (S' := .long x :: S) (by simpa only [am_step, hL, am_do] using hz))
      | _ => simp [am_step, hL, am_do] at hz
  | lload k =>
    obtain ⟨c1, c2⟩ := Bool.and_eq_true_iff.mp hck
    have e1 := lenq c1; subst e1
    cases hL : L[a1]? with
    | none => simp [am_step, hL, am_do] at hz
    | some v => cases v with
      | long x => exact lv_lload hx hb (by rw [Nat.eq_of_beq_eq_true c2] at hd; exact hd) (am_ls_at hl hL rfl) (go0 (S' := .long x :: S) (by simpa only [am_step, hL, am_do] using hz))
      | _ => simp [am_step, hL, am_do] at hz
  | aload_n k =>
    obtain ⟨c1, c2⟩ := Bool.and_eq_true_iff.mp hck
    have e1 := lenq c1; subst e1
    cases hL : L[a1]? with
    | none => simp [am_step, hL, am_do] at hz
    | some v => cases v with
      | ref x => exact lv_aload_n hx hb hd (Nat.eq_of_beq_eq_true c2) (am_ls_at hl hL rfl) (go0 (S' := .ref x :: S) (by simpa only [am_step, hL, am_do] using hz))
      | null => exact lv_aload_nN hx hb hd (Nat.eq_of_beq_eq_true c2) (am_ls_at hl hL rfl) (go0 (S' := .null :: S) (by simpa only [am_step, hL, am_do] using hz))
      | _ => simp [am_step, hL, am_do] at hz
  | aload k =>
    obtain ⟨c1, c2⟩ := Bool.and_eq_true_iff.mp hck
    have e1 := lenq c1; subst e1
    cases hL : L[a1]? with
    | none => simp [am_step, hL, am_do] at hz
    | some v => cases v with
      | ref x => exact lv_aload hx hb (by rw [Nat.eq_of_beq_eq_true c2] at hd; exact hd) (am_ls_at hl hL rfl) (go0 (S' := .ref x :: S) (by simpa only [am_step, hL, am_do] using hz))
      | null => exact lv_aloadN hx hb (by rw [Nat.eq_of_beq_eq_true c2] at hd; exact hd) (am_ls_at hl hL rfl) (go0 (S' := .null :: S) (by simpa only [am_step, hL, am_do] using hz))
      | _ => simp [am_step, hL, am_do] at hz
  | istore_n k =>
    obtain ⟨c1, c4⟩ := Bool.and_eq_true_iff.mp hck; obtain ⟨c1, c3⟩ := Bool.and_eq_true_iff.mp c1; obtain ⟨c1, c2⟩ := Bool.and_eq_true_iff.mp c1
    have e1 := lenq c1; subst e1
    match S, hz with
    | .int x :: rs, hz => exact lv_istore_n (lv := am_ls (am_ad b base) 0 L) hx hb hd (Nat.eq_of_beq_eq_true c2) hl (Nat.le_of_ble_eq_true c3) rfl (fun ls1 hl1 => goL (S' := rs) hz (am_ls_st1 (am_lg_no hlg c4) rfl hl1) (am_lg_st1 hlg (fun _ z => by cases z)))
  | istore k =>
    obtain ⟨c1, c4⟩ := Bool.and_eq_true_iff.mp hck; obtain ⟨c1, c3⟩ := Bool.and_eq_true_iff.mp c1; obtain ⟨c1, c2⟩ := Bool.and_eq_true_iff.mp c1
    have e1 := lenq c1; subst e1
    rw [Nat.eq_of_beq_eq_true c2] at hd
    match S, hz with
    | .int x :: rs, hz => exact lv_istore (lv := am_ls (am_ad b base) 0 L) hx hb hd hl (Nat.le_of_ble_eq_true c3) rfl (fun ls1 hl1 => goL (S' := rs) hz (am_ls_st1 (am_lg_no hlg c4) rfl hl1) (am_lg_st1 hlg (fun _ z => by cases z)))
  | lstore_n k =>
    obtain ⟨c1, c5⟩ := Bool.and_eq_true_iff.mp hck; obtain ⟨c1, c4⟩ := Bool.and_eq_true_iff.mp c1; obtain ⟨c1, c3⟩ := Bool.and_eq_true_iff.mp c1; obtain ⟨c1, c2⟩ := Bool.and_eq_true_iff.mp c1
    have e1 := lenq c1; subst e1
    match S, hz with
    | .long x :: rs, hz => exact lv_lstore_n (lv := am_ls (am_ad b base) 0 L) hx hb hd (Nat.eq_of_beq_eq_true c2) hl (Nat.le_of_ble_eq_true c3) rfl (fun ls1 hl1 => goL (S' := rs) hz (am_ls_st2 (am_lg_no hlg c4) rfl hl1) (am_lg_st2 hlg c5))
  | lstore k =>
    obtain ⟨c1, c5⟩ := Bool.and_eq_true_iff.mp hck; obtain ⟨c1, c4⟩ := Bool.and_eq_true_iff.mp c1; obtain ⟨c1, c3⟩ := Bool.and_eq_true_iff.mp c1; obtain ⟨c1, c2⟩ := Bool.and_eq_true_iff.mp c1
    have e1 := lenq c1; subst e1
    rw [Nat.eq_of_beq_eq_true c2] at hd
    match S, hz with
    | .long x :: rs, hz => exact lv_lstore (lv := am_ls (am_ad b base) 0 L) hx hb hd hl (Nat.le_of_ble_eq_true c3) rfl (fun ls1 hl1 => goL (S' := rs) hz (am_ls_st2 (am_lg_no hlg c4) rfl hl1) (am_lg_st2 hlg c5))
  | astore_n k =>
    obtain ⟨c1, c4⟩ := Bool.and_eq_true_iff.mp hck; obtain ⟨c1, c3⟩ := Bool.and_eq_true_iff.mp c1; obtain ⟨c1, c2⟩ := Bool.and_eq_true_iff.mp c1
    have e1 := lenq c1; subst e1
    match S, hz with
    | .ref x :: rs, hz => exact lv_astore_n (lv := am_ls (am_ad b base) 0 L) hx hb hd (Nat.eq_of_beq_eq_true c2) hl (Nat.le_of_ble_eq_true c3) rfl (fun ls1 hl1 => goL (S' := rs) hz (am_ls_st1 (am_lg_no hlg c4) rfl hl1) (am_lg_st1 hlg (fun _ z => by cases z)))
    | .null :: rs, hz => exact lv_astore_nN (lv := am_ls (am_ad b base) 0 L) hx hb hd (Nat.eq_of_beq_eq_true c2) hl (Nat.le_of_ble_eq_true c3) rfl (fun ls1 hl1 => goL (S' := rs) hz (am_ls_st1 (am_lg_no hlg c4) rfl hl1) (am_lg_st1 hlg (fun _ z => by cases z)))
  | astore k =>
    obtain ⟨c1, c4⟩ := Bool.and_eq_true_iff.mp hck; obtain ⟨c1, c3⟩ := Bool.and_eq_true_iff.mp c1; obtain ⟨c1, c2⟩ := Bool.and_eq_true_iff.mp c1
    have e1 := lenq c1; subst e1
    rw [Nat.eq_of_beq_eq_true c2] at hd
    match S, hz with
    | .ref x :: rs, hz => exact lv_astore (lv := am_ls (am_ad b base) 0 L) hx hb hd hl (Nat.le_of_ble_eq_true c3) rfl (fun ls1 hl1 => goL (S' := rs) hz (am_ls_st1 (am_lg_no hlg c4) rfl hl1) (am_lg_st1 hlg (fun _ z => by cases z)))
    | .null :: rs, hz => exact lv_astoreN (lv := am_ls (am_ad b base) 0 L) hx hb hd hl (Nat.le_of_ble_eq_true c3) rfl (fun ls1 hl1 => goL (S' := rs) hz (am_ls_st1 (am_lg_no hlg c4) rfl hl1) (am_lg_st1 hlg (fun _ z => by cases z)))
  | iinc k0 k =>
    obtain ⟨c1, c5⟩ := Bool.and_eq_true_iff.mp hck; obtain ⟨c1, c4⟩ := Bool.and_eq_true_iff.mp c1; obtain ⟨c1, c3⟩ := Bool.and_eq_true_iff.mp c1; obtain ⟨c1, c2⟩ := Bool.and_eq_true_iff.mp c1
    have e1 := lenq c1; subst e1
    rw [Nat.eq_of_beq_eq_true c2] at hd
    cases hL : L[a1]? with
    | none => simp [am_step, hL, am_do] at hz
    | some v => cases v with
      | int x =>
        obtain ⟨kk, hkk⟩ := List.getElem?_of_mem (am_ls_mem (ρ := am_ad b base) (k := 0) (q := (a1, .int x)) |>.mpr ⟨a1, .int x, hL, rfl, by simp [am_cv]⟩)
        exact lv_iinc (lv := am_ls (am_ad b base) 0 L) hx hb hd hl hkk (v := x + ci) (by rw [of_decide_eq_true c3]) (Nat.le_of_ble_eq_true c4) rfl (fun ls1 hl1 => goL (S' := S) (by simpa only [am_step, hL, am_do] using hz) (am_ls_st1 (v := .int (x + ci)) (am_lg_no hlg c5) rfl hl1) (am_lg_st1 hlg (fun _ z => by cases z)))
      | _ => simp [am_step, hL, am_do] at hz
  | iadd =>
    have e1 := lenq hck; subst e1
    match S, hz with
    | .int y :: .int x :: rs, hz => exact lv_iadd hx hb hd (go0 (S' := .int (x + y) :: rs) hz)
  | isub =>
    have e1 := lenq hck; subst e1
    match S, hz with
    | .int y :: .int x :: rs, hz => exact lv_isub hx hb hd (go0 (S' := .int (x - y) :: rs) hz)
  | imul =>
    have e1 := lenq hck; subst e1
    match S, hz with
    | .int y :: .int x :: rs, hz => exact lv_imul hx hb hd (go0 (S' := .int (x * y) :: rs) hz)
  | iand =>
    have e1 := lenq hck; subst e1
    match S, hz with
    | .int y :: .int x :: rs, hz => exact lv_iand hx hb hd (go0 (S' := .int (x &&& y) :: rs) hz)
  | ishr =>
    have e1 := lenq hck; subst e1
    match S, hz with
    | .int y :: .int x :: rs, hz => exact lv_ishr hx hb hd (go0 (S' := .int (x >>> (y &&& 31)) :: rs) hz)
  | ladd =>
    have e1 := lenq hck; subst e1
    match S, hz with
    | .long y :: .long x :: rs, hz => exact lv_ladd hx hb hd (go0 (S' := .long (x + y) :: rs) hz)
  | lsub =>
    have e1 := lenq hck; subst e1
    match S, hz with
    | .long y :: .long x :: rs, hz => exact lv_lsub hx hb hd (go0 (S' := .long (x - y) :: rs) hz)
  | lmul =>
    have e1 := lenq hck; subst e1
    match S, hz with
    | .long y :: .long x :: rs, hz => exact lv_lmul hx hb hd (go0 (S' := .long (x * y) :: rs) hz)
  | idiv =>
    have e1 := lenq hck; subst e1
    match S, hz with
    | .int y :: .int x :: rs, hz =>
      obtain ⟨z, hg, hz⟩ := Option.bind_eq_some_iff.mp hz
      obtain ⟨hne, rfl⟩ := am_dv_spec hg
      exact lv_idiv hx hb hd hne (go0 (S' := .int (x / y) :: rs) hz)
  | irem =>
    have e1 := lenq hck; subst e1
    match S, hz with
    | .int y :: .int x :: rs, hz =>
      obtain ⟨z, hg, hz⟩ := Option.bind_eq_some_iff.mp hz
      obtain ⟨hne, rfl⟩ := am_rm_spec hg
      exact lv_irem hx hb hd hne (go0 (S' := .int (x - x / y * y) :: rs) hz)
  | ldiv =>
    have e1 := lenq hck; subst e1
    match S, hz with
    | .long y :: .long x :: rs, hz =>
      cases q : decide (y = 0)
      · have hz : am_run n i (pc0 + 1, L, .long (x / y) :: rs, h) = some (r, h') := by simpa only [am_step, q, cond, am_do] using hz
        exact lv_ldiv hx hb hd (of_decide_eq_false q) (go0 (S' := .long (x / y) :: rs) hz)
      · simp [am_step, q, am_do] at hz
  | lcmp =>
    have e1 := lenq hck; subst e1
    match S, hz with
    | .long y :: .long x :: rs, hz => exact W.lcmp hx hb hd (go0 (S' := .int (lg_cmp x y) :: rs) hz)
  | i2l =>
    have e1 := lenq hck; subst e1
    match S, hz with
    | .int x :: rs, hz => exact lv_i2l hx hb hd rfl (go0 (S' := .long x.toInt64 :: rs) hz)
  | l2i =>
    have e1 := lenq hck; subst e1
    match S, hz with
    | .long x :: rs, hz => exact lv_l2i hx hb hd rfl (go0 (S' := .int x.toInt32 :: rs) hz)
  | i2c =>
    have e1 := lenq hck; subst e1
    match S, hz with
    | .int x :: rs, hz => exact lv_i2c hx hb hd rfl (go0 (S' := .int (x.toUInt32 % 65536).toInt32 :: rs) hz)
  | dup =>
    have e1 := lenq hck; subst e1
    match S, hz with
    | .ref x :: rs, hz => exact lv_dup hx hb hd rfl (go0 (S' := .ref x :: .ref x :: rs) hz)
    | .int x :: rs, hz => exact lv_dup hx hb hd rfl (go0 (S' := .int x :: .int x :: rs) hz)
  | dup2 =>
    have e1 := lenq hck; subst e1
    match S, hz with
    | .int y :: .ref x :: rs, hz => exact lv_dup2_11 hx hb hd rfl rfl (go0 (S' := .int y :: .ref x :: .int y :: .ref x :: rs) hz)
  | pop =>
    have e1 := lenq hck; subst e1
    match S, hz with
    | .int x :: rs, hz => exact lv_pop hx hb hd rfl (go0 (S' := rs) hz)
  | if_icmp cd off =>
    obtain ⟨c1, c2⟩ := Bool.and_eq_true_iff.mp hck
    have e1 := lenq c1; subst e1
    match S, hz with
    | .int y :: .int x :: rs, hz =>
      have hz : (bif am_cm cd x y then am_run n i (a1, L, rs, h) else am_run n i (pc0 + 3, L, rs, h)) = some (r, h') := hz
      cases cd with
      | eq => exact lv_icmp_eq hx hb hd (of_decide_eq_true c2) (fun g => go0 (S' := rs) (am_bt (decide_eq_true g) hz)) (fun g => go0 (S' := rs) (am_bf (decide_eq_false g) hz))
      | ne => exact lv_icmp_ne hx hb hd (of_decide_eq_true c2) (fun g => go0 (S' := rs) (am_bt (decide_eq_true g) hz)) (fun g => go0 (S' := rs) (am_bf (decide_eq_false (fun q => q g)) hz))
      | lt => exact lv_icmp_lt hx hb hd (of_decide_eq_true c2) (fun g => go0 (S' := rs) (am_bt (decide_eq_true g) hz)) (fun g => go0 (S' := rs) (am_bf (decide_eq_false g) hz))
      | ge => exact lv_icmp_ge hx hb hd (of_decide_eq_true c2) (fun g => go0 (S' := rs) (am_bt (decide_eq_true g) hz)) (fun g => go0 (S' := rs) (am_bf (decide_eq_false g) hz))
      | gt => exact lv_icmp_gt hx hb hd (of_decide_eq_true c2) (fun g => go0 (S' := rs) (am_bt (decide_eq_true g) hz)) (fun g => go0 (S' := rs) (am_bf (decide_eq_false g) hz))
      | le => exact lv_icmp_le hx hb hd (of_decide_eq_true c2) (fun g => go0 (S' := rs) (am_bt (decide_eq_true g) hz)) (fun g => go0 (S' := rs) (am_bf (decide_eq_false g) hz))
  | ifCond cd off =>
    obtain ⟨c1, c2⟩ := Bool.and_eq_true_iff.mp hck
    have e1 := lenq c1; subst e1
    match S, hz with
    | .int x :: rs, hz =>
      have hz : (bif am_cm cd x 0 then am_run n i (a1, L, rs, h) else am_run n i (pc0 + 3, L, rs, h)) = some (r, h') := hz
      cases cd with
      | eq => exact lv_if_eq hx hb hd (of_decide_eq_true c2) (fun g => go0 (S' := rs) (am_bt (decide_eq_true g) hz)) (fun g => go0 (S' := rs) (am_bf (decide_eq_false g) hz))
      | ne => exact lv_if_ne hx hb hd (of_decide_eq_true c2) (fun g => go0 (S' := rs) (am_bt (decide_eq_true g) hz)) (fun g => go0 (S' := rs) (am_bf (decide_eq_false (fun q => q g)) hz))
      | lt => exact lv_if_lt hx hb hd (of_decide_eq_true c2) (fun g => go0 (S' := rs) (am_bt (decide_eq_true g) hz)) (fun g => go0 (S' := rs) (am_bf (decide_eq_false g) hz))
      | ge => exact lv_if_ge hx hb hd (of_decide_eq_true c2) (fun g => go0 (S' := rs) (am_bt (decide_eq_true g) hz)) (fun g => go0 (S' := rs) (am_bf (decide_eq_false g) hz))
      | gt => exact lv_if_gt hx hb hd (of_decide_eq_true c2) (fun g => go0 (S' := rs) (am_bt (decide_eq_true g) hz)) (fun g => go0 (S' := rs) (am_bf (decide_eq_false g) hz))
      | le => exact lv_if_le hx hb hd (of_decide_eq_true c2) (fun g => go0 (S' := rs) (am_bt (decide_eq_true g) hz)) (fun g => go0 (S' := rs) (am_bf (decide_eq_false g) hz))
  | ifnull off =>
    obtain ⟨c1, c2⟩ := Bool.and_eq_true_iff.mp hck
    have e1 := lenq c1; subst e1
    match S, hz with
    | .ref x :: rs, hz => exact lv_ifnull hx hb hd (go0 (S' := rs) hz)
    | .null :: rs, hz => exact lv_ifnullN hx hb hd (of_decide_eq_true c2) (go0 (S' := rs) hz)
  | goto off =>
    obtain ⟨c1, c2⟩ := Bool.and_eq_true_iff.mp hck
    have e1 := lenq c1; subst e1
    exact lv_goto hx hb hd (of_decide_eq_true c2) (go0 (S' := S) hz)
  | tableswitch d lo hi offs =>
    obtain ⟨c1, c4⟩ := Bool.and_eq_true_iff.mp hck; obtain ⟨c1, c3⟩ := Bool.and_eq_true_iff.mp c1; obtain ⟨c1, c2⟩ := Bool.and_eq_true_iff.mp c1
    have hhi : hi + 1 = lo + sw.length := of_decide_eq_true c2
    have hsw : ∀ (k : Nat) q, sw[k]? = some q → q.1.toInt = lo + k ∧ ∃ o, offs[k]? = some o ∧ (pc0 : Int) + o = (q.2 : Int) := by
      intro k q hq
      have hk := List.all_eq_true.mp c4 k (List.mem_range.mpr (List.getElem?_eq_some_iff.mp hq).1)
      rw [hq] at hk
      split at hk
      · rename_i q1 o e1 e2
        cases e1
        simp only [Bool.and_eq_true, decide_eq_true_eq] at hk
        exact ⟨hk.1, o, e2, hk.2⟩
      · cases hk
    match S, hz with
    | .int x :: rs, hz =>
      have hz : am_sw x sw a1 (fun pc => am_run n i (pc, L, rs, h)) = some (r, h') := hz
      rcases am_sw_tab (x := x) (d := a1) (K := fun pc => am_run n i (pc, L, rs, h)) (fun k q hq => (hsw k q hq).1) with ⟨k, q, h1, h2, h3⟩ | ⟨h1, h2⟩
      · obtain ⟨-, o, ho, hpo⟩ := hsw k q h1
        have hkl := (List.getElem?_eq_some_iff.mp h1).1
        rw [h3] at hz
        exact lv_tableIn hx hb hd (by omega) (by omega) (by rw [show (x.toInt - lo).toNat = k by omega]; exact ho) hpo (go0 (S' := rs) hz)
      · rw [h2] at hz
        exact lv_tableOut hx hb hd (by omega) (of_decide_eq_true c1) (go0 (S' := rs) hz)
  | lookupswitch d ps =>
    obtain ⟨c1, c4⟩ := Bool.and_eq_true_iff.mp hck; obtain ⟨c1, c3⟩ := Bool.and_eq_true_iff.mp c1; obtain ⟨c1, c2⟩ := Bool.and_eq_true_iff.mp c1
    match S, hz with
    | .int x :: rs, hz =>
      have hz : am_sw x sw a1 (fun pc => am_run n i (pc, L, rs, h)) = some (r, h') := hz
      obtain ⟨t, h1, h2⟩ := am_sw_look (x := x) (d := a1) (K := fun pc => am_run n i (pc, L, rs, h)) (of_decide_eq_true c1) (Nat.eq_of_beq_eq_true c3) c4
      rw [h1] at hz
      exact lv_lookup hx hb hd c2 rfl h2 (go0 (S' := rs) hz)
  | getfield k =>
    obtain ⟨c1, c2⟩ := Bool.and_eq_true_iff.mp hck
    have e1 := lenq c1; subst e1
    have hlt : a1 < am_cls.length := Nat.le_of_ble_eq_true (Bool.and_eq_true_iff.mp (Bool.and_eq_true_iff.mp c2).1).1
    match S, hz with
    | .ref a :: rs, hz =>
      cases hty : am_ty a1 a2 with
      | object _ =>
        simp only [am_step, hty, am_do] at hz
        obtain ⟨x, hg, hz⟩ := Option.bind_eq_some_iff.mp hz
        obtain ⟨fs, g1, g2⟩ := am_gr_spec hg
        exact am_rt_get hx hb hown hok hh (htab.2.2.1 a1 hlt) c2 g1 g2 hd (go0 (S' := .ref x :: rs) hz)
      | array _ =>
        simp only [am_step, hty, am_do] at hz
        obtain ⟨x, hg, hz⟩ := Option.bind_eq_some_iff.mp hz
        obtain ⟨fs, g1, g2⟩ := am_gr_spec hg
        exact am_rt_get hx hb hown hok hh (htab.2.2.1 a1 hlt) c2 g1 g2 hd (go0 (S' := .ref x :: rs) hz)
      | _ =>
        simp only [am_step, hty, am_do] at hz
        obtain ⟨x, hg, hz⟩ := Option.bind_eq_some_iff.mp hz
        obtain ⟨fs, g1, g2⟩ := am_gi_spec hg
        exact am_rt_get hx hb hown hok hh (htab.2.2.1 a1 hlt) c2 g1 g2 hd (go0 (S' := .int x :: rs) hz)
  | putfield k =>
    obtain ⟨c1, c2⟩ := Bool.and_eq_true_iff.mp hck
    have e1 := lenq c1; subst e1
    have hlt : a1 < am_cls.length := Nat.le_of_ble_eq_true (Bool.and_eq_true_iff.mp (Bool.and_eq_true_iff.mp c2).1).1
    match S, hz with
    | .int x :: .ref a :: rs, hz =>
      cases hty : am_ty a1 a2 with
      | int =>
        simp only [am_step, hty, am_do] at hz
        obtain ⟨h1, hg, hz⟩ := Option.bind_eq_some_iff.mp hz
        obtain ⟨fs, g1, g2, rfl⟩ := am_pf_spec hg
        exact am_rt_put (v := .int x) hx hb hown hname hok hh hS (htab.2.2.1 a1 hlt) c2 g1 g2 (by rw [hty]; rfl) (by rw [hty]; rfl) hd (fun H1 locs1 q1 q2 => gow (S' := rs) hz q1 q2 (am_set_eq g1 (by simp [am_sz])))
      | boolean =>
        simp only [am_step, hty, am_do] at hz
        cases q : (decide (x = 0) || decide (x = 1)) <;> rw [q] at hz
        · simp at hz
        · have q : x = 0 ∨ x = 1 := by simpa using q
          dsimp only [cond] at hz
          obtain ⟨h1, hg, hz⟩ := Option.bind_eq_some_iff.mp hz
          obtain ⟨fs, g1, g2, rfl⟩ := am_pf_spec hg
          exact am_rt_put (v := .int x) hx hb hown hname hok hh hS (htab.2.2.1 a1 hlt) c2 g1 g2 (by rw [hty]; rcases q with q | q <;> subst q <;> rfl) (by rw [hty]; rcases q with q | q <;> subst q <;> rfl) hd (fun H1 locs1 q1 q2 => gow (S' := rs) hz q1 q2 (am_set_eq g1 (by simp [am_sz])))
      | _ => simp [am_step, hty, am_do] at hz
    | .ref x :: .ref a :: rs, hz =>
      cases hty : am_ty a1 a2 with
      | object _ =>
        simp only [am_step, hty, am_do] at hz
        obtain ⟨h1, hg, hz⟩ := Option.bind_eq_some_iff.mp hz
        obtain ⟨fs, g1, g2, rfl⟩ := am_pf_spec hg
        exact am_rt_put (v := .ref x) hx hb hown hname hok hh hS (htab.2.2.1 a1 hlt) c2 g1 g2 (by rw [hty]; rfl) (by rw [hty]; rfl) hd (fun H1 locs1 q1 q2 => gow (S' := rs) hz q1 q2 (am_set_eq g1 (by simp [am_sz])))
      | array _ =>
        simp only [am_step, hty, am_do] at hz
        obtain ⟨h1, hg, hz⟩ := Option.bind_eq_some_iff.mp hz
        obtain ⟨fs, g1, g2, rfl⟩ := am_pf_spec hg
        exact am_rt_put (v := .ref x) hx hb hown hname hok hh hS (htab.2.2.1 a1 hlt) c2 g1 g2 (by rw [hty]; rfl) (by rw [hty]; rfl) hd (fun H1 locs1 q1 q2 => gow (S' := rs) hz q1 q2 (am_set_eq g1 (by simp [am_sz])))
      | _ => simp [am_step, hty, am_do] at hz
  | arraylength =>
    have e1 := lenq hck; subst e1
    match S, hz with
    | .ref a :: rs, hz =>
      obtain ⟨x, hg, hz⟩ := Option.bind_eq_some_iff.mp hz
      exact am_rt_len hx hb hok hh hS hg hd (go0 (S' := .int x :: rs) hz)
  | iaload =>
    have e1 := lenq hck; subst e1
    match S, hz with
    | .int j :: .ref a :: rs, hz =>
      obtain ⟨x, hg, hz⟩ := Option.bind_eq_some_iff.mp hz
      exact am_rt_al hx hb hok hh hS hg hd (go0 (S' := .int x :: rs) hz)
  | caload =>
    have e1 := lenq hck; subst e1
    match S, hz with
    | .int j :: .ref a :: rs, hz =>
      obtain ⟨x, hg, hz⟩ := Option.bind_eq_some_iff.mp hz
      exact am_rt_cl hx hb hok hh hg hd (go0 (S' := .int x :: rs) hz)
  | aaload =>
    have e1 := lenq hck; subst e1
    match S, hz with
    | .int j :: .ref a :: rs, hz =>
      obtain ⟨x, hg, hz⟩ := Option.bind_eq_some_iff.mp hz
      exact am_rt_ql hx hb hok hh hg hd (go0 (S' := .ref x :: rs) hz)
  | iastore =>
    have e1 := lenq hck; subst e1
    match S, hz with
    | .int v :: .int j :: .ref a :: rs, hz =>
      obtain ⟨h1, hg, hz⟩ := Option.bind_eq_some_iff.mp hz
      have hq : h1.length = h.length ∧ am_sl h1 = am_sl h := by
        obtain ⟨q, g1, -, rfl⟩ := am_as_spec hg
        exact am_set_eq g1 (by simp [am_sz])
      exact am_rt_ias hx hb hok hh hS hg hd (fun H1 locs1 q1 q2 => gow (S' := rs) hz q1 q2 hq)
  | castore =>
    have e1 := lenq hck; subst e1
    match S, hz with
    | .int v :: .int j :: .ref a :: rs, hz =>
      obtain ⟨h1, hg, hz⟩ := Option.bind_eq_some_iff.mp hz
      have hq : h1.length = h.length ∧ am_sl h1 = am_sl h := by
        obtain ⟨q, g1, -, rfl⟩ := am_as_spec hg
        exact am_set_eq g1 (by simp [am_sz])
      exact am_rt_cas hx hb hok hh hS hg hd (fun H1 locs1 q1 q2 => gow (S' := rs) hz q1 q2 hq)
  | aastore =>
    have e1 := lenq hck; subst e1
    match S, hz with
    | .ref v :: .int j :: .ref a :: rs, hz =>
      obtain ⟨h1, hg, hz⟩ := Option.bind_eq_some_iff.mp hz
      have hq : h1.length = h.length ∧ am_sl h1 = am_sl h := by
        obtain ⟨q, fs, g1, -, -, rfl⟩ := am_qs_spec hg
        exact am_set_eq g1 (by simp [am_sz])
      exact am_rt_qs hx hb hok hh hS (Nat.le_of_ble_eq_true k14) hg hd (fun H1 locs1 q1 q2 => gow (S' := rs) hz q1 q2 hq)
  | new k =>
    obtain ⟨c1, c3⟩ := Bool.and_eq_true_iff.mp hck; obtain ⟨c1, c2⟩ := Bool.and_eq_true_iff.mp c1
    have e1 := lenq c1; subst e1
    have hz : am_run n i (pc0 + 3, L, .ref h.length :: S, h ++ [.inr (a1, am_new a1)]) = some (r, h') := hz
    have g := am_run_gr n _ _ _ hz
    have g1 : h.length + 1 ≤ h'.length := by have := g.1; simp only [List.length_append, List.length_singleton] at this; exact this
    have g2 : am_sl h + (am_new a1).length ≤ am_sl h' := by have := g.2; rw [am_sl_app] at this; exact this
    exact am_rt_new hx hb hown hok hh hS (htab.2.2.1 a1 (Nat.le_of_ble_eq_true c2)) (Nat.le_of_ble_eq_true c2) c3 (by omega) (by omega) hd (fun H1 q1 q2 => go (S' := .ref h.length :: S) hz q1 q2 hl hlg (by simp only [List.length_append, List.length_singleton]; omega) (by rw [am_sl_app]; simp only [am_sz]; omega))
  | newarray t =>
    obtain ⟨c1, c2⟩ := Bool.and_eq_true_iff.mp hck
    have e1 := lenq c1; subst e1
    match S, hz with
    | .int k :: rs, hz =>
      obtain ⟨h1, hg, hz9⟩ := Option.bind_eq_some_iff.mp hz
      have g := am_run_gr n _ _ _ hz9
      obtain ⟨-, -, q1⟩ := am_na_spec hg
      have g1 : h1.length = h.length + 1 := by rw [q1]; simp
      have g2 : am_sl h1 = am_sl h + k.toNatClampNeg := by rw [q1, am_sl_app]; simp [am_sz]
      have g3 : h1.length ≤ h'.length := g.1
      have g4 : am_sl h1 ≤ am_sl h' := g.2
      rcases Bool.or_eq_true_iff.mp c2 with c3 | c3
      · obtain ⟨c3, c4⟩ := Bool.and_eq_true_iff.mp c3
        have c3 := of_decide_eq_true c3
        have c4 := Nat.eq_of_beq_eq_true c4
        subst c3; subst c4
        exact am_rt_na hx hb hok hh (at_ := .int) hS k11 rfl rfl (by decide) rfl (fun _ z => z) hg (by omega) (by omega) hd (fun H1 q1 q2 => go (S' := .ref h.length :: rs) hz9 q1 q2 hl hlg (by omega) (by omega))
      · obtain ⟨c3, c4⟩ := Bool.and_eq_true_iff.mp c3
        have c3 := of_decide_eq_true c3
        have c4 := Nat.eq_of_beq_eq_true c4
        subst c3; subst c4
        exact am_rt_na hx hb hok hh (at_ := .char) hS k12 rfl rfl (by decide) rfl (fun _ z => z) hg (by omega) (by omega) hd (fun H1 q1 q2 => go (S' := .ref h.length :: rs) hz9 q1 q2 hl hlg (by omega) (by omega))
  | anewarray t =>
    obtain ⟨c1, c3⟩ := Bool.and_eq_true_iff.mp hck; obtain ⟨c1, c2⟩ := Bool.and_eq_true_iff.mp c1
    have e1 := lenq c1; subst e1
    match S, hz with
    | .int k :: rs, hz =>
      obtain ⟨h1, hg, hz9⟩ := Option.bind_eq_some_iff.mp hz
      have g := am_run_gr n _ _ _ hz9
      obtain ⟨-, -, q1⟩ := am_nq_spec hg
      have g1 : h1.length = h.length + 1 := by rw [q1]; simp
      have g2 : am_sl h1 = am_sl h + k.toNatClampNeg := by rw [q1, am_sl_app]; simp [am_sz]
      have g3 : h1.length ≤ h'.length := g.1
      have g4 : am_sl h1 ≤ am_sl h' := g.2
      have c4 := Nat.eq_of_beq_eq_true c2
      subst c4
      exact am_rt_nq hx hb hown hok hh hS c3 k13 hg (by omega) (by omega) hd (fun H1 q1 q2 => go (S' := .ref h.length :: rs) hz9 q1 q2 hl hlg (by omega) (by omega))
  | invokevirtual k =>
    obtain ⟨c1, c4⟩ := Bool.and_eq_true_iff.mp hck; obtain ⟨c1, c3⟩ := Bool.and_eq_true_iff.mp c1; obtain ⟨c1, c2⟩ := Bool.and_eq_true_iff.mp c1
    have e1 := lenq c1; subst e1
    exact sys hd c2 (Or.inl ⟨rfl, Nat.eq_of_beq_eq_true c3, c4⟩) hz
  | invokespecial k =>
    obtain ⟨c1, c2⟩ := Bool.and_eq_true_iff.mp hck
    have e1 := lenq c1; subst e1
    have hz : am_do (fun j As h => bif am_rc j As h then am_run n j (0, am_l0 j As, [], h) else none) (am_run n i) (am_inv a1 a2 (pc0 + 3) L S h) = some (r, h') := hz
    cases q : Nat.beq a1 1003 <;> rw [q] at c2
    · have c2 : (am_cj i a1 a2 && Nat.beq (am_kd a1) 2 && (am_has a3 (.methodLink (am_own i) k (am_nm a1)) || am_has a3 (.methodLinkNest (am_own i) k (am_nm a1) am_host))) = true := c2
      simp only [Bool.and_eq_true, Bool.or_eq_true, and_assoc] at c2
      exact sys hd c2.1 (Or.inr (Or.inl ⟨rfl, Nat.eq_of_beq_eq_true c2.2.1, c2.2.2⟩)) hz
    · have c2 : (Nat.beq a2 1 && Nat.blt 0 (am_rank i) && am_has a3 (.methodLink (am_own i) k objectInit)) = true := c2
      simp only [Bool.and_eq_true, and_assoc] at c2
      obtain ⟨d1, d2, d3⟩ := c2
      have q := Nat.eq_of_beq_eq_true q
      have q2 := Nat.eq_of_beq_eq_true d1
      have q3 : 0 < am_rank i := Nat.le_of_ble_eq_true d2
      subst q; subst q2
      obtain ⟨⟨g1, -, -⟩, -, g4⟩ := am_inv_spec hz
      have hz := g4 (by decide)
      match S, hz, g1 with
      | .ref x :: rs, hz, g1 =>
        have g1 : am_cat rs ≤ 8 := g1
        exact W.objInit hx hb hown (am_has_at d3 hok.1 args) (am_has_at k9 hok.1 args) (am_has_at k10 hok.1 args) rfl hsz.symm rfl hd (by omega) (by show 2 * 0 + _ + 12 ≤ _; rw [am_cat_map]; omega) (go0 (S' := rs) hz)
  | invokestatic k =>
    obtain ⟨c1, c2⟩ := Bool.and_eq_true_iff.mp hck
    have e1 := lenq c1; subst e1
    have hz : am_do (fun j As h => bif am_rc j As h then am_run n j (0, am_l0 j As, [], h) else none) (am_run n i) (am_inv a1 a2 (pc0 + 3) L S h) = some (r, h') := hz
    cases q : Nat.beq a1 1000 <;> rw [q] at c2
    · have c2 : (bif Nat.beq a1 1001 then Nat.beq a2 2 && Nat.blt 0 (am_rank i) && am_has a3 (.methodLink (am_own i) k Lib.Math.min.name) else bif Nat.beq a1 1002 then Nat.beq a2 5 && Nat.blt 0 (am_rank i) && am_has a3 (.methodLink (am_own i) k arraycopyName) else am_cj i a1 a2 && Nat.beq (am_kd a1) 1 && am_has a3 (.methodLink (am_own i) k (am_nm a1))) = true := c2
      cases q : Nat.beq a1 1001 <;> rw [q] at c2
      · have c2 : (bif Nat.beq a1 1002 then Nat.beq a2 5 && Nat.blt 0 (am_rank i) && am_has a3 (.methodLink (am_own i) k arraycopyName) else am_cj i a1 a2 && Nat.beq (am_kd a1) 1 && am_has a3 (.methodLink (am_own i) k (am_nm a1))) = true := c2
        cases q : Nat.beq a1 1002 <;> rw [q] at c2
        · have c2 : (am_cj i a1 a2 && Nat.beq (am_kd a1) 1 && am_has a3 (.methodLink (am_own i) k (am_nm a1))) = true := c2
          simp only [Bool.and_eq_true, and_assoc] at c2
          exact sys hd c2.1 (Or.inr (Or.inr ⟨rfl, Nat.eq_of_beq_eq_true c2.2.1, c2.2.2⟩)) hz
        · have c2 : (Nat.beq a2 5 && Nat.blt 0 (am_rank i) && am_has a3 (.methodLink (am_own i) k arraycopyName)) = true := c2
          simp only [Bool.and_eq_true, and_assoc] at c2
          obtain ⟨d1, d2, d3⟩ := c2
          have q := Nat.eq_of_beq_eq_true q
          have q2 := Nat.eq_of_beq_eq_true d1
          have q3 : 0 < am_rank i := Nat.le_of_ble_eq_true d2
          subst q; subst q2
          obtain ⟨⟨g1, -, -⟩, -, g4⟩ := am_inv_spec hz
          have hz := g4 (by decide)
          match S, hz, g1 with
          | .int nn :: .int dp :: .ref x2 :: .int sp :: .ref x1 :: rs, hz, g1 =>
            have g1 : am_cat rs ≤ 8 := g1
            obtain ⟨h1, hg, hz⟩ := Option.bind_eq_some_iff.mp hz
            have hq : h1.length = h.length ∧ am_sl h1 = am_sl h := by
              obtain ⟨f, g, -, g2, -, -, -, -, -, rfl⟩ := am_cp_spec hg
              exact am_set_eq g2 (by simp [am_sz, am_cpl])
            exact am_rt_cp hx hb hsz hown hok hh hS d3 k6 k7 k8 hg (by omega) (by omega) (by rw [am_cat_map]; exact g1) hd (fun H1 locs1 q1 q2 => gow (S' := rs) hz q1 q2 hq)
      · skip
        have c2 : (Nat.beq a2 2 && Nat.blt 0 (am_rank i) && am_has a3 (.methodLink (am_own i) k Lib.Math.min.name)) = true := c2
        simp only [Bool.and_eq_true, and_assoc] at c2
        obtain ⟨d1, d2, d3⟩ := c2
        have q := Nat.eq_of_beq_eq_true q
        have q2 := Nat.eq_of_beq_eq_true d1
        have q3 : 0 < am_rank i := Nat.le_of_ble_eq_true d2
        subst q; subst q2
        obtain ⟨⟨g1, -, -⟩, -, g4⟩ := am_inv_spec hz
        have hz := g4 (by decide)
        match S, hz, g1 with
        | .int y :: .int x :: rs, hz, g1 =>
          have g1 : am_cat rs ≤ 8 := g1
          exact va_mmin hx hb hsz hown (am_has_at d3 hok.1 args) (am_has_at k4 hok.1 args) (am_has_at k2 hok.1 args) (am_has_at k5 hok.1 args) (by omega) (by rw [am_cat_map]; omega) hcl hsl hd (go0 (S' := .int (am_min x y) :: rs) hz)
    · skip
      have c2 : (Nat.beq a2 2 && Nat.blt 0 (am_rank i) && am_has a3 (.methodLink (am_own i) k Lib.Math.max.name)) = true := c2
      simp only [Bool.and_eq_true, and_assoc] at c2
      obtain ⟨d1, d2, d3⟩ := c2
      have q := Nat.eq_of_beq_eq_true q
      have q2 := Nat.eq_of_beq_eq_true d1
      have q3 : 0 < am_rank i := Nat.le_of_ble_eq_true d2
      subst q; subst q2
      obtain ⟨⟨g1, -, -⟩, -, g4⟩ := am_inv_spec hz
      have hz := g4 (by decide)
      match S, hz, g1 with
      | .int y :: .int x :: rs, hz, g1 =>
        have g1 : am_cat rs ≤ 8 := g1
        exact va_mmax hx hb hsz hown (am_has_at d3 hok.1 args) (am_has_at k1 hok.1 args) (am_has_at k2 hok.1 args) (am_has_at k3 hok.1 args) (by omega) (by rw [am_cat_map]; omega) hcl hsl hd (go0 (S' := .int (am_max x y) :: rs) hz)
  | ireturn =>
    have e1 := lenq hck; subst e1
    match S, hz with
    | [.int x], hz =>
      cases hty : am_ret i with
      | none => simp [am_step, hty, am_do] at hz
      | some ty => cases ty with
        | boolean =>
          simp only [am_step, hty, am_do] at hz
          obtain ⟨y, hg, hz9⟩ := Option.bind_eq_some_iff.mp hz
          obtain ⟨q1, hy⟩ := am_bz_spec hg
          rw [q1] at hz9
          clear hz
          cases hz9
          have e2 : C = cells := by omega
          have e3 : Sl = slots := by omega
          subst e2; subst e3
          exact kr pc0 ls H locs hh hS ⟨hd, Or.inr ⟨by rw [← hret, hty], hy⟩⟩
        | int =>
          simp only [am_step, hty, am_do] at hz
          cases hz
          have e2 : C = cells := by omega
          have e3 : Sl = slots := by omega
          subst e2; subst e3
          exact kr pc0 ls H locs hh hS ⟨hd, Or.inl (by rw [← hret, hty])⟩
        | _ => simp [am_step, hty, am_do] at hz
  | lreturn =>
    have e1 := lenq hck; subst e1
    match S, hz with
    | [.long x], hz =>
      cases hty : am_ret i with
      | none => simp [am_step, hty, am_do] at hz
      | some ty => cases ty with
        | long =>
          simp only [am_step, hty, am_do] at hz
          cases hz
          have e2 : C = cells := by omega
          have e3 : Sl = slots := by omega
          subst e2; subst e3
          exact kr pc0 ls H locs hh hS ⟨hd, by rw [← hret, hty]⟩
        | _ => simp [am_step, hty, am_do] at hz
  | return_ =>
    have e1 := lenq hck; subst e1
    match S, hz with
    | [], hz =>
      cases hty : am_ret i with
      | none =>
        simp only [am_step, hty, am_do] at hz
        cases hz
        have e2 : C = cells := by omega
        have e3 : Sl = slots := by omega
        subst e2; subst e3
        exact kr pc0 ls H locs hh hS ⟨hd, by rw [← hret, hty]⟩
      | some ty => simp [am_step, hty, am_do] at hz
  | _ => exact absurd (show (none : Option am_R) = some _ from hz) (by simp)
theorem am_snd_all (htab : am_tab) {l : Launch} {D : va_G} {ky : Nat → ClassId} {b base : Nat} {xs : List Int32} (n : Nat) : am_snd l D ky b base xs n := by
  induction n with
  | zero => intro i pc L S h r h' hi hrun; cases hrun
  | succ n ih => exact am_snd_succ htab ih
end
section
/-! THE CLAIM OUT OF ONE WALK OF THE LAW'S BODY. Your part is whole_start (and what it stands on); all else here is the same for every law, but numbers. -/
def R_law : String := "PostalAuctionLaw"
def lw_P (b : Addr) (xs : List Int32) (args : Array Value) (s : State) : Prop := args = #[.ref b] ∧ s.IntsAt b xs ∧ xs.length ≤ 260 ∧ (Jvm.Cond.and given_1 narrow_1).before args s = true
def lw_Q (_ : Array Value) (s : State) (o : Outcome) (t : State) : Prop := o = .returned (some (.int 1)) ∧ Framed s o t [] 600000 7302250
def lw_Z (below : List Frame) (a : Array Value) (s : State) : State → Prop := fun t => ∃ o, t.status = .running ∧ Ended t below o ∧ lw_Q a s o t
/-- the law's own end, with 1 on the stack, nothing written that was there before, its room as the claim has it -/
theorem lw_ret {p : Program} {l : Launch} {e : Env} {s : State} {m : MethodId} {below : List Frame} {meth : Method} {c : Code} {b : Nat} (hx : p.tables.exec = Jvm.exec) (hb : c.code = code) (hr : meth.sig.returnType = ret) (hlocks : meth.locks = false) {pc : Nat} {H : Heap} {ls : Array Slot} (hdg : decode code pc = .ok (.ireturn, 1)) : W p l e room_1 s m #[Value.ref b] below meth c H [] 600000 7302250 (lw_Z below #[Value.ref b] s) (F0 m pc ls [.int 1]) := by
  intro T hT X
  obtain ⟨fs, hret, hrun, hended, hW, hframe⟩ := X.leave (v := some (.int 1)) (hlocks := hlocks) (fun h => by rw [hr] at h; cases h)
  have hmeth' : T.vm.method? m = some meth := X.method'
  refine ⟨T.setFrames fs, ?_, .returned (some (.int 1)), hrun, hended, rfl, ⟨_, rfl⟩, hW, hframe⟩
  jvm_step X.here [X.here.top, hx, hb, hdg, hmeth', hr, ret, narrow_b1]
  (try refine ⟨rfl, ?_⟩); (try refine ⟨rfl, ?_⟩)
  first | (intro acts; rw [hret _ acts rfl rfl rfl]) | rw [hret _ _ rfl rfl rfl]
  exact Steps.refl _
/-- what holds at the law's entry: the machine, the code, the tables' words (any of lw_tbl by 'hts w (by decide +kernel)'), the script of L ints xs at the cell b, what the Statement gives of the start (any of its parts by flat_of_before) -/
def lw_At (p : Program) (s : State) (m : MethodId) (meth : Method) (c : Code) (b L : Nat) (xs : Nat → Int32) : Prop :=
  p.tables.exec = Jvm.exec ∧ c.code = code ∧ meth.sig.returnType = ret ∧ c.maxLocals = 17 ∧ s.vm.findClass R_law = some m.cls ∧ (∀ w ∈ lw_tbl, w.before #[Value.ref b] s = true) ∧ va_X b L xs s s.heap ∧ b < s.heap.size ∧ meth.locks = false ∧ (Jvm.Cond.and given_1 narrow_1).before #[Value.ref b] s = true
end
section
/-! THE LAW'S ENTRY, out of a run of the abstract machine -/
theorem am_arr_of {s : State} {ty : FieldType} (h : (Cond.arrayClass ty).before #[] s = true) (hra : ∀ cA, s.vm.findClass ("[" ++ ty.toString) = some cA → va_RA s cA ty) : ∃ cA, ArrOfT s cA ty ∧ va_RA s cA ty := by
  obtain ⟨cB, kB, comp, hcB, hkB, hkind⟩ := Cond.arrayClass_spec h
  exact ⟨cB, fun n z => ⟨fun k h => (by cases h), kB, hkB, comp, hkind⟩, hra cB hcB⟩
theorem am_world (htab : am_tab) {s : State} (hT : am_T s) : ∃ (D : va_G) (ky : Nat → ClassId), va_K D am_cls (am_tys ky) s := by
  have hnck := htab.2.2.2.1
  unfold am_nck at hnck
  simp only [Bool.and_eq_true, and_assoc] at hnck
  obtain ⟨-, -, -, -, -, -, -, -, -, -, k11, k12, k13, -⟩ := hnck
  obtain ⟨c0, a0, r0⟩ := am_arr_of (ty := .int) (am_has_at k11 hT #[]) (fun _ h => h)
  obtain ⟨c1, a1, r1⟩ := am_arr_of (ty := .char) (am_has_at k12 hT #[]) (fun _ h => h)
  obtain ⟨comp, c2, k, h1, h2, h3, h4, h5⟩ := Cond.arrayOver_spec (am_has_at k13 hT #[])
  have hK : ∀ j : Nat, ∃ (cC : ClassId) (iS : Nat → Nat), ∀ q : vw_C, am_cls[j]? = some q → u_Kn s q.1 q.2.1 q.2.2 cC iS := by
    intro j
    by_cases hj : j < am_cls.length
    · have hck := htab.2.2.1 j hj
      obtain ⟨g1, g2⟩ := Bool.and_eq_true_iff.mp hck
      obtain ⟨g1, g3⟩ := Bool.and_eq_true_iff.mp g1
      obtain ⟨g1, g4⟩ := Bool.and_eq_true_iff.mp g1
      obtain ⟨cC, iS, hk⟩ := u_known (C := (am_cl1 j).1) (T := (am_cl1 j).2.1) (N := (am_cl1 j).2.2) (n := (am_cl1 j).2.2) (am_cck_ws hck hT #[]) (fun w h => h) (am_has_at g1 hT #[])
      refine ⟨cC, iS, fun q hq => ?_⟩
      rw [am_cls_at hj] at hq
      cases hq
      exact hk
    · exact ⟨0, fun _ => 0, fun q hq => by rw [List.getElem?_eq_none (Nat.le_of_not_lt hj)] at hq; cases hq⟩
  refine ⟨(fun j => (hK j).choose, fun j => (hK j).choose_spec.choose), fun t => if t = 0 then c0 else if t = 1 then c1 else c2, fun j q hq => (hK j).choose_spec.choose_spec q hq, fun j q hq => ?_⟩
  match j, hq with
  | 0, hq => cases hq; exact ⟨a0, r0⟩
  | 1, hq => cases hq; exact ⟨a1, r1⟩
  | 2, hq => cases hq; exact ⟨fun N z => ⟨(fun k h => by cases h), k, h3, comp, h4⟩, k, comp, h3, h4, h1, h5⟩
theorem am_start (htab : am_tab) {p : Program} {e : Env} {s : State} {m : MethodId} {below : List Frame} {meth : Method} {c : Code} (l : Launch) {b L : Nat} {xs : Nat → Int32} (C0 : lw_At p s m meth c b L xs)
    (hrun : ∀ xl : List Int32, xl.length = L → ∃ n h', am_run n m_law (0, am_l0 m_law [.ref 0], [], [.inl (7, xl)]) = some (some (.int 1), h') ∧ h'.length ≤ 600000 ∧ am_sl h' ≤ 7302250) : W p l e room_1 s m #[Value.ref b] below meth c s.heap [] 0 0 (lw_Z below #[Value.ref b] s) (entryFrame m ([Value.ref b] : List Value).toArray 17) := by
  obtain ⟨hx, hb, hr, hml, hown, hts, hX, hbl, hlocks, hgv⟩ := id C0
  have hT : am_T s := fun w hw ho => am_okw_at ho rfl (hts w hw)
  obtain ⟨D, ky, hK⟩ := am_world htab hT
  obtain ⟨xl, hxl, hxe⟩ : ∃ xl : List Int32, xl.length = L ∧ ∀ j, j < L → xl.getD j 0 = xs j := ⟨(List.range L).map xs, by simp, fun j hj => by rw [List.getD_eq_getElem?_getD, List.getElem?_map, List.getElem?_range hj]; rfl⟩
  obtain ⟨n, h', hrn, hh1, hh2⟩ := hrun xl hxl
  have hX2 : va_X b xl.length (fun j => xl.getD j 0) s s.heap := by
    obtain ⟨scr, h1, h2, h3, h4, h5⟩ := hX
    exact ⟨scr, h1, h2, h3, by rw [h4, hxl], fun j hj => by rw [h5 j (by omega)]; congr 2; exact (hxe j (by omega)).symm⟩
  have hok : am_ok D ky b s.heap.size xl s := ⟨hT, hK, hX2, hbl, Nat.le_refl _⟩
  have hhp : am_hp D ky b s.heap.size xl [.inl (7, xl)] s.heap := ⟨fun k q hq => by rw [am_ws_get] at hq; simp at hq, rfl, rfl⟩
  have hgr := am_run_gr n _ _ _ hrn
  have g1 : 1 ≤ h'.length := hgr.1
  have g2 : am_sl [.inl (7, xl)] ≤ am_sl h' := hgr.2
  have hl := lv_entry ([.ref b]) (n := 17) (Nat.le_of_ble_eq_true rfl)
  rw [lg_entry_eq]
  have hl2 := am_ls_sub (ρ := am_ad b s.heap.size) (L := am_l0 m_law [.ref 0]) hl (fun i v hi hv => by
    match i, hi with
    | 0, hi => cases hi; exact List.mem_cons_self
    | 1, hi => cases hi; cases hv
    | 2, hi => cases hi; cases hv
    | 3, hi => cases hi; cases hv
    | 4, hi => cases hi; cases hv
    | 5, hi => cases hi; cases hv
    | 6, hi => cases hi; cases hv
    | 7, hi => cases hi; cases hv
    | 8, hi => cases hi; cases hv
    | 9, hi => cases hi; cases hv
    | 10, hi => cases hi; cases hv
    | 11, hi => cases hi; cases hv
    | 12, hi => cases hi; cases hv
    | 13, hi => cases hi; cases hv
    | 14, hi => cases hi; cases hv
    | 15, hi => cases hi; cases hv
    | 16, hi => cases hi; cases hv)
  refine am_snd_all htab n m_law 0 (am_l0 m_law [.ref 0]) [] [.inl (7, xl)] (some (.int 1)) h' (by decide) hrn (h'.length - 1) (am_sl h' - am_sl [.inl (7, xl)]) ⟨hx, hb, hml, hr, hown, fun z => absurd z (by decide)⟩ hok (by decide) (by decide) hhp va_S.rf hl2 (fun i x hi => by
    match i, hi with
    | 0, hi => cases hi
    | 1, hi => cases hi
    | 2, hi => cases hi
    | 3, hi => cases hi
    | 4, hi => cases hi
    | 5, hi => cases hi
    | 6, hi => cases hi
    | 7, hi => cases hi
    | 8, hi => cases hi
    | 9, hi => cases hi
    | 10, hi => cases hi
    | 11, hi => cases hi
    | 12, hi => cases hi
    | 13, hi => cases hi
    | 14, hi => cases hi
    | 15, hi => cases hi
    | 16, hi => cases hi) (by show 0 + h'.length = h'.length - 1 + 1; omega) (by omega) ?_ ?_ ?_
  · show h'.length - 1 ≤ 600000
    omega
  · show am_sl h' - am_sl [.inl (7, xl)] ≤ 7302250
    omega
  · intro pc' ls' H' locs' hh' hS' hend
    refine va_forget hS'.2.2 ?_
    refine W.widen (k := 600000) (n := 7302250) (by omega) (by omega) ?_
    exact lw_ret hx hb hr hlocks hend.1
end
