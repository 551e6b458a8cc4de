/-! ===== BEGIN printed: names, fields ===== -/
def RX0 : String := "LostRoom$Bit"
def TX0 : u_T := fun k => match k with
  | 0 => ("LostRoom$Bit", "hand", "I", true)
  | 1 => ("LostRoom$Bit", "fold", "I", true)
  | 2 => ("LostRoom$Bit", "left", "I", true)
  | _ => ("LostRoom$Bit", "right", "I", true)
def tyX0 : Nat → FieldType := fun k => match k with
  | 0 => .int
  | 1 => .int
  | 2 => .int
  | _ => .int
theorem nmX0 : ∀ a, a < 4 → ∀ b, b < 4 → a ≠ b → (TX0 a).2.1 ≠ (TX0 b).2.1 := by decide +kernel
theorem tyX0_ok : ∀ k, k < 4 → parseFieldDescriptor (TX0 k).2.2.1 = some (tyX0 k) := by decide +kernel
abbrev cX0_init : ByteArray := prog_2_method_1_code
def yX0_init : MethodName := ⟨RX0, "<init>", "(IIII)V"⟩
abbrev cX0_meets : ByteArray := prog_2_method_2_code
def yX0_meets : MethodName := ⟨RX0, "meets", "(LLostRoom$Bit;)Z"⟩
def RX1 : String := "LostRoom$Book"
def TX1 : u_T := fun k => match k with
  | 0 => ("LostRoom$Book", "lodgers", "[LLostRoom$Lodger;", true)
  | 1 => ("LostRoom$Book", "trunks", "[LLostRoom$Trunk;", true)
  | 2 => ("LostRoom$Book", "lodgerCount", "I", false)
  | 3 => ("LostRoom$Book", "trunkCount", "I", false)
  | 4 => ("LostRoom$Book", "fault", "I", false)
  | 5 => ("LostRoom$Book", "standing", "I", false)
  | 6 => ("LostRoom$Book", "bytes", "[B", true)
  | _ => ("LostRoom$Book", "place", "I", false)
def tyX1 : Nat → FieldType := fun k => match k with
  | 0 => .array (.object "LostRoom$Lodger")
  | 1 => .array (.object "LostRoom$Trunk")
  | 2 => .int
  | 3 => .int
  | 4 => .int
  | 5 => .int
  | 6 => .array .byte
  | _ => .int
theorem nmX1 : ∀ a, a < 8 → ∀ b, b < 8 → a ≠ b → (TX1 a).2.1 ≠ (TX1 b).2.1 := by decide +kernel
theorem tyX1_ok : ∀ k, k < 8 → parseFieldDescriptor (TX1 k).2.2.1 = some (tyX1 k) := by decide +kernel
abbrev cX1_init : ByteArray := prog_3_method_1_code
def yX1_init : MethodName := ⟨RX1, "<init>", "([B)V"⟩
abbrev cX1_read : ByteArray := prog_3_method_2_code
def yX1_read : MethodName := ⟨RX1, "read", "()V"⟩
abbrev cX1_readItem : ByteArray := prog_3_method_3_code
def yX1_readItem : MethodName := ⟨RX1, "readItem", "(I)V"⟩
abbrev cX1_readLodger : ByteArray := prog_3_method_4_code
def yX1_readLodger : MethodName := ⟨RX1, "readLodger", "()V"⟩
abbrev cX1_readTrunk : ByteArray := prog_3_method_5_code
def yX1_readTrunk : MethodName := ⟨RX1, "readTrunk", "()V"⟩
abbrev cX1_readStanding : ByteArray := prog_3_method_6_code
def yX1_readStanding : MethodName := ⟨RX1, "readStanding", "()V"⟩
abbrev cX1_readYear : ByteArray := prog_3_method_7_code
def yX1_readYear : MethodName := ⟨RX1, "readYear", "()I"⟩
abbrev cX1_readFigure : ByteArray := prog_3_method_8_code
def yX1_readFigure : MethodName := ⟨RX1, "readFigure", "(II)I"⟩
abbrev cX1_readSign : ByteArray := prog_3_method_9_code
def yX1_readSign : MethodName := ⟨RX1, "readSign", "(C)V"⟩
def RX2 : String := "LostRoom$Claim"
def TX2 : u_T := fun k => match k with
  | _ => ("", "", "", false)
def tyX2 : Nat → FieldType := fun k => match k with
  | _ => .int
theorem nmX2 : ∀ a, a < 0 → ∀ b, b < 0 → a ≠ b → (TX2 a).2.1 ≠ (TX2 b).2.1 := by decide +kernel
theorem tyX2_ok : ∀ k, k < 0 → parseFieldDescriptor (TX2 k).2.2.1 = some (tyX2 k) := by decide +kernel
def RX3 : String := "LostRoom$Journeys"
def TX3 : u_T := fun k => match k with
  | 0 => ("LostRoom$Journeys", "tickets", "[LLostRoom$Thing;", true)
  | 1 => ("LostRoom$Journeys", "size", "I", false)
  | 2 => ("LostRoom$Journeys", "ahead", "[I", true)
  | 3 => ("LostRoom$Journeys", "lasts", "[I", true)
  | 4 => ("LostRoom$Journeys", "over", "[I", true)
  | _ => ("LostRoom$Journeys", "people", "[I", true)
def tyX3 : Nat → FieldType := fun k => match k with
  | 0 => .array (.object "LostRoom$Thing")
  | 1 => .int
  | 2 => .array .int
  | 3 => .array .int
  | 4 => .array .int
  | _ => .array .int
theorem nmX3 : ∀ a, a < 6 → ∀ b, b < 6 → a ≠ b → (TX3 a).2.1 ≠ (TX3 b).2.1 := by decide +kernel
theorem tyX3_ok : ∀ k, k < 6 → parseFieldDescriptor (TX3 k).2.2.1 = some (tyX3 k) := by decide +kernel
abbrev cX3_init : ByteArray := prog_5_method_1_code
def yX3_init : MethodName := ⟨RX3, "<init>", "()V"⟩
abbrev cX3_gather : ByteArray := prog_5_method_2_code
def yX3_gather : MethodName := ⟨RX3, "gather", "([LLostRoom$Thing;II)I"⟩
abbrev cX3_fewestPeople : ByteArray := prog_5_method_4_code
def yX3_fewestPeople : MethodName := ⟨RX3, "fewestPeople", "()I"⟩
abbrev cX3_findLasts : ByteArray := prog_5_method_5_code
def yX3_findLasts : MethodName := ⟨RX3, "findLasts", "()V"⟩
abbrev cX3_findAhead : ByteArray := prog_5_method_6_code
def yX3_findAhead : MethodName := ⟨RX3, "findAhead", "()V"⟩
abbrev cX3_canEnd : ByteArray := prog_5_method_7_code
def yX3_canEnd : MethodName := ⟨RX3, "canEnd", "(II)Z"⟩
def RX4 : String := "LostRoom$Lays"
def TX4 : u_T := fun k => match k with
  | 0 => ("LostRoom$Lays", "stale", "Z", false)
  | 1 => ("LostRoom$Lays", "fewest", "I", false)
  | 2 => ("LostRoom$Lays", "all", "I", false)
  | 3 => ("LostRoom$Lays", "first", "[I", true)
  | 4 => ("LostRoom$Lays", "size", "I", false)
  | 5 => ("LostRoom$Lays", "joined", "[I", true)
  | 6 => ("LostRoom$Lays", "sheets", "[I", true)
  | _ => ("LostRoom$Lays", "ways", "[I", true)
def tyX4 : Nat → FieldType := fun k => match k with
  | 0 => .boolean
  | 1 => .int
  | 2 => .int
  | 3 => .array .int
  | 4 => .int
  | 5 => .array .int
  | 6 => .array .int
  | _ => .array .int
theorem nmX4 : ∀ a, a < 8 → ∀ b, b < 8 → a ≠ b → (TX4 a).2.1 ≠ (TX4 b).2.1 := by decide +kernel
theorem tyX4_ok : ∀ k, k < 8 → parseFieldDescriptor (TX4 k).2.2.1 = some (tyX4 k) := by decide +kernel
abbrev cX4_init : ByteArray := prog_6_method_1_code
def yX4_init : MethodName := ⟨RX4, "<init>", "()V"⟩
abbrev cX4_gather : ByteArray := prog_6_method_2_code
def yX4_gather : MethodName := ⟨RX4, "gather", "([LLostRoom$Bit;I)V"⟩
abbrev cX4_slot : ByteArray := prog_6_method_3_code
def yX4_slot : MethodName := ⟨RX4, "slot", "(II)I"⟩
abbrev cX4_follow : ByteArray := prog_6_method_4_code
def yX4_follow : MethodName := ⟨RX4, "follow", "(III)V"⟩
abbrev cX4_findFirst : ByteArray := prog_6_method_5_code
def yX4_findFirst : MethodName := ⟨RX4, "findFirst", "()V"⟩
abbrev cX4_nextOf : ByteArray := prog_6_method_6_code
def yX4_nextOf : MethodName := ⟨RX4, "nextOf", "(III)I"⟩
def RX5 : String := "LostRoom$Line"
def TX5 : u_T := fun k => match k with
  | _ => ("", "", "", false)
def tyX5 : Nat → FieldType := fun k => match k with
  | _ => .int
theorem nmX5 : ∀ a, a < 0 → ∀ b, b < 0 → a ≠ b → (TX5 a).2.1 ≠ (TX5 b).2.1 := by decide +kernel
theorem tyX5_ok : ∀ k, k < 0 → parseFieldDescriptor (TX5 k).2.2.1 = some (tyX5 k) := by decide +kernel
def RX6 : String := "LostRoom$Lodger"
def TX6 : u_T := fun k => match k with
  | 0 => ("LostRoom$Lodger", "from", "I", true)
  | 1 => ("LostRoom$Lodger", "till", "I", true)
  | 2 => ("LostRoom$Lodger", "size", "I", true)
  | 3 => ("LostRoom$Lodger", "town", "I", true)
  | _ => ("LostRoom$Lodger", "hand", "I", true)
def tyX6 : Nat → FieldType := fun k => match k with
  | 0 => .int
  | 1 => .int
  | 2 => .int
  | 3 => .int
  | _ => .int
theorem nmX6 : ∀ a, a < 5 → ∀ b, b < 5 → a ≠ b → (TX6 a).2.1 ≠ (TX6 b).2.1 := by decide +kernel
theorem tyX6_ok : ∀ k, k < 5 → parseFieldDescriptor (TX6 k).2.2.1 = some (tyX6 k) := by decide +kernel
abbrev cX6_init : ByteArray := prog_8_method_1_code
def yX6_init : MethodName := ⟨RX6, "<init>", "(IIIII)V"⟩
def RX7 : String := "LostRoom$Sharings"
def TX7 : u_T := fun k => match k with
  | 0 => ("LostRoom$Sharings", "stale", "Z", false)
  | 1 => ("LostRoom$Sharings", "least", "I", false)
  | 2 => ("LostRoom$Sharings", "first", "[I", true)
  | 3 => ("LostRoom$Sharings", "all", "[I", true)
  | 4 => ("LostRoom$Sharings", "pairs", "[I", true)
  | 5 => ("LostRoom$Sharings", "trunks", "[LLostRoom$Trunk;", false)
  | 6 => ("LostRoom$Sharings", "trunkCount", "I", false)
  | 7 => ("LostRoom$Sharings", "lodgerCount", "I", false)
  | 8 => ("LostRoom$Sharings", "strangers", "[I", true)
  | 9 => ("LostRoom$Sharings", "covers", "[Z", true)
  | 10 => ("LostRoom$Sharings", "notEarlier", "[I", true)
  | 11 => ("LostRoom$Sharings", "notLater", "[I", true)
  | _ => ("LostRoom$Sharings", "chosen", "[I", true)
def tyX7 : Nat → FieldType := fun k => match k with
  | 0 => .boolean
  | 1 => .int
  | 2 => .array .int
  | 3 => .array .int
  | 4 => .array .int
  | 5 => .array (.object "LostRoom$Trunk")
  | 6 => .int
  | 7 => .int
  | 8 => .array .int
  | 9 => .array .boolean
  | 10 => .array .int
  | 11 => .array .int
  | _ => .array .int
theorem nmX7 : ∀ a, a < 13 → ∀ b, b < 13 → a ≠ b → (TX7 a).2.1 ≠ (TX7 b).2.1 := by decide +kernel
theorem tyX7_ok : ∀ k, k < 13 → parseFieldDescriptor (TX7 k).2.2.1 = some (tyX7 k) := by decide +kernel
abbrev cX7_init : ByteArray := prog_9_method_1_code
def yX7_init : MethodName := ⟨RX7, "<init>", "()V"⟩
abbrev cX7_withPair : ByteArray := prog_9_method_2_code
def yX7_withPair : MethodName := ⟨RX7, "withPair", "(III)I"⟩
abbrev cX7_gather : ByteArray := prog_9_method_3_code
def yX7_gather : MethodName := ⟨RX7, "gather", "(LLostRoom$Book;[LLostRoom$Thing;I)V"⟩
abbrev cX7_isSharing : ByteArray := prog_9_method_4_code
def yX7_isSharing : MethodName := ⟨RX7, "isSharing", "([I)Z"⟩
abbrev cX7_give : ByteArray := prog_9_method_5_code
def yX7_give : MethodName := ⟨RX7, "give", "(LLostRoom$Sharings;III)V"⟩
abbrev cX7_open : ByteArray := prog_9_method_6_code
def yX7_open : MethodName := ⟨RX7, "open", "(II)I"⟩
abbrev cX7_note : ByteArray := prog_9_method_7_code
def yX7_note : MethodName := ⟨RX7, "note", "(I)V"⟩
abbrev cX7_compareYears : ByteArray := prog_9_method_8_code
def yX7_compareYears : MethodName := ⟨RX7, "compareYears", "([LLostRoom$Lodger;)V"⟩
abbrev cX7_countStrangers : ByteArray := prog_9_method_9_code
def yX7_countStrangers : MethodName := ⟨RX7, "countStrangers", "([LLostRoom$Thing;I)V"⟩
abbrev cX7_findCovers : ByteArray := prog_9_method_10_code
def yX7_findCovers : MethodName := ⟨RX7, "findCovers", "([LLostRoom$Thing;I)V"⟩
def RX8 : String := "LostRoom$Thing"
def TX8 : u_T := fun k => match k with
  | 0 => ("LostRoom$Thing", "kind", "I", true)
  | 1 => ("LostRoom$Thing", "from", "I", true)
  | 2 => ("LostRoom$Thing", "till", "I", true)
  | 3 => ("LostRoom$Thing", "number", "I", true)
  | 4 => ("LostRoom$Thing", "receiver", "I", true)
  | 5 => ("LostRoom$Thing", "owners", "I", false)
  | 6 => ("LostRoom$Thing", "trunk", "I", false)
  | _ => ("LostRoom$Thing", "wet", "Z", false)
def tyX8 : Nat → FieldType := fun k => match k with
  | 0 => .int
  | 1 => .int
  | 2 => .int
  | 3 => .int
  | 4 => .int
  | 5 => .int
  | 6 => .int
  | _ => .boolean
theorem nmX8 : ∀ a, a < 8 → ∀ b, b < 8 → a ≠ b → (TX8 a).2.1 ≠ (TX8 b).2.1 := by decide +kernel
theorem tyX8_ok : ∀ k, k < 8 → parseFieldDescriptor (TX8 k).2.2.1 = some (tyX8 k) := by decide +kernel
abbrev cX8_init : ByteArray := prog_10_method_1_code
def yX8_init : MethodName := ⟨RX8, "<init>", "(IIIII)V"⟩
abbrev cX8_suits : ByteArray := prog_10_method_4_code
def yX8_suits : MethodName := ⟨RX8, "suits", "(LLostRoom$Lodger;I)Z"⟩
abbrev cX8_suitsAsLetter : ByteArray := prog_10_method_5_code
def yX8_suitsAsLetter : MethodName := ⟨RX8, "suitsAsLetter", "(LLostRoom$Lodger;)Z"⟩
def RX9 : String := "LostRoom$Trunk"
def TX9 : u_T := fun k => match k with
  | 0 => ("LostRoom$Trunk", "lock", "I", true)
  | 1 => ("LostRoom$Trunk", "height", "I", true)
  | 2 => ("LostRoom$Trunk", "above", "I", false)
  | _ => ("LostRoom$Trunk", "below", "I", false)
def tyX9 : Nat → FieldType := fun k => match k with
  | 0 => .int
  | 1 => .int
  | 2 => .int
  | _ => .int
theorem nmX9 : ∀ a, a < 4 → ∀ b, b < 4 → a ≠ b → (TX9 a).2.1 ≠ (TX9 b).2.1 := by decide +kernel
theorem tyX9_ok : ∀ k, k < 4 → parseFieldDescriptor (TX9 k).2.2.1 = some (tyX9 k) := by decide +kernel
abbrev cX9_init : ByteArray := prog_11_method_1_code
def yX9_init : MethodName := ⟨RX9, "<init>", "(II)V"⟩
def RX10 : String := "LostRoom"
def TX10 : u_T := fun k => match k with
  | 0 => ("LostRoom", "rows", "[[I", true)
  | 1 => ("LostRoom", "texts", "[[B", true)
  | 2 => ("LostRoom", "house", "LLostRoom$Book;", false)
  | 3 => ("LostRoom", "wear", "I", false)
  | 4 => ("LostRoom", "things", "[LLostRoom$Thing;", true)
  | 5 => ("LostRoom", "thingCount", "I", false)
  | 6 => ("LostRoom", "lines", "[LLostRoom$Line;", true)
  | 7 => ("LostRoom", "lineCount", "I", false)
  | 8 => ("LostRoom", "bits", "[LLostRoom$Bit;", true)
  | 9 => ("LostRoom", "bitCount", "I", false)
  | 10 => ("LostRoom", "claims", "[LLostRoom$Claim;", true)
  | 11 => ("LostRoom", "claimCount", "I", false)
  | 12 => ("LostRoom", "sharings", "LLostRoom$Sharings;", true)
  | 13 => ("LostRoom", "lays", "LLostRoom$Lays;", true)
  | 14 => ("LostRoom", "journeys", "LLostRoom$Journeys;", true)
  | 15 => ("LostRoom", "asked", "I", false)
  | 16 => ("LostRoom", "many", "J", false)
  | 17 => ("LostRoom", "finding", "I", false)
  | _ => ("LostRoom", "findings", "[I", true)
def tyX10 : Nat → FieldType := fun k => match k with
  | 0 => .array (.array .int)
  | 1 => .array (.array .byte)
  | 2 => .object "LostRoom$Book"
  | 3 => .int
  | 4 => .array (.object "LostRoom$Thing")
  | 5 => .int
  | 6 => .array (.object "LostRoom$Line")
  | 7 => .int
  | 8 => .array (.object "LostRoom$Bit")
  | 9 => .int
  | 10 => .array (.object "LostRoom$Claim")
  | 11 => .int
  | 12 => .object "LostRoom$Sharings"
  | 13 => .object "LostRoom$Lays"
  | 14 => .object "LostRoom$Journeys"
  | 15 => .int
  | 16 => .long
  | 17 => .int
  | _ => .array .int
theorem nmX10 : ∀ a, a < 19 → ∀ b, b < 19 → a ≠ b → (TX10 a).2.1 ≠ (TX10 b).2.1 := by decide +kernel
theorem tyX10_ok : ∀ k, k < 19 → parseFieldDescriptor (TX10 k).2.2.1 = some (tyX10 k) := by decide +kernel
abbrev cX10_init : ByteArray := prog_1_method_1_code
def yX10_init : MethodName := ⟨RX10, "<init>", "()V"⟩
abbrev cX10_at : ByteArray := prog_1_method_4_code
def yX10_at : MethodName := ⟨RX10, "at", "(II)I"⟩
abbrev cX10_text : ByteArray := prog_1_method_8_code
def yX10_text : MethodName := ⟨RX10, "text", "(II)I"⟩
abbrev cX10_put : ByteArray := prog_1_method_9_code
def yX10_put : MethodName := ⟨RX10, "put", "(III)I"⟩
abbrev cX10_fault : ByteArray := prog_1_method_10_code
def yX10_fault : MethodName := ⟨RX10, "fault", "(I)I"⟩
abbrev cX10_book : ByteArray := prog_1_method_11_code
def yX10_book : MethodName := ⟨RX10, "book", "(I)I"⟩
abbrev cX10_wear : ByteArray := prog_1_method_12_code
def yX10_wear : MethodName := ⟨RX10, "wear", "(I)I"⟩
abbrev cX10_trunk : ByteArray := prog_1_method_14_code
def yX10_trunk : MethodName := ⟨RX10, "trunk", "(II)I"⟩
abbrev cX10_thing : ByteArray := prog_1_method_15_code
def yX10_thing : MethodName := ⟨RX10, "thing", "(IIIII)I"⟩
abbrev cX10_lies : ByteArray := prog_1_method_16_code
def yX10_lies : MethodName := ⟨RX10, "lies", "(IIZ)I"⟩
abbrev cX10_told : ByteArray := prog_1_method_17_code
def yX10_told : MethodName := ⟨RX10, "told", "(II)I"⟩
abbrev cX10_may : ByteArray := prog_1_method_19_code
def yX10_may : MethodName := ⟨RX10, "may", "(I)I"⟩
abbrev cX10_fewest : ByteArray := prog_1_method_20_code
def yX10_fewest : MethodName := ⟨RX10, "fewest", "()I"⟩
abbrev cX10_fits : ByteArray := prog_1_method_21_code
def yX10_fits : MethodName := ⟨RX10, "fits", "()I"⟩
abbrev cX10_opens : ByteArray := prog_1_method_22_code
def yX10_opens : MethodName := ⟨RX10, "opens", "(I)I"⟩
abbrev cX10_strange : ByteArray := prog_1_method_23_code
def yX10_strange : MethodName := ⟨RX10, "strange", "()I"⟩
abbrev cX10_water : ByteArray := prog_1_method_24_code
def yX10_water : MethodName := ⟨RX10, "water", "()I"⟩
abbrev cX10_piling : ByteArray := prog_1_method_25_code
def yX10_piling : MethodName := ⟨RX10, "piling", "(I)I"⟩
abbrev cX10_share : ByteArray := prog_1_method_26_code
def yX10_share : MethodName := ⟨RX10, "share", "(I)I"⟩
abbrev cX10_ways : ByteArray := prog_1_method_27_code
def yX10_ways : MethodName := ⟨RX10, "ways", "(I)I"⟩
abbrev cX10_whose : ByteArray := prog_1_method_28_code
def yX10_whose : MethodName := ⟨RX10, "whose", "(II)I"⟩
abbrev cX10_sure : ByteArray := prog_1_method_29_code
def yX10_sure : MethodName := ⟨RX10, "sure", "(I)I"⟩
abbrev cX10_next : ByteArray := prog_1_method_30_code
def yX10_next : MethodName := ⟨RX10, "next", "(I)I"⟩
abbrev cX10_moves : ByteArray := prog_1_method_31_code
def yX10_moves : MethodName := ⟨RX10, "moves", "(II)I"⟩
abbrev cX10_bit : ByteArray := prog_1_method_35_code
def yX10_bit : MethodName := ⟨RX10, "bit", "(IIII)I"⟩
abbrev cX10_joins : ByteArray := prog_1_method_36_code
def yX10_joins : MethodName := ⟨RX10, "joins", "(II)I"⟩
abbrev cX10_sheets : ByteArray := prog_1_method_37_code
def yX10_sheets : MethodName := ⟨RX10, "sheets", "(I)I"⟩
abbrev cX10_laid : ByteArray := prog_1_method_38_code
def yX10_laid : MethodName := ⟨RX10, "laid", "()I"⟩
abbrev cX10_travellers : ByteArray := prog_1_method_39_code
def yX10_travellers : MethodName := ⟨RX10, "travellers", "()I"⟩
abbrev cX10_asked : ByteArray := prog_1_method_44_code
def yX10_asked : MethodName := ⟨RX10, "asked", "()I"⟩
abbrev cX10_many : ByteArray := prog_1_method_45_code
def yX10_many : MethodName := ⟨RX10, "many", "()J"⟩
abbrev cX10_within : ByteArray := prog_1_method_50_code
def yX10_within : MethodName := ⟨RX10, "within", "(III)Z"⟩
abbrev cX10_has : ByteArray := prog_1_method_51_code
def yX10_has : MethodName := ⟨RX10, "has", "(II)Z"⟩
abbrev cX10_areYears : ByteArray := prog_1_method_52_code
def yX10_areYears : MethodName := ⟨RX10, "areYears", "(II)Z"⟩
abbrev cX10_isRow : ByteArray := prog_1_method_54_code
def yX10_isRow : MethodName := ⟨RX10, "isRow", "(I)Z"⟩
abbrev cX10_isText : ByteArray := prog_1_method_55_code
def yX10_isText : MethodName := ⟨RX10, "isText", "(I)Z"⟩
abbrev cX10_isLodger : ByteArray := prog_1_method_56_code
def yX10_isLodger : MethodName := ⟨RX10, "isLodger", "(I)Z"⟩
abbrev cX10_isTrunk : ByteArray := prog_1_method_57_code
def yX10_isTrunk : MethodName := ⟨RX10, "isTrunk", "(I)Z"⟩
abbrev cX10_isThing : ByteArray := prog_1_method_58_code
def yX10_isThing : MethodName := ⟨RX10, "isThing", "(I)Z"⟩
abbrev cX10_found : ByteArray := prog_1_method_60_code
def yX10_found : MethodName := ⟨RX10, "found", "(I)I"⟩
abbrev cX10_tell : ByteArray := prog_1_method_61_code
def yX10_tell : MethodName := ⟨RX10, "tell", "(I)I"⟩
abbrev cX10_trunkFact : ByteArray := prog_1_method_63_code
def yX10_trunkFact : MethodName := ⟨RX10, "trunkFact", "(II)I"⟩
abbrev cX10_thingFact : ByteArray := prog_1_method_64_code
def yX10_thingFact : MethodName := ⟨RX10, "thingFact", "(II)I"⟩
abbrev cX10_thingsIn : ByteArray := prog_1_method_65_code
def yX10_thingsIn : MethodName := ⟨RX10, "thingsIn", "(I)I"⟩
abbrev cX10_numberOf : ByteArray := prog_1_method_69_code
def yX10_numberOf : MethodName := ⟨RX10, "numberOf", "(III)I"⟩
abbrev cX10_isKeyNumber : ByteArray := prog_1_method_70_code
def yX10_isKeyNumber : MethodName := ⟨RX10, "isKeyNumber", "(I)Z"⟩
abbrev cX10_ownersOf : ByteArray := prog_1_method_71_code
def yX10_ownersOf : MethodName := ⟨RX10, "ownersOf", "(LLostRoom$Thing;)I"⟩
abbrev cX10_ownAll : ByteArray := prog_1_method_72_code
def yX10_ownAll : MethodName := ⟨RX10, "ownAll", "(I)Z"⟩
abbrev cX10_opened : ByteArray := prog_1_method_73_code
def yX10_opened : MethodName := ⟨RX10, "opened", "(LLostRoom$Thing;)I"⟩
abbrev cX10_turns : ByteArray := prog_1_method_74_code
def yX10_turns : MethodName := ⟨RX10, "turns", "(II)Z"⟩
abbrev cX10_canFollow : ByteArray := prog_1_method_75_code
def yX10_canFollow : MethodName := ⟨RX10, "canFollow", "(II)Z"⟩
abbrev cX10_ordersOfAll : ByteArray := prog_1_method_76_code
def yX10_ordersOfAll : MethodName := ⟨RX10, "ordersOfAll", "()I"⟩
abbrev cX10_firstToFollow : ByteArray := prog_1_method_77_code
def yX10_firstToFollow : MethodName := ⟨RX10, "firstToFollow", "(I)I"⟩
abbrev cX10_refreshSharings : ByteArray := prog_1_method_78_code
def yX10_refreshSharings : MethodName := ⟨RX10, "refreshSharings", "()V"⟩
abbrev cX10_refreshLays : ByteArray := prog_1_method_79_code
def yX10_refreshLays : MethodName := ⟨RX10, "refreshLays", "()V"⟩
abbrev cX10_firstTrunkFor : ByteArray := prog_1_method_80_code
def yX10_firstTrunkFor : MethodName := ⟨RX10, "firstTrunkFor", "(LLostRoom$Thing;[I)I"⟩
def RX11 : String := "LostRoomModel"
def TX11 : u_T := fun k => match k with
  | _ => ("", "", "", false)
def tyX11 : Nat → FieldType := fun k => match k with
  | _ => .int
theorem nmX11 : ∀ a, a < 0 → ∀ b, b < 0 → a ≠ b → (TX11 a).2.1 ≠ (TX11 b).2.1 := by decide +kernel
theorem tyX11_ok : ∀ k, k < 0 → parseFieldDescriptor (TX11 k).2.2.1 = some (tyX11 k) := by decide +kernel
def RJx8e188 : String := "java/lang/Cloneable"
def TJx8e188 : u_T := fun k => match k with
  | _ => ("", "", "", false)
def tyJx8e188 : Nat → FieldType := fun k => match k with
  | _ => .int
def RJ6 : String := "java/lang/Integer"
def TJ6 : u_T := fun k => match k with
  | _ => ("", "", "", false)
def tyJ6 : Nat → FieldType := fun k => match k with
  | _ => .int
abbrev cJ6_bitCount_0f7a4 : ByteArray := prog_15_method_49_code
def yJ6_bitCount_0f7a4 : MethodName := ⟨RJ6, "bitCount", "(I)I"⟩
def RJ9 : String := "java/lang/Math"
def TJ9 : u_T := fun k => match k with
  | _ => ("", "", "", false)
def tyJ9 : Nat → FieldType := fun k => match k with
  | _ => .int
abbrev cJ9_abs_0f7a4 : ByteArray := prog_16_method_59_code
def yJ9_abs_0f7a4 : MethodName := ⟨RJ9, "abs", "(I)I"⟩
abbrev cJ9_max_7cf53 : ByteArray := prog_16_method_65_code
def yJ9_max_7cf53 : MethodName := ⟨RJ9, "max", "(II)I"⟩
abbrev cJ9_min_7cf53 : ByteArray := prog_16_method_69_code
def yJ9_min_7cf53 : MethodName := ⟨RJ9, "min", "(II)I"⟩
def RJ10 : String := "java/lang/System"
def TJ10 : u_T := fun k => match k with
  | _ => ("", "", "", false)
def tyJ10 : Nat → FieldType := fun k => match k with
  | _ => .int
def RJ7 : String := "java/util/Arrays"
def TJ7 : u_T := fun k => match k with
  | _ => ("", "", "", false)
def tyJ7 : Nat → FieldType := fun k => match k with
  | _ => .int
abbrev cJ7_fill_53178 : ByteArray := prog_18_method_103_code
def yJ7_fill_53178 : MethodName := ⟨RJ7, "fill", "([II)V"⟩
abbrev cJ7_fill_031fb : ByteArray := prog_18_method_109_code
def yJ7_fill_031fb : MethodName := ⟨RJ7, "fill", "([BB)V"⟩
abbrev cJ7_copyOf_59c91 : ByteArray := prog_18_method_123_code
def yJ7_copyOf_59c91 : MethodName := ⟨RJ7, "copyOf", "([II)[I"⟩
def RL : String := "LostRoomLaw"
abbrev cL_cell : ByteArray := method_2_code
def yL_cell : MethodName := ⟨RL, "cell", "([II)I"⟩
abbrev cL_put : ByteArray := method_3_code
def yL_put : MethodName := ⟨RL, "put", "(LLostRoom;II)I"⟩
abbrev cL_number : ByteArray := method_4_code
def yL_number : MethodName := ⟨RL, "number", "(LLostRoom;II)I"⟩
abbrev cL_numbers : ByteArray := method_5_code
def yL_numbers : MethodName := ⟨RL, "numbers", "([IIIII[I[I[I)V"⟩
abbrev cL_book : ByteArray := method_6_code
def yL_book : MethodName := ⟨RL, "book", "(LLostRoom;I[II[II[I)Z"⟩
abbrev cL_thing : ByteArray := method_7_code
def yL_thing : MethodName := ⟨RL, "thing", "(LLostRoom;[IIII[II)Z"⟩
abbrev cL_bits : ByteArray := method_10_code
def yL_bits : MethodName := ⟨RL, "bits", "(I)I"⟩
abbrev cL_law : ByteArray := code
def yL_law : MethodName := ⟨RL, "law", "([I)Z"⟩
abbrev cL_pieces : ByteArray := method_12_code
def yL_pieces : MethodName := ⟨RL, "pieces", "(LLostRoom;LLostRoom;[I)Z"⟩
abbrev cL_fewest : ByteArray := method_13_code
def yL_fewest : MethodName := ⟨RL, "fewest", "(LLostRoom;I)Z"⟩
