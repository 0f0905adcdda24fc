def RX0 : String := "Bandplan$Air"
def TX0 : u_T := fun k => match k with
  | 0 => ("Bandplan$Air", "land", "LBandplan$Land;", true)
  | 1 => ("Bandplan$Air", "stations", "Ljava/util/ArrayList;", true)
  | _ => ("Bandplan$Air", "ratio", "I", false)
def tyX0 : Nat → FieldType := fun k => match k with
  | 0 => .object "Bandplan$Land"
  | 1 => .object "java/util/ArrayList"
  | _ => .int
abbrev wsX00 : List Cond := u_ws RX0 TX0 3
theorem nmX0 : ∀ a, a < 3 → ∀ b, b < 3 → a ≠ b → (TX0 a).2.1 ≠ (TX0 b).2.1 := by decide +kernel
theorem tyX0_ok : ∀ k, k < 3 → parseFieldDescriptor (TX0 k).2.2.1 = some (tyX0 k) := by decide +kernel
abbrev cX0_init : ByteArray := prog_2_method_1_code
def yX0_init : MethodName := ⟨RX0, "<init>", "()V"⟩
abbrev cX0_levelOf : ByteArray := prog_2_method_2_code
def yX0_levelOf : MethodName := ⟨RX0, "levelOf", "(LBandplan$Station;)I"⟩
abbrev cX0_allHarm : ByteArray := prog_2_method_3_code
def yX0_allHarm : MethodName := ⟨RX0, "allHarm", "(LBandplan$Station;LBandplan$Row;)I"⟩
abbrev cX0_keepsLevel : ByteArray := prog_2_method_4_code
def yX0_keepsLevel : MethodName := ⟨RX0, "keepsLevel", "(LBandplan$Station;LBandplan$Row;)Z"⟩
abbrev cX0_allKeep : ByteArray := prog_2_method_5_code
def yX0_allKeep : MethodName := ⟨RX0, "allKeep", "(LBandplan$Row;)Z"⟩
abbrev cX0_barEachOther : ByteArray := prog_2_method_6_code
def yX0_barEachOther : MethodName := ⟨RX0, "barEachOther", "(LBandplan$Station;LBandplan$Station;I)Z"⟩
abbrev cX0_isNearBorder : ByteArray := prog_2_method_7_code
def yX0_isNearBorder : MethodName := ⟨RX0, "isNearBorder", "(LBandplan$Station;)Z"⟩
abbrev cX0_protectedOnes : ByteArray := prog_2_method_8_code
def yX0_protectedOnes : MethodName := ⟨RX0, "protectedOnes", "()I"⟩
abbrev cX0_askingMoreThan : ByteArray := prog_2_method_9_code
def yX0_askingMoreThan : MethodName := ⟨RX0, "askingMoreThan", "(I)I"⟩
abbrev cX0_isBeyond : ByteArray := prog_2_method_10_code
def yX0_isBeyond : MethodName := ⟨RX0, "isBeyond", "(I)Z"⟩
abbrev cX0_suffers : ByteArray := prog_2_method_11_code
def yX0_suffers : MethodName := ⟨RX0, "suffers", "(LBandplan$Station;LBandplan$Station;I)Z"⟩
abbrev cX0_harmOf : ByteArray := prog_2_method_12_code
def yX0_harmOf : MethodName := ⟨RX0, "harmOf", "(LBandplan$Station;LBandplan$Station;I)I"⟩
abbrev cX0_together : ByteArray := prog_2_method_13_code
def yX0_together : MethodName := ⟨RX0, "together", "(II)I"⟩
def RX1 : String := "Bandplan$Border"
def TX1 : u_T := fun k => match k with
  | 0 => ("Bandplan$Border", "foreign", "LBandplan$Row;", true)
  | 1 => ("Bandplan$Border", "askedOn", "LBandplan$Row;", true)
  | _ => ("Bandplan$Border", "protested", "LBandplan$Row;", true)
def tyX1 : Nat → FieldType := fun k => match k with
  | 0 => .object "Bandplan$Row"
  | 1 => .object "Bandplan$Row"
  | _ => .object "Bandplan$Row"
abbrev wsX10 : List Cond := u_ws RX1 TX1 3
theorem nmX1 : ∀ a, a < 3 → ∀ b, b < 3 → a ≠ b → (TX1 a).2.1 ≠ (TX1 b).2.1 := by decide +kernel
theorem tyX1_ok : ∀ k, k < 3 → parseFieldDescriptor (TX1 k).2.2.1 = some (tyX1 k) := by decide +kernel
abbrev cX1_init : ByteArray := prog_3_method_1_code
def yX1_init : MethodName := ⟨RX1, "<init>", "()V"⟩
abbrev cX1_isForeign : ByteArray := prog_3_method_2_code
def yX1_isForeign : MethodName := ⟨RX1, "isForeign", "(I)Z"⟩
abbrev cX1_makeForeign : ByteArray := prog_3_method_3_code
def yX1_makeForeign : MethodName := ⟨RX1, "makeForeign", "(IZ)V"⟩
abbrev cX1_ask : ByteArray := prog_3_method_4_code
def yX1_ask : MethodName := ⟨RX1, "ask", "(III)I"⟩
abbrev cX1_wasAsked : ByteArray := prog_3_method_5_code
def yX1_wasAsked : MethodName := ⟨RX1, "wasAsked", "(II)Z"⟩
abbrev cX1_protest : ByteArray := prog_3_method_6_code
def yX1_protest : MethodName := ⟨RX1, "protest", "(III)Z"⟩
abbrev cX1_yesCounts : ByteArray := prog_3_method_7_code
def yX1_yesCounts : MethodName := ⟨RX1, "yesCounts", "(III)Z"⟩
def RX2 : String := "Bandplan$Buying"
def TX2 : u_T := fun k => match k with
  | 0 => ("Bandplan$Buying", "won", "LBandplan$Row;", true)
  | 1 => ("Bandplan$Buying", "dues", "LBandplan$Row;", true)
  | 2 => ("Bandplan$Buying", "bidders", "I", false)
  | 3 => ("Bandplan$Buying", "worths", "LBandplan$Row;", true)
  | _ => ("Bandplan$Buying", "wonWithout", "LBandplan$Row;", true)
def tyX2 : Nat → FieldType := fun k => match k with
  | 0 => .object "Bandplan$Row"
  | 1 => .object "Bandplan$Row"
  | 2 => .int
  | 3 => .object "Bandplan$Row"
  | _ => .object "Bandplan$Row"
abbrev wsX20 : List Cond := u_ws RX2 TX2 5
theorem nmX2 : ∀ a, a < 5 → ∀ b, b < 5 → a ≠ b → (TX2 a).2.1 ≠ (TX2 b).2.1 := by decide +kernel
theorem tyX2_ok : ∀ k, k < 5 → parseFieldDescriptor (TX2 k).2.2.1 = some (tyX2 k) := by decide +kernel
abbrev cX2_init : ByteArray := prog_4_method_1_code
def yX2_init : MethodName := ⟨RX2, "<init>", "()V"⟩
abbrev cX2_admit : ByteArray := prog_4_method_2_code
def yX2_admit : MethodName := ⟨RX2, "admi\x74", "(III)I"⟩
abbrev cX2_run : ByteArray := prog_4_method_3_code
def yX2_run : MethodName := ⟨RX2, "run", "(I)I"⟩
abbrev cX2_isFair : ByteArray := prog_4_method_4_code
def yX2_isFair : MethodName := ⟨RX2, "isFair", "()Z"⟩
abbrev cX2_deal : ByteArray := prog_4_method_5_code
def yX2_deal : MethodName := ⟨RX2, "deal", "(IILBandplan$Row;)I"⟩
abbrev cX2_highestBidder : ByteArray := prog_4_method_6_code
def yX2_highestBidder : MethodName := ⟨RX2, "highestBidder", "(ILBandplan$Row;)I"⟩
abbrev cX2_worthOf : ByteArray := prog_4_method_7_code
def yX2_worthOf : MethodName := ⟨RX2, "worthOf", "(ILBandplan$Row;)I"⟩
abbrev cX2_worthOfOthers : ByteArray := prog_4_method_8_code
def yX2_worthOfOthers : MethodName := ⟨RX2, "worthOfOthers", "(ILBandplan$Row;)I"⟩
def RX3 : String := "Bandplan$Land"
def TX3 : u_T := fun k => match k with
  | 0 => ("Bandplan$Land", "sites", "Ljava/util/ArrayList;", true)
  | 1 => ("Bandplan$Land", "grounds", "LBandplan$Row;", true)
  | _ => ("Bandplan$Land", "losses", "LBandplan$Row;", true)
def tyX3 : Nat → FieldType := fun k => match k with
  | 0 => .object "java/util/ArrayList"
  | 1 => .object "Bandplan$Row"
  | _ => .object "Bandplan$Row"
abbrev wsX30 : List Cond := u_ws RX3 TX3 3
theorem nmX3 : ∀ a, a < 3 → ∀ b, b < 3 → a ≠ b → (TX3 a).2.1 ≠ (TX3 b).2.1 := by decide +kernel
theorem tyX3_ok : ∀ k, k < 3 → parseFieldDescriptor (TX3 k).2.2.1 = some (tyX3 k) := by decide +kernel
abbrev cX3_init : ByteArray := prog_5_method_1_code
def yX3_init : MethodName := ⟨RX3, "<init>", "()V"⟩
abbrev cX3_changeGround : ByteArray := prog_5_method_2_code
def yX3_changeGround : MethodName := ⟨RX3, "changeGround", "(III)I"⟩
abbrev cX3_found : ByteArray := prog_5_method_3_code
def yX3_found : MethodName := ⟨RX3, "found", "(LBandplan$Site;)I"⟩
abbrev cX3_lossBetween : ByteArray := prog_5_method_4_code
def yX3_lossBetween : MethodName := ⟨RX3, "lossBetween", "(II)I"⟩
abbrev cX3_groundAt : ByteArray := prog_5_method_5_code
def yX3_groundAt : MethodName := ⟨RX3, "groundAt", "(II)I"⟩
abbrev cX3_measureAll : ByteArray := prog_5_method_6_code
def yX3_measureAll : MethodName := ⟨RX3, "measureAll", "()V"⟩
abbrev cX3_measure : ByteArray := prog_5_method_7_code
def yX3_measure : MethodName := ⟨RX3, "measure", "(LBandplan$Site;LBandplan$Site;)I"⟩
abbrev cX3_rootOf : ByteArray := prog_5_method_8_code
def yX3_rootOf : MethodName := ⟨RX3, "rootOf", "(I)I"⟩
abbrev cX3_blocksBetween : ByteArray := prog_5_method_9_code
def yX3_blocksBetween : MethodName := ⟨RX3, "blocksBetween", "(LBandplan$Site;LBandplan$Site;)I"⟩
def RX4 : String := "Bandplan$Moving"
def TX4 : u_T := fun k => match k with
  | 0 => ("Bandplan$Moving", "phases", "LBandplan$Row;", true)
  | 1 => ("Bandplan$Moving", "wasDone", "Z", false)
  | 2 => ("Bandplan$Moving", "darkOnes", "I", false)
  | _ => ("Bandplan$Moving", "waiting", "I", false)
def tyX4 : Nat → FieldType := fun k => match k with
  | 0 => .object "Bandplan$Row"
  | 1 => .boolean
  | 2 => .int
  | _ => .int
abbrev wsX40 : List Cond := u_ws RX4 TX4 4
theorem nmX4 : ∀ a, a < 4 → ∀ b, b < 4 → a ≠ b → (TX4 a).2.1 ≠ (TX4 b).2.1 := by decide +kernel
theorem tyX4_ok : ∀ k, k < 4 → parseFieldDescriptor (TX4 k).2.2.1 = some (tyX4 k) := by decide +kernel
abbrev cX4_init : ByteArray := prog_6_method_1_code
def yX4_init : MethodName := ⟨RX4, "<init>", "()V"⟩
abbrev cX4_begin : ByteArray := prog_6_method_2_code
def yX4_begin : MethodName := ⟨RX4, "begin", "(ILBandplan$Packer;LBandplan$Register;)V"⟩
abbrev cX4_run : ByteArray := prog_6_method_3_code
def yX4_run : MethodName := ⟨RX4, "run", "(LBandplan$Air;LBandplan$Packer;LBandplan$Register;I)I"⟩
abbrev cX4_holdPhase : ByteArray := prog_6_method_4_code
def yX4_holdPhase : MethodName := ⟨RX4, "holdPhase", "(LBandplan$Air;LBandplan$Packer;LBandplan$Register;II)Z"⟩
abbrev cX4_isFree : ByteArray := prog_6_method_5_code
def yX4_isFree : MethodName := ⟨RX4, "isFree", "(ILBandplan$Air;LBandplan$Packer;LBandplan$Register;)Z"⟩
abbrev cX4_silenceSecondariesNear : ByteArray := prog_6_method_6_code
def yX4_silenceSecondariesNear : MethodName := ⟨RX4, "silenceSecondariesNear", "(ILBandplan$Air;LBandplan$Packer;LBandplan$Register;)V"⟩
abbrev cX4_lowestWaitingOn : ByteArray := prog_6_method_7_code
def yX4_lowestWaitingOn : MethodName := ⟨RX4, "lowestWaitingOn", "(LBandplan$Register;)I"⟩
def RX5 : String := "Bandplan$Packer"
def TX5 : u_T := fun k => match k with
  | 0 => ("Bandplan$Packer", "places", "LBandplan$Row;", true)
  | 1 => ("Bandplan$Packer", "spacing", "LBandplan$Row;", true)
  | 2 => ("Bandplan$Packer", "known", "LBandplan$Row;", true)
  | 3 => ("Bandplan$Packer", "channels", "I", false)
  | _ => ("Bandplan$Packer", "members", "I", false)
def tyX5 : Nat → FieldType := fun k => match k with
  | 0 => .object "Bandplan$Row"
  | 1 => .object "Bandplan$Row"
  | 2 => .object "Bandplan$Row"
  | 3 => .int
  | _ => .int
abbrev wsX50 : List Cond := u_ws RX5 TX5 5
theorem nmX5 : ∀ a, a < 5 → ∀ b, b < 5 → a ≠ b → (TX5 a).2.1 ≠ (TX5 b).2.1 := by decide +kernel
theorem tyX5_ok : ∀ k, k < 5 → parseFieldDescriptor (TX5 k).2.2.1 = some (tyX5 k) := by decide +kernel
abbrev cX5_init : ByteArray := prog_7_method_1_code
def yX5_init : MethodName := ⟨RX5, "<init>", "()V"⟩
abbrev cX5_prepare : ByteArray := prog_7_method_2_code
def yX5_prepare : MethodName := ⟨RX5, "prepare", "(LBandplan$Air;I)V"⟩
abbrev cX5_areTooNear : ByteArray := prog_7_method_3_code
def yX5_areTooNear : MethodName := ⟨RX5, "areTooNear", "(IIII)Z"⟩
abbrev cX5_fits : ByteArray := prog_7_method_4_code
def yX5_fits : MethodName := ⟨RX5, "fits", "(I)Z"⟩
abbrev cX5_findFirst : ByteArray := prog_7_method_5_code
def yX5_findFirst : MethodName := ⟨RX5, "findFirst", "(I)Z"⟩
abbrev cX5_place : ByteArray := prog_7_method_6_code
def yX5_place : MethodName := ⟨RX5, "place", "(LBandplan$Packer;I)I"⟩
abbrev cX5_lowerTooNear : ByteArray := prog_7_method_7_code
def yX5_lowerTooNear : MethodName := ⟨RX5, "lowerTooNear", "(II)I"⟩
abbrev cX5_leastSpacing : ByteArray := prog_7_method_8_code
def yX5_leastSpacing : MethodName := ⟨RX5, "leastSpacing", "(LBandplan$Air;LBandplan$Station;LBandplan$Station;)I"⟩
def RX6 : String := "Bandplan$Register"
def TX6 : u_T := fun k => match k with
  | 0 => ("Bandplan$Register", "now", "LBandplan$Row;", true)
  | 1 => ("Bandplan$Register", "today", "I", false)
  | 2 => ("Bandplan$Register", "entries", "LBandplan$Row;", true)
  | 3 => ("Bandplan$Register", "days", "LBandplan$Row;", true)
  | _ => ("Bandplan$Register", "channels", "LBandplan$Row;", true)
def tyX6 : Nat → FieldType := fun k => match k with
  | 0 => .object "Bandplan$Row"
  | 1 => .int
  | 2 => .object "Bandplan$Row"
  | 3 => .object "Bandplan$Row"
  | _ => .object "Bandplan$Row"
abbrev wsX60 : List Cond := u_ws RX6 TX6 5
theorem nmX6 : ∀ a, a < 5 → ∀ b, b < 5 → a ≠ b → (TX6 a).2.1 ≠ (TX6 b).2.1 := by decide +kernel
theorem tyX6_ok : ∀ k, k < 5 → parseFieldDescriptor (TX6 k).2.2.1 = some (tyX6 k) := by decide +kernel
abbrev cX6_init : ByteArray := prog_8_method_1_code
def yX6_init : MethodName := ⟨RX6, "<init>", "()V"⟩
abbrev cX6_change : ByteArray := prog_8_method_2_code
def yX6_change : MethodName := ⟨RX6, "change", "(II)V"⟩
abbrev cX6_channelAt : ByteArray := prog_8_method_3_code
def yX6_channelAt : MethodName := ⟨RX6, "channelAt", "(II)I"⟩
abbrev cX6_onesOn : ByteArray := prog_8_method_4_code
def yX6_onesOn : MethodName := ⟨RX6, "onesOn", "()I"⟩
abbrev cX6_holdsToday : ByteArray := prog_8_method_5_code
def yX6_holdsToday : MethodName := ⟨RX6, "holdsToday", "()Z"⟩
abbrev cX6_write : ByteArray := prog_8_method_6_code
def yX6_write : MethodName := ⟨RX6, "write", "(II)V"⟩
abbrev cX6_lineOf : ByteArray := prog_8_method_7_code
def yX6_lineOf : MethodName := ⟨RX6, "lineOf", "(II)I"⟩
def RX7 : String := "Bandplan$Row"
def TX7 : u_T := fun k => match k with
  | _ => ("Bandplan$Row", "cells", "[I", true)
def tyX7 : Nat → FieldType := fun k => match k with
  | _ => .array .int
abbrev wsX70 : List Cond := u_ws RX7 TX7 1
theorem nmX7 : ∀ a, a < 1 → ∀ b, b < 1 → a ≠ b → (TX7 a).2.1 ≠ (TX7 b).2.1 := by decide +kernel
theorem tyX7_ok : ∀ k, k < 1 → parseFieldDescriptor (TX7 k).2.2.1 = some (tyX7 k) := by decide +kernel
abbrev cX7_init : ByteArray := prog_9_method_1_code
def yX7_init : MethodName := ⟨RX7, "<init>", "(II)V"⟩
abbrev cX7_at : ByteArray := prog_9_method_2_code
def yX7_at : MethodName := ⟨RX7, "at", "(I)I"⟩
abbrev cX7_put : ByteArray := prog_9_method_3_code
def yX7_put : MethodName := ⟨RX7, "put", "(II)V"⟩
abbrev cX7_fillWith : ByteArray := prog_9_method_4_code
def yX7_fillWith : MethodName := ⟨RX7, "fillWith", "(I)V"⟩
abbrev cX7_copyFrom : ByteArray := prog_9_method_5_code
def yX7_copyFrom : MethodName := ⟨RX7, "copyFrom", "(LBandplan$Row;)V"⟩
def RX8 : String := "Bandplan$Selling"
def TX8 : u_T := fun k => match k with
  | 0 => ("Bandplan$Selling", "prices", "LBandplan$Row;", true)
  | 1 => ("Bandplan$Selling", "wasHeld", "Z", false)
  | 2 => ("Bandplan$Selling", "channels", "I", false)
  | 3 => ("Bandplan$Selling", "stayed", "I", false)
  | 4 => ("Bandplan$Selling", "roundCount", "I", false)
  | _ => ("Bandplan$Selling", "askedThen", "LBandplan$Row;", true)
def tyX8 : Nat → FieldType := fun k => match k with
  | 0 => .object "Bandplan$Row"
  | 1 => .boolean
  | 2 => .int
  | 3 => .int
  | 4 => .int
  | _ => .object "Bandplan$Row"
abbrev wsX80 : List Cond := u_ws RX8 TX8 6
theorem nmX8 : ∀ a, a < 6 → ∀ b, b < 6 → a ≠ b → (TX8 a).2.1 ≠ (TX8 b).2.1 := by decide +kernel
theorem tyX8_ok : ∀ k, k < 6 → parseFieldDescriptor (TX8 k).2.2.1 = some (tyX8 k) := by decide +kernel
abbrev cX8_init : ByteArray := prog_10_method_1_code
def yX8_init : MethodName := ⟨RX8, "<init>", "()V"⟩
abbrev cX8_begin : ByteArray := prog_10_method_2_code
def yX8_begin : MethodName := ⟨RX8, "begin", "(II)V"⟩
abbrev cX8_run : ByteArray := prog_10_method_3_code
def yX8_run : MethodName := ⟨RX8, "run", "(LBandplan$Air;LBandplan$Packer;III)I"⟩
abbrev cX8_isFair : ByteArray := prog_10_method_4_code
def yX8_isFair : MethodName := ⟨RX8, "isFair", "()Z"⟩
abbrev cX8_holdRound : ByteArray := prog_10_method_5_code
def yX8_holdRound : MethodName := ⟨RX8, "holdRound", "(LBandplan$Air;LBandplan$Packer;III)I"⟩
abbrev cX8_take : ByteArray := prog_10_method_6_code
def yX8_take : MethodName := ⟨RX8, "take", "(LBandplan$Station;I)V"⟩
def RX9 : String := "Bandplan$Site"
def TX9 : u_T := fun k => match k with
  | 0 => ("Bandplan$Site", "column", "I", true)
  | 1 => ("Bandplan$Site", "row", "I", true)
  | _ => ("Bandplan$Site", "height", "I", true)
def tyX9 : Nat → FieldType := fun k => match k with
  | 0 => .int
  | 1 => .int
  | _ => .int
abbrev wsX90 : List Cond := u_ws RX9 TX9 3
theorem nmX9 : ∀ a, a < 3 → ∀ b, b < 3 → a ≠ b → (TX9 a).2.1 ≠ (TX9 b).2.1 := by decide +kernel
theorem tyX9_ok : ∀ k, k < 3 → parseFieldDescriptor (TX9 k).2.2.1 = some (tyX9 k) := by decide +kernel
abbrev cX9_init : ByteArray := prog_11_method_1_code
def yX9_init : MethodName := ⟨RX9, "<init>", "(III)V"⟩
def RX10 : String := "Bandplan$Station"
def TX10 : u_T := fun k => match k with
  | 0 => ("Bandplan$Station", "number", "I", true)
  | 1 => ("Bandplan$Station", "sends", "I", true)
  | 2 => ("Bandplan$Station", "receives", "I", true)
  | 3 => ("Bandplan$Station", "power", "I", true)
  | 4 => ("Bandplan$Station", "isProtected", "Z", true)
  | _ => ("Bandplan$Station", "asked", "I", false)
def tyX10 : Nat → FieldType := fun k => match k with
  | 0 => .int
  | 1 => .int
  | 2 => .int
  | 3 => .int
  | 4 => .boolean
  | _ => .int
abbrev wsX100 : List Cond := u_ws RX10 TX10 6
theorem nmX10 : ∀ a, a < 6 → ∀ b, b < 6 → a ≠ b → (TX10 a).2.1 ≠ (TX10 b).2.1 := by decide +kernel
theorem tyX10_ok : ∀ k, k < 6 → parseFieldDescriptor (TX10 k).2.2.1 = some (tyX10 k) := by decide +kernel
abbrev cX10_init : ByteArray := prog_12_method_1_code
def yX10_init : MethodName := ⟨RX10, "<init>", "(IIIIZ)V"⟩
def RX11 : String := "Bandplan"
def TX11 : u_T := fun k => match k with
  | 0 => ("Bandplan", "air", "LBandplan$Air;", true)
  | 1 => ("Bandplan", "register", "LBandplan$Register;", true)
  | 2 => ("Bandplan", "border", "LBandplan$Border;", true)
  | 3 => ("Bandplan", "packer", "LBandplan$Packer;", true)
  | 4 => ("Bandplan", "selling", "LBandplan$Selling;", true)
  | 5 => ("Bandplan", "buying", "LBandplan$Buying;", true)
  | 6 => ("Bandplan", "moving", "LBandplan$Moving;", true)
  | _ => ("Bandplan", "trial", "LBandplan$Row;", true)
def tyX11 : Nat → FieldType := fun k => match k with
  | 0 => .object "Bandplan$Air"
  | 1 => .object "Bandplan$Register"
  | 2 => .object "Bandplan$Border"
  | 3 => .object "Bandplan$Packer"
  | 4 => .object "Bandplan$Selling"
  | 5 => .object "Bandplan$Buying"
  | 6 => .object "Bandplan$Moving"
  | _ => .object "Bandplan$Row"
abbrev wsX110 : List Cond := u_ws RX11 TX11 8
theorem nmX11 : ∀ a, a < 8 → ∀ b, b < 8 → a ≠ b → (TX11 a).2.1 ≠ (TX11 b).2.1 := by decide +kernel
theorem tyX11_ok : ∀ k, k < 8 → parseFieldDescriptor (TX11 k).2.2.1 = some (tyX11 k) := by decide +kernel
abbrev cX11_init : ByteArray := prog_1_method_1_code
def yX11_init : MethodName := ⟨RX11, "<init>", "()V"⟩
abbrev cX11_setGround : ByteArray := prog_1_method_2_code
def yX11_setGround : MethodName := ⟨RX11, "setGround", "(III)I"⟩
abbrev cX11_addSite : ByteArray := prog_1_method_3_code
def yX11_addSite : MethodName := ⟨RX11, "addSite", "(III)I"⟩
abbrev cX11_loss : ByteArray := prog_1_method_4_code
def yX11_loss : MethodName := ⟨RX11, "loss", "(II)I"⟩
abbrev cX11_addStation : ByteArray := prog_1_method_5_code
def yX11_addStation : MethodName := ⟨RX11, "addStation", "(IIIZ)I"⟩
abbrev cX11_setRatio : ByteArray := prog_1_method_6_code
def yX11_setRatio : MethodName := ⟨RX11, "setRatio", "(I)I"⟩
abbrev cX11_level : ByteArray := prog_1_method_7_code
def yX11_level : MethodName := ⟨RX11, "level", "(I)I"⟩
abbrev cX11_harm : ByteArray := prog_1_method_8_code
def yX11_harm : MethodName := ⟨RX11, "harm", "(I)I"⟩
abbrev cX11_keeps : ByteArray := prog_1_method_9_code
def yX11_keeps : MethodName := ⟨RX11, "keeps", "(I)Z"⟩
abbrev cX11_bars : ByteArray := prog_1_method_10_code
def yX11_bars : MethodName := ⟨RX11, "bars", "(IIII)Z"⟩
abbrev cX11_putOn : ByteArray := prog_1_method_11_code
def yX11_putOn : MethodName := ⟨RX11, "putOn", "(II)I"⟩
abbrev cX11_putOff : ByteArray := prog_1_method_12_code
def yX11_putOff : MethodName := ⟨RX11, "putOff", "(I)I"⟩
abbrev cX11_channelOf : ByteArray := prog_1_method_13_code
def yX11_channelOf : MethodName := ⟨RX11, "channelOf", "(II)I"⟩
abbrev cX11_setForeign : ByteArray := prog_1_method_14_code
def yX11_setForeign : MethodName := ⟨RX11, "setForeign", "(IZ)Z"⟩
abbrev cX11_askAbroad : ByteArray := prog_1_method_15_code
def yX11_askAbroad : MethodName := ⟨RX11, "askAbroad", "(II)I"⟩
abbrev cX11_object : ByteArray := prog_1_method_16_code
def yX11_object : MethodName := ⟨RX11, "object", "(II)Z"⟩
abbrev cX11_hasYes : ByteArray := prog_1_method_17_code
def yX11_hasYes : MethodName := ⟨RX11, "hasYes", "(II)Z"⟩
abbrev cX11_goOn : ByteArray := prog_1_method_18_code
def yX11_goOn : MethodName := ⟨RX11, "goOn", "(I)I"⟩
abbrev cX11_canPack : ByteArray := prog_1_method_19_code
def yX11_canPack : MethodName := ⟨RX11, "canPack", "(I)Z"⟩
abbrev cX11_packed : ByteArray := prog_1_method_20_code
def yX11_packed : MethodName := ⟨RX11, "packed", "(II)I"⟩
abbrev cX11_setAsked : ByteArray := prog_1_method_21_code
def yX11_setAsked : MethodName := ⟨RX11, "setAsked", "(II)I"⟩
abbrev cX11_sell : ByteArray := prog_1_method_22_code
def yX11_sell : MethodName := ⟨RX11, "sell", "(III)I"⟩
abbrev cX11_priceOf : ByteArray := prog_1_method_23_code
def yX11_priceOf : MethodName := ⟨RX11, "priceOf", "(I)I"⟩
abbrev cX11_rounds : ByteArray := prog_1_method_24_code
def yX11_rounds : MethodName := ⟨RX11, "rounds", "()I"⟩
abbrev cX11_addBidder : ByteArray := prog_1_method_25_code
def yX11_addBidder : MethodName := ⟨RX11, "addBidder", "(III)I"⟩
abbrev cX11_buy : ByteArray := prog_1_method_26_code
def yX11_buy : MethodName := ⟨RX11, "buy", "(I)I"⟩
abbrev cX11_bought : ByteArray := prog_1_method_27_code
def yX11_bought : MethodName := ⟨RX11, "bought", "(I)I"⟩
abbrev cX11_pays : ByteArray := prog_1_method_28_code
def yX11_pays : MethodName := ⟨RX11, "pays", "(I)J"⟩
abbrev cX11_move : ByteArray := prog_1_method_29_code
def yX11_move : MethodName := ⟨RX11, "move", "(I)I"⟩
abbrev cX11_phaseOf : ByteArray := prog_1_method_30_code
def yX11_phaseOf : MethodName := ⟨RX11, "phaseOf", "(I)I"⟩
abbrev cX11_dark : ByteArray := prog_1_method_31_code
def yX11_dark : MethodName := ⟨RX11, "dark", "()I"⟩
abbrev cX11_onShare : ByteArray := prog_1_method_32_code
def yX11_onShare : MethodName := ⟨RX11, "onShare", "()F"⟩
abbrev cX11_isSound : ByteArray := prog_1_method_34_code
def yX11_isSound : MethodName := ⟨RX11, "isSound", "()Z"⟩
abbrev cX11_needCell : ByteArray := prog_1_method_35_code
def yX11_needCell : MethodName := ⟨RX11, "needCell", "(II)V"⟩
abbrev cX11_needSite : ByteArray := prog_1_method_36_code
def yX11_needSite : MethodName := ⟨RX11, "needSite", "(I)V"⟩
abbrev cX11_needBidder : ByteArray := prog_1_method_37_code
def yX11_needBidder : MethodName := ⟨RX11, "needBidder", "(I)V"⟩
abbrev cX11_needChannel : ByteArray := prog_1_method_38_code
def yX11_needChannel : MethodName := ⟨RX11, "needChannel", "(I)V"⟩
abbrev cX11_needRange : ByteArray := prog_1_method_39_code
def yX11_needRange : MethodName := ⟨RX11, "needRange", "(III)V"⟩
abbrev cX11_needSilence : ByteArray := prog_1_method_40_code
def yX11_needSilence : MethodName := ⟨RX11, "needSilence", "()V"⟩
abbrev cX11_stationAt : ByteArray := prog_1_method_41_code
def yX11_stationAt : MethodName := ⟨RX11, "stationAt", "(I)LBandplan$Station;"⟩
abbrev cX11_stationOnAir : ByteArray := prog_1_method_42_code
def yX11_stationOnAir : MethodName := ⟨RX11, "stationOnAir", "(I)LBandplan$Station;"⟩
abbrev cX11_silenceSecondaries : ByteArray := prog_1_method_43_code
def yX11_silenceSecondaries : MethodName := ⟨RX11, "silenceSecondaries", "(LBandplan$Station;)I"⟩
abbrev cX11_isIn : ByteArray := prog_1_method_44_code
def yX11_isIn : MethodName := ⟨RX11, "isIn", "(II)Z"⟩
def RX12 : String := "BandplanModel"
def TX12 : u_T := fun k => match k with
  | _ => ("", "", "", false)
def tyX12 : Nat → FieldType := fun k => match k with
  | _ => .int
abbrev wsX120 : List Cond := u_ws RX12 TX12 0
theorem nmX12 : ∀ a, a < 0 → ∀ b, b < 0 → a ≠ b → (TX12 a).2.1 ≠ (TX12 b).2.1 := by decide +kernel
theorem tyX12_ok : ∀ k, k < 0 → parseFieldDescriptor (TX12 k).2.2.1 = some (tyX12 k) := by decide +kernel
def RJx145de : String := "java/io/Serializable"
def TJx145de : u_T := fun k => match k with
  | _ => ("", "", "", false)
def tyJx145de : Nat → FieldType := fun k => match k with
  | _ => .int
abbrev wsJx145de0 : List Cond := u_ws RJx145de TJx145de 0
theorem nmJx145de : ∀ a, a < 0 → ∀ b, b < 0 → a ≠ b → (TJx145de a).2.1 ≠ (TJx145de b).2.1 := by decide +kernel
theorem tyJx145de_ok : ∀ k, k < 0 → parseFieldDescriptor (TJx145de k).2.2.1 = some (tyJx145de k) := by decide +kernel
def RJx00060 : String := "java/lang/ArrayIndexOutOfBoundsException"
def TJx00060 : u_T := fun k => match k with
  | 0 => ("java/lang/Throwable", "backtrace", "Ljava/lang/Object;", false)
  | 1 => ("java/lang/Throwable", "detailMessage", "Ljava/lang/String;", false)
  | 2 => ("java/lang/Throwable", "cause", "Ljava/lang/Throwable;", false)
  | 3 => ("java/lang/Throwable", "stackTrace", "[Ljava/lang/StackTraceElement;", false)
  | 4 => ("java/lang/Throwable", "depth", "I", false)
  | _ => ("java/lang/Throwable", "suppressedExceptions", "Ljava/util/List;", false)
def tyJx00060 : Nat → FieldType := fun k => match k with
  | 0 => .object "java/lang/Object"
  | 1 => .object "java/lang/String"
  | 2 => .object "java/lang/Throwable"
  | 3 => .array (.object "java/lang/StackTraceElement")
  | 4 => .int
  | _ => .object "java/util/List"
abbrev wsJx000600 : List Cond := u_ws RJx00060 TJx00060 6
theorem nmJx00060 : ∀ a, a < 6 → ∀ b, b < 6 → a ≠ b → (TJx00060 a).2.1 ≠ (TJx00060 b).2.1 := by decide +kernel
theorem tyJx00060_ok : ∀ k, k < 6 → parseFieldDescriptor (TJx00060 k).2.2.1 = some (tyJx00060 k) := by decide +kernel
abbrev cJx00060_init_a7421 : ByteArray := prog_17_method_2_code
def yJx00060_init_a7421 : MethodName := ⟨RJx00060, "<init>", "(Ljava/lang/String;)V"⟩
def RJx8e188 : String := "java/lang/Cloneable"
def TJx8e188 : u_T := fun k => match k with
  | _ => ("", "", "", false)
def tyJx8e188 : Nat → FieldType := fun k => match k with
  | _ => .int
abbrev wsJx8e1880 : List Cond := u_ws RJx8e188 TJx8e188 0
theorem nmJx8e188 : ∀ a, a < 0 → ∀ b, b < 0 → a ≠ b → (TJx8e188 a).2.1 ≠ (TJx8e188 b).2.1 := by decide +kernel
theorem tyJx8e188_ok : ∀ k, k < 0 → parseFieldDescriptor (TJx8e188 k).2.2.1 = some (tyJx8e188 k) := by decide +kernel
def RJ6 : String := "java/lang/Integer"
def TJ6 : u_T := fun k => match k with
  | _ => ("", "", "", false)
def tyJ6 : Nat → FieldType := fun k => match k with
  | _ => .int
abbrev wsJ60 : List Cond := u_ws RJ6 TJ6 0
theorem nmJ6 : ∀ a, a < 0 → ∀ b, b < 0 → a ≠ b → (TJ6 a).2.1 ≠ (TJ6 b).2.1 := by decide +kernel
theorem tyJ6_ok : ∀ k, k < 0 → parseFieldDescriptor (TJ6 k).2.2.1 = some (tyJ6 k) := by decide +kernel
abbrev cJ6_bitCount_0f7a4 : ByteArray := prog_23_method_49_code
def yJ6_bitCount_0f7a4 : MethodName := ⟨RJ6, "bitCount", "(I)I"⟩
def RJxab1ab : String := "java/lang/Iterable"
def TJxab1ab : u_T := fun k => match k with
  | _ => ("", "", "", false)
def tyJxab1ab : Nat → FieldType := fun k => match k with
  | _ => .int
abbrev wsJxab1ab0 : List Cond := u_ws RJxab1ab TJxab1ab 0
theorem nmJxab1ab : ∀ a, a < 0 → ∀ b, b < 0 → a ≠ b → (TJxab1ab a).2.1 ≠ (TJxab1ab b).2.1 := by decide +kernel
theorem tyJxab1ab_ok : ∀ k, k < 0 → parseFieldDescriptor (TJxab1ab k).2.2.1 = some (tyJxab1ab k) := by decide +kernel
def RJ9 : String := "java/lang/Math"
def TJ9 : u_T := fun k => match k with
  | _ => ("", "", "", false)
def tyJ9 : Nat → FieldType := fun k => match k with
  | _ => .int
abbrev wsJ90 : List Cond := u_ws RJ9 TJ9 0
theorem nmJ9 : ∀ a, a < 0 → ∀ b, b < 0 → a ≠ b → (TJ9 a).2.1 ≠ (TJ9 b).2.1 := by decide +kernel
theorem tyJ9_ok : ∀ k, k < 0 → parseFieldDescriptor (TJ9 k).2.2.1 = some (tyJ9 k) := by decide +kernel
abbrev cJ9_floorDiv_7cf53 : ByteArray := prog_25_method_47_code
def yJ9_floorDiv_7cf53 : MethodName := ⟨RJ9, "floorDiv", "(II)I"⟩
abbrev cJ9_abs_0f7a4 : ByteArray := prog_25_method_59_code
def yJ9_abs_0f7a4 : MethodName := ⟨RJ9, "abs", "(I)I"⟩
abbrev cJ9_max_7cf53 : ByteArray := prog_25_method_65_code
def yJ9_max_7cf53 : MethodName := ⟨RJ9, "max", "(II)I"⟩
abbrev cJ9_min_7cf53 : ByteArray := prog_25_method_69_code
def yJ9_min_7cf53 : MethodName := ⟨RJ9, "min", "(II)I"⟩
def RJ0 : String := "java/lang/String"
def TJ0 : u_T := fun k => match k with
  | 0 => ("java/lang/String", "value", "[B", true)
  | _ => ("java/lang/String", "coder", "B", true)
def tyJ0 : Nat → FieldType := fun k => match k with
  | 0 => .array .byte
  | _ => .byte
abbrev wsJ00 : List Cond := u_ws RJ0 TJ0 2
theorem nmJ0 : ∀ a, a < 2 → ∀ b, b < 2 → a ≠ b → (TJ0 a).2.1 ≠ (TJ0 b).2.1 := by decide +kernel
theorem tyJ0_ok : ∀ k, k < 2 → parseFieldDescriptor (TJ0 k).2.2.1 = some (tyJ0 k) := by decide +kernel
def RJ10 : String := "java/lang/System"
def TJ10 : u_T := fun k => match k with
  | _ => ("", "", "", false)
def tyJ10 : Nat → FieldType := fun k => match k with
  | _ => .int
abbrev wsJ100 : List Cond := u_ws RJ10 TJ10 0
theorem nmJ10 : ∀ a, a < 0 → ∀ b, b < 0 → a ≠ b → (TJ10 a).2.1 ≠ (TJ10 b).2.1 := by decide +kernel
theorem tyJ10_ok : ∀ k, k < 0 → parseFieldDescriptor (TJ10 k).2.2.1 = some (tyJ10 k) := by decide +kernel
def RJxa1e45 : String := "java/util/AbstractCollection"
def TJxa1e45 : u_T := fun k => match k with
  | _ => ("", "", "", false)
def tyJxa1e45 : Nat → FieldType := fun k => match k with
  | _ => .int
abbrev wsJxa1e450 : List Cond := u_ws RJxa1e45 TJxa1e45 0
theorem nmJxa1e45 : ∀ a, a < 0 → ∀ b, b < 0 → a ≠ b → (TJxa1e45 a).2.1 ≠ (TJxa1e45 b).2.1 := by decide +kernel
theorem tyJxa1e45_ok : ∀ k, k < 0 → parseFieldDescriptor (TJxa1e45 k).2.2.1 = some (tyJxa1e45 k) := by decide +kernel
abbrev cJxa1e45_init_da8c8 : ByteArray := prog_31_method_1_code
def yJxa1e45_init_da8c8 : MethodName := ⟨RJxa1e45, "<init>", "()V"⟩
def RJxc12de : String := "java/util/AbstractList"
def TJxc12de : u_T := fun k => match k with
  | _ => ("", "", "", false)
def tyJxc12de : Nat → FieldType := fun k => match k with
  | _ => .int
abbrev wsJxc12de0 : List Cond := u_ws RJxc12de TJxc12de 0
theorem nmJxc12de : ∀ a, a < 0 → ∀ b, b < 0 → a ≠ b → (TJxc12de a).2.1 ≠ (TJxc12de b).2.1 := by decide +kernel
theorem tyJxc12de_ok : ∀ k, k < 0 → parseFieldDescriptor (TJxc12de k).2.2.1 = some (tyJxc12de k) := by decide +kernel
abbrev cJxc12de_init_da8c8 : ByteArray := prog_32_method_1_code
def yJxc12de_init_da8c8 : MethodName := ⟨RJxc12de, "<init>", "()V"⟩
def RJx4a65c : String := "java/util/ArrayList"
def TJx4a65c : u_T := fun k => match k with
  | 0 => ("java/util/AbstractList", "modCount", "I", false)
  | 1 => ("java/util/ArrayList", "elementData", "[Ljava/lang/Object;", false)
  | _ => ("java/util/ArrayList", "size", "I", false)
def tyJx4a65c : Nat → FieldType := fun k => match k with
  | 0 => .int
  | 1 => .array (.object "java/lang/Object")
  | _ => .int
abbrev wsJx4a65c0 : List Cond := u_ws RJx4a65c TJx4a65c 3
theorem nmJx4a65c : ∀ a, a < 3 → ∀ b, b < 3 → a ≠ b → (TJx4a65c a).2.1 ≠ (TJx4a65c b).2.1 := by decide +kernel
theorem tyJx4a65c_ok : ∀ k, k < 3 → parseFieldDescriptor (TJx4a65c k).2.2.1 = some (tyJx4a65c k) := by decide +kernel
abbrev cJx4a65c_init_da8c8 : ByteArray := prog_33_method_2_code
def yJx4a65c_init_da8c8 : MethodName := ⟨RJx4a65c, "<init>", "()V"⟩
abbrev cJx4a65c_grow_92f84 : ByteArray := prog_33_method_6_code
def yJx4a65c_grow_92f84 : MethodName := ⟨RJx4a65c, "grow", "(I)[Ljava/lang/Object;"⟩
abbrev cJx4a65c_grow_d5877 : ByteArray := prog_33_method_7_code
def yJx4a65c_grow_d5877 : MethodName := ⟨RJx4a65c, "grow", "()[Ljava/lang/Object;"⟩
abbrev cJx4a65c_size_8abf5 : ByteArray := prog_33_method_8_code
def yJx4a65c_size_8abf5 : MethodName := ⟨RJx4a65c, "size", "()I"⟩
abbrev cJx4a65c_elementData_915e3 : ByteArray := prog_33_method_18_code
def yJx4a65c_elementData_915e3 : MethodName := ⟨RJx4a65c, "elementData", "(I)Ljava/lang/Object;"⟩
abbrev cJx4a65c_get_915e3 : ByteArray := prog_33_method_20_code
def yJx4a65c_get_915e3 : MethodName := ⟨RJx4a65c, "get", "(I)Ljava/lang/Object;"⟩
abbrev cJx4a65c_add_72be8 : ByteArray := prog_33_method_24_code
def yJx4a65c_add_72be8 : MethodName := ⟨RJx4a65c, "add", "(Ljava/lang/Object;[Ljava/lang/Object;I)V"⟩
abbrev cJx4a65c_add_9ea2d : ByteArray := prog_33_method_25_code
def yJx4a65c_add_9ea2d : MethodName := ⟨RJx4a65c, "add", "(Ljava/lang/Object;)Z"⟩
def RJ7 : String := "java/util/Arrays"
def TJ7 : u_T := fun k => match k with
  | _ => ("", "", "", false)
def tyJ7 : Nat → FieldType := fun k => match k with
  | _ => .int
abbrev wsJ70 : List Cond := u_ws RJ7 TJ7 0
theorem nmJ7 : ∀ a, a < 0 → ∀ b, b < 0 → a ≠ b → (TJ7 a).2.1 ≠ (TJ7 b).2.1 := by decide +kernel
theorem tyJ7_ok : ∀ k, k < 0 → parseFieldDescriptor (TJ7 k).2.2.1 = some (tyJ7 k) := by decide +kernel
abbrev cJ7_copyOf_1904c : ByteArray := prog_34_method_119_code
def yJ7_copyOf_1904c : MethodName := ⟨RJ7, "copyOf", "([Ljava/lang/Object;I)[Ljava/lang/Object;"⟩
abbrev cJ7_copyOf_6403c : ByteArray := prog_34_method_120_code
def yJ7_copyOf_6403c : MethodName := ⟨RJ7, "copyOf", "([Ljava/lang/Object;ILjava/lang/Class;)[Ljava/lang/Object;"⟩
def RJx5ef63 : String := "java/util/Collection"
def TJx5ef63 : u_T := fun k => match k with
  | _ => ("", "", "", false)
def tyJx5ef63 : Nat → FieldType := fun k => match k with
  | _ => .int
abbrev wsJx5ef630 : List Cond := u_ws RJx5ef63 TJx5ef63 0
theorem nmJx5ef63 : ∀ a, a < 0 → ∀ b, b < 0 → a ≠ b → (TJx5ef63 a).2.1 ≠ (TJx5ef63 b).2.1 := by decide +kernel
theorem tyJx5ef63_ok : ∀ k, k < 0 → parseFieldDescriptor (TJx5ef63 k).2.2.1 = some (tyJx5ef63 k) := by decide +kernel
def RJxbd725 : String := "java/util/List"
def TJxbd725 : u_T := fun k => match k with
  | _ => ("", "", "", false)
def tyJxbd725 : Nat → FieldType := fun k => match k with
  | _ => .int
abbrev wsJxbd7250 : List Cond := u_ws RJxbd725 TJxbd725 0
theorem nmJxbd725 : ∀ a, a < 0 → ∀ b, b < 0 → a ≠ b → (TJxbd725 a).2.1 ≠ (TJxbd725 b).2.1 := by decide +kernel
theorem tyJxbd725_ok : ∀ k, k < 0 → parseFieldDescriptor (TJxbd725 k).2.2.1 = some (tyJxbd725 k) := by decide +kernel
def RJ15 : String := "java/util/Objects"
def TJ15 : u_T := fun k => match k with
  | _ => ("", "", "", false)
def tyJ15 : Nat → FieldType := fun k => match k with
  | _ => .int
abbrev wsJ150 : List Cond := u_ws RJ15 TJ15 0
theorem nmJ15 : ∀ a, a < 0 → ∀ b, b < 0 → a ≠ b → (TJ15 a).2.1 ≠ (TJ15 b).2.1 := by decide +kernel
theorem tyJ15_ok : ∀ k, k < 0 → parseFieldDescriptor (TJ15 k).2.2.1 = some (tyJ15 k) := by decide +kernel
abbrev cJ15_checkIndex_7cf53 : ByteArray := prog_38_method_17_code
def yJ15_checkIndex_7cf53 : MethodName := ⟨RJ15, "checkIndex", "(II)I"⟩
def RJxf0a74 : String := "java/util/RandomAccess"
def TJxf0a74 : u_T := fun k => match k with
  | _ => ("", "", "", false)
def tyJxf0a74 : Nat → FieldType := fun k => match k with
  | _ => .int
abbrev wsJxf0a740 : List Cond := u_ws RJxf0a74 TJxf0a74 0
theorem nmJxf0a74 : ∀ a, a < 0 → ∀ b, b < 0 → a ≠ b → (TJxf0a74 a).2.1 ≠ (TJxf0a74 b).2.1 := by decide +kernel
theorem tyJxf0a74_ok : ∀ k, k < 0 → parseFieldDescriptor (TJxf0a74 k).2.2.1 = some (tyJxf0a74 k) := by decide +kernel
def RJxa66e6 : String := "java/util/SequencedCollection"
def TJxa66e6 : u_T := fun k => match k with
  | _ => ("", "", "", false)
def tyJxa66e6 : Nat → FieldType := fun k => match k with
  | _ => .int
abbrev wsJxa66e60 : List Cond := u_ws RJxa66e6 TJxa66e6 0
theorem nmJxa66e6 : ∀ a, a < 0 → ∀ b, b < 0 → a ≠ b → (TJxa66e6 a).2.1 ≠ (TJxa66e6 b).2.1 := by decide +kernel
theorem tyJxa66e6_ok : ∀ k, k < 0 → parseFieldDescriptor (TJxa66e6 k).2.2.1 = some (tyJxa66e6 k) := by decide +kernel
def RJ8 : String := "jdk/internal/util/ArraysSupport"
def TJ8 : u_T := fun k => match k with
  | _ => ("", "", "", false)
def tyJ8 : Nat → FieldType := fun k => match k with
  | _ => .int
abbrev wsJ80 : List Cond := u_ws RJ8 TJ8 0
theorem nmJ8 : ∀ a, a < 0 → ∀ b, b < 0 → a ≠ b → (TJ8 a).2.1 ≠ (TJ8 b).2.1 := by decide +kernel
theorem tyJ8_ok : ∀ k, k < 0 → parseFieldDescriptor (TJ8 k).2.2.1 = some (tyJ8 k) := by decide +kernel
abbrev cJ8_newLength_cabcc : ByteArray := prog_41_method_27_code
def yJ8_newLength_cabcc : MethodName := ⟨RJ8, "newLength", "(III)I"⟩
abbrev cJ8_hugeLength_7cf53 : ByteArray := prog_41_method_28_code
def yJ8_hugeLength_7cf53 : MethodName := ⟨RJ8, "hugeLength", "(II)I"⟩
def RJ3 : String := "jdk/internal/util/Preconditions"
def TJ3 : u_T := fun k => match k with
  | _ => ("", "", "", false)
def tyJ3 : Nat → FieldType := fun k => match k with
  | _ => .int
abbrev wsJ30 : List Cond := u_ws RJ3 TJ3 0
theorem nmJ3 : ∀ a, a < 0 → ∀ b, b < 0 → a ≠ b → (TJ3 a).2.1 ≠ (TJ3 b).2.1 := by decide +kernel
theorem tyJ3_ok : ∀ k, k < 0 → parseFieldDescriptor (TJ3 k).2.2.1 = some (tyJ3 k) := by decide +kernel
abbrev cJ3_checkIndex_8e157 : ByteArray := prog_42_method_11_code
def yJ3_checkIndex_8e157 : MethodName := ⟨RJ3, "checkIndex", "(IILjava/util/function/BiFunction;)I"⟩
def RL : String := "BandplanLaw"
abbrev cL_cell : ByteArray := method_2_code
def yL_cell : MethodName := ⟨RL, "cell", "([II)I"⟩
abbrev cL_pick : ByteArray := method_3_code
def yL_pick : MethodName := ⟨RL, "pick", "([III)I"⟩
abbrev cL_told : ByteArray := method_4_code
def yL_told : MethodName := ⟨RL, "told", "(Z)I"⟩
abbrev cL_done : ByteArray := method_5_code
def yL_done : MethodName := ⟨RL, "done", "(LBandplan;IIIII)I"⟩
abbrev cL_asked : ByteArray := method_6_code
def yL_asked : MethodName := ⟨RL, "asked", "(LBandplan;IIIII)I"⟩
abbrev cL_deed : ByteArray := method_7_code
def yL_deed : MethodName := ⟨RL, "deed", "(LBandplan;IIIII)I"⟩
abbrev cL_ask : ByteArray := method_8_code
def yL_ask : MethodName := ⟨RL, "ask", "(LBandplan;III)I"⟩
abbrev cL_build : ByteArray := method_9_code
def yL_build : MethodName := ⟨RL, "build", "(LBandplan;[I)V"⟩
abbrev cL_isProtected : ByteArray := method_10_code
def yL_isProtected : MethodName := ⟨RL, "isProtected", "([II)Z"⟩
abbrev cL_areLosses : ByteArray := method_11_code
def yL_areLosses : MethodName := ⟨RL, "areLosses", "(LBandplan;)Z"⟩
abbrev cL_areKept : ByteArray := method_12_code
def yL_areKept : MethodName := ⟨RL, "areKept", "(LBandplan;[IIZ)Z"⟩
abbrev cL_arePacked : ByteArray := method_13_code
def yL_arePacked : MethodName := ⟨RL, "arePacked", "(LBandplan;[I)Z"⟩
abbrev cL_isSold : ByteArray := method_14_code
def yL_isSold : MethodName := ⟨RL, "isSold", "(LBandplan;[III)Z"⟩
abbrev cL_isBought : ByteArray := method_15_code
def yL_isBought : MethodName := ⟨RL, "isBought", "(LBandplan;[II)Z"⟩
abbrev cL_isMoved : ByteArray := method_16_code
def yL_isMoved : MethodName := ⟨RL, "isMoved", "(LBandplan;[III)Z"⟩
abbrev cL_law : ByteArray := code
def yL_law : MethodName := ⟨RL, "law", "([I)Z"⟩
