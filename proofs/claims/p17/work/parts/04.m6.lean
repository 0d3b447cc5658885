section
/-! ===== BEGIN words of one list among another's, by their places ===== -/
theorem goodIn_r {big : List Cond} (ws : List Cond) (ps : List Nat) (hp : ws = ps.filterMap (fun i => big[i]?)) (h : ws.all goodWord = true) : GoodIn big ws := by
  intro w hw
  have h1 := List.all_eq_true.mp h w hw
  rw [hp] at hw
  obtain ⟨i, -, hi⟩ := List.mem_filterMap.mp hw
  have hm : w ∈ big := by first | exact List.mem_of_getElem? hi | exact List.getElem?_mem hi
  exact ⟨hm, good_of_word h1⟩
/-! ===== END ===== -/

/-! ===== BEGIN printed: names, fields, word lists, decode rows ===== -/
def RX0 : String := "ShoalClaims$Choices"
def TX0 : u_T := fun k => match k with
  | 0 => ("ShoalClaims$Choices", "bestFirst", "I", false)
  | 1 => ("ShoalClaims$Choices", "bestSecond", "I", false)
  | 2 => ("ShoalClaims$Choices", "bestFish", "I", false)
  | 3 => ("ShoalClaims$Choices", "near", "[I", true)
  | 4 => ("ShoalClaims$Choices", "witnesses", "[I", true)
  | 5 => ("ShoalClaims$Choices", "fishTogether", "[I", true)
  | _ => ("ShoalClaims$Choices", "goals", "J", false)
def tyX0 : Nat → FieldType := fun k => match k with
  | 0 => .int
  | 1 => .int
  | 2 => .int
  | 3 => .array .int
  | 4 => .array .int
  | 5 => .array .int
  | _ => .long
abbrev wsX00 : List Cond := u_ws RX0 TX0 7
theorem nmX0 : ∀ a, a < 7 → ∀ b, b < 7 → a ≠ b → (TX0 a).2.1 ≠ (TX0 b).2.1 := by decide +kernel
theorem tyX0_ok : ∀ k, k < 7 → parseFieldDescriptor (TX0 k).2.2.1 = some (tyX0 k) := by decide +kernel
abbrev cX0_init : ByteArray := prog_2_method_1_code
def yX0_init : MethodName := ⟨RX0, "<init>", "()V"⟩
abbrev cX0_addFishTogether : ByteArray := prog_2_method_2_code
def yX0_addFishTogether : MethodName := ⟨RX0, "addFishTogether", "(LShoalClaims$Sea;)V"⟩
abbrev cX0_lookFromCells : ByteArray := prog_2_method_3_code
def yX0_lookFromCells : MethodName := ⟨RX0, "lookFromCells", "(LShoalClaims$Sea;III)V"⟩
abbrev cX0_findBerth : ByteArray := prog_2_method_4_code
def yX0_findBerth : MethodName := ⟨RX0, "findBerth", "(LShoalClaims$Sea;I)V"⟩
abbrev cX0_findPair : ByteArray := prog_2_method_5_code
def yX0_findPair : MethodName := ⟨RX0, "findPair", "(LShoalClaims$Sea;II)V"⟩
abbrev cX0_claimableBeside : ByteArray := prog_2_method_6_code
def yX0_claimableBeside : MethodName := ⟨RX0, "claimableBeside", "(LShoalClaims$Sea;IIIII)I"⟩
abbrev cX0_fewestHours : ByteArray := prog_2_method_7_code
def yX0_fewestHours : MethodName := ⟨RX0, "fewestHours", "(LShoalClaims$Sea;II)I"⟩
abbrev cX0_findGoals : ByteArray := prog_2_method_8_code
def yX0_findGoals : MethodName := ⟨RX0, "findGoals", "(LShoalClaims$Sea;II)V"⟩
abbrev cX0_isWithin : ByteArray := prog_2_method_9_code
def yX0_isWithin : MethodName := ⟨RX0, "isWithin", "(LShoalClaims$Sea;II)Z"⟩
abbrev cX0_doneInHour : ByteArray := prog_2_method_10_code
def yX0_doneInHour : MethodName := ⟨RX0, "doneInHour", "(LShoalClaims$Sea;III)I"⟩
abbrev cX0_firstRowTowards : ByteArray := prog_2_method_11_code
def yX0_firstRowTowards : MethodName := ⟨RX0, "firstRowTowards", "(LShoalClaims$Sea;II)I"⟩
def RX1 : String := "ShoalClaims$Day"
def TX1 : u_T := fun k => match k with
  | 0 => ("ShoalClaims$Day", "deeds", "I", false)
  | 1 => ("ShoalClaims$Day", "kinds", "[I", true)
  | _ => ("ShoalClaims$Day", "numbers", "[I", true)
def tyX1 : Nat → FieldType := fun k => match k with
  | 0 => .int
  | 1 => .array .int
  | _ => .array .int
abbrev wsX10 : List Cond := u_ws RX1 TX1 3
theorem nmX1 : ∀ a, a < 3 → ∀ b, b < 3 → a ≠ b → (TX1 a).2.1 ≠ (TX1 b).2.1 := by decide +kernel
theorem tyX1_ok : ∀ k, k < 3 → parseFieldDescriptor (TX1 k).2.2.1 = some (tyX1 k) := by decide +kernel
abbrev cX1_init : ByteArray := prog_3_method_1_code
def yX1_init : MethodName := ⟨RX1, "<init>", "()V"⟩
abbrev cX1_clear : ByteArray := prog_3_method_2_code
def yX1_clear : MethodName := ⟨RX1, "clear", "()V"⟩
abbrev cX1_copyFrom : ByteArray := prog_3_method_3_code
def yX1_copyFrom : MethodName := ⟨RX1, "copyFrom", "(LShoalClaims$Day;)V"⟩
abbrev cX1_addDeed : ByteArray := prog_3_method_4_code
def yX1_addDeed : MethodName := ⟨RX1, "addDeed", "(I[II)V"⟩
abbrev cX1_numberOf : ByteArray := prog_3_method_5_code
def yX1_numberOf : MethodName := ⟨RX1, "numberOf", "(II)I"⟩
def RX2 : String := "ShoalClaims$Dispute"
def TX2 : u_T := fun k => match k with
  | 0 => ("ShoalClaims$Dispute", "sayings", "I", false)
  | 1 => ("ShoalClaims$Dispute", "from", "[I", true)
  | 2 => ("ShoalClaims$Dispute", "to", "[I", true)
  | 3 => ("ShoalClaims$Dispute", "aheads", "I", false)
  | 4 => ("ShoalClaims$Dispute", "first", "[I", true)
  | _ => ("ShoalClaims$Dispute", "second", "[I", true)
def tyX2 : Nat → FieldType := fun k => match k with
  | 0 => .int
  | 1 => .array .int
  | 2 => .array .int
  | 3 => .int
  | 4 => .array .int
  | _ => .array .int
abbrev wsX20 : List Cond := u_ws RX2 TX2 6
theorem nmX2 : ∀ a, a < 6 → ∀ b, b < 6 → a ≠ b → (TX2 a).2.1 ≠ (TX2 b).2.1 := by decide +kernel
theorem tyX2_ok : ∀ k, k < 6 → parseFieldDescriptor (TX2 k).2.2.1 = some (tyX2 k) := by decide +kernel
abbrev cX2_init : ByteArray := prog_4_method_1_code
def yX2_init : MethodName := ⟨RX2, "<init>", "()V"⟩
abbrev cX2_clear : ByteArray := prog_4_method_2_code
def yX2_clear : MethodName := ⟨RX2, "clear", "()V"⟩
abbrev cX2_copyFrom : ByteArray := prog_4_method_3_code
def yX2_copyFrom : MethodName := ⟨RX2, "copyFrom", "(LShoalClaims$Dispute;)V"⟩
abbrev cX2_addSaying : ByteArray := prog_4_method_4_code
def yX2_addSaying : MethodName := ⟨RX2, "addSaying", "(II)V"⟩
abbrev cX2_addAhead : ByteArray := prog_4_method_5_code
def yX2_addAhead : MethodName := ⟨RX2, "addAhead", "(II)V"⟩
abbrev cX2_isWhole : ByteArray := prog_4_method_6_code
def yX2_isWhole : MethodName := ⟨RX2, "isWhole", "()Z"⟩
abbrev cX2_numberOf : ByteArray := prog_4_method_7_code
def yX2_numberOf : MethodName := ⟨RX2, "numberOf", "(I)I"⟩
def RX3 : String := "ShoalClaims$Orders"
def TX3 : u_T := fun k => match k with
  | 0 => ("ShoalClaims$Orders", "earliest", "[I", true)
  | 1 => ("ShoalClaims$Orders", "latest", "[I", true)
  | 2 => ("ShoalClaims$Orders", "before", "[I", true)
  | 3 => ("ShoalClaims$Orders", "firstOrder", "[I", true)
  | 4 => ("ShoalClaims$Orders", "ofSet", "[I", true)
  | _ => ("ShoalClaims$Orders", "costOfCouple", "[I", true)
def tyX3 : Nat → FieldType := fun k => match k with
  | 0 => .array .int
  | 1 => .array .int
  | 2 => .array .int
  | 3 => .array .int
  | 4 => .array .int
  | _ => .array .int
abbrev wsX30 : List Cond := u_ws RX3 TX3 6
theorem nmX3 : ∀ a, a < 6 → ∀ b, b < 6 → a ≠ b → (TX3 a).2.1 ≠ (TX3 b).2.1 := by decide +kernel
theorem tyX3_ok : ∀ k, k < 6 → parseFieldDescriptor (TX3 k).2.2.1 = some (tyX3 k) := by decide +kernel
abbrev cX3_init : ByteArray := prog_5_method_1_code
def yX3_init : MethodName := ⟨RX3, "<init>", "()V"⟩
abbrev cX3_findBefore : ByteArray := prog_5_method_2_code
def yX3_findBefore : MethodName := ⟨RX3, "findBefore", "(LShoalClaims$Dispute;)V"⟩
abbrev cX3_findFirstOrder : ByteArray := prog_5_method_3_code
def yX3_findFirstOrder : MethodName := ⟨RX3, "findFirstOrder", "(LShoalClaims$Dispute;)Z"⟩
abbrev cX3_inFirstOrder : ByteArray := prog_5_method_4_code
def yX3_inFirstOrder : MethodName := ⟨RX3, "inFirstOrder", "(LShoalClaims$Dispute;I)I"⟩
abbrev cX3_howMany : ByteArray := prog_5_method_5_code
def yX3_howMany : MethodName := ⟨RX3, "howMany", "(LShoalClaims$Dispute;)I"⟩
abbrev cX3_sureCouples : ByteArray := prog_5_method_6_code
def yX3_sureCouples : MethodName := ⟨RX3, "sureCouples", "(LShoalClaims$Dispute;)I"⟩
abbrev cX3_findHours : ByteArray := prog_5_method_7_code
def yX3_findHours : MethodName := ⟨RX3, "findHours", "(LShoalClaims$Dispute;)Z"⟩
abbrev cX3_maybeFirst : ByteArray := prog_5_method_8_code
def yX3_maybeFirst : MethodName := ⟨RX3, "maybeFirst", "(LShoalClaims$Dispute;)I"⟩
abbrev cX3_fewestWithout : ByteArray := prog_5_method_9_code
def yX3_fewestWithout : MethodName := ⟨RX3, "fewestWithout", "(LShoalClaims$Dispute;)I"⟩
abbrev cX3_costBehind : ByteArray := prog_5_method_10_code
def yX3_costBehind : MethodName := ⟨RX3, "costBehind", "(II)I"⟩
def RX4 : String := "ShoalClaims$Reader"
def TX4 : u_T := fun k => match k with
  | 0 => ("ShoalClaims$Reader", "sea", "LShoalClaims$Sea;", true)
  | 1 => ("ShoalClaims$Reader", "day", "LShoalClaims$Day;", true)
  | 2 => ("ShoalClaims$Reader", "dispute", "LShoalClaims$Dispute;", true)
  | 3 => ("ShoalClaims$Reader", "fault", "I", false)
  | 4 => ("ShoalClaims$Reader", "place", "I", false)
  | 5 => ("ShoalClaims$Reader", "numbers", "[I", true)
  | 6 => ("ShoalClaims$Reader", "places", "[I", true)
  | 7 => ("ShoalClaims$Reader", "token", "I", false)
  | 8 => ("ShoalClaims$Reader", "tokenStart", "I", false)
  | _ => ("ShoalClaims$Reader", "tokenEnd", "I", false)
def tyX4 : Nat → FieldType := fun k => match k with
  | 0 => .object "ShoalClaims$Sea"
  | 1 => .object "ShoalClaims$Day"
  | 2 => .object "ShoalClaims$Dispute"
  | 3 => .int
  | 4 => .int
  | 5 => .array .int
  | 6 => .array .int
  | 7 => .int
  | 8 => .int
  | _ => .int
abbrev wsX40 : List Cond := u_ws RX4 TX4 10
theorem nmX4 : ∀ a, a < 10 → ∀ b, b < 10 → a ≠ b → (TX4 a).2.1 ≠ (TX4 b).2.1 := by decide +kernel
theorem tyX4_ok : ∀ k, k < 10 → parseFieldDescriptor (TX4 k).2.2.1 = some (tyX4 k) := by decide +kernel
abbrev cX4_init : ByteArray := prog_6_method_1_code
def yX4_init : MethodName := ⟨RX4, "<init>", "()V"⟩
abbrev cX4_read : ByteArray := prog_6_method_2_code
def yX4_read : MethodName := ⟨RX4, "read", "(LShoalClaims$Tape;I)V"⟩
abbrev cX4_readLine : ByteArray := prog_6_method_3_code
def yX4_readLine : MethodName := ⟨RX4, "readLine", "(LShoalClaims$Tape;I)Z"⟩
abbrev cX4_breakOff : ByteArray := prog_6_method_4_code
def yX4_breakOff : MethodName := ⟨RX4, "breakOff", "()Z"⟩
abbrev cX4_note : ByteArray := prog_6_method_5_code
def yX4_note : MethodName := ⟨RX4, "note", "(II)V"⟩
abbrev cX4_nextToken : ByteArray := prog_6_method_6_code
def yX4_nextToken : MethodName := ⟨RX4, "nextToken", "(LShoalClaims$Tape;)V"⟩
abbrev cX4_isBlank : ByteArray := prog_6_method_7_code
def yX4_isBlank : MethodName := ⟨RX4, "isBlank", "(I)Z"⟩
abbrev cX4_isLetter : ByteArray := prog_6_method_8_code
def yX4_isLetter : MethodName := ⟨RX4, "isLetter", "(I)Z"⟩
abbrev cX4_isDigit : ByteArray := prog_6_method_9_code
def yX4_isDigit : MethodName := ⟨RX4, "isDigit", "(I)Z"⟩
abbrev cX4_numberOnTape : ByteArray := prog_6_method_10_code
def yX4_numberOnTape : MethodName := ⟨RX4, "numberOnTape", "(LShoalClaims$Tape;)I"⟩
abbrev cX4_lineOf : ByteArray := prog_6_method_11_code
def yX4_lineOf : MethodName := ⟨RX4, "lineOf", "(LShoalClaims$Tape;I)I"⟩
abbrev cX4_isOnTape : ByteArray := prog_6_method_12_code
def yX4_isOnTape : MethodName := ⟨RX4, "isOnTape", "(LShoalClaims$Tape;Ljava/lang/String;)Z"⟩
abbrev cX4_wordOf : ByteArray := prog_6_method_13_code
def yX4_wordOf : MethodName := ⟨RX4, "wordOf", "(I)Ljava/lang/String;"⟩
abbrev cX4_checkLine : ByteArray := prog_6_method_14_code
def yX4_checkLine : MethodName := ⟨RX4, "checkLine", "(II)V"⟩
abbrev cX4_isOneTooMany : ByteArray := prog_6_method_15_code
def yX4_isOneTooMany : MethodName := ⟨RX4, "isOneTooMany", "(I)Z"⟩
abbrev cX4_takeLine : ByteArray := prog_6_method_16_code
def yX4_takeLine : MethodName := ⟨RX4, "takeLine", "(I)V"⟩
def RX5 : String := "ShoalClaims$Run"
def TX5 : u_T := fun k => match k with
  | 0 => ("ShoalClaims$Run", "sea", "LShoalClaims$Sea;", false)
  | 1 => ("ShoalClaims$Run", "day", "LShoalClaims$Day;", false)
  | 2 => ("ShoalClaims$Run", "shoals", "LShoalClaims$Shoals;", true)
  | 3 => ("ShoalClaims$Run", "boatCell", "[I", true)
  | 4 => ("ShoalClaims$Run", "boatFish", "[I", true)
  | 5 => ("ShoalClaims$Run", "boatLawful", "[I", true)
  | 6 => ("ShoalClaims$Run", "hour", "I", false)
  | 7 => ("ShoalClaims$Run", "namedTwice", "I", false)
  | 8 => ("ShoalClaims$Run", "heard", "I", false)
  | 9 => ("ShoalClaims$Run", "claimedNow", "I", false)
  | 10 => ("ShoalClaims$Run", "netterFish", "I", false)
  | 11 => ("ShoalClaims$Run", "netHolder", "I", false)
  | 12 => ("ShoalClaims$Run", "holderFish", "I", false)
  | 13 => ("ShoalClaims$Run", "seed", "I", false)
  | 14 => ("ShoalClaims$Run", "gullsBelow", "I", false)
  | _ => ("ShoalClaims$Run", "coastFish", "[I", true)
def tyX5 : Nat → FieldType := fun k => match k with
  | 0 => .object "ShoalClaims$Sea"
  | 1 => .object "ShoalClaims$Day"
  | 2 => .object "ShoalClaims$Shoals"
  | 3 => .array .int
  | 4 => .array .int
  | 5 => .array .int
  | 6 => .int
  | 7 => .int
  | 8 => .int
  | 9 => .int
  | 10 => .int
  | 11 => .int
  | 12 => .int
  | 13 => .int
  | 14 => .int
  | _ => .array .int
abbrev wsX50 : List Cond := u_ws RX5 TX5 16
theorem nmX5 : ∀ a, a < 16 → ∀ b, b < 16 → a ≠ b → (TX5 a).2.1 ≠ (TX5 b).2.1 := by decide +kernel
theorem tyX5_ok : ∀ k, k < 16 → parseFieldDescriptor (TX5 k).2.2.1 = some (tyX5 k) := by decide +kernel
abbrev cX5_init : ByteArray := prog_7_method_1_code
def yX5_init : MethodName := ⟨RX5, "<init>", "()V"⟩
abbrev cX5_begin : ByteArray := prog_7_method_2_code
def yX5_begin : MethodName := ⟨RX5, "begin", "(LShoalClaims$Sea;LShoalClaims$Day;II)V"⟩
abbrev cX5_go : ByteArray := prog_7_method_3_code
def yX5_go : MethodName := ⟨RX5, "go", "(I)V"⟩
abbrev cX5_doDeed : ByteArray := prog_7_method_4_code
def yX5_doDeed : MethodName := ⟨RX5, "doDeed", "()Z"⟩
abbrev cX5_rowBoat : ByteArray := prog_7_method_5_code
def yX5_rowBoat : MethodName := ⟨RX5, "rowBoat", "(II)Z"⟩
abbrev cX5_claimShoals : ByteArray := prog_7_method_6_code
def yX5_claimShoals : MethodName := ⟨RX5, "claimShoals", "(III)V"⟩
abbrev cX5_hearersNow : ByteArray := prog_7_method_7_code
def yX5_hearersNow : MethodName := ⟨RX5, "hearersNow", "(I)I"⟩
abbrev cX5_heardDespiteGulls : ByteArray := prog_7_method_8_code
def yX5_heardDespiteGulls : MethodName := ⟨RX5, "heardDespiteGulls", "()I"⟩
abbrev cX5_drawBelow : ByteArray := prog_7_method_9_code
def yX5_drawBelow : MethodName := ⟨RX5, "drawBelow", "(I)I"⟩
abbrev cX5_lacking : ByteArray := prog_7_method_10_code
def yX5_lacking : MethodName := ⟨RX5, "lacking", "(III)I"⟩
abbrev cX5_claimable : ByteArray := prog_7_method_11_code
def yX5_claimable : MethodName := ⟨RX5, "claimable", "(I)I"⟩
abbrev cX5_splitShoal : ByteArray := prog_7_method_12_code
def yX5_splitShoal : MethodName := ⟨RX5, "splitShoal", "(II)Z"⟩
abbrev cX5_netShoal : ByteArray := prog_7_method_13_code
def yX5_netShoal : MethodName := ⟨RX5, "netShoal", "(II)Z"⟩
abbrev cX5_fishOfAnother : ByteArray := prog_7_method_14_code
def yX5_fishOfAnother : MethodName := ⟨RX5, "fishOfAnother", "(II)I"⟩
abbrev cX5_lawfulClaims : ByteArray := prog_7_method_15_code
def yX5_lawfulClaims : MethodName := ⟨RX5, "lawfulClaims", "()I"⟩
abbrev cX5_luck : ByteArray := prog_7_method_16_code
def yX5_luck : MethodName := ⟨RX5, "luck", "()I"⟩
abbrev cX5_richestBoat : ByteArray := prog_7_method_17_code
def yX5_richestBoat : MethodName := ⟨RX5, "richestBoat", "()I"⟩
abbrev cX5_richestCoast : ByteArray := prog_7_method_18_code
def yX5_richestCoast : MethodName := ⟨RX5, "richestCoast", "()I"⟩
def RX6 : String := "ShoalClaims$Sea"
def TX6 : u_T := fun k => match k with
  | 0 => ("ShoalClaims$Sea", "width", "I", false)
  | 1 => ("ShoalClaims$Sea", "height", "I", false)
  | 2 => ("ShoalClaims$Sea", "windSide", "I", false)
  | 3 => ("ShoalClaims$Sea", "windStrength", "I", false)
  | 4 => ("ShoalClaims$Sea", "nets", "I", false)
  | 5 => ("ShoalClaims$Sea", "laws", "[I", true)
  | 6 => ("ShoalClaims$Sea", "shoals", "I", false)
  | 7 => ("ShoalClaims$Sea", "shoalCell", "[I", true)
  | 8 => ("ShoalClaims$Sea", "shoalFish", "[I", true)
  | 9 => ("ShoalClaims$Sea", "shoalDrift", "[I", true)
  | 10 => ("ShoalClaims$Sea", "boats", "I", false)
  | 11 => ("ShoalClaims$Sea", "boatCell", "[I", true)
  | 12 => ("ShoalClaims$Sea", "boatVoice", "[I", true)
  | 13 => ("ShoalClaims$Sea", "boatCoast", "[I", true)
  | _ => ("ShoalClaims$Sea", "deaf", "I", false)
def tyX6 : Nat → FieldType := fun k => match k with
  | 0 => .int
  | 1 => .int
  | 2 => .int
  | 3 => .int
  | 4 => .int
  | 5 => .array .int
  | 6 => .int
  | 7 => .array .int
  | 8 => .array .int
  | 9 => .array .int
  | 10 => .int
  | 11 => .array .int
  | 12 => .array .int
  | 13 => .array .int
  | _ => .int
abbrev wsX60 : List Cond := u_ws RX6 TX6 15
theorem nmX6 : ∀ a, a < 15 → ∀ b, b < 15 → a ≠ b → (TX6 a).2.1 ≠ (TX6 b).2.1 := by decide +kernel
theorem tyX6_ok : ∀ k, k < 15 → parseFieldDescriptor (TX6 k).2.2.1 = some (tyX6 k) := by decide +kernel
abbrev cX6_init : ByteArray := prog_8_method_1_code
def yX6_init : MethodName := ⟨RX6, "<init>", "()V"⟩
abbrev cX6_clear : ByteArray := prog_8_method_2_code
def yX6_clear : MethodName := ⟨RX6, "clear", "()V"⟩
abbrev cX6_copyFrom : ByteArray := prog_8_method_3_code
def yX6_copyFrom : MethodName := ⟨RX6, "copyFrom", "(LShoalClaims$Sea;)V"⟩
abbrev cX6_addShoal : ByteArray := prog_8_method_4_code
def yX6_addShoal : MethodName := ⟨RX6, "addShoal", "(III)V"⟩
abbrev cX6_addBoat : ByteArray := prog_8_method_5_code
def yX6_addBoat : MethodName := ⟨RX6, "addBoat", "(III)V"⟩
abbrev cX6_cells : ByteArray := prog_8_method_6_code
def yX6_cells : MethodName := ⟨RX6, "cells", "()I"⟩
abbrev cX6_hasCell : ByteArray := prog_8_method_7_code
def yX6_hasCell : MethodName := ⟨RX6, "hasCell", "(I)Z"⟩
abbrev cX6_hasShoal : ByteArray := prog_8_method_8_code
def yX6_hasShoal : MethodName := ⟨RX6, "hasShoal", "(I)Z"⟩
abbrev cX6_hasBoat : ByteArray := prog_8_method_9_code
def yX6_hasBoat : MethodName := ⟨RX6, "hasBoat", "(I)Z"⟩
abbrev cX6_isWhole : ByteArray := prog_8_method_10_code
def yX6_isWhole : MethodName := ⟨RX6, "isWhole", "()Z"⟩
abbrev cX6_lawOf : ByteArray := prog_8_method_11_code
def yX6_lawOf : MethodName := ⟨RX6, "lawOf", "(II)I"⟩
abbrev cX6_rowOf : ByteArray := prog_8_method_12_code
def yX6_rowOf : MethodName := ⟨RX6, "rowOf", "(I)I"⟩
abbrev cX6_columnOf : ByteArray := prog_8_method_13_code
def yX6_columnOf : MethodName := ⟨RX6, "columnOf", "(I)I"⟩
abbrev cX6_rowsBetween : ByteArray := prog_8_method_14_code
def yX6_rowsBetween : MethodName := ⟨RX6, "rowsBetween", "(II)I"⟩
abbrev cX6_cost : ByteArray := prog_8_method_15_code
def yX6_cost : MethodName := ⟨RX6, "cost", "(II)I"⟩
abbrev cX6_beside : ByteArray := prog_8_method_16_code
def yX6_beside : MethodName := ⟨RX6, "beside", "(II)I"⟩
abbrev cX6_drifted : ByteArray := prog_8_method_17_code
def yX6_drifted : MethodName := ⟨RX6, "drifted", "(II)I"⟩
abbrev cX6_hearers : ByteArray := prog_8_method_18_code
def yX6_hearers : MethodName := ⟨RX6, "hearers", "(III[I)I"⟩
abbrev cX6_hearersAsTold : ByteArray := prog_8_method_19_code
def yX6_hearersAsTold : MethodName := ⟨RX6, "hearersAsTold", "(I)I"⟩
abbrev cX6_nearShoals : ByteArray := prog_8_method_20_code
def yX6_nearShoals : MethodName := ⟨RX6, "nearShoals", "(II)I"⟩
def RX7 : String := "ShoalClaims$Shoals"
def TX7 : u_T := fun k => match k with
  | 0 => ("ShoalClaims$Shoals", "cell", "[I", true)
  | 1 => ("ShoalClaims$Shoals", "fish", "[I", true)
  | 2 => ("ShoalClaims$Shoals", "drift", "[I", true)
  | 3 => ("ShoalClaims$Shoals", "syllables", "[I", true)
  | 4 => ("ShoalClaims$Shoals", "lastHour", "[I", true)
  | 5 => ("ShoalClaims$Shoals", "holder", "[I", true)
  | 6 => ("ShoalClaims$Shoals", "there", "I", false)
  | _ => ("ShoalClaims$Shoals", "given", "I", false)
def tyX7 : Nat → FieldType := fun k => match k with
  | 0 => .array .int
  | 1 => .array .int
  | 2 => .array .int
  | 3 => .array .int
  | 4 => .array .int
  | 5 => .array .int
  | 6 => .int
  | _ => .int
abbrev wsX70 : List Cond := u_ws RX7 TX7 8
theorem nmX7 : ∀ a, a < 8 → ∀ b, b < 8 → a ≠ b → (TX7 a).2.1 ≠ (TX7 b).2.1 := by decide +kernel
theorem tyX7_ok : ∀ k, k < 8 → parseFieldDescriptor (TX7 k).2.2.1 = some (tyX7 k) := by decide +kernel
abbrev cX7_init : ByteArray := prog_9_method_1_code
def yX7_init : MethodName := ⟨RX7, "<init>", "()V"⟩
abbrev cX7_begin : ByteArray := prog_9_method_2_code
def yX7_begin : MethodName := ⟨RX7, "begin", "(LShoalClaims$Sea;)V"⟩
abbrev cX7_add : ByteArray := prog_9_method_3_code
def yX7_add : MethodName := ⟨RX7, "add", "(III)V"⟩
abbrev cX7_isThere : ByteArray := prog_9_method_4_code
def yX7_isThere : MethodName := ⟨RX7, "isThere", "(I)Z"⟩
abbrev cX7_holderAt : ByteArray := prog_9_method_5_code
def yX7_holderAt : MethodName := ⟨RX7, "holderAt", "(II)I"⟩
abbrev cX7_heldBy : ByteArray := prog_9_method_6_code
def yX7_heldBy : MethodName := ⟨RX7, "heldBy", "(II)I"⟩
abbrev cX7_hold : ByteArray := prog_9_method_7_code
def yX7_hold : MethodName := ⟨RX7, "hold", "(IIII)V"⟩
abbrev cX7_canSplit : ByteArray := prog_9_method_8_code
def yX7_canSplit : MethodName := ⟨RX7, "canSplit", "(I)Z"⟩
abbrev cX7_halve : ByteArray := prog_9_method_9_code
def yX7_halve : MethodName := ⟨RX7, "halve", "(I)V"⟩
abbrev cX7_remove : ByteArray := prog_9_method_10_code
def yX7_remove : MethodName := ⟨RX7, "remove", "(I)V"⟩
abbrev cX7_driftOn : ByteArray := prog_9_method_11_code
def yX7_driftOn : MethodName := ⟨RX7, "driftOn", "(LShoalClaims$Sea;)V"⟩
abbrev cX7_fishThere : ByteArray := prog_9_method_12_code
def yX7_fishThere : MethodName := ⟨RX7, "fishThere", "()I"⟩
def RX8 : String := "ShoalClaims$Tape"
def TX8 : u_T := fun k => match k with
  | 0 => ("ShoalClaims$Tape", "bytes", "[B", true)
  | _ => ("ShoalClaims$Tape", "length", "I", false)
def tyX8 : Nat → FieldType := fun k => match k with
  | 0 => .array .byte
  | _ => .int
abbrev wsX80 : List Cond := u_ws RX8 TX8 2
theorem nmX8 : ∀ a, a < 2 → ∀ b, b < 2 → a ≠ b → (TX8 a).2.1 ≠ (TX8 b).2.1 := by decide +kernel
theorem tyX8_ok : ∀ k, k < 2 → parseFieldDescriptor (TX8 k).2.2.1 = some (tyX8 k) := by decide +kernel
abbrev cX8_init : ByteArray := prog_10_method_1_code
def yX8_init : MethodName := ⟨RX8, "<init>", "()V"⟩
abbrev cX8_put : ByteArray := prog_10_method_2_code
def yX8_put : MethodName := ⟨RX8, "put", "(I)V"⟩
abbrev cX8_byteAt : ByteArray := prog_10_method_3_code
def yX8_byteAt : MethodName := ⟨RX8, "byteAt", "(I)I"⟩
abbrev cX8_copyFrom : ByteArray := prog_10_method_4_code
def yX8_copyFrom : MethodName := ⟨RX8, "copyFrom", "(LShoalClaims$Tape;)V"⟩
def RX9 : String := "ShoalClaims$Told"
def TX9 : u_T := fun k => match k with
  | 0 => ("ShoalClaims$Told", "tape", "LShoalClaims$Tape;", true)
  | 1 => ("ShoalClaims$Told", "numbers", "[I", true)
  | 2 => ("ShoalClaims$Told", "seas", "[LShoalClaims$Sea;", true)
  | 3 => ("ShoalClaims$Told", "days", "[LShoalClaims$Day;", true)
  | 4 => ("ShoalClaims$Told", "disputes", "[LShoalClaims$Dispute;", true)
  | 5 => ("ShoalClaims$Told", "fault", "I", false)
  | _ => ("ShoalClaims$Told", "place", "I", false)
def tyX9 : Nat → FieldType := fun k => match k with
  | 0 => .object "ShoalClaims$Tape"
  | 1 => .array .int
  | 2 => .array (.object "ShoalClaims$Sea")
  | 3 => .array (.object "ShoalClaims$Day")
  | 4 => .array (.object "ShoalClaims$Dispute")
  | 5 => .int
  | _ => .int
abbrev wsX90 : List Cond := u_ws RX9 TX9 7
theorem nmX9 : ∀ a, a < 7 → ∀ b, b < 7 → a ≠ b → (TX9 a).2.1 ≠ (TX9 b).2.1 := by decide +kernel
theorem tyX9_ok : ∀ k, k < 7 → parseFieldDescriptor (TX9 k).2.2.1 = some (tyX9 k) := by decide +kernel
abbrev cX9_init : ByteArray := prog_11_method_1_code
def yX9_init : MethodName := ⟨RX9, "<init>", "()V"⟩
abbrev cX9_copyFrom : ByteArray := prog_11_method_2_code
def yX9_copyFrom : MethodName := ⟨RX9, "copyFrom", "(LShoalClaims$Told;)V"⟩
abbrev cX9_findSea : ByteArray := prog_11_method_3_code
def yX9_findSea : MethodName := ⟨RX9, "findSea", "(I)LShoalClaims$Sea;"⟩
abbrev cX9_findDay : ByteArray := prog_11_method_4_code
def yX9_findDay : MethodName := ⟨RX9, "findDay", "(I)LShoalClaims$Day;"⟩
abbrev cX9_findDispute : ByteArray := prog_11_method_5_code
def yX9_findDispute : MethodName := ⟨RX9, "findDispute", "(I)LShoalClaims$Dispute;"⟩
abbrev cX9_numberFor : ByteArray := prog_11_method_6_code
def yX9_numberFor : MethodName := ⟨RX9, "numberFor", "(II)I"⟩
abbrev cX9_takeTape : ByteArray := prog_11_method_7_code
def yX9_takeTape : MethodName := ⟨RX9, "takeTape", "(II)V"⟩
abbrev cX9_keep : ByteArray := prog_11_method_8_code
def yX9_keep : MethodName := ⟨RX9, "keep", "(LShoalClaims$Reader;II)V"⟩
def RX10 : String := "ShoalClaims$Words"
def TX10 : u_T := fun k => match k with
  | 0 => ("ShoalClaims$Words", "bestStrength", "I", false)
  | 1 => ("ShoalClaims$Words", "bestSide", "I", false)
  | 2 => ("ShoalClaims$Words", "bestCouples", "I", false)
  | _ => ("ShoalClaims$Words", "trial", "LShoalClaims$Sea;", true)
def tyX10 : Nat → FieldType := fun k => match k with
  | 0 => .int
  | 1 => .int
  | 2 => .int
  | _ => .object "ShoalClaims$Sea"
abbrev wsX100 : List Cond := u_ws RX10 TX10 4
theorem nmX10 : ∀ a, a < 4 → ∀ b, b < 4 → a ≠ b → (TX10 a).2.1 ≠ (TX10 b).2.1 := by decide +kernel
theorem tyX10_ok : ∀ k, k < 4 → parseFieldDescriptor (TX10 k).2.2.1 = some (tyX10 k) := by decide +kernel
abbrev cX10_init : ByteArray := prog_12_method_1_code
def yX10_init : MethodName := ⟨RX10, "<init>", "()V"⟩
abbrev cX10_heardFromAny : ByteArray := prog_12_method_2_code
def yX10_heardFromAny : MethodName := ⟨RX10, "heardFromAny", "(LShoalClaims$Sea;I)I"⟩
abbrev cX10_passers : ByteArray := prog_12_method_3_code
def yX10_passers : MethodName := ⟨RX10, "passers", "(LShoalClaims$Sea;II)I"⟩
abbrev cX10_reachedOthers : ByteArray := prog_12_method_4_code
def yX10_reachedOthers : MethodName := ⟨RX10, "reachedOthers", "(LShoalClaims$Sea;I)I"⟩
abbrev cX10_loudest : ByteArray := prog_12_method_5_code
def yX10_loudest : MethodName := ⟨RX10, "loudest", "(LShoalClaims$Sea;)I"⟩
abbrev cX10_leastVoice : ByteArray := prog_12_method_6_code
def yX10_leastVoice : MethodName := ⟨RX10, "leastVoice", "(LShoalClaims$Sea;II)I"⟩
abbrev cX10_findWind : ByteArray := prog_12_method_7_code
def yX10_findWind : MethodName := ⟨RX10, "findWind", "(LShoalClaims$Sea;)V"⟩
abbrev cX10_countCouples : ByteArray := prog_12_method_8_code
def yX10_countCouples : MethodName := ⟨RX10, "countCouples", "(LShoalClaims$Sea;)I"⟩
def RX11 : String := "ShoalClaims"
def TX11 : u_T := fun k => match k with
  | 0 => ("ShoalClaims", "told", "LShoalClaims$Told;", true)
  | 1 => ("ShoalClaims", "images", "[LShoalClaims$Told;", true)
  | 2 => ("ShoalClaims", "reader", "LShoalClaims$Reader;", true)
  | 3 => ("ShoalClaims", "run", "LShoalClaims$Run;", true)
  | 4 => ("ShoalClaims", "words", "LShoalClaims$Words;", true)
  | 5 => ("ShoalClaims", "choices", "LShoalClaims$Choices;", true)
  | _ => ("ShoalClaims", "orders", "LShoalClaims$Orders;", true)
def tyX11 : Nat → FieldType := fun k => match k with
  | 0 => .object "ShoalClaims$Told"
  | 1 => .array (.object "ShoalClaims$Told")
  | 2 => .object "ShoalClaims$Reader"
  | 3 => .object "ShoalClaims$Run"
  | 4 => .object "ShoalClaims$Words"
  | 5 => .object "ShoalClaims$Choices"
  | _ => .object "ShoalClaims$Orders"
abbrev wsX110 : List Cond := u_ws RX11 TX11 7
theorem nmX11 : ∀ a, a < 7 → ∀ b, b < 7 → a ≠ b → (TX11 a).2.1 ≠ (TX11 b).2.1 := by decide +kernel
theorem tyX11_ok : ∀ k, k < 7 → parseFieldDescriptor (TX11 k).2.2.1 = some (tyX11 k) := by decide +kernel
abbrev cX11_init : ByteArray := prog_1_method_1_code
def yX11_init : MethodName := ⟨RX11, "<init>", "()V"⟩
abbrev cX11_feed : ByteArray := prog_1_method_2_code
def yX11_feed : MethodName := ⟨RX11, "feed", "(IIIII)I"⟩
abbrev cX11_end : ByteArray := prog_1_method_3_code
def yX11_end : MethodName := ⟨RX11, "end", "(I)I"⟩
abbrev cX11_text : ByteArray := prog_1_method_4_code
def yX11_text : MethodName := ⟨RX11, "text", "(II)I"⟩
abbrev cX11_fault : ByteArray := prog_1_method_5_code
def yX11_fault : MethodName := ⟨RX11, "fault", "(I)I"⟩
abbrev cX11_sea : ByteArray := prog_1_method_6_code
def yX11_sea : MethodName := ⟨RX11, "sea", "(II)I"⟩
abbrev cX11_shoal : ByteArray := prog_1_method_7_code
def yX11_shoal : MethodName := ⟨RX11, "shoal", "(III)I"⟩
abbrev cX11_boat : ByteArray := prog_1_method_8_code
def yX11_boat : MethodName := ⟨RX11, "boat", "(III)I"⟩
abbrev cX11_far : ByteArray := prog_1_method_9_code
def yX11_far : MethodName := ⟨RX11, "far", "(III)I"⟩
abbrev cX11_hears : ByteArray := prog_1_method_10_code
def yX11_hears : MethodName := ⟨RX11, "hears", "(III)I"⟩
abbrev cX11_loud : ByteArray := prog_1_method_11_code
def yX11_loud : MethodName := ⟨RX11, "loud", "(I)I"⟩
abbrev cX11_deed : ByteArray := prog_1_method_12_code
def yX11_deed : MethodName := ⟨RX11, "deed", "(III)I"⟩
abbrev cX11_stop : ByteArray := prog_1_method_13_code
def yX11_stop : MethodName := ⟨RX11, "stop", "(II)I"⟩
abbrev cX11_state : ByteArray := prog_1_method_14_code
def yX11_state : MethodName := ⟨RX11, "state", "(IIIII)I"⟩
abbrev cX11_has : ByteArray := prog_1_method_15_code
def yX11_has : MethodName := ⟨RX11, "has", "(IIIII)I"⟩
abbrev cX11_claimed : ByteArray := prog_1_method_16_code
def yX11_claimed : MethodName := ⟨RX11, "claimed", "(IIIZ)I"⟩
abbrev cX11_shares : ByteArray := prog_1_method_17_code
def yX11_shares : MethodName := ⟨RX11, "shares", "(IIII)I"⟩
abbrev cX11_twice : ByteArray := prog_1_method_18_code
def yX11_twice : MethodName := ⟨RX11, "twice", "(II)I"⟩
abbrev cX11_soon : ByteArray := prog_1_method_19_code
def yX11_soon : MethodName := ⟨RX11, "soon", "(IIII)I"⟩
abbrev cX11_berth : ByteArray := prog_1_method_20_code
def yX11_berth : MethodName := ⟨RX11, "berth", "(IIZ)I"⟩
abbrev cX11_pair : ByteArray := prog_1_method_21_code
def yX11_pair : MethodName := ⟨RX11, "pair", "(IIII)I"⟩
abbrev cX11_dispute : ByteArray := prog_1_method_22_code
def yX11_dispute : MethodName := ⟨RX11, "dispute", "(II)I"⟩
abbrev cX11_hours : ByteArray := prog_1_method_23_code
def yX11_hours : MethodName := ⟨RX11, "hours", "(IIZ)I"⟩
abbrev cX11_gulls : ByteArray := prog_1_method_24_code
def yX11_gulls : MethodName := ⟨RX11, "gulls", "(IIIII)I"⟩
abbrev cX11_lack : ByteArray := prog_1_method_25_code
def yX11_lack : MethodName := ⟨RX11, "lack", "(IIIII)I"⟩
abbrev cX11_least : ByteArray := prog_1_method_26_code
def yX11_least : MethodName := ⟨RX11, "least", "(III)I"⟩
abbrev cX11_winds : ByteArray := prog_1_method_27_code
def yX11_winds : MethodName := ⟨RX11, "winds", "(II)I"⟩
abbrev cX11_meet : ByteArray := prog_1_method_28_code
def yX11_meet : MethodName := ⟨RX11, "meet", "(III)I"⟩
abbrev cX11_sum : ByteArray := prog_1_method_29_code
def yX11_sum : MethodName := ⟨RX11, "sum", "(III)I"⟩
abbrev cX11_tells : ByteArray := prog_1_method_30_code
def yX11_tells : MethodName := ⟨RX11, "tells", "(II)I"⟩
abbrev cX11_count : ByteArray := prog_1_method_31_code
def yX11_count : MethodName := ⟨RX11, "count", "(I)I"⟩
abbrev cX11_image : ByteArray := prog_1_method_32_code
def yX11_image : MethodName := ⟨RX11, "image", "(I)Z"⟩
abbrev cX11_again : ByteArray := prog_1_method_33_code
def yX11_again : MethodName := ⟨RX11, "again", "(I)Z"⟩
abbrev cX11_runToStop : ByteArray := prog_1_method_34_code
def yX11_runToStop : MethodName := ⟨RX11, "runToStop", "(II)Z"⟩
abbrev cX11_runToState : ByteArray := prog_1_method_35_code
def yX11_runToState : MethodName := ⟨RX11, "runToState", "(III)Z"⟩
def RX12 : String := "ShoalClaimsModel"
def TX12 : u_T := fun k => match k with
  | 0 => ("ShoalClaimsModel", "code", "I", false)
  | 1 => ("ShoalClaimsModel", "tape", "[B", true)
  | 2 => ("ShoalClaimsModel", "size", "[I", true)
  | 3 => ("ShoalClaimsModel", "fault", "[I", true)
  | 4 => ("ShoalClaimsModel", "faultPlace", "[I", true)
  | 5 => ("ShoalClaimsModel", "many", "[I", true)
  | 6 => ("ShoalClaimsModel", "seas", "[I", true)
  | 7 => ("ShoalClaimsModel", "days", "[I", true)
  | 8 => ("ShoalClaimsModel", "disputes", "[I", true)
  | 9 => ("ShoalClaimsModel", "reached", "I", false)
  | 10 => ("ShoalClaimsModel", "length", "I", false)
  | 11 => ("ShoalClaimsModel", "begins", "I", false)
  | 12 => ("ShoalClaimsModel", "sort", "I", false)
  | 13 => ("ShoalClaimsModel", "value", "I", false)
  | 14 => ("ShoalClaimsModel", "word", "J", false)
  | 15 => ("ShoalClaimsModel", "wrongAt", "I", false)
  | 16 => ("ShoalClaimsModel", "laterFault", "I", false)
  | 17 => ("ShoalClaimsModel", "laterPlace", "I", false)
  | 18 => ("ShoalClaimsModel", "told", "[I", true)
  | 19 => ("ShoalClaimsModel", "read", "[I", true)
  | 20 => ("ShoalClaimsModel", "farCell", "I", false)
  | 21 => ("ShoalClaimsModel", "farOne", "I", false)
  | 22 => ("ShoalClaimsModel", "good", "Z", false)
  | 23 => ("ShoalClaimsModel", "sea", "I", false)
  | 24 => ("ShoalClaimsModel", "wide", "I", false)
  | 25 => ("ShoalClaimsModel", "high", "I", false)
  | 26 => ("ShoalClaimsModel", "side", "I", false)
  | 27 => ("ShoalClaimsModel", "strength", "I", false)
  | 28 => ("ShoalClaimsModel", "boats", "I", false)
  | 29 => ("ShoalClaimsModel", "shoalsTold", "I", false)
  | 30 => ("ShoalClaimsModel", "boatAt", "[I", true)
  | 31 => ("ShoalClaimsModel", "voice", "[I", true)
  | 32 => ("ShoalClaimsModel", "passed", "[I", true)
  | 33 => ("ShoalClaimsModel", "day", "I", false)
  | 34 => ("ShoalClaimsModel", "hour", "I", false)
  | 35 => ("ShoalClaimsModel", "shoals", "I", false)
  | 36 => ("ShoalClaimsModel", "cell", "[I", true)
  | 37 => ("ShoalClaimsModel", "fish", "[I", true)
  | 38 => ("ShoalClaimsModel", "drift", "[I", true)
  | 39 => ("ShoalClaimsModel", "holder", "[I", true)
  | 40 => ("ShoalClaimsModel", "syllables", "[I", true)
  | 41 => ("ShoalClaimsModel", "till", "[I", true)
  | 42 => ("ShoalClaimsModel", "catches", "[I", true)
  | 43 => ("ShoalClaimsModel", "lawful", "[I", true)
  | 44 => ("ShoalClaimsModel", "claimedBy", "[I", true)
  | 45 => ("ShoalClaimsModel", "heardBy", "[I", true)
  | 46 => ("ShoalClaimsModel", "got", "[I", true)
  | 47 => ("ShoalClaimsModel", "held", "[I", true)
  | 48 => ("ShoalClaimsModel", "gave", "[I", true)
  | 49 => ("ShoalClaimsModel", "twiceSet", "I", false)
  | 50 => ("ShoalClaimsModel", "gullOdds", "I", false)
  | 51 => ("ShoalClaimsModel", "seed", "I", false)
  | 52 => ("ShoalClaimsModel", "may", "[Z", true)
  | 53 => ("ShoalClaimsModel", "well", "[Z", true)
  | 54 => ("ShoalClaimsModel", "rows", "[I", true)
  | 55 => ("ShoalClaimsModel", "dispute", "I", false)
  | 56 => ("ShoalClaimsModel", "sayings", "I", false)
  | 57 => ("ShoalClaimsModel", "aheads", "I", false)
  | 58 => ("ShoalClaimsModel", "behind", "[I", true)
  | 59 => ("ShoalClaimsModel", "ordersOf", "[I", true)
  | 60 => ("ShoalClaimsModel", "soonest", "[I", true)
  | 61 => ("ShoalClaimsModel", "latest", "[I", true)
  | 62 => ("ShoalClaimsModel", "firstOrder", "[I", true)
  | _ => ("ShoalClaimsModel", "kept", "[Z", true)
def tyX12 : Nat → FieldType := fun k => match k with
  | 0 => .int
  | 1 => .array .byte
  | 2 => .array .int
  | 3 => .array .int
  | 4 => .array .int
  | 5 => .array .int
  | 6 => .array .int
  | 7 => .array .int
  | 8 => .array .int
  | 9 => .int
  | 10 => .int
  | 11 => .int
  | 12 => .int
  | 13 => .int
  | 14 => .long
  | 15 => .int
  | 16 => .int
  | 17 => .int
  | 18 => .array .int
  | 19 => .array .int
  | 20 => .int
  | 21 => .int
  | 22 => .boolean
  | 23 => .int
  | 24 => .int
  | 25 => .int
  | 26 => .int
  | 27 => .int
  | 28 => .int
  | 29 => .int
  | 30 => .array .int
  | 31 => .array .int
  | 32 => .array .int
  | 33 => .int
  | 34 => .int
  | 35 => .int
  | 36 => .array .int
  | 37 => .array .int
  | 38 => .array .int
  | 39 => .array .int
  | 40 => .array .int
  | 41 => .array .int
  | 42 => .array .int
  | 43 => .array .int
  | 44 => .array .int
  | 45 => .array .int
  | 46 => .array .int
  | 47 => .array .int
  | 48 => .array .int
  | 49 => .int
  | 50 => .int
  | 51 => .int
  | 52 => .array .boolean
  | 53 => .array .boolean
  | 54 => .array .int
  | 55 => .int
  | 56 => .int
  | 57 => .int
  | 58 => .array .int
  | 59 => .array .int
  | 60 => .array .int
  | 61 => .array .int
  | 62 => .array .int
  | _ => .array .boolean
abbrev wsX120 : List Cond := u_ws RX12 TX12 64
theorem nmX12 : ∀ a, a < 64 → ∀ b, b < 64 → a ≠ b → (TX12 a).2.1 ≠ (TX12 b).2.1 := by decide +kernel
theorem tyX12_ok : ∀ k, k < 64 → parseFieldDescriptor (TX12 k).2.2.1 = some (tyX12 k) := by decide +kernel
abbrev cX12_init : ByteArray := prog_14_method_1_code
def yX12_init : MethodName := ⟨RX12, "<init>", "()V"⟩
abbrev cX12_in : ByteArray := prog_14_method_3_code
def yX12_in : MethodName := ⟨RX12, "in", "(III)Z"⟩
abbrev cX12_isIn : ByteArray := prog_14_method_4_code
def yX12_isIn : MethodName := ⟨RX12, "isIn", "(II)Z"⟩
abbrev cX12_ones : ByteArray := prog_14_method_5_code
def yX12_ones : MethodName := ⟨RX12, "ones", "(I)I"⟩
abbrev cX12_greater : ByteArray := prog_14_method_6_code
def yX12_greater : MethodName := ⟨RX12, "greater", "(II)I"⟩
abbrev cX12_lesser : ByteArray := prog_14_method_7_code
def yX12_lesser : MethodName := ⟨RX12, "lesser", "(II)I"⟩
abbrev cX12_copyRow : ByteArray := prog_14_method_8_code
def yX12_copyRow : MethodName := ⟨RX12, "copyRow", "([IIII)V"⟩
abbrev cX12_copyAll : ByteArray := prog_14_method_9_code
def yX12_copyAll : MethodName := ⟨RX12, "copyAll", "(II)V"⟩
abbrev cX12_is : ByteArray := prog_14_method_10_code
def yX12_is : MethodName := ⟨RX12, "is", "(II)Z"⟩
abbrev cX12_feed : ByteArray := prog_14_method_11_code
def yX12_feed : MethodName := ⟨RX12, "feed", "(IIIII)I"⟩
abbrev cX12_four : ByteArray := prog_14_method_12_code
def yX12_four : MethodName := ⟨RX12, "four", "(I)V"⟩
abbrev cX12_end : ByteArray := prog_14_method_13_code
def yX12_end : MethodName := ⟨RX12, "end", "(I)I"⟩
abbrev cX12_see : ByteArray := prog_14_method_14_code
def yX12_see : MethodName := ⟨RX12, "see", "()I"⟩
abbrev cX12_token : ByteArray := prog_14_method_15_code
def yX12_token : MethodName := ⟨RX12, "token", "()V"⟩
abbrev cX12_fails : ByteArray := prog_14_method_16_code
def yX12_fails : MethodName := ⟨RX12, "fails", "()Z"⟩
abbrev cX12_later : ByteArray := prog_14_method_17_code
def yX12_later : MethodName := ⟨RX12, "later", "(II)V"⟩
abbrev cX12_takeBut : ByteArray := prog_14_method_18_code
def yX12_takeBut : MethodName := ⟨RX12, "takeBut", "(IIII)Z"⟩
abbrev cX12_take : ByteArray := prog_14_method_19_code
def yX12_take : MethodName := ⟨RX12, "take", "(III)Z"⟩
abbrev cX12_takeCell : ByteArray := prog_14_method_20_code
def yX12_takeCell : MethodName := ⟨RX12, "takeCell", "(I)Z"⟩
abbrev cX12_full : ByteArray := prog_14_method_21_code
def yX12_full : MethodName := ⟨RX12, "full", "(III)V"⟩
abbrev cX12_keep : ByteArray := prog_14_method_22_code
def yX12_keep : MethodName := ⟨RX12, "keep", "(IIII)V"⟩
abbrev cX12_shoalLine : ByteArray := prog_14_method_23_code
def yX12_shoalLine : MethodName := ⟨RX12, "shoalLine", "()Z"⟩
abbrev cX12_boatLine : ByteArray := prog_14_method_24_code
def yX12_boatLine : MethodName := ⟨RX12, "boatLine", "()Z"⟩
abbrev cX12_coastLine : ByteArray := prog_14_method_25_code
def yX12_coastLine : MethodName := ⟨RX12, "coastLine", "()Z"⟩
abbrev cX12_seaLine : ByteArray := prog_14_method_26_code
def yX12_seaLine : MethodName := ⟨RX12, "seaLine", "(JI)Z"⟩
abbrev cX12_deedBy : ByteArray := prog_14_method_27_code
def yX12_deedBy : MethodName := ⟨RX12, "deedBy", "(J)I"⟩
abbrev cX12_dayLine : ByteArray := prog_14_method_28_code
def yX12_dayLine : MethodName := ⟨RX12, "dayLine", "(JI)Z"⟩
abbrev cX12_disputeLine : ByteArray := prog_14_method_29_code
def yX12_disputeLine : MethodName := ⟨RX12, "disputeLine", "(JI)Z"⟩
abbrev cX12_lines : ByteArray := prog_14_method_30_code
def yX12_lines : MethodName := ⟨RX12, "lines", "(I)Z"⟩
abbrev cX12_isWrong : ByteArray := prog_14_method_31_code
def yX12_isWrong : MethodName := ⟨RX12, "isWrong", "(I)Z"⟩
abbrev cX12_readText : ByteArray := prog_14_method_32_code
def yX12_readText : MethodName := ⟨RX12, "readText", "(I)Z"⟩
abbrev cX12_store : ByteArray := prog_14_method_33_code
def yX12_store : MethodName := ⟨RX12, "store", "([III)V"⟩
abbrev cX12_text : ByteArray := prog_14_method_34_code
def yX12_text : MethodName := ⟨RX12, "text", "(II)I"⟩
abbrev cX12_fault : ByteArray := prog_14_method_35_code
def yX12_fault : MethodName := ⟨RX12, "fault", "(I)I"⟩
abbrev cX12_of : ByteArray := prog_14_method_36_code
def yX12_of : MethodName := ⟨RX12, "of", "(I)I"⟩
abbrev cX12_hand : ByteArray := prog_14_method_37_code
def yX12_hand : MethodName := ⟨RX12, "hand", "(I)Z"⟩
abbrev cX12_isCell : ByteArray := prog_14_method_38_code
def yX12_isCell : MethodName := ⟨RX12, "isCell", "(I)Z"⟩
abbrev cX12_isBoat : ByteArray := prog_14_method_39_code
def yX12_isBoat : MethodName := ⟨RX12, "isBoat", "(I)Z"⟩
abbrev cX12_lawOf : ByteArray := prog_14_method_40_code
def yX12_lawOf : MethodName := ⟨RX12, "lawOf", "(II)I"⟩
abbrev cX12_beside : ByteArray := prog_14_method_41_code
def yX12_beside : MethodName := ⟨RX12, "beside", "(II)I"⟩
abbrev cX12_stepsTo : ByteArray := prog_14_method_42_code
def yX12_stepsTo : MethodName := ⟨RX12, "stepsTo", "(III)I"⟩
abbrev cX12_costOf : ByteArray := prog_14_method_43_code
def yX12_costOf : MethodName := ⟨RX12, "costOf", "(II)I"⟩
abbrev cX12_hearsIt : ByteArray := prog_14_method_44_code
def yX12_hearsIt : MethodName := ⟨RX12, "hearsIt", "(II)Z"⟩
abbrev cX12_hearersOf : ByteArray := prog_14_method_45_code
def yX12_hearersOf : MethodName := ⟨RX12, "hearersOf", "(I)I"⟩
abbrev cX12_sea : ByteArray := prog_14_method_46_code
def yX12_sea : MethodName := ⟨RX12, "sea", "(II)I"⟩
abbrev cX12_shoal : ByteArray := prog_14_method_47_code
def yX12_shoal : MethodName := ⟨RX12, "shoal", "(III)I"⟩
abbrev cX12_boat : ByteArray := prog_14_method_48_code
def yX12_boat : MethodName := ⟨RX12, "boat", "(III)I"⟩
abbrev cX12_far : ByteArray := prog_14_method_49_code
def yX12_far : MethodName := ⟨RX12, "far", "(III)I"⟩
abbrev cX12_passOn : ByteArray := prog_14_method_50_code
def yX12_passOn : MethodName := ⟨RX12, "passOn", "(I)V"⟩
abbrev cX12_hears : ByteArray := prog_14_method_51_code
def yX12_hears : MethodName := ⟨RX12, "hears", "(III)I"⟩
abbrev cX12_loud : ByteArray := prog_14_method_52_code
def yX12_loud : MethodName := ⟨RX12, "loud", "(I)I"⟩
abbrev cX12_deeds : ByteArray := prog_14_method_53_code
def yX12_deeds : MethodName := ⟨RX12, "deeds", "()I"⟩
abbrev cX12_deedOf : ByteArray := prog_14_method_54_code
def yX12_deedOf : MethodName := ⟨RX12, "deedOf", "(II)I"⟩
abbrev cX12_hasDay : ByteArray := prog_14_method_55_code
def yX12_hasDay : MethodName := ⟨RX12, "hasDay", "(I)Z"⟩
abbrev cX12_deed : ByteArray := prog_14_method_56_code
def yX12_deed : MethodName := ⟨RX12, "deed", "(III)I"⟩
abbrev cX12_draw : ByteArray := prog_14_method_57_code
def yX12_draw : MethodName := ⟨RX12, "draw", "(I)I"⟩
abbrev cX12_begin : ByteArray := prog_14_method_58_code
def yX12_begin : MethodName := ⟨RX12, "begin", "()V"⟩
abbrev cX12_isThere : ByteArray := prog_14_method_59_code
def yX12_isThere : MethodName := ⟨RX12, "isThere", "(I)Z"⟩
abbrev cX12_holderNow : ByteArray := prog_14_method_60_code
def yX12_holderNow : MethodName := ⟨RX12, "holderNow", "(I)I"⟩
abbrev cX12_lackOf : ByteArray := prog_14_method_61_code
def yX12_lackOf : MethodName := ⟨RX12, "lackOf", "(IIII)I"⟩
abbrev cX12_heardNow : ByteArray := prog_14_method_62_code
def yX12_heardNow : MethodName := ⟨RX12, "heardNow", "(I)I"⟩
abbrev cX12_claim : ByteArray := prog_14_method_63_code
def yX12_claim : MethodName := ⟨RX12, "claim", "(IIII)V"⟩
abbrev cX12_splits : ByteArray := prog_14_method_64_code
def yX12_splits : MethodName := ⟨RX12, "splits", "(II)Z"⟩
abbrev cX12_nets : ByteArray := prog_14_method_65_code
def yX12_nets : MethodName := ⟨RX12, "nets", "(III)Z"⟩
abbrev cX12_does : ByteArray := prog_14_method_66_code
def yX12_does : MethodName := ⟨RX12, "does", "(I)Z"⟩
abbrev cX12_driftAll : ByteArray := prog_14_method_67_code
def yX12_driftAll : MethodName := ⟨RX12, "driftAll", "()V"⟩
abbrev cX12_play : ByteArray := prog_14_method_68_code
def yX12_play : MethodName := ⟨RX12, "play", "(I)I"⟩
abbrev cX12_layDay : ByteArray := prog_14_method_69_code
def yX12_layDay : MethodName := ⟨RX12, "layDay", "(II)Z"⟩
abbrev cX12_layState : ByteArray := prog_14_method_70_code
def yX12_layState : MethodName := ⟨RX12, "layState", "(III)Z"⟩
abbrev cX12_stop : ByteArray := prog_14_method_71_code
def yX12_stop : MethodName := ⟨RX12, "stop", "(II)I"⟩
abbrev cX12_state : ByteArray := prog_14_method_72_code
def yX12_state : MethodName := ⟨RX12, "state", "(IIIII)I"⟩
abbrev cX12_aloneOf : ByteArray := prog_14_method_73_code
def yX12_aloneOf : MethodName := ⟨RX12, "aloneOf", "(I)I"⟩
abbrev cX12_holdsOf : ByteArray := prog_14_method_74_code
def yX12_holdsOf : MethodName := ⟨RX12, "holdsOf", "(I)I"⟩
abbrev cX12_has : ByteArray := prog_14_method_75_code
def yX12_has : MethodName := ⟨RX12, "has", "(IIIII)I"⟩
abbrev cX12_claimed : ByteArray := prog_14_method_76_code
def yX12_claimed : MethodName := ⟨RX12, "claimed", "(IIIZ)I"⟩
abbrev cX12_shares : ByteArray := prog_14_method_77_code
def yX12_shares : MethodName := ⟨RX12, "shares", "(IIII)I"⟩
abbrev cX12_twice : ByteArray := prog_14_method_78_code
def yX12_twice : MethodName := ⟨RX12, "twice", "(II)I"⟩
abbrev cX12_couldFrom : ByteArray := prog_14_method_79_code
def yX12_couldFrom : MethodName := ⟨RX12, "couldFrom", "(III)Z"⟩
abbrev cX12_moved : ByteArray := prog_14_method_80_code
def yX12_moved : MethodName := ⟨RX12, "moved", "(II)I"⟩
abbrev cX12_findSoon : ByteArray := prog_14_method_81_code
def yX12_findSoon : MethodName := ⟨RX12, "findSoon", "(II)I"⟩
abbrev cX12_layTold : ByteArray := prog_14_method_82_code
def yX12_layTold : MethodName := ⟨RX12, "layTold", "(I)Z"⟩
abbrev cX12_soon : ByteArray := prog_14_method_83_code
def yX12_soon : MethodName := ⟨RX12, "soon", "(IIII)I"⟩
abbrev cX12_shoalsFrom : ByteArray := prog_14_method_84_code
def yX12_shoalsFrom : MethodName := ⟨RX12, "shoalsFrom", "(I)I"⟩
abbrev cX12_fishOf : ByteArray := prog_14_method_85_code
def yX12_fishOf : MethodName := ⟨RX12, "fishOf", "(I)I"⟩
abbrev cX12_berth : ByteArray := prog_14_method_86_code
def yX12_berth : MethodName := ⟨RX12, "berth", "(IIZ)I"⟩
abbrev cX12_pair : ByteArray := prog_14_method_87_code
def yX12_pair : MethodName := ⟨RX12, "pair", "(IIII)I"⟩
abbrev cX12_ofDispute : ByteArray := prog_14_method_88_code
def yX12_ofDispute : MethodName := ⟨RX12, "ofDispute", "(I)I"⟩
abbrev cX12_layAheads : ByteArray := prog_14_method_89_code
def yX12_layAheads : MethodName := ⟨RX12, "layAheads", "(I)V"⟩
abbrev cX12_handDispute : ByteArray := prog_14_method_90_code
def yX12_handDispute : MethodName := ⟨RX12, "handDispute", "(I)Z"⟩
abbrev cX12_findOrders : ByteArray := prog_14_method_91_code
def yX12_findOrders : MethodName := ⟨RX12, "findOrders", "()I"⟩
abbrev cX12_layFirst : ByteArray := prog_14_method_92_code
def yX12_layFirst : MethodName := ⟨RX12, "layFirst", "()Z"⟩
abbrev cX12_sureCouples : ByteArray := prog_14_method_93_code
def yX12_sureCouples : MethodName := ⟨RX12, "sureCouples", "()I"⟩
abbrev cX12_findHours : ByteArray := prog_14_method_94_code
def yX12_findHours : MethodName := ⟨RX12, "findHours", "()Z"⟩
abbrev cX12_firstOnes : ByteArray := prog_14_method_95_code
def yX12_firstOnes : MethodName := ⟨RX12, "firstOnes", "()I"⟩
abbrev cX12_fewestAheads : ByteArray := prog_14_method_96_code
def yX12_fewestAheads : MethodName := ⟨RX12, "fewestAheads", "()I"⟩
abbrev cX12_dispute : ByteArray := prog_14_method_97_code
def yX12_dispute : MethodName := ⟨RX12, "dispute", "(II)I"⟩
abbrev cX12_hours : ByteArray := prog_14_method_98_code
def yX12_hours : MethodName := ⟨RX12, "hours", "(IIZ)I"⟩
abbrev cX12_gulls : ByteArray := prog_14_method_99_code
def yX12_gulls : MethodName := ⟨RX12, "gulls", "(IIIII)I"⟩
abbrev cX12_lack : ByteArray := prog_14_method_100_code
def yX12_lack : MethodName := ⟨RX12, "lack", "(IIIII)I"⟩
abbrev cX12_least : ByteArray := prog_14_method_101_code
def yX12_least : MethodName := ⟨RX12, "least", "(III)I"⟩
abbrev cX12_winds : ByteArray := prog_14_method_102_code
def yX12_winds : MethodName := ⟨RX12, "winds", "(II)I"⟩
abbrev cX12_meet : ByteArray := prog_14_method_103_code
def yX12_meet : MethodName := ⟨RX12, "meet", "(III)I"⟩
abbrev cX12_richest : ByteArray := prog_14_method_104_code
def yX12_richest : MethodName := ⟨RX12, "richest", "()I"⟩
abbrev cX12_luck : ByteArray := prog_14_method_105_code
def yX12_luck : MethodName := ⟨RX12, "luck", "()I"⟩
abbrev cX12_richestCoast : ByteArray := prog_14_method_106_code
def yX12_richestCoast : MethodName := ⟨RX12, "richestCoast", "()I"⟩
abbrev cX12_sum : ByteArray := prog_14_method_107_code
def yX12_sum : MethodName := ⟨RX12, "sum", "(III)I"⟩
abbrev cX12_tells : ByteArray := prog_14_method_108_code
def yX12_tells : MethodName := ⟨RX12, "tells", "(II)I"⟩
abbrev cX12_count : ByteArray := prog_14_method_109_code
def yX12_count : MethodName := ⟨RX12, "count", "(I)I"⟩
abbrev cX12_image : ByteArray := prog_14_method_110_code
def yX12_image : MethodName := ⟨RX12, "image", "(I)Z"⟩
abbrev cX12_again : ByteArray := prog_14_method_111_code
def yX12_again : MethodName := ⟨RX12, "again", "(I)Z"⟩
def RJ6 : String := "java/lang/Integer"
abbrev cJ6_bitCount_0f7a4 : ByteArray := prog_15_method_49_code
def yJ6_bitCount_0f7a4 : MethodName := ⟨RJ6, "bitCount", "(I)I"⟩
def RJ0 : String := "java/lang/String"
abbrev cJ0_length_8abf5 : ByteArray := prog_17_method_54_code
def yJ0_length_8abf5 : MethodName := ⟨RJ0, "length", "()I"⟩
abbrev cJ0_charAt_5068e : ByteArray := prog_17_method_56_code
def yJ0_charAt_5068e : MethodName := ⟨RJ0, "charAt", "(I)C"⟩
abbrev cJ0_coder_7d493 : ByteArray := prog_17_method_152_code
def yJ0_coder_7d493 : MethodName := ⟨RJ0, "coder", "()B"⟩
abbrev cJ0_isLatin1_aae02 : ByteArray := prog_17_method_154_code
def yJ0_isLatin1_aae02 : MethodName := ⟨RJ0, "isLatin1", "()Z"⟩
abbrev cJ0_checkIndex_df160 : ByteArray := prog_17_method_155_code
def yJ0_checkIndex_df160 : MethodName := ⟨RJ0, "checkIndex", "(II)V"⟩
def RJ1 : String := "java/lang/StringLatin1"
abbrev cJ1_charAt_3b067 : ByteArray := prog_18_method_2_code
def yJ1_charAt_3b067 : MethodName := ⟨RJ1, "charAt", "([BI)C"⟩
def RJ7 : String := "java/util/Arrays"
abbrev cJ7_fill_53178 : ByteArray := prog_21_method_103_code
def yJ7_fill_53178 : MethodName := ⟨RJ7, "fill", "([II)V"⟩
def RJ3 : String := "jdk/internal/util/Preconditions"
abbrev cJ3_checkIndex_8e157 : ByteArray := prog_22_method_11_code
def yJ3_checkIndex_8e157 : MethodName := ⟨RJ3, "checkIndex", "(IILjava/util/function/BiFunction;)I"⟩
def RL : String := "ShoalClaimsLaw"
def wsX0_init : List Cond := .code yX0_init cX0_init 1 none :: ([.methodLink RX0 3 objectInit, .instanceMethod objectInit, .code objectInit ⟨#[0xb1]⟩ 1 none, .arrayClass .int, .fieldLink RX0 9 "ShoalClaims$Choices" "near" "[I", .fieldLink RX0 15 "ShoalClaims$Choices" "witnesses" "[I", .fieldLink RX0 18 "ShoalClaims$Choices" "fishTogether" "[I"] ++ wsX00)
def wsX1_init : List Cond := .code yX1_init cX1_init 1 none :: ([.methodLink RX1 3 objectInit, .instanceMethod objectInit, .code objectInit ⟨#[0xb1]⟩ 1 none, .arrayClass .int, .fieldLink RX1 9 "ShoalClaims$Day" "kinds" "[I", .fieldLink RX1 15 "ShoalClaims$Day" "numbers" "[I"] ++ wsX10)
def wsX2_init : List Cond := .code yX2_init cX2_init 1 none :: ([.methodLink RX2 3 objectInit, .instanceMethod objectInit, .code objectInit ⟨#[0xb1]⟩ 1 none, .arrayClass .int, .fieldLink RX2 9 "ShoalClaims$Dispute" "from" "[I", .fieldLink RX2 15 "ShoalClaims$Dispute" "to" "[I", .fieldLink RX2 18 "ShoalClaims$Dispute" "first" "[I", .fieldLink RX2 21 "ShoalClaims$Dispute" "second" "[I"] ++ wsX20)
def wsX3_init : List Cond := .code yX3_init cX3_init 1 none :: ([.methodLink RX3 3 objectInit, .instanceMethod objectInit, .code objectInit ⟨#[0xb1]⟩ 1 none, .arrayClass .int, .fieldLink RX3 9 "ShoalClaims$Orders" "earliest" "[I", .fieldLink RX3 15 "ShoalClaims$Orders" "latest" "[I", .fieldLink RX3 18 "ShoalClaims$Orders" "before" "[I", .fieldLink RX3 21 "ShoalClaims$Orders" "firstOrder" "[I", .fieldLink RX3 24 "ShoalClaims$Orders" "ofSet" "[I", .fieldLink RX3 27 "ShoalClaims$Orders" "costOfCouple" "[I"] ++ wsX30)
def wsX6_init : List Cond := .code yX6_init cX6_init 1 none :: ([.methodLink RX6 3 objectInit, .instanceMethod objectInit, .code objectInit ⟨#[0xb1]⟩ 1 none, .arrayClass .int, .fieldLink RX6 9 "ShoalClaims$Sea" "laws" "[I", .fieldLink RX6 15 "ShoalClaims$Sea" "shoalCell" "[I", .fieldLink RX6 18 "ShoalClaims$Sea" "shoalFish" "[I", .fieldLink RX6 21 "ShoalClaims$Sea" "shoalDrift" "[I", .fieldLink RX6 24 "ShoalClaims$Sea" "boatCell" "[I", .fieldLink RX6 27 "ShoalClaims$Sea" "boatVoice" "[I", .fieldLink RX6 30 "ShoalClaims$Sea" "boatCoast" "[I"] ++ wsX60)
def wsX4_init_r1 : List Cond := [Cond.methodLink RX4 3 objectInit, Cond.instanceMethod objectInit, Cond.code objectInit ⟨#[0xb1]⟩ 1 none, Cond.classLink RX4 9 RX6, Cond.instantiable RX6 15, Cond.initialized RX6, Cond.fieldLink RX4 12 "ShoalClaims$Reader" "sea" "LShoalClaims$Sea;", Cond.classLink RX4 18 RX1, Cond.instantiable RX1 3, Cond.initialized RX1, Cond.fieldLink RX4 21 "ShoalClaims$Reader" "day" "LShoalClaims$Day;", Cond.classLink RX4 25 RX2, Cond.instantiable RX2 6, Cond.initialized RX2, Cond.fieldLink RX4 28 "ShoalClaims$Reader" "dispute" "LShoalClaims$Dispute;", Cond.arrayClass .int, Cond.fieldLink RX4 32 "ShoalClaims$Reader" "numbers" "[I", Cond.fieldLink RX4 36 "ShoalClaims$Reader" "places" "[I", Cond.instanceMethod yX6_init, Cond.code yX6_init cX6_init 1 none, Cond.methodLink RX6 3 objectInit, Cond.fieldLink RX6 9 "ShoalClaims$Sea" "laws" "[I", Cond.fieldLink RX6 15 "ShoalClaims$Sea" "shoalCell" "[I", Cond.fieldLink RX6 18 "ShoalClaims$Sea" "shoalFish" "[I"]
def wsX4_init_r2 : List Cond := [Cond.fieldLink RX6 21 "ShoalClaims$Sea" "shoalDrift" "[I", Cond.fieldLink RX6 24 "ShoalClaims$Sea" "boatCell" "[I", Cond.fieldLink RX6 27 "ShoalClaims$Sea" "boatVoice" "[I", Cond.fieldLink RX6 30 "ShoalClaims$Sea" "boatCoast" "[I", Cond.instanceMethod yX1_init, Cond.code yX1_init cX1_init 1 none, Cond.methodLink RX1 3 objectInit, Cond.fieldLink RX1 9 "ShoalClaims$Day" "kinds" "[I", Cond.fieldLink RX1 15 "ShoalClaims$Day" "numbers" "[I", Cond.instanceMethod yX2_init, Cond.code yX2_init cX2_init 1 none, Cond.methodLink RX2 3 objectInit, Cond.fieldLink RX2 9 "ShoalClaims$Dispute" "from" "[I", Cond.fieldLink RX2 15 "ShoalClaims$Dispute" "to" "[I", Cond.fieldLink RX2 18 "ShoalClaims$Dispute" "first" "[I", Cond.fieldLink RX2 21 "ShoalClaims$Dispute" "second" "[I"]
def wsX4_init : List Cond := .code yX4_init cX4_init 1 none :: ((wsX4_init_r1 ++ wsX4_init_r2) ++ wsX60 ++ wsX40 ++ wsX10 ++ wsX20)
def wsX7_init : List Cond := .code yX7_init cX7_init 1 none :: ([.methodLink RX7 3 objectInit, .instanceMethod objectInit, .code objectInit ⟨#[0xb1]⟩ 1 none, .arrayClass .int, .fieldLink RX7 9 "ShoalClaims$Shoals" "cell" "[I", .fieldLink RX7 15 "ShoalClaims$Shoals" "fish" "[I", .fieldLink RX7 18 "ShoalClaims$Shoals" "drift" "[I", .fieldLink RX7 21 "ShoalClaims$Shoals" "syllables" "[I", .fieldLink RX7 24 "ShoalClaims$Shoals" "lastHour" "[I", .fieldLink RX7 27 "ShoalClaims$Shoals" "holder" "[I"] ++ wsX70)
def wsX5_init : List Cond := .code yX5_init cX5_init 1 none :: ([.methodLink RX5 3 objectInit, .instanceMethod objectInit, .code objectInit ⟨#[0xb1]⟩ 1 none, .classLink RX5 9 RX7, .instantiable RX7 8, .initialized RX7, .fieldLink RX5 12 "ShoalClaims$Run" "shoals" "LShoalClaims$Shoals;", .arrayClass .int, .fieldLink RX5 18 "ShoalClaims$Run" "boatCell" "[I", .fieldLink RX5 22 "ShoalClaims$Run" "boatFish" "[I", .fieldLink RX5 25 "ShoalClaims$Run" "boatLawful" "[I", .fieldLink RX5 28 "ShoalClaims$Run" "coastFish" "[I", .instanceMethod yX7_init, .code yX7_init cX7_init 1 none, .methodLink RX7 3 objectInit, .fieldLink RX7 9 "ShoalClaims$Shoals" "cell" "[I", .fieldLink RX7 15 "ShoalClaims$Shoals" "fish" "[I", .fieldLink RX7 18 "ShoalClaims$Shoals" "drift" "[I", .fieldLink RX7 21 "ShoalClaims$Shoals" "syllables" "[I", .fieldLink RX7 24 "ShoalClaims$Shoals" "lastHour" "[I", .fieldLink RX7 27 "ShoalClaims$Shoals" "holder" "[I"] ++ wsX70 ++ wsX50)
def wsX8_init : List Cond := .code yX8_init cX8_init 1 none :: ([.methodLink RX8 3 objectInit, .instanceMethod objectInit, .code objectInit ⟨#[0xb1]⟩ 1 none, .arrayClass .byte, .fieldLink RX8 9 "ShoalClaims$Tape" "bytes" "[B"] ++ wsX80)
def wsX9_init_r1 : List Cond := [Cond.methodLink RX9 3 objectInit, Cond.instanceMethod objectInit, Cond.code objectInit ⟨#[0xb1]⟩ 1 none, Cond.classLink RX9 9 RX8, Cond.instantiable RX8 2, Cond.initialized RX8, Cond.fieldLink RX9 12 "ShoalClaims$Told" "tape" "LShoalClaims$Tape;", Cond.arrayClass .int, Cond.fieldLink RX9 18 "ShoalClaims$Told" "numbers" "[I", Cond.classLink RX9 22 RX6, Cond.instantiable RX6 15, Cond.initialized RX6, Cond.fieldLink RX9 25 "ShoalClaims$Told" "seas" "[LShoalClaims$Sea;", Cond.classLink RX9 29 RX1, Cond.instantiable RX1 3, Cond.initialized RX1, Cond.fieldLink RX9 32 "ShoalClaims$Told" "days" "[LShoalClaims$Day;", Cond.classLink RX9 36 RX2, Cond.instantiable RX2 6, Cond.initialized RX2, Cond.fieldLink RX9 39 "ShoalClaims$Told" "disputes" "[LShoalClaims$Dispute;", Cond.fieldLink RX9 43 "ShoalClaims$Told" "place" "I", Cond.instanceMethod yX8_init, Cond.code yX8_init cX8_init 1 none]
def wsX9_init_r2 : List Cond := [Cond.methodLink RX8 3 objectInit, Cond.arrayClass .byte, Cond.fieldLink RX8 9 "ShoalClaims$Tape" "bytes" "[B", Cond.instanceMethod yX6_init, Cond.code yX6_init cX6_init 1 none, Cond.methodLink RX6 3 objectInit, Cond.fieldLink RX6 9 "ShoalClaims$Sea" "laws" "[I", Cond.fieldLink RX6 15 "ShoalClaims$Sea" "shoalCell" "[I", Cond.fieldLink RX6 18 "ShoalClaims$Sea" "shoalFish" "[I", Cond.fieldLink RX6 21 "ShoalClaims$Sea" "shoalDrift" "[I", Cond.fieldLink RX6 24 "ShoalClaims$Sea" "boatCell" "[I", Cond.fieldLink RX6 27 "ShoalClaims$Sea" "boatVoice" "[I", Cond.fieldLink RX6 30 "ShoalClaims$Sea" "boatCoast" "[I", Cond.instanceMethod yX1_init, Cond.code yX1_init cX1_init 1 none, Cond.methodLink RX1 3 objectInit, Cond.fieldLink RX1 9 "ShoalClaims$Day" "kinds" "[I", Cond.fieldLink RX1 15 "ShoalClaims$Day" "numbers" "[I", Cond.instanceMethod yX2_init, Cond.code yX2_init cX2_init 1 none, Cond.methodLink RX2 3 objectInit, Cond.fieldLink RX2 9 "ShoalClaims$Dispute" "from" "[I", Cond.fieldLink RX2 15 "ShoalClaims$Dispute" "to" "[I", Cond.fieldLink RX2 18 "ShoalClaims$Dispute" "first" "[I"]
def wsX9_init_r3 : List Cond := [Cond.fieldLink RX2 21 "ShoalClaims$Dispute" "second" "[I"]
def wsX9_init : List Cond := .code yX9_init cX9_init 1 none :: ((wsX9_init_r1 ++ (wsX9_init_r2 ++ wsX9_init_r3)) ++ wsX80 ++ wsX90 ++ wsX60 ++ wsX10 ++ wsX20)
def wsX10_init : List Cond := .code yX10_init cX10_init 1 none :: ([.methodLink RX10 3 objectInit, .instanceMethod objectInit, .code objectInit ⟨#[0xb1]⟩ 1 none, .classLink RX10 9 RX6, .instantiable RX6 15, .initialized RX6, .fieldLink RX10 12 "ShoalClaims$Words" "trial" "LShoalClaims$Sea;", .instanceMethod yX6_init, .code yX6_init cX6_init 1 none, .methodLink RX6 3 objectInit, .arrayClass .int, .fieldLink RX6 9 "ShoalClaims$Sea" "laws" "[I", .fieldLink RX6 15 "ShoalClaims$Sea" "shoalCell" "[I", .fieldLink RX6 18 "ShoalClaims$Sea" "shoalFish" "[I", .fieldLink RX6 21 "ShoalClaims$Sea" "shoalDrift" "[I", .fieldLink RX6 24 "ShoalClaims$Sea" "boatCell" "[I", .fieldLink RX6 27 "ShoalClaims$Sea" "boatVoice" "[I", .fieldLink RX6 30 "ShoalClaims$Sea" "boatCoast" "[I"] ++ wsX60 ++ wsX100)
def wsX11_init_r1 : List Cond := [Cond.methodLink RX11 1 objectInit, Cond.instanceMethod objectInit, Cond.code objectInit ⟨#[0xb1]⟩ 1 none, Cond.classLink RX11 7 RX9, Cond.instantiable RX9 7, Cond.initialized RX9, Cond.fieldLink RX11 10 "ShoalClaims" "told" "LShoalClaims$Told;", Cond.fieldLink RX11 16 "ShoalClaims" "images" "[LShoalClaims$Told;", Cond.classLink RX11 20 RX4, Cond.instantiable RX4 10, Cond.initialized RX4, Cond.fieldLink RX11 23 "ShoalClaims" "reader" "LShoalClaims$Reader;", Cond.classLink RX11 27 RX5, Cond.instantiable RX5 16, Cond.initialized RX5, Cond.fieldLink RX11 30 "ShoalClaims" "run" "LShoalClaims$Run;", Cond.classLink RX11 34 RX10, Cond.instantiable RX10 4, Cond.initialized RX10, Cond.fieldLink RX11 37 "ShoalClaims" "words" "LShoalClaims$Words;", Cond.classLink RX11 41 RX0, Cond.instantiable RX0 7, Cond.initialized RX0, Cond.fieldLink RX11 44 "ShoalClaims" "choices" "LShoalClaims$Choices;"]
def wsX11_init_r2 : List Cond := [Cond.classLink RX11 48 RX3, Cond.instantiable RX3 6, Cond.initialized RX3, Cond.fieldLink RX11 51 "ShoalClaims" "orders" "LShoalClaims$Orders;", Cond.instanceMethod yX9_init, Cond.code yX9_init cX9_init 1 none, Cond.methodLink RX9 3 objectInit, Cond.classLink RX9 9 RX8, Cond.instantiable RX8 2, Cond.initialized RX8, Cond.fieldLink RX9 12 "ShoalClaims$Told" "tape" "LShoalClaims$Tape;", Cond.arrayClass .int, Cond.fieldLink RX9 18 "ShoalClaims$Told" "numbers" "[I", Cond.classLink RX9 22 RX6, Cond.instantiable RX6 15, Cond.initialized RX6, Cond.fieldLink RX9 25 "ShoalClaims$Told" "seas" "[LShoalClaims$Sea;", Cond.classLink RX9 29 RX1, Cond.instantiable RX1 3, Cond.initialized RX1, Cond.fieldLink RX9 32 "ShoalClaims$Told" "days" "[LShoalClaims$Day;", Cond.classLink RX9 36 RX2, Cond.instantiable RX2 6, Cond.initialized RX2]
def wsX11_init_r3 : List Cond := [Cond.fieldLink RX9 39 "ShoalClaims$Told" "disputes" "[LShoalClaims$Dispute;", Cond.fieldLink RX9 43 "ShoalClaims$Told" "place" "I", Cond.instanceMethod yX8_init, Cond.code yX8_init cX8_init 1 none, Cond.methodLink RX8 3 objectInit, Cond.arrayClass .byte, Cond.fieldLink RX8 9 "ShoalClaims$Tape" "bytes" "[B", Cond.instanceMethod yX6_init, Cond.code yX6_init cX6_init 1 none, Cond.methodLink RX6 3 objectInit, Cond.fieldLink RX6 9 "ShoalClaims$Sea" "laws" "[I", Cond.fieldLink RX6 15 "ShoalClaims$Sea" "shoalCell" "[I", Cond.fieldLink RX6 18 "ShoalClaims$Sea" "shoalFish" "[I", Cond.fieldLink RX6 21 "ShoalClaims$Sea" "shoalDrift" "[I", Cond.fieldLink RX6 24 "ShoalClaims$Sea" "boatCell" "[I", Cond.fieldLink RX6 27 "ShoalClaims$Sea" "boatVoice" "[I", Cond.fieldLink RX6 30 "ShoalClaims$Sea" "boatCoast" "[I", Cond.instanceMethod yX1_init, Cond.code yX1_init cX1_init 1 none, Cond.methodLink RX1 3 objectInit, Cond.fieldLink RX1 9 "ShoalClaims$Day" "kinds" "[I", Cond.fieldLink RX1 15 "ShoalClaims$Day" "numbers" "[I", Cond.instanceMethod yX2_init, Cond.code yX2_init cX2_init 1 none]
def wsX11_init_r4 : List Cond := [Cond.methodLink RX2 3 objectInit, Cond.fieldLink RX2 9 "ShoalClaims$Dispute" "from" "[I", Cond.fieldLink RX2 15 "ShoalClaims$Dispute" "to" "[I", Cond.fieldLink RX2 18 "ShoalClaims$Dispute" "first" "[I", Cond.fieldLink RX2 21 "ShoalClaims$Dispute" "second" "[I", Cond.instanceMethod yX4_init, Cond.code yX4_init cX4_init 1 none, Cond.methodLink RX4 3 objectInit, Cond.classLink RX4 9 RX6, Cond.fieldLink RX4 12 "ShoalClaims$Reader" "sea" "LShoalClaims$Sea;", Cond.classLink RX4 18 RX1, Cond.fieldLink RX4 21 "ShoalClaims$Reader" "day" "LShoalClaims$Day;", Cond.classLink RX4 25 RX2, Cond.fieldLink RX4 28 "ShoalClaims$Reader" "dispute" "LShoalClaims$Dispute;", Cond.fieldLink RX4 32 "ShoalClaims$Reader" "numbers" "[I", Cond.fieldLink RX4 36 "ShoalClaims$Reader" "places" "[I", Cond.instanceMethod yX5_init, Cond.code yX5_init cX5_init 1 none, Cond.methodLink RX5 3 objectInit, Cond.classLink RX5 9 RX7, Cond.instantiable RX7 8, Cond.initialized RX7, Cond.fieldLink RX5 12 "ShoalClaims$Run" "shoals" "LShoalClaims$Shoals;", Cond.fieldLink RX5 18 "ShoalClaims$Run" "boatCell" "[I"]
def wsX11_init_r5 : List Cond := [Cond.fieldLink RX5 22 "ShoalClaims$Run" "boatFish" "[I", Cond.fieldLink RX5 25 "ShoalClaims$Run" "boatLawful" "[I", Cond.fieldLink RX5 28 "ShoalClaims$Run" "coastFish" "[I", Cond.instanceMethod yX7_init, Cond.code yX7_init cX7_init 1 none, Cond.methodLink RX7 3 objectInit, Cond.fieldLink RX7 9 "ShoalClaims$Shoals" "cell" "[I", Cond.fieldLink RX7 15 "ShoalClaims$Shoals" "fish" "[I", Cond.fieldLink RX7 18 "ShoalClaims$Shoals" "drift" "[I", Cond.fieldLink RX7 21 "ShoalClaims$Shoals" "syllables" "[I", Cond.fieldLink RX7 24 "ShoalClaims$Shoals" "lastHour" "[I", Cond.fieldLink RX7 27 "ShoalClaims$Shoals" "holder" "[I", Cond.instanceMethod yX10_init, Cond.code yX10_init cX10_init 1 none, Cond.methodLink RX10 3 objectInit, Cond.classLink RX10 9 RX6, Cond.fieldLink RX10 12 "ShoalClaims$Words" "trial" "LShoalClaims$Sea;", Cond.instanceMethod yX0_init, Cond.code yX0_init cX0_init 1 none, Cond.methodLink RX0 3 objectInit, Cond.fieldLink RX0 9 "ShoalClaims$Choices" "near" "[I", Cond.fieldLink RX0 15 "ShoalClaims$Choices" "witnesses" "[I", Cond.fieldLink RX0 18 "ShoalClaims$Choices" "fishTogether" "[I", Cond.instanceMethod yX3_init]
def wsX11_init_r6 : List Cond := [Cond.code yX3_init cX3_init 1 none, Cond.methodLink RX3 3 objectInit, Cond.fieldLink RX3 9 "ShoalClaims$Orders" "earliest" "[I", Cond.fieldLink RX3 15 "ShoalClaims$Orders" "latest" "[I", Cond.fieldLink RX3 18 "ShoalClaims$Orders" "before" "[I", Cond.fieldLink RX3 21 "ShoalClaims$Orders" "firstOrder" "[I", Cond.fieldLink RX3 24 "ShoalClaims$Orders" "ofSet" "[I", Cond.fieldLink RX3 27 "ShoalClaims$Orders" "costOfCouple" "[I"]
def wsX11_init : List Cond := .code yX11_init cX11_init 1 none :: ((wsX11_init_r1 ++ (wsX11_init_r2 ++ (wsX11_init_r3 ++ (wsX11_init_r4 ++ (wsX11_init_r5 ++ wsX11_init_r6))))) ++ wsX90 ++ wsX110 ++ wsX40 ++ wsX50 ++ wsX100 ++ wsX00 ++ wsX30 ++ wsX80 ++ wsX60 ++ wsX10 ++ wsX20 ++ wsX70)
def wsX12_init_r1 : List Cond := [Cond.methodLink RX12 1 objectInit, Cond.instanceMethod objectInit, Cond.code objectInit ⟨#[0xb1]⟩ 1 none, Cond.arrayClass .byte, Cond.fieldLink RX12 7 "ShoalClaimsModel" "tape" "[B", Cond.arrayClass .int, Cond.fieldLink RX12 13 "ShoalClaimsModel" "size" "[I", Cond.fieldLink RX12 17 "ShoalClaimsModel" "fault" "[I", Cond.fieldLink RX12 20 "ShoalClaimsModel" "faultPlace" "[I", Cond.fieldLink RX12 23 "ShoalClaimsModel" "many" "[I", Cond.fieldLink RX12 26 "ShoalClaimsModel" "seas" "[I", Cond.fieldLink RX12 29 "ShoalClaimsModel" "days" "[I", Cond.fieldLink RX12 32 "ShoalClaimsModel" "disputes" "[I", Cond.fieldLink RX12 35 "ShoalClaimsModel" "told" "[I", Cond.fieldLink RX12 38 "ShoalClaimsModel" "read" "[I", Cond.fieldLink RX12 41 "ShoalClaimsModel" "boatAt" "[I", Cond.fieldLink RX12 44 "ShoalClaimsModel" "voice" "[I", Cond.fieldLink RX12 47 "ShoalClaimsModel" "passed" "[I", Cond.fieldLink RX12 50 "ShoalClaimsModel" "cell" "[I", Cond.fieldLink RX12 53 "ShoalClaimsModel" "fish" "[I", Cond.fieldLink RX12 56 "ShoalClaimsModel" "drift" "[I", Cond.fieldLink RX12 59 "ShoalClaimsModel" "holder" "[I", Cond.fieldLink RX12 62 "ShoalClaimsModel" "syllables" "[I", Cond.fieldLink RX12 65 "ShoalClaimsModel" "till" "[I"]
def wsX12_init_r2 : List Cond := [Cond.fieldLink RX12 68 "ShoalClaimsModel" "catches" "[I", Cond.fieldLink RX12 71 "ShoalClaimsModel" "lawful" "[I", Cond.fieldLink RX12 74 "ShoalClaimsModel" "claimedBy" "[I", Cond.fieldLink RX12 77 "ShoalClaimsModel" "heardBy" "[I", Cond.fieldLink RX12 80 "ShoalClaimsModel" "got" "[I", Cond.fieldLink RX12 83 "ShoalClaimsModel" "held" "[I", Cond.fieldLink RX12 86 "ShoalClaimsModel" "gave" "[I", Cond.arrayClass .boolean, Cond.fieldLink RX12 89 "ShoalClaimsModel" "may" "[Z", Cond.fieldLink RX12 93 "ShoalClaimsModel" "well" "[Z", Cond.fieldLink RX12 96 "ShoalClaimsModel" "rows" "[I", Cond.fieldLink RX12 99 "ShoalClaimsModel" "behind" "[I", Cond.fieldLink RX12 102 "ShoalClaimsModel" "ordersOf" "[I", Cond.fieldLink RX12 105 "ShoalClaimsModel" "soonest" "[I", Cond.fieldLink RX12 108 "ShoalClaimsModel" "latest" "[I", Cond.fieldLink RX12 111 "ShoalClaimsModel" "firstOrder" "[I", Cond.fieldLink RX12 114 "ShoalClaimsModel" "kept" "[Z"]
def wsX12_init : List Cond := .code yX12_init cX12_init 1 none :: ((wsX12_init_r1 ++ wsX12_init_r2) ++ wsX120)
abbrev vwCl : List vw_C := [(RX0, TX0, 7), (RX1, TX1, 3), (RX2, TX2, 6), (RX3, TX3, 6), (RX4, TX4, 10), (RX5, TX5, 16), (RX6, TX6, 15), (RX7, TX7, 8), (RX8, TX8, 2), (RX9, TX9, 7), (RX10, TX10, 4), (RX11, TX11, 7), (RX12, TX12, 64)]
end
section
/-! the array classes of the worlds, what the tables say of nest mates, and the forms of the contracts -/
abbrev tyW (cy : Nat → ClassId) : List (ClassId × FieldType) := [(cy 0, .int), (cy 1, .byte), (cy 2, .boolean), (cy 3, .object "ShoalClaims$Sea"), (cy 4, .object "ShoalClaims$Day"), (cy 5, .object "ShoalClaims$Dispute"), (cy 6, .object "ShoalClaims$Told")]
abbrev nL (own : String) (i : Nat) (y : MethodName) : Cond := .methodLinkNest own i y "ShoalClaims"
def nq (U : State) : Prop :=
  (va_Nw (nL RX11 9 yX9_init) U ∧ va_Nw (nL RX11 22 yX4_init) U ∧ va_Nw (nL RX11 29 yX5_init) U ∧ va_Nw (nL RX11 36 yX10_init) U ∧ va_Nw (nL RX11 43 yX0_init) U ∧ va_Nw (nL RX11 50 yX3_init) U) ∧
  (va_Nw (nL RX9 11 yX8_init) U ∧ va_Nw (nL RX9 24 yX6_init) U ∧ va_Nw (nL RX9 31 yX1_init) U ∧ va_Nw (nL RX9 38 yX2_init) U) ∧
  (va_Nw (nL RX4 11 yX6_init) U ∧ va_Nw (nL RX4 20 yX1_init) U ∧ va_Nw (nL RX4 27 yX2_init) U) ∧
  va_Nw (nL RX5 11 yX7_init) U ∧ va_Nw (nL RX10 11 yX6_init) U ∧
  (va_AO "ShoalClaims$Sea" U ∧ va_AO "ShoalClaims$Day" U ∧ va_AO "ShoalClaims$Dispute" U ∧ va_AO "ShoalClaims$Told" U)
theorem nq.warm {s U : State} (hW : s.WarmedH U.vm) (h : nq s) : nq U := by
  obtain ⟨⟨a1, a2, a3, a4, a5, a6⟩, ⟨b1, b2, b3, b4⟩, ⟨c1, c2, c3⟩, d1, e1, f1, f2, f3, f4⟩ := h
  exact ⟨⟨a1.warmM hW, a2.warmM hW, a3.warmM hW, a4.warmM hW, a5.warmM hW, a6.warmM hW⟩, ⟨b1.warmM hW, b2.warmM hW, b3.warmM hW, b4.warmM hW⟩, ⟨c1.warmM hW, c2.warmM hW, c3.warmM hW⟩, d1.warmM hW, e1.warmM hW, f1.moved hW.alike, f2.moved hW.alike, f3.moved hW.alike, f4.moved hW.alike⟩
theorem nq.same {u U : State} (hv : u.vm = U.vm) (h : nq u) : nq U := by
  obtain ⟨⟨a1, a2, a3, a4, a5, a6⟩, ⟨b1, b2, b3, b4⟩, ⟨c1, c2, c3⟩, d1, e1, f1, f2, f3, f4⟩ := h
  have ha : u.vm.Alike U.vm := by rw [hv]; exact Vm.Alike.refl U.vm
  exact ⟨⟨a1.same rfl hv, a2.same rfl hv, a3.same rfl hv, a4.same rfl hv, a5.same rfl hv, a6.same rfl hv⟩, ⟨b1.same rfl hv, b2.same rfl hv, b3.same rfl hv, b4.same rfl hv⟩, ⟨c1.same rfl hv, c2.same rfl hv, c3.same rfl hv⟩, d1.same rfl hv, e1.same rfl hv, f1.moved ha, f2.moved ha, f3.moved ha, f4.moved ha⟩
def KW (D : va_G) (cy : Nat → ClassId) (U : State) : Prop := va_K D vwCl (tyW cy) U ∧ nq U
theorem KW.warm {D : va_G} {cy : Nat → ClassId} {s U : State} (hW : s.WarmedH U.vm) (h : KW D cy s) : KW D cy U := ⟨va_K.moved hW.alike h.1, h.2.warm hW⟩
theorem KW.call {D : va_G} {cy : Nat → ClassId} {U : State} {g : JFrame} {mk : MethodId} {a : Array Value} (h : KW D cy U) : KW D cy (U.calling g mk a) := ⟨va_K.moved (u := U) (U := U.calling g mk a) (Vm.Alike.refl U.vm) h.1, h.2.same rfl⟩
/-- a reader's start: the cells, the classes -/
def PR (D : va_G) (cy : Nat → ClassId) (ws : va_W) (U : State) : Prop := va_P D vwCl ws U.heap ∧ KW D cy U
/-- a writer's start: besides, the heap's size and that the cells are apart -/
def PW (D : va_G) (cy : Nat → ClassId) (ws : va_W) (sz : Nat) (U : State) : Prop := U.heap.size = sz ∧ va_P D vwCl ws U.heap ∧ KW D cy U ∧ va_D (fun _ => True) ws
theorem pwB {D : va_G} {cy : Nat → ClassId} {ws : va_W} {sz : Nat} {av : List Value} : FrameBlind (va_Pc av (PW D cy ws sz)) := fun _ _ _ _ q => ⟨q.1, q.2.1, q.2.2.1, q.2.2.2.1.call, q.2.2.2.2⟩
theorem PR.of {D : va_G} {cy : Nat → ClassId} {ws : va_W} {s U : State} {H : Heap} (hU : U.heap = H) (hW : s.WarmedH U.vm) (hK : KW D cy s) (hP : va_P D vwCl ws H) : PR D cy ws U := ⟨by rw [hU]; exact hP, hK.warm hW⟩
theorem PW.of {D : va_G} {cy : Nat → ClassId} {ws : va_W} {s U : State} {H : Heap} {A : Nat → Prop} (hU : U.heap = H) (hW : s.WarmedH U.vm) (hK : KW D cy s) (hP : va_P D vwCl ws H) (hD : va_D A ws) : PW D cy ws H.size U := ⟨by rw [hU], by rw [hU]; exact hP, hK.warm hW, hD.weaken (fun _ _ _ _ => trivial)⟩
theorem ra_inj {s : State} {a b : ClassId} {ty : FieldType} (h1 : va_RA s a ty) (h2 : va_RA s b ty) : a = b := by
  cases ty with
  | object C =>
    obtain ⟨_, _, _, _, _, h⟩ := h1
    obtain ⟨_, _, _, _, _, h'⟩ := h2
    exact Option.some.inj (h.symm.trans h')
  | _ => exact Option.some.inj (Eq.trans (Eq.symm h1) h2)
section BSE
variable {p : Program} {l : Launch} {e : Env} {R : Room} {s : State} {m : MethodId} {args : Array Value} {below : List Frame} {meth : Method} {c : Code} {H : Heap} {locs : List Loc} {cells slots : Nat} {Q : State → Prop}
variable {cc : ByteArray} {pc : Nat} {ls : Array Slot} {rest st0 : List Value} {a : Array Value} {D : va_G} {cl : List vw_C} {A : Nat → Prop} {tys : List (ClassId × FieldType)} {ws : va_W} {H0 : Heap}
/-- a new array of numbers, of the class that the worlds know -/
theorem nw_a (hexec : p.tables.exec = Jvm.exec) (hb : c.code = cc) {atype : ArrayType} (harr : (Cond.arrayClass (newarray.typeOf atype)).before args s = true) {ty : FieldType} (hty : newarray.typeOf atype = ty) (hK : va_K D cl tys s) (hP : va_P D cl ws H) (hD : va_D A ws) (hS : va_S A H0 H locs) (hA : ∀ q, H0.size ≤ q → A q)
    (t0 : Nat) {cI : ClassId} (ht : tys[t0]? = some (cI, ty)) (hz : defaultValue ty = .int 0) {n : Int32} (N' : Nat) (hn : ¬ n < 0) (hN : n.toNatClampNeg = N') (hbytes : N' * componentBytes ty ≤ 536870912) (hcells : cells + 1 ≤ R.cells) (hslots : slots + N' ≤ R.slots) (hdg : decode cc pc = .ok (.newarray atype, 2))
    (kk : ∀ (q : Nat) (H1 : Heap), va_P D cl (ws ++ [(q, .inl (cI, N', .inl (fun _ => 0)))]) H1 → va_D A (ws ++ [(q, .inl (cI, N', .inl (fun _ => 0)))]) → va_S A H0 H1 locs →
      W p l e R s m args below meth c H1 locs (cells + 1) (slots + N') Q (F0 m (pc + 2) ls (.ref q :: rest))) : W p l e R s m args below meth c H locs cells slots Q (F0 m pc ls (.int n :: rest)) := by
  refine va_newa (a0 := (N', .inl (fun _ => 0))) hexec hb harr hty hK hP hD hS hA (fun cA => by rw [vp_cell_i, hz]) hn hN hbytes hcells hslots hdg (fun q cA H1 hK' hP' hD' hS' => ?_)
  have e1 : cA = cI := by
    have hlt : t0 < tys.length := (List.getElem?_eq_some_iff.mp ht).1
    have h1 := (hK'.2 t0 (cI, ty) (by rw [List.getElem?_append_left hlt]; exact ht)).2
    have h2 := (hK'.2 tys.length (cA, ty) (by rw [List.getElem?_append_right (Nat.le_refl _), Nat.sub_self]; rfl)).2
    exact ra_inj h2 h1
  subst e1
  exact kk q H1 hP' hD' hS'
/-- a new array of references, of the class that the worlds know -/
theorem nw_q (hexec : p.tables.exec = Jvm.exec) (hb : c.code = cc) {own C : String} {index : Nat} (hown : s.vm.findClass own = some m.cls) (hclink : (Cond.classLink own index C).before args s = true) (hover : va_AO C s) (hK : va_K D cl tys s) (hP : va_P D cl ws H) (hD : va_D A ws) (hS : va_S A H0 H locs) (hA : ∀ q, H0.size ≤ q → A q)
    (t0 : Nat) {cI : ClassId} (ht : tys[t0]? = some (cI, .object C)) {n : Int32} (N' : Nat) (hn : ¬ n < 0) (hN : n.toNatClampNeg = N') (hbytes : N' * 4 ≤ 536870912) (hcells : cells + 1 ≤ R.cells) (hslots : slots + N' ≤ R.slots) (hdg : decode cc pc = .ok (.anewarray index, 3))
    (kk : ∀ (q : Nat) (H1 : Heap), va_P D cl (ws ++ [(q, .inl (cI, N', .inr (.inr (.inr (.inr (fun _ => none))))))]) H1 → va_D A (ws ++ [(q, .inl (cI, N', .inr (.inr (.inr (.inr (fun _ => none))))))]) → va_S A H0 H1 locs →
      W p l e R s m args below meth c H1 locs (cells + 1) (slots + N') Q (F0 m (pc + 3) ls (.ref q :: rest))) : W p l e R s m args below meth c H locs cells slots Q (F0 m pc ls (.int n :: rest)) := by
  refine va_newq hexec hb hown hclink hover hK hP hD hS hA hn hN hbytes hcells hslots hdg (fun q cA H1 hK' hP' hD' hS' => ?_)
  have e1 : cA = cI := by
    have hlt : t0 < tys.length := (List.getElem?_eq_some_iff.mp ht).1
    have h1 := (hK'.2 t0 (cI, .object C) (by rw [List.getElem?_append_left hlt]; exact ht)).2
    have h2 := (hK'.2 tys.length (cA, .object C) (by rw [List.getElem?_append_right (Nat.le_refl _), Nat.sub_self]; rfl)).2
    exact ra_inj h2 h1
  subst e1
  exact kk q H1 hP' hD' hS'
/-- a call of a reader: the heap is as it was -/
theorem pc_i {post : Int32 → Prop} (hr : va_Run p l e R s m args below meth c H locs cells slots 0 0 (F0 m pc ls st0) rest (vp_Si post a) (fun _ => False))
    (kk : ∀ r : Int32, post r → W p l e R s m args below meth c H locs cells slots Q (F0 m (pc + 3) ls (.int r :: rest))) : W p l e R s m args below meth c H locs cells slots Q (F0 m pc ls st0) := by
  intro T hT X
  obtain ⟨v, st₀, t, T', L, h0, X', hL, e1, e2, ⟨r, hv, hp, hh⟩, st⟩ := hr T hT X
  cases hv
  obtain ⟨t2, a1, b1⟩ := kk r hp T' (by rw [e1, hh, h0]) (Stand.forget X' (fun q h => (hL q h).elim))
  exact ⟨t2, st t2 a1, b1⟩
end BSE
section BSF
variable {p : Program} {l : Launch} {e : Env} {R : Room} {s : State} {m : MethodId} {args : Array Value} {below : List Frame} {meth : Method} {c : Code} {H : Heap} {locs : List Loc} {cells slots : Nat} {Q : State → Prop}
variable {pc : Nat} {ls : Array Slot} {rest : List Value}
/-- the top of the stack, said otherwise -/
theorem tp_i {x : Int32} (y : Int32) (h : x = y) (k : W p l e R s m args below meth c H locs cells slots Q (F0 m pc ls (.int y :: rest))) : W p l e R s m args below meth c H locs cells slots Q (F0 m pc ls (.int x :: rest)) := h ▸ k
end BSF
theorem vi_c {i : Int32} {n : Nat} (h : (decide (i < 0) || decide (n ≤ i.toNatClampNeg)) = false) : vp_in i n := by
  unfold vp_in
  simp only [Bool.or_eq_false_iff, decide_eq_false_iff_not] at h
  exact fun q => q.elim h.1 h.2
/-- a row of two references -/
def ar2 (a b : Nat) : Nat → Option Nat := va_up (va_up (fun _ => none) 0 (some a)) 1 (some b)
end
section
/-! the words that all methods take; kinds -/
def zTW : List Cond := lw_tbl.filter goodWord
theorem zTW_good : zgoodW zTW := fun w hw => good_of_word (List.mem_filter.mp hw).2
theorem zTin {w : Cond} (i : Nat) (h : lw_tbl[i]? = some w) (hg : goodWord w = true) : w ∈ zTW := List.mem_filter.mpr ⟨List.mem_of_getElem? h, hg⟩
theorem zTi_1 {w : Cond} (i : Nat) (h : tables_1_1[i]? = some w) (hg : goodWord w = true) : w ∈ zTW := List.mem_filter.mpr ⟨List.mem_append_right _ (tm_1 h), hg⟩
theorem zTi_2 {w : Cond} (i : Nat) (h : tables_1_2[i]? = some w) (hg : goodWord w = true) : w ∈ zTW := List.mem_filter.mpr ⟨List.mem_append_right _ (tm_2 h), hg⟩
theorem zTi_3 {w : Cond} (i : Nat) (h : tables_1_3[i]? = some w) (hg : goodWord w = true) : w ∈ zTW := List.mem_filter.mpr ⟨List.mem_append_right _ (tm_3 h), hg⟩
theorem zTi_4 {w : Cond} (i : Nat) (h : tables_1_4[i]? = some w) (hg : goodWord w = true) : w ∈ zTW := List.mem_filter.mpr ⟨List.mem_append_right _ (tm_4 h), hg⟩
theorem zTi_5 {w : Cond} (i : Nat) (h : tables_1_5[i]? = some w) (hg : goodWord w = true) : w ∈ zTW := List.mem_filter.mpr ⟨List.mem_append_right _ (tm_5 h), hg⟩
theorem zTi_6 {w : Cond} (i : Nat) (h : tables_1_6[i]? = some w) (hg : goodWord w = true) : w ∈ zTW := List.mem_filter.mpr ⟨List.mem_append_right _ (tm_6 h), hg⟩
theorem zTi_7 {w : Cond} (i : Nat) (h : tables_1_7[i]? = some w) (hg : goodWord w = true) : w ∈ zTW := List.mem_filter.mpr ⟨List.mem_append_right _ (tm_7 h), hg⟩
theorem zTi_8 {w : Cond} (i : Nat) (h : tables_1_8[i]? = some w) (hg : goodWord w = true) : w ∈ zTW := List.mem_filter.mpr ⟨List.mem_append_right _ (tm_8 h), hg⟩
def tbC (k : Nat) : List Cond :=
  match k with
  | 1 => tables_1_1
  | 2 => tables_1_2
  | 3 => tables_1_3
  | 4 => tables_1_4
  | 5 => tables_1_5
  | 6 => tables_1_6
  | 7 => tables_1_7
  | 8 => tables_1_8
  | _ => []
theorem tbC_in {w : Cond} {k i : Nat} (h : (tbC k)[i]? = some w) : w ∈ lw_tbl := by
  unfold tbC at h
  split at h
  · exact List.mem_append_right _ (tm_1 h)
  · exact List.mem_append_right _ (tm_2 h)
  · exact List.mem_append_right _ (tm_3 h)
  · exact List.mem_append_right _ (tm_4 h)
  · exact List.mem_append_right _ (tm_5 h)
  · exact List.mem_append_right _ (tm_6 h)
  · exact List.mem_append_right _ (tm_7 h)
  · exact List.mem_append_right _ (tm_8 h)
  · cases h
theorem zTpm (ws : List Cond) (ps : List (Nat × Nat)) (hp : ws = ps.filterMap (fun q => (tbC q.1)[q.2]?)) (hg : ws.all goodWord = true) : ∀ w ∈ ws, w ∈ zTW := by
  intro w hw
  have h2 := List.all_eq_true.mp hg w hw
  rw [hp] at hw
  obtain ⟨q, -, hq⟩ := List.mem_filterMap.mp hw
  exact List.mem_filter.mpr ⟨tbC_in hq, h2⟩
theorem zTpl (ws : List Cond) (ps : List Nat) (hp : ws = ps.filterMap (fun i => lw_tbl[i]?)) (hg : ws.all goodWord = true) : ∀ w ∈ ws, w ∈ zTW := by
  intro w hw
  have h2 := List.all_eq_true.mp hg w hw
  rw [hp] at hw
  obtain ⟨i, -, hi⟩ := List.mem_filterMap.mp hw
  exact zTin i hi h2
/-- what the words say of a method -/
def zMW (y : MethodName) (cc : ByteArray) (maxL : Nat) (ret : Option FieldType) (n : Nat) : Prop := Cond.initialized y.cls ∈ zTW ∧ Cond.code y cc maxL ret ∈ zTW ∧ (y.cls ≠ "java/lang/invoke/MethodHandle" ∧ y.cls ≠ "java/lang/invoke/VarHandle") ∧ (parseMethodDescriptor y.desc).map (fun d => d.parameters.length) = some n
def zMV (y : MethodName) (cc : ByteArray) (maxL : Nat) (ret : Option FieldType) (n : Nat) : Prop := zMW y cc maxL ret n ∧ Cond.instanceMethod y ∈ zTW ∧ Cond.selects y.cls y y ∈ zTW
def zMS (y : MethodName) (cc : ByteArray) (maxL : Nat) (ret : Option FieldType) (n : Nat) : Prop := zMW y cc maxL ret n ∧ Cond.static y ∈ zTW
def zkds : List zKD := [(1, 1, 600, [(0, (-128), 127)]), (0, 8, 2, [(2, 0, 2147483647), (0, 0, 600)]), (1, 1, 600, [(0, (-128), 127)]), (0, 8, 2, [(4, 0, 2147483647), (0, 0, 600)]), (1, 1, 600, [(0, (-128), 127)]), (0, 8, 2, [(6, 0, 2147483647), (0, 0, 600)]), (1, 1, 600, [(0, (-128), 127)]), (0, 8, 2, [(8, 0, 2147483647), (0, 0, 600)]), (1, 0, 12, [(0, (-2147483648), 2147483647)]), (1, 0, 4, [(0, (-2147483648), 2147483647)]), (1, 0, 4, [(0, (-2147483648), 2147483647)]), (1, 0, 4, [(0, (-2147483648), 2147483647)]), (1, 0, 6, [(0, (-2147483648), 2147483647)]), (1, 0, 6, [(0, (-2147483648), 2147483647)]), (1, 0, 6, [(0, 0, 2)]), (0, 6, 15, [(0, 0, 8), (0, 0, 8), (0, 0, 3), (0, (-2147483648), 2147483647), (0, (-2147483648), 2147483647), (10, 0, 2147483647), (0, 0, 4), (11, 0, 2147483647), (12, 0, 2147483647), (13, 0, 2147483647), (0, 0, 6), (14, 0, 2147483647), (15, 0, 2147483647), (16, 0, 2147483647), (0, (-2147483648), 2147483647)]), (1, 0, 30, [(0, 0, 5)]), (1, 0, 90, [(0, (-2147483648), 2147483647)]), (0, 1, 3, [(0, 0, 30), (18, 0, 2147483647), (19, 0, 2147483647)]), (1, 0, 9, [(0, (-2147483648), 2147483647)]), (1, 0, 9, [(0, (-2147483648), 2147483647)]), (1, 0, 16, [(0, 0, 8)]), (1, 0, 16, [(0, 0, 8)]), (0, 2, 6, [(0, 0, 9), (21, 0, 2147483647), (22, 0, 2147483647), (0, 0, 16), (23, 0, 2147483647), (24, 0, 2147483647)]), (1, 0, 3, [(0, 0, 2)]), (2, 3, 2, [(17, 0, 2147483647)]), (2, 4, 2, [(20, 0, 2147483647)]), (2, 5, 2, [(25, 0, 2147483647)]), (0, 9, 7, [(3, 0, 2147483647), (26, 0, 2147483647), (27, 0, 2147483647), (28, 0, 2147483647), (29, 0, 2147483647), (0, (-2147483648), 2147483647), (0, (-2147483648), 2147483647)]), (0, 9, 7, [(5, 0, 2147483647), (26, 0, 2147483647), (27, 0, 2147483647), (28, 0, 2147483647), (29, 0, 2147483647), (0, (-2147483648), 2147483647), (0, (-2147483648), 2147483647)]), (0, 9, 7, [(7, 0, 2147483647), (26, 0, 2147483647), (27, 0, 2147483647), (28, 0, 2147483647), (29, 0, 2147483647), (0, (-2147483648), 2147483647), (0, (-2147483648), 2147483647)]), (0, 9, 7, [(9, 0, 2147483647), (26, 0, 2147483647), (27, 0, 2147483647), (28, 0, 2147483647), (29, 0, 2147483647), (0, (-2147483648), 2147483647), (0, (-2147483648), 2147483647)]), (1, 0, 5, [(0, (-2147483648), 2147483647)]), (1, 0, 5, [(0, (-2147483648), 2147483647)]), (0, 4, 10, [(17, 0, 2147483647), (20, 0, 2147483647), (25, 0, 2147483647), (0, 0, 4), (0, (-2147483648), 2147483647), (34, 0, 2147483647), (35, 0, 2147483647), (0, 0, 4), (0, 0, 600), (0, 0, 600)]), (1, 0, 6, [(0, (-2147483648), 2147483647)]), (1, 0, 6, [(0, (-2147483648), 2147483647)]), (1, 0, 6, [(0, (-2147483648), 2147483647)]), (1, 0, 6, [(0, (-2147483648), 2147483647)]), (1, 0, 6, [(0, (-2147483648), 2147483647)]), (1, 0, 6, [(0, (-1), 5)]), (0, 7, 8, [(37, 0, 2147483647), (38, 0, 2147483647), (39, 0, 2147483647), (40, 0, 2147483647), (41, 0, 2147483647), (42, 0, 2147483647), (0, (-2147483648), 2147483647), (0, 0, 6)]), (1, 0, 6, [(0, (-2147483648), 2147483647)]), (1, 0, 6, [(0, (-2147483648), 2147483647)]), (1, 0, 6, [(0, (-2147483648), 2147483647)]), (1, 0, 3, [(0, (-2147483648), 2147483647)]), (0, 5, 16, [(17, (-1), 2147483647), (20, (-1), 2147483647), (43, 0, 2147483647), (44, 0, 2147483647), (45, 0, 2147483647), (46, 0, 2147483647), (0, 0, 30), (0, (-2147483648), 2147483647), (0, (-2147483648), 2147483647), (0, (-2147483648), 2147483647), (0, (-2147483648), 2147483647), (0, (-1), 5), (0, (-2147483648), 2147483647), (0, (-2147483648), 2147483647), (0, (-2147483648), 2147483647), (47, 0, 2147483647)]), (0, 10, 4, [(0, (-2147483648), 2147483647), (0, (-2147483648), 2147483647), (0, (-2147483648), 2147483647), (17, 0, 2147483647)]), (1, 0, 128, [(0, 0, 15)]), (1, 0, 128, [(0, (-2147483648), 2147483647)]), (1, 0, 16, [(0, (-2147483648), 2147483647)]), (0, 0, 7, [(0, (-2147483648), 2147483647), (0, (-2147483648), 2147483647), (0, (-2147483648), 2147483647), (50, 0, 2147483647), (51, 0, 2147483647), (52, 0, 2147483647), (1, (-9223372036854775808), 9223372036854775807)]), (1, 0, 9, [(0, (-2147483648), 2147483647)]), (1, 0, 9, [(0, (-2147483648), 2147483647)]), (1, 0, 9, [(0, (-2147483648), 2147483647)]), (1, 0, 9, [(0, 0, 8)]), (1, 0, 512, [(0, (-2147483648), 2147483647)]), (1, 0, 81, [(0, (-2147483648), 2147483647)]), (0, 3, 6, [(54, 0, 2147483647), (55, 0, 2147483647), (56, 0, 2147483647), (57, 0, 2147483647), (58, 0, 2147483647), (59, 0, 2147483647)]), (3, 3, 0, []), (3, 4, 0, []), (3, 5, 0, []), (2, 6, 3, [(31, (-1), 2147483647), (32, (-1), 2147483647), (33, (-1), 2147483647)]), (0, 11, 7, [(30, 0, 2147483647), (64, 0, 2147483647), (36, 0, 2147483647), (48, 0, 2147483647), (49, 0, 2147483647), (53, 0, 2147483647), (60, 0, 2147483647)])]
theorem zkd_1 : zkds[1]? = some (0, 8, 2, [(2, 0, 2147483647), (0, 0, 600)]) := rfl
theorem zkd_3 : zkds[3]? = some (0, 8, 2, [(4, 0, 2147483647), (0, 0, 600)]) := rfl
theorem zkd_5 : zkds[5]? = some (0, 8, 2, [(6, 0, 2147483647), (0, 0, 600)]) := rfl
theorem zkd_7 : zkds[7]? = some (0, 8, 2, [(8, 0, 2147483647), (0, 0, 600)]) := rfl
theorem zkd_15 : zkds[15]? = some (0, 6, 15, [(0, 0, 8), (0, 0, 8), (0, 0, 3), (0, (-2147483648), 2147483647), (0, (-2147483648), 2147483647), (10, 0, 2147483647), (0, 0, 4), (11, 0, 2147483647), (12, 0, 2147483647), (13, 0, 2147483647), (0, 0, 6), (14, 0, 2147483647), (15, 0, 2147483647), (16, 0, 2147483647), (0, (-2147483648), 2147483647)]) := rfl
theorem zkd_18 : zkds[18]? = some (0, 1, 3, [(0, 0, 30), (18, 0, 2147483647), (19, 0, 2147483647)]) := rfl
theorem zkd_23 : zkds[23]? = some (0, 2, 6, [(0, 0, 9), (21, 0, 2147483647), (22, 0, 2147483647), (0, 0, 16), (23, 0, 2147483647), (24, 0, 2147483647)]) := rfl
theorem zkd_28 : zkds[28]? = some (0, 9, 7, [(3, 0, 2147483647), (26, 0, 2147483647), (27, 0, 2147483647), (28, 0, 2147483647), (29, 0, 2147483647), (0, (-2147483648), 2147483647), (0, (-2147483648), 2147483647)]) := rfl
theorem zkd_29 : zkds[29]? = some (0, 9, 7, [(5, 0, 2147483647), (26, 0, 2147483647), (27, 0, 2147483647), (28, 0, 2147483647), (29, 0, 2147483647), (0, (-2147483648), 2147483647), (0, (-2147483648), 2147483647)]) := rfl
theorem zkd_30 : zkds[30]? = some (0, 9, 7, [(7, 0, 2147483647), (26, 0, 2147483647), (27, 0, 2147483647), (28, 0, 2147483647), (29, 0, 2147483647), (0, (-2147483648), 2147483647), (0, (-2147483648), 2147483647)]) := rfl
theorem zkd_31 : zkds[31]? = some (0, 9, 7, [(9, 0, 2147483647), (26, 0, 2147483647), (27, 0, 2147483647), (28, 0, 2147483647), (29, 0, 2147483647), (0, (-2147483648), 2147483647), (0, (-2147483648), 2147483647)]) := rfl
theorem zkd_34 : zkds[34]? = some (0, 4, 10, [(17, 0, 2147483647), (20, 0, 2147483647), (25, 0, 2147483647), (0, 0, 4), (0, (-2147483648), 2147483647), (34, 0, 2147483647), (35, 0, 2147483647), (0, 0, 4), (0, 0, 600), (0, 0, 600)]) := rfl
theorem zkd_41 : zkds[41]? = some (0, 7, 8, [(37, 0, 2147483647), (38, 0, 2147483647), (39, 0, 2147483647), (40, 0, 2147483647), (41, 0, 2147483647), (42, 0, 2147483647), (0, (-2147483648), 2147483647), (0, 0, 6)]) := rfl
theorem zkd_46 : zkds[46]? = some (0, 5, 16, [(17, (-1), 2147483647), (20, (-1), 2147483647), (43, 0, 2147483647), (44, 0, 2147483647), (45, 0, 2147483647), (46, 0, 2147483647), (0, 0, 30), (0, (-2147483648), 2147483647), (0, (-2147483648), 2147483647), (0, (-2147483648), 2147483647), (0, (-2147483648), 2147483647), (0, (-1), 5), (0, (-2147483648), 2147483647), (0, (-2147483648), 2147483647), (0, (-2147483648), 2147483647), (47, 0, 2147483647)]) := rfl
theorem zkd_47 : zkds[47]? = some (0, 10, 4, [(0, (-2147483648), 2147483647), (0, (-2147483648), 2147483647), (0, (-2147483648), 2147483647), (17, 0, 2147483647)]) := rfl
theorem zkd_51 : zkds[51]? = some (0, 0, 7, [(0, (-2147483648), 2147483647), (0, (-2147483648), 2147483647), (0, (-2147483648), 2147483647), (50, 0, 2147483647), (51, 0, 2147483647), (52, 0, 2147483647), (1, (-9223372036854775808), 9223372036854775807)]) := rfl
theorem zkd_58 : zkds[58]? = some (0, 3, 6, [(54, 0, 2147483647), (55, 0, 2147483647), (56, 0, 2147483647), (57, 0, 2147483647), (58, 0, 2147483647), (59, 0, 2147483647)]) := rfl
theorem zkd_63 : zkds[63]? = some (0, 11, 7, [(30, 0, 2147483647), (64, 0, 2147483647), (36, 0, 2147483647), (48, 0, 2147483647), (49, 0, 2147483647), (53, 0, 2147483647), (60, 0, 2147483647)]) := rfl
theorem zx_0 : ∀ w ∈ u_ws RX0 TX0 7, w ∈ zTW := zTpm _ [(2, 192), (2, 194), (2, 196), (2, 198), (2, 200), (2, 202), (2, 204)] (by decide +kernel) (by decide +kernel)
theorem zx_1 : ∀ w ∈ u_ws RX1 TX1 3, w ∈ zTW := zTpm _ [(1, 166), (1, 168), (1, 170)] (by decide +kernel) (by decide +kernel)
theorem zx_2 : ∀ w ∈ u_ws RX2 TX2 6, w ∈ zTW := zTpm _ [(1, 196), (1, 198), (1, 200), (1, 202), (1, 204), (1, 206)] (by decide +kernel) (by decide +kernel)
theorem zx_3 : ∀ w ∈ u_ws RX3 TX3 6, w ∈ zTW := zTpm _ [(2, 221), (2, 223), (2, 225), (2, 227), (2, 229), (2, 231)] (by decide +kernel) (by decide +kernel)
theorem zx_4 : ∀ w ∈ u_ws RX4 TX4 10, w ∈ zTW := zTpm _ [(2, 23), (2, 25), (2, 27), (2, 29), (2, 31), (2, 33), (2, 35), (2, 37), (2, 39), (2, 41)] (by decide +kernel) (by decide +kernel)
theorem zx_5 : ∀ w ∈ u_ws RX5 TX5 16, w ∈ zTW := zTpm _ [(2, 119), (2, 121), (2, 123), (2, 125), (2, 127), (2, 129), (2, 131), (2, 133), (2, 135), (2, 137), (2, 139), (2, 141), (2, 143), (2, 145), (2, 147), (2, 149)] (by decide +kernel) (by decide +kernel)
theorem zx_6 : ∀ w ∈ u_ws RX6 TX6 15, w ∈ zTW := zTpm _ [(1, 119), (1, 121), (1, 123), (1, 125), (1, 127), (1, 129), (1, 131), (1, 133), (1, 135), (1, 137), (1, 139), (1, 141), (1, 143), (1, 145), (1, 147)] (by decide +kernel) (by decide +kernel)
theorem zx_7 : ∀ w ∈ u_ws RX7 TX7 8, w ∈ zTW := zTpm _ [(2, 73), (2, 75), (2, 77), (2, 79), (2, 81), (2, 83), (2, 85), (2, 87)] (by decide +kernel) (by decide +kernel)
theorem zx_8 : ∀ w ∈ u_ws RX8 TX8 2, w ∈ zTW := zTpm _ [(1, 47), (1, 49)] (by decide +kernel) (by decide +kernel)
theorem zx_9 : ∀ w ∈ u_ws RX9 TX9 7, w ∈ zTW := zTpm _ [(1, 220), (1, 222), (1, 224), (1, 226), (1, 228), (1, 230), (1, 232)] (by decide +kernel) (by decide +kernel)
theorem zx_10 : ∀ w ∈ u_ws RX10 TX10 4, w ∈ zTW := zTpm _ [(2, 167), (2, 169), (2, 171), (2, 173)] (by decide +kernel) (by decide +kernel)
theorem zx_11 : ∀ w ∈ u_ws RX11 TX11 7, w ∈ zTW := zTpm _ [(3, 1), (3, 3), (3, 5), (3, 7), (3, 9), (3, 11), (3, 13)] (by decide +kernel) (by decide +kernel)
end
section
variable {η : zRn}
/-! what is there of itself: the tables of the Reader, the words as String constants; and what every method finds -/
def zTn (i : Nat) : String := ["LINES_FROM", "NUMBERS_OF_LINE", "LEAST_NUMBER", "MOST_NUMBER"].getD i ""
def zTv (i : Nat) : List Int := [[0, 7, 13, 15], [2, 2, 1, 5, 3, 3, 1, 2, 3, 2, 2, 2, 0, 2, 2], [2, 2, 0, 0, 0, 0, 0, 0, 0, 0, 1, 0, 0, 0, 0, 0, 1, 0, 0, 1, 0, 1, 0, 0, 0, 0, 0, 0, 0, 0, 0, 0, 0, 0, 0, 0, 0, 0, 0, 0, 0, 0, 1, 0, 0, 0, 1, 0, 0, 0, 0, 0, 0, 0, 0, 0, 0, 0, 0, 0, 0, 0, 0, 0, 0, 0, 0, 0, 0, 0, 0, 0, 0, 0, 0], [8, 8, 0, 0, 0, 3, 3, 0, 0, 0, 9, 0, 0, 0, 0, 2, 20, 5, 20, 30, 63, 99, 4, 0, 0, 63, 20, 2, 0, 0, 5, 0, 0, 0, 0, 5, 3, 0, 0, 0, 5, 5, 20, 0, 0, 5, 20, 0, 0, 0, 5, 5, 0, 0, 0, 5, 5, 0, 0, 0, 0, 0, 0, 0, 0, 99, 99, 0, 0, 0, 8, 8, 0, 0, 0]].getD i []
def zSl : List Nat := [4, 4, 4, 5, 5, 4, 4, 3, 5, 3, 5, 3, 4, 4, 5]
def zSb : List (List Int32) := [[115, 105, 122, 101], [119, 105, 110, 100], [110, 101, 116, 115], [99, 111, 97, 115, 116], [115, 104, 111, 97, 108], [98, 111, 97, 116], [100, 101, 97, 102], [114, 111, 119], [99, 108, 97, 105, 109], [97, 108, 108], [115, 112, 108, 105, 116], [110, 101, 116], [119, 97, 105, 116], [115, 97, 105, 100], [97, 104, 101, 97, 100]]
def zSi : List Nat := [137, 139, 141, 143, 145, 147, 149, 151, 153, 155, 157, 159, 161, 163, 165]
def zSt : List String := ["size", "wind", "nets", "coast", "shoal", "boat", "deaf", "row", "claim", "all", "split", "net", "wait", "said", "ahead"]
/-- the kind of a String of so many bytes -/
def zKs (n : Nat) : Nat := 56 + n
def zST (η : zRn) (L : List Nat) (Θ : Nat → Option Nat) (U : State) : Prop := ∃ (tb adK adV cK : Nat → Nat) (fv : Option Nat),
  (∀ i, i < 4 → va_Z RX4 (zTn i) "[I" (.ref (tb i)) (fun q => q ∈ L) U U.heap ∧ va_T .int (tb i) (zTv i).length (fun j => .int (Int32.ofInt ((zTv i).getD j 0))) (fun q => q ∈ L) U U.heap) ∧
  vk_S 15 zSl zSb adK adV (fun q => q ∈ L) U U.heap ∧ (∀ i, i < 15 → vk_R RX4 (zSi.getD i 0) (zSt.getD i "") (adK i) U) ∧
  va_Z RJ0 "COMPACT_STRINGS" "Z" (.int 1) (fun q => q ∈ L) U U.heap ∧ va_Z RJ3 "SIOOBE_FORMATTER" "Ljava/util/function/BiFunction;" (va_rf fv) (fun q => q ∈ L) U U.heap ∧
  (∀ i, i < 15 → Θ (cK i) = some (zKs (zSl.getD i 0)) ∧ cK i = 1000000 + i ∧ η.1 (cK i) = adK i) ∧ ∀ a n, 3 ≤ n → n ≤ 5 → Θ a = some (zKs n) → ∃ i, i < 15 ∧ cK i = a ∧ zSl.getD i 0 = n
theorem zST.go {L : List Nat} {Θ : Nat → Option Nat} {s U : State} (h : zST η L Θ s) (hW : s.WarmedH U.vm) (hq : ∀ q, q < s.heap.size → q ∉ L → U.heap[q]? = s.heap[q]?) : zST η L Θ U := by
  obtain ⟨tb, adK, adV, cK, fv, h1, h2, h3, h4, h5, h6, h7⟩ := h
  exact ⟨tb, adK, adV, cK, fv, fun i hi => ⟨((h1 i hi).1.moved hW.alike).kept hq, ((h1 i hi).2.moved hW.alike).kept hq⟩, (h2.moved hW.alike).kept hq, fun i hi => (h3 i hi).warm hW, (h4.moved hW.alike).kept hq, (h5.moved hW.alike).kept hq, h6, h7⟩
theorem zST.same {L : List Nat} {Θ : Nat → Option Nat} {s U : State} (h : zST η L Θ s) (hv : U.vm = s.vm) (hh : U.heap = s.heap) : zST η L Θ U := by
  obtain ⟨tb, adK, adV, cK, fv, h1, h2, h3, h4, h5, h6, h7⟩ := h
  have ha : s.vm.Alike U.vm := by rw [hv]; exact Vm.Alike.refl s.vm
  have hq : ∀ q : Nat, q < s.heap.size → ¬ (fun q => q ∈ L) q → U.heap[q]? = s.heap[q]? := fun q _ _ => by rw [hh]
  exact ⟨tb, adK, adV, cK, fv, fun i hi => ⟨((h1 i hi).1.moved ha).kept hq, ((h1 i hi).2.moved ha).kept hq⟩, (h2.moved ha).kept hq, fun i hi => (h3 i hi).same hv, (h4.moved ha).kept hq, (h5.moved ha).kept hq, h6, h7⟩
def zKP : zKPt := fun η D cy L Θ U => KW D cy U ∧ zST η L Θ U
theorem zkp_ok : zKPok vwCl tyW zKP := by
  refine ⟨fun η D cy L Θ U h => ⟨h.1.1, rfl, rfl, rfl, fun t h1 h2 => ?_⟩, fun η D cy L Θ s U h hW _ hq => ⟨h.1.warm hW, h.2.go hW hq⟩, fun η D cy L Θ U g mk a h => ⟨h.1.call, h.2.same rfl rfl⟩⟩
  rcases (show t = 3 ∨ t = 4 ∨ t = 5 ∨ t = 6 by omega) with rfl | rfl | rfl | rfl
  · exact ⟨_, rfl⟩
  · exact ⟨_, rfl⟩
  · exact ⟨_, rfl⟩
  · exact ⟨_, rfl⟩
end
section
variable {η : zRn}
/-! steps of their own: a table of the class, a sum that turns round, arraycopy -/
section ZTB
variable {kds : List zKD} {cl : List vw_C} {tyf : (Nat → ClassId) → List (ClassId × FieldType)} {l : Launch} {cc : ByteArray} {nL fr lo : Nat} {eff : List (Nat × Nat × Nat)}
/-- the walk over a table's read: from the local's number to the table's -/
def zTabW (l : Launch) (cc : ByteArray) (pc len ti i : Nat) (d : Int) : Prop :=
  ∀ (p : Program) (e : Env) (R : Room) (s : State) (m : MethodId) (args : Array Value) (below : List Frame) (meth : Method) (c : Code) (Q : State → Prop) (H : Heap) (locs : List Loc) (ls : Array Slot) (rest : List Value) (A : Nat → Prop) (tb : Nat) (x : Int32),
    p.tables.exec = Jvm.exec → c.code = cc → s.vm.findClass RX4 = some m.cls → (∀ w ∈ zTW, w.before args s = true) → va_Z RX4 (zTn ti) "[I" (.ref tb) A s s.heap → va_T .int tb (zTv ti).length (fun j => .int (Int32.ofInt ((zTv ti).getD j 0))) A s s.heap → va_S A s.heap H locs →
    ls[i]? = some (.val (.int x)) → 0 ≤ x.toInt + d → x.toInt + d < ((zTv ti).length : Int) → W p l e R s m args below meth c H locs 0 0 Q (F0 m (pc + len) ls (.int (Int32.ofInt ((zTv ti).getD (x.toInt + d).toNat 0)) :: rest)) → W p l e R s m args below meth c H locs 0 0 Q (F0 m pc ls rest)
theorem z_tab0 {pc ti i idx len ll : Nat} (hlk : Cond.fieldLink RX4 idx RX4 (zTn ti) "[I" ∈ zTW) (hd1 : decode cc pc = .ok (.getstatic idx, 3)) (hld : decode cc (pc + 3) = .ok (.iload i, ll) ∨ ∃ k : Fin 4, decode cc (pc + 3) = .ok (.iload_n k, ll) ∧ k.val = i) (hll : decode cc (pc + 3) = .ok (.iload i, ll) → ll = 2) (hl1 : (∃ k : Fin 4, decode cc (pc + 3) = .ok (.iload_n k, ll)) → ll = 1)
    (hd2 : decode cc (pc + 3 + ll) = .ok (.iaload, 1)) (hn : pc + len = pc + 3 + ll + 1) : zTabW l cc pc len ti i 0 := by
  intro p e R s m args below meth c Q H locs ls rest A tb x hexec hb hown hts hZ hT hS hx h1 h2 k
  rw [hn] at k
  refine va_gets hexec hb hZ hS hown (hts _ hlk) (fun _ h => h) hd1 ?_
  have hv := z_vin (i := x) (n := (zTv ti).length) (by omega) (by omega)
  rw [Int.add_zero] at k
  rcases hld with hld | ⟨kk, hld, rfl⟩
  · have := hll hld
    subst this
    refine lv_iload hexec hb hld hx ?_
    exact va_ti hexec hb hT hS hv.1 (by rw [hv.2]) hd2 k
  · have := hl1 ⟨kk, hld⟩
    subst this
    refine lv_iload_n hexec hb hld rfl hx ?_
    exact va_ti hexec hb hT hS hv.1 (by rw [hv.2]) hd2 k
theorem z_tab1 {pc ti i idx len : Nat} {kk : Fin 4} (hlk : Cond.fieldLink RX4 idx RX4 (zTn ti) "[I" ∈ zTW) (hd1 : decode cc pc = .ok (.getstatic idx, 3)) (hld : decode cc (pc + 3) = .ok (.iload_n kk, 1)) (hk : kk.val = i) (hd3 : decode cc (pc + 3 + 1) = .ok (.iconst 1, 1)) (hd4 : decode cc (pc + 3 + 1 + 1) = .ok (.iadd, 1)) (hd2 : decode cc (pc + 3 + 1 + 1 + 1) = .ok (.iaload, 1))
    (hT5 : ((zTv ti).length : Int) ≤ 1000) (hn : pc + len = pc + 3 + 1 + 1 + 1 + 1) : zTabW l cc pc len ti i 1 := by
  intro p e R s m args below meth c Q H locs ls rest A tb x hexec hb hown hts hZ hT hS hx h1 h2 k
  rw [hn] at k
  subst hk
  refine va_gets hexec hb hZ hS hown (hts _ hlk) (fun _ h => h) hd1 ?_
  have e1 : (1 : Int32).toInt = 1 := rfl
  have hs : (x + 1).toInt = x.toInt + 1 := by
    have := z_lo x
    rw [z_add (by rw [e1]; omega) (by rw [e1]; omega), e1]
  have hv := z_vin (i := x + 1) (n := (zTv ti).length) (by omega) (by omega)
  refine lv_iload_n hexec hb hld rfl hx ?_
  refine lv_iconst (v := 1) hexec hb hd3 (by decide +kernel) ?_
  refine lv_iadd hexec hb hd4 ?_
  rw [← hs] at k
  exact va_ti hexec hb hT hS hv.1 (by rw [hv.2]) hd2 k
end ZTB
end
section
variable {η : zRn}
/-! arraycopy -/
def zrow (h : Nat → Nat → Int) (a : Nat) (r : Nat → Int) : Nat → Nat → Int := fun b => if b = a then r else h b
theorem zrow_at (h : Nat → Nat → Int) (a : Nat) (r : Nat → Int) : zrow h a r a = r := by unfold zrow; rw [if_pos rfl]
theorem zrow_ne {h : Nat → Nat → Int} {a b : Nat} {r : Nat → Int} (e : ¬ b = a) : zrow h a r b = h b := by unfold zrow; rw [if_neg e]
theorem zH_row {kds : List zKD} {D : va_G} {cl : List vw_C} {cy : Nat → ClassId} {L : List Nat} {Θ : Nat → Option Nat} {A : Nat → Prop} {h : Nat → Nat → Int} {H H1 : Heap} {a k q0 : Nat} {K : zKD} {r : Nat → Int} (g : zH η kds D cl cy L Θ h H) (hD : va_D A ([] ++ va_pl L (zF η kds cy Θ h))) (h1 : Θ a = some k) (h2 : kds[k]? = some K) (h3 : K.1 ≤ 2)
    (hx : ∀ j, j < K.2.2.1 → zok Θ (zty K j).1 (r j) ∧ (zty K j).2.1 ≤ r j ∧ r j ≤ (zty K j).2.2) (hq : ([] ++ va_pl L (zF η kds cy Θ h))[q0]? = some (η.1 a, zE η cy K (h a)))
    (hP : va_P D cl (([] ++ va_pl L (zF η kds cy Θ h)).set q0 (η.1 a, zE η cy K r)) H1) : zH η kds D cl cy L Θ (zrow h a r) H1 := by
  obtain ⟨K', e1, e2, -⟩ := g.2.2 a k h1
  cases h2.symm.trans e1
  obtain ⟨e3, e4⟩ := e2 h3
  refine ⟨?_, g.2.1, fun b kb hb => ?_⟩
  · rw [va_pl_set hD e3 (by rw [hq, zF_at e4 h1 h2])] at hP
    rw [zpl_congr (g := va_up (zF η kds cy Θ h) (η.1 a) (zE η cy K r))]
    · exact hP
    · intro b hbL
      by_cases hb : b = η.1 a
      · subst hb
        rw [va_up_self, zF_at e4 h1 h2, zrow_at]
      · rw [va_up_ne _ _ hb]
        unfold zF zf
        rw [zrow_ne (fun e => hb (by rw [← e]; exact (g.2.1 b hbL).symm))]
  · obtain ⟨Kb, f1, f2, f3⟩ := g.2.2 b kb hb
    refine ⟨Kb, f1, f2, fun i hi => ?_⟩
    by_cases e : b = a
    · subst e
      cases h1.symm.trans hb
      cases h2.symm.trans f1
      rw [zrow_at]
      exact hx i hi
    · rw [zrow_ne e]
      exact f3 i hi
/-- one type each, and the one within the other -/
def zone (K0 K1 : zKD) : Bool := match K0.2.2.2, K1.2.2.2 with
  | [t0], [t1] => decide (t0.1 = 0) && decide (t1.1 = 0) && decide (t1.2.1 ≤ t0.2.1) && decide (t0.2.2 ≤ t1.2.2)
  | _, _ => false
theorem z_one {K0 K1 : zKD} (h : zone K0 K1 = true) (i j : Nat) : (zty K0 i).1 = 0 ∧ (zty K1 j).1 = 0 ∧ (zty K1 j).2.1 ≤ (zty K0 i).2.1 ∧ (zty K0 i).2.2 ≤ (zty K1 j).2.2 := by
  unfold zone at h
  split at h
  · rename_i t0 t1 h0 h1
    simp only [Bool.and_eq_true, decide_eq_true_eq] at h
    unfold zty
    rw [h0, h1]
    simp only [List.length_cons, List.length_nil, Nat.zero_add, Nat.mod_one, List.getD_cons_zero]
    exact ⟨h.1.1.1, h.1.1.2, h.1.2, h.2⟩
  · cases h
theorem z_fb8 : ∀ k : Fin 256, fits .byte (.int (Int32.ofInt ((k.val : Int) - 128))) = true := by decide +kernel
theorem z_fitb {x : Int} (h1 : -128 ≤ x) (h2 : x ≤ 127) : fits .byte (.int (Int32.ofInt x)) = true := by
  have := z_fb8 ⟨(x + 128).toNat, by omega⟩
  simp only at this
  rw [show ((x + 128).toNat : Int) - 128 = x by omega] at this
  exact this
section ZCP
variable {kds : List zKD} {cl : List vw_C} {tyf : (Nat → ClassId) → List (ClassId × FieldType)} {l : Launch} {cc : ByteArray} {nL fr lo : Nat} {eff : List (Nat × Nat × Nat)} {own : String} {KP : zKPt} {TW : List Cond}
end ZCP
end
