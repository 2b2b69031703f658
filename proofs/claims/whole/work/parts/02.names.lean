def RX0 : String := "FlushGarden$Auction"
def TX0 : u_T := fun k => match k with
  | 0 => ("FlushGarden$Auction", "reserve", "I", false)
  | 1 => ("FlushGarden$Auction", "turns", "I", false)
  | 2 => ("FlushGarden$Auction", "prices", "[I", true)
  | _ => ("FlushGarden$Auction", "turnOf", "[I", true)
def tyX0 : Nat → FieldType := fun k => match k with
  | 0 => .int
  | 1 => .int
  | 2 => .array .int
  | _ => .array .int
theorem nmX0 : ∀ a, a < 4 → ∀ b, b < 4 → a ≠ b → (TX0 a).2.1 ≠ (TX0 b).2.1 := by decide +kernel
theorem tyX0_ok : ∀ k, k < 4 → parseFieldDescriptor (TX0 k).2.2.1 = some (tyX0 k) := by decide +kernel
abbrev cX0_init : ByteArray := prog_2_method_1_code
def yX0_init : MethodName := ⟨RX0, "<init>", "()V"⟩
abbrev cX0_isOpen : ByteArray := prog_2_method_2_code
def yX0_isOpen : MethodName := ⟨RX0, "isOpen", "()Z"⟩
abbrev cX0_hasBid : ByteArray := prog_2_method_3_code
def yX0_hasBid : MethodName := ⟨RX0, "hasBid", "(I)Z"⟩
abbrev cX0_place : ByteArray := prog_2_method_4_code
def yX0_place : MethodName := ⟨RX0, "place", "(II)V"⟩
abbrev cX0_countBids : ByteArray := prog_2_method_5_code
def yX0_countBids : MethodName := ⟨RX0, "countBids", "()I"⟩
abbrev cX0_isAhead : ByteArray := prog_2_method_6_code
def yX0_isAhead : MethodName := ⟨RX0, "isAhead", "(II)Z"⟩
abbrev cX0_close : ByteArray := prog_2_method_7_code
def yX0_close : MethodName := ⟨RX0, "close", "()V"⟩
def RX1 : String := "FlushGarden$Lot"
def TX1 : u_T := fun k => match k with
  | 0 => ("FlushGarden$Lot", "state", "I", false)
  | 1 => ("FlushGarden$Lot", "dry", "I", false)
  | 2 => ("FlushGarden$Lot", "fine", "I", false)
  | 3 => ("FlushGarden$Lot", "water", "I", false)
  | 4 => ("FlushGarden$Lot", "chem", "I", false)
  | 5 => ("FlushGarden$Lot", "broken", "I", false)
  | 6 => ("FlushGarden$Lot", "ox", "I", false)
  | 7 => ("FlushGarden$Lot", "cased", "I", false)
  | 8 => ("FlushGarden$Lot", "burn", "I", false)
  | 9 => ("FlushGarden$Lot", "grade", "I", false)
  | 10 => ("FlushGarden$Lot", "killed", "Z", false)
  | 11 => ("FlushGarden$Lot", "tainted", "Z", false)
  | 12 => ("FlushGarden$Lot", "mixed", "Z", false)
  | 13 => ("FlushGarden$Lot", "units", "[I", true)
  | 14 => ("FlushGarden$Lot", "notes", "[I", true)
  | _ => ("FlushGarden$Lot", "auction", "LFlushGarden$Auction;", true)
def tyX1 : Nat → FieldType := fun k => match k with
  | 0 => .int
  | 1 => .int
  | 2 => .int
  | 3 => .int
  | 4 => .int
  | 5 => .int
  | 6 => .int
  | 7 => .int
  | 8 => .int
  | 9 => .int
  | 10 => .boolean
  | 11 => .boolean
  | 12 => .boolean
  | 13 => .array .int
  | 14 => .array .int
  | _ => .object "FlushGarden$Auction"
theorem nmX1 : ∀ a, a < 16 → ∀ b, b < 16 → a ≠ b → (TX1 a).2.1 ≠ (TX1 b).2.1 := by decide +kernel
theorem tyX1_ok : ∀ k, k < 16 → parseFieldDescriptor (TX1 k).2.2.1 = some (tyX1 k) := by decide +kernel
abbrev cX1_init : ByteArray := prog_3_method_1_code
def yX1_init : MethodName := ⟨RX1, "<init>", "()V"⟩
abbrev cX1_isFreeMade : ByteArray := prog_3_method_2_code
def yX1_isFreeMade : MethodName := ⟨RX1, "isFreeMade", "()Z"⟩
abbrev cX1_isDried : ByteArray := prog_3_method_3_code
def yX1_isDried : MethodName := ⟨RX1, "isDried", "()Z"⟩
abbrev cX1_vanish : ByteArray := prog_3_method_4_code
def yX1_vanish : MethodName := ⟨RX1, "vanish", "()V"⟩
abbrev cX1_copyLeaf : ByteArray := prog_3_method_5_code
def yX1_copyLeaf : MethodName := ⟨RX1, "copyLeaf", "(LFlushGarden$Lot;)V"⟩
abbrev cX1_heatMinute : ByteArray := prog_3_method_6_code
def yX1_heatMinute : MethodName := ⟨RX1, "heatMinute", "(I)V"⟩
abbrev cX1_shareOfGrade : ByteArray := prog_3_method_7_code
def yX1_shareOfGrade : MethodName := ⟨RX1, "shareOfGrade", "(II)I"⟩
abbrev cX1_dryOfGrade : ByteArray := prog_3_method_8_code
def yX1_dryOfGrade : MethodName := ⟨RX1, "dryOfGrade", "(I)I"⟩
abbrev cX1_becomeGrade : ByteArray := prog_3_method_9_code
def yX1_becomeGrade : MethodName := ⟨RX1, "becomeGrade", "(LFlushGarden$Lot;I)V"⟩
abbrev cX1_takeUnits : ByteArray := prog_3_method_10_code
def yX1_takeUnits : MethodName := ⟨RX1, "takeUnits", "(LFlushGarden$Lot;I)V"⟩
abbrev cX1_noteOf : ByteArray := prog_3_method_11_code
def yX1_noteOf : MethodName := ⟨RX1, "noteOf", "(I)I"⟩
abbrev cX1_sumOfNotes : ByteArray := prog_3_method_12_code
def yX1_sumOfNotes : MethodName := ⟨RX1, "sumOfNotes", "()I"⟩
abbrev cX1_bodyOfLeaf : ByteArray := prog_3_method_13_code
def yX1_bodyOfLeaf : MethodName := ⟨RX1, "bodyOfLeaf", "()I"⟩
abbrev cX1_briskOfLeaf : ByteArray := prog_3_method_14_code
def yX1_briskOfLeaf : MethodName := ⟨RX1, "briskOfLeaf", "(I)I"⟩
abbrev cX1_aromaOfLeaf : ByteArray := prog_3_method_15_code
def yX1_aromaOfLeaf : MethodName := ⟨RX1, "aromaOfLeaf", "(I)I"⟩
def RX2 : String := "FlushGarden$Section"
def TX2 : u_T := fun k => match k with
  | 0 => ("FlushGarden$Section", "area", "I", false)
  | 1 => ("FlushGarden$Section", "shade", "I", false)
  | 2 => ("FlushGarden$Section", "sap", "I", false)
  | 3 => ("FlushGarden$Section", "resting", "I", false)
  | 4 => ("FlushGarden$Section", "blight", "I", false)
  | 5 => ("FlushGarden$Section", "poison", "I", false)
  | 6 => ("FlushGarden$Section", "hard", "I", false)
  | _ => ("FlushGarden$Section", "shoots", "[I", true)
def tyX2 : Nat → FieldType := fun k => match k with
  | 0 => .int
  | 1 => .int
  | 2 => .int
  | 3 => .int
  | 4 => .int
  | 5 => .int
  | 6 => .int
  | _ => .array .int
theorem nmX2 : ∀ a, a < 8 → ∀ b, b < 8 → a ≠ b → (TX2 a).2.1 ≠ (TX2 b).2.1 := by decide +kernel
theorem tyX2_ok : ∀ k, k < 8 → parseFieldDescriptor (TX2 k).2.2.1 = some (tyX2 k) := by decide +kernel
abbrev cX2_init : ByteArray := prog_4_method_1_code
def yX2_init : MethodName := ⟨RX2, "<init>", "()V"⟩
abbrev cX2_sapOfDay : ByteArray := prog_4_method_2_code
def yX2_sapOfDay : MethodName := ⟨RX2, "sapOfDay", "(II)I"⟩
abbrev cX2_growDay : ByteArray := prog_4_method_3_code
def yX2_growDay : MethodName := ⟨RX2, "growDay", "(II)I"⟩
abbrev cX2_flushOnce : ByteArray := prog_4_method_4_code
def yX2_flushOnce : MethodName := ⟨RX2, "flushOnce", "()V"⟩
abbrev cX2_cutBack : ByteArray := prog_4_method_5_code
def yX2_cutBack : MethodName := ⟨RX2, "cutBack", "()I"⟩
def RX3 : String := "FlushGarden$Taster"
def TX3 : u_T := fun k => match k with
  | 0 => ("FlushGarden$Taster", "leans", "I", false)
  | 1 => ("FlushGarden$Taster", "toldTooMuch", "I", false)
  | _ => ("FlushGarden$Taster", "repeats", "I", false)
def tyX3 : Nat → FieldType := fun k => match k with
  | 0 => .int
  | 1 => .int
  | _ => .int
theorem nmX3 : ∀ a, a < 3 → ∀ b, b < 3 → a ≠ b → (TX3 a).2.1 ≠ (TX3 b).2.1 := by decide +kernel
theorem tyX3_ok : ∀ k, k < 3 → parseFieldDescriptor (TX3 k).2.2.1 = some (tyX3 k) := by decide +kernel
abbrev cX3_init : ByteArray := prog_5_method_1_code
def yX3_init : MethodName := ⟨RX3, "<init>", "()V"⟩
abbrev cX3_tells : ByteArray := prog_5_method_2_code
def yX3_tells : MethodName := ⟨RX3, "tells", "(I)I"⟩
abbrev cX3_guess : ByteArray := prog_5_method_3_code
def yX3_guess : MethodName := ⟨RX3, "guess", "()I"⟩
def RX4 : String := "FlushGarden"
def TX4 : u_T := fun k => match k with
  | 0 => ("FlushGarden", "sections", "[LFlushGarden$Section;", true)
  | 1 => ("FlushGarden", "sectionCount", "I", false)
  | 2 => ("FlushGarden", "now", "I", false)
  | 3 => ("FlushGarden", "lots", "[LFlushGarden$Lot;", true)
  | 4 => ("FlushGarden", "lotCount", "I", false)
  | 5 => ("FlushGarden", "trial", "LFlushGarden$Lot;", true)
  | 6 => ("FlushGarden", "tasters", "[LFlushGarden$Taster;", true)
  | 7 => ("FlushGarden", "purses", "[I", true)
  | 8 => ("FlushGarden", "money", "I", false)
  | 9 => ("FlushGarden", "soldLots", "I", false)
  | 10 => ("FlushGarden", "soldUnits", "I", false)
  | _ => ("FlushGarden", "pluckedUnits", "I", false)
def tyX4 : Nat → FieldType := fun k => match k with
  | 0 => .array (.object "FlushGarden$Section")
  | 1 => .int
  | 2 => .int
  | 3 => .array (.object "FlushGarden$Lot")
  | 4 => .int
  | 5 => .object "FlushGarden$Lot"
  | 6 => .array (.object "FlushGarden$Taster")
  | 7 => .array .int
  | 8 => .int
  | 9 => .int
  | 10 => .int
  | _ => .int
theorem nmX4 : ∀ a, a < 12 → ∀ b, b < 12 → a ≠ b → (TX4 a).2.1 ≠ (TX4 b).2.1 := by decide +kernel
theorem tyX4_ok : ∀ k, k < 12 → parseFieldDescriptor (TX4 k).2.2.1 = some (tyX4 k) := by decide +kernel
abbrev cX4_init : ByteArray := prog_1_method_1_code
def yX4_init : MethodName := ⟨RX4, "<init>", "()V"⟩
abbrev cX4_section : ByteArray := prog_1_method_2_code
def yX4_section : MethodName := ⟨RX4, "section", "(II)I"⟩
abbrev cX4_pass : ByteArray := prog_1_method_3_code
def yX4_pass : MethodName := ⟨RX4, "pass", "(III)I"⟩
abbrev cX4_prune : ByteArray := prog_1_method_4_code
def yX4_prune : MethodName := ⟨RX4, "prune", "(I)I"⟩
abbrev cX4_spray : ByteArray := prog_1_method_5_code
def yX4_spray : MethodName := ⟨RX4, "spray", "(I)I"⟩
abbrev cX4_pluck : ByteArray := prog_1_method_6_code
def yX4_pluck : MethodName := ⟨RX4, "pluck", "(III)I"⟩
abbrev cX4_join : ByteArray := prog_1_method_7_code
def yX4_join : MethodName := ⟨RX4, "join", "(II)I"⟩
abbrev cX4_wither : ByteArray := prog_1_method_8_code
def yX4_wither : MethodName := ⟨RX4, "wither", "(III)I"⟩
abbrev cX4_kill : ByteArray := prog_1_method_9_code
def yX4_kill : MethodName := ⟨RX4, "kill", "(I)I"⟩
abbrev cX4_roll : ByteArray := prog_1_method_10_code
def yX4_roll : MethodName := ⟨RX4, "roll", "(II)I"⟩
abbrev cX4_rest : ByteArray := prog_1_method_11_code
def yX4_rest : MethodName := ⟨RX4, "rest", "(III)I"⟩
abbrev cX4_fire : ByteArray := prog_1_method_12_code
def yX4_fire : MethodName := ⟨RX4, "fire", "(III)I"⟩
abbrev cX4_sort : ByteArray := prog_1_method_13_code
def yX4_sort : MethodName := ⟨RX4, "sort", "(I)I"⟩
abbrev cX4_mix : ByteArray := prog_1_method_14_code
def yX4_mix : MethodName := ⟨RX4, "mix", "(IIII)I"⟩
abbrev cX4_lean : ByteArray := prog_1_method_15_code
def yX4_lean : MethodName := ⟨RX4, "lean", "(II)I"⟩
abbrev cX4_repeat : ByteArray := prog_1_method_16_code
def yX4_repeat : MethodName := ⟨RX4, "repeat", "(II)I"⟩
abbrev cX4_purse : ByteArray := prog_1_method_17_code
def yX4_purse : MethodName := ⟨RX4, "purse", "(II)I"⟩
abbrev cX4_offer : ByteArray := prog_1_method_18_code
def yX4_offer : MethodName := ⟨RX4, "offer", "(II)I"⟩
abbrev cX4_bid : ByteArray := prog_1_method_19_code
def yX4_bid : MethodName := ⟨RX4, "bid", "(III)I"⟩
abbrev cX4_knock : ByteArray := prog_1_method_20_code
def yX4_knock : MethodName := ⟨RX4, "knock", "(I)I"⟩
abbrev cX4_ofSection : ByteArray := prog_1_method_21_code
def yX4_ofSection : MethodName := ⟨RX4, "ofSection", "(II)I"⟩
abbrev cX4_ofLot : ByteArray := prog_1_method_22_code
def yX4_ofLot : MethodName := ⟨RX4, "ofLot", "(II)I"⟩
abbrev cX4_note : ByteArray := prog_1_method_23_code
def yX4_note : MethodName := ⟨RX4, "note", "(II)I"⟩
abbrev cX4_taste : ByteArray := prog_1_method_24_code
def yX4_taste : MethodName := ⟨RX4, "taste", "(II)I"⟩
abbrev cX4_ofTaster : ByteArray := prog_1_method_25_code
def yX4_ofTaster : MethodName := ⟨RX4, "ofTaster", "(II)I"⟩
abbrev cX4_bidOf : ByteArray := prog_1_method_26_code
def yX4_bidOf : MethodName := ⟨RX4, "bidOf", "(II)I"⟩
abbrev cX4_many : ByteArray := prog_1_method_27_code
def yX4_many : MethodName := ⟨RX4, "many", "(I)I"⟩
abbrev cX4_meanNotes : ByteArray := prog_1_method_28_code
def yX4_meanNotes : MethodName := ⟨RX4, "meanNotes", "()D"⟩
abbrev cX4_flushIn : ByteArray := prog_1_method_29_code
def yX4_flushIn : MethodName := ⟨RX4, "flushIn", "(III)I"⟩
abbrev cX4_bestFire : ByteArray := prog_1_method_30_code
def yX4_bestFire : MethodName := ⟨RX4, "bestFire", "(I)I"⟩
abbrev cX4_bestMix : ByteArray := prog_1_method_31_code
def yX4_bestMix : MethodName := ⟨RX4, "bestMix", "(III)I"⟩
abbrev cX4_wouldPay : ByteArray := prog_1_method_32_code
def yX4_wouldPay : MethodName := ⟨RX4, "wouldPay", "(I)I"⟩
abbrev cX4_digest : ByteArray := prog_1_method_33_code
def yX4_digest : MethodName := ⟨RX4, "digest", "()J"⟩
abbrev cX4_digestLot : ByteArray := prog_1_method_34_code
def yX4_digestLot : MethodName := ⟨RX4, "digestLot", "(JI)J"⟩
abbrev cX4_requireArgument : ByteArray := prog_1_method_35_code
def yX4_requireArgument : MethodName := ⟨RX4, "requireArgument", "(III)V"⟩
abbrev cX4_requireDifferent : ByteArray := prog_1_method_36_code
def yX4_requireDifferent : MethodName := ⟨RX4, "requireDifferent", "(II)V"⟩
abbrev cX4_requireIndex : ByteArray := prog_1_method_37_code
def yX4_requireIndex : MethodName := ⟨RX4, "requireIndex", "(II)V"⟩
abbrev cX4_requireState : ByteArray := prog_1_method_38_code
def yX4_requireState : MethodName := ⟨RX4, "requireState", "(Z)V"⟩
abbrev cX4_heldNote : ByteArray := prog_1_method_39_code
def yX4_heldNote : MethodName := ⟨RX4, "heldNote", "(I)I"⟩
abbrev cX4_sectionAt : ByteArray := prog_1_method_40_code
def yX4_sectionAt : MethodName := ⟨RX4, "sectionAt", "(I)LFlushGarden$Section;"⟩
abbrev cX4_lotAt : ByteArray := prog_1_method_41_code
def yX4_lotAt : MethodName := ⟨RX4, "lotAt", "(I)LFlushGarden$Lot;"⟩
abbrev cX4_madeLotAt : ByteArray := prog_1_method_42_code
def yX4_madeLotAt : MethodName := ⟨RX4, "madeLotAt", "(I)LFlushGarden$Lot;"⟩
abbrev cX4_tasterAt : ByteArray := prog_1_method_43_code
def yX4_tasterAt : MethodName := ⟨RX4, "tasterAt", "(I)LFlushGarden$Taster;"⟩
abbrev cX4_newLot : ByteArray := prog_1_method_44_code
def yX4_newLot : MethodName := ⟨RX4, "newLot", "()LFlushGarden$Lot;"⟩
abbrev cX4_countLots : ByteArray := prog_1_method_45_code
def yX4_countLots : MethodName := ⟨RX4, "countLots", "(I)I"⟩
abbrev cX4_dryOfAll : ByteArray := prog_1_method_46_code
def yX4_dryOfAll : MethodName := ⟨RX4, "dryOfAll", "()I"⟩
abbrev cX4_costOf : ByteArray := prog_1_method_47_code
def yX4_costOf : MethodName := ⟨RX4, "costOf", "(LFlushGarden$Lot;I)I"⟩
abbrev cX4_mayBuy : ByteArray := prog_1_method_48_code
def yX4_mayBuy : MethodName := ⟨RX4, "mayBuy", "(LFlushGarden$Lot;I)Z"⟩
abbrev cX4_winnerOf : ByteArray := prog_1_method_49_code
def yX4_winnerOf : MethodName := ⟨RX4, "winnerOf", "(LFlushGarden$Lot;)I"⟩
abbrev cX4_priceFor : ByteArray := prog_1_method_50_code
def yX4_priceFor : MethodName := ⟨RX4, "priceFor", "(LFlushGarden$Lot;I)I"⟩
abbrev cX4_leastMix : ByteArray := prog_1_method_51_code
def yX4_leastMix : MethodName := ⟨RX4, "leastMix", "(ILFlushGarden$Lot;LFlushGarden$Lot;III)I"⟩
def RX5 : String := "FlushGardenModel$Lot"
def TX5 : u_T := fun k => match k with
  | 0 => ("FlushGardenModel$Lot", "state", "I", false)
  | 1 => ("FlushGardenModel$Lot", "units", "[I", true)
  | 2 => ("FlushGardenModel$Lot", "fine", "I", false)
  | 3 => ("FlushGardenModel$Lot", "water", "I", false)
  | 4 => ("FlushGardenModel$Lot", "chem", "I", false)
  | 5 => ("FlushGardenModel$Lot", "broken", "I", false)
  | 6 => ("FlushGardenModel$Lot", "ox", "I", false)
  | 7 => ("FlushGardenModel$Lot", "hard", "I", false)
  | 8 => ("FlushGardenModel$Lot", "burn", "I", false)
  | 9 => ("FlushGardenModel$Lot", "grade", "I", false)
  | 10 => ("FlushGardenModel$Lot", "isKilled", "Z", false)
  | 11 => ("FlushGardenModel$Lot", "isTainted", "Z", false)
  | 12 => ("FlushGardenModel$Lot", "notes", "[I", false)
  | 13 => ("FlushGardenModel$Lot", "reserve", "I", false)
  | _ => ("FlushGardenModel$Lot", "bids", "Ljava/util/ArrayList;", true)
def tyX5 : Nat → FieldType := fun k => match k with
  | 0 => .int
  | 1 => .array .int
  | 2 => .int
  | 3 => .int
  | 4 => .int
  | 5 => .int
  | 6 => .int
  | 7 => .int
  | 8 => .int
  | 9 => .int
  | 10 => .boolean
  | 11 => .boolean
  | 12 => .array .int
  | 13 => .int
  | _ => .object "java/util/ArrayList"
theorem nmX5 : ∀ a, a < 15 → ∀ b, b < 15 → a ≠ b → (TX5 a).2.1 ≠ (TX5 b).2.1 := by decide +kernel
theorem tyX5_ok : ∀ k, k < 15 → parseFieldDescriptor (TX5 k).2.2.1 = some (tyX5 k) := by decide +kernel
abbrev cX5_init : ByteArray := prog_8_method_1_code
def yX5_init : MethodName := ⟨RX5, "<init>", "()V"⟩
abbrev cX5_dry : ByteArray := prog_8_method_2_code
def yX5_dry : MethodName := ⟨RX5, "dry", "()I"⟩
abbrev cX5_like : ByteArray := prog_8_method_3_code
def yX5_like : MethodName := ⟨RX5, "like", "()LFlushGardenModel$Lot;"⟩
abbrev cX5_copy : ByteArray := prog_8_method_4_code
def yX5_copy : MethodName := ⟨RX5, "copy", "()LFlushGardenModel$Lot;"⟩
abbrev cX5_go : ByteArray := prog_8_method_5_code
def yX5_go : MethodName := ⟨RX5, "go", "()V"⟩
abbrev cX5_isOffered : ByteArray := prog_8_method_6_code
def yX5_isOffered : MethodName := ⟨RX5, "isOffered", "()Z"⟩
abbrev cX5_isDryEnough : ByteArray := prog_8_method_7_code
def yX5_isDryEnough : MethodName := ⟨RX5, "isDryEnough", "()Z"⟩
abbrev cX5_note : ByteArray := prog_8_method_8_code
def yX5_note : MethodName := ⟨RX5, "note", "(I)I"⟩
abbrev cX5_sum : ByteArray := prog_8_method_9_code
def yX5_sum : MethodName := ⟨RX5, "sum", "()I"⟩
abbrev cX5_wither : ByteArray := prog_8_method_10_code
def yX5_wither : MethodName := ⟨RX5, "wither", "(I)V"⟩
abbrev cX5_fire : ByteArray := prog_8_method_11_code
def yX5_fire : MethodName := ⟨RX5, "fire", "(I)V"⟩
abbrev cX5_settle : ByteArray := prog_8_method_12_code
def yX5_settle : MethodName := ⟨RX5, "settle", "()V"⟩
def RX6 : String := "FlushGardenModel$Section"
def TX6 : u_T := fun k => match k with
  | 0 => ("FlushGardenModel$Section", "area", "I", true)
  | 1 => ("FlushGardenModel$Section", "shade", "I", true)
  | 2 => ("FlushGardenModel$Section", "sap", "I", false)
  | 3 => ("FlushGardenModel$Section", "rest", "I", false)
  | 4 => ("FlushGardenModel$Section", "blight", "I", false)
  | 5 => ("FlushGardenModel$Section", "poison", "I", false)
  | _ => ("FlushGardenModel$Section", "shoots", "[I", true)
def tyX6 : Nat → FieldType := fun k => match k with
  | 0 => .int
  | 1 => .int
  | 2 => .int
  | 3 => .int
  | 4 => .int
  | 5 => .int
  | _ => .array .int
theorem nmX6 : ∀ a, a < 7 → ∀ b, b < 7 → a ≠ b → (TX6 a).2.1 ≠ (TX6 b).2.1 := by decide +kernel
theorem tyX6_ok : ∀ k, k < 7 → parseFieldDescriptor (TX6 k).2.2.1 = some (tyX6 k) := by decide +kernel
abbrev cX6_init : ByteArray := prog_9_method_1_code
def yX6_init : MethodName := ⟨RX6, "<init>", "(II)V"⟩
abbrev cX6_copy : ByteArray := prog_9_method_2_code
def yX6_copy : MethodName := ⟨RX6, "copy", "()LFlushGardenModel$Section;"⟩
abbrev cX6_day : ByteArray := prog_9_method_3_code
def yX6_day : MethodName := ⟨RX6, "day", "(II)I"⟩
abbrev cX6_flush : ByteArray := prog_9_method_4_code
def yX6_flush : MethodName := ⟨RX6, "flush", "()V"⟩
abbrev cX6_prune : ByteArray := prog_9_method_5_code
def yX6_prune : MethodName := ⟨RX6, "prune", "()I"⟩
abbrev cX6_mayTake : ByteArray := prog_9_method_6_code
def yX6_mayTake : MethodName := ⟨RX6, "mayTake", "(I)I"⟩
def RX7 : String := "FlushGardenModel$Taster"
def TX7 : u_T := fun k => match k with
  | 0 => ("FlushGardenModel$Taster", "lean", "I", false)
  | 1 => ("FlushGardenModel$Taster", "sum", "I", false)
  | _ => ("FlushGardenModel$Taster", "repeats", "I", false)
def tyX7 : Nat → FieldType := fun k => match k with
  | 0 => .int
  | 1 => .int
  | _ => .int
theorem nmX7 : ∀ a, a < 3 → ∀ b, b < 3 → a ≠ b → (TX7 a).2.1 ≠ (TX7 b).2.1 := by decide +kernel
theorem tyX7_ok : ∀ k, k < 3 → parseFieldDescriptor (TX7 k).2.2.1 = some (tyX7 k) := by decide +kernel
abbrev cX7_init : ByteArray := prog_10_method_1_code
def yX7_init : MethodName := ⟨RX7, "<init>", "()V"⟩
abbrev cX7_tells : ByteArray := prog_10_method_2_code
def yX7_tells : MethodName := ⟨RX7, "tells", "(I)I"⟩
abbrev cX7_guess : ByteArray := prog_10_method_3_code
def yX7_guess : MethodName := ⟨RX7, "guess", "()I"⟩
def RX8 : String := "FlushGardenModel"
def TX8 : u_T := fun k => match k with
  | 0 => ("FlushGardenModel", "thrown", "I", false)
  | 1 => ("FlushGardenModel", "now", "I", false)
  | 2 => ("FlushGardenModel", "money", "I", false)
  | 3 => ("FlushGardenModel", "knocked", "I", false)
  | 4 => ("FlushGardenModel", "plucked", "I", false)
  | 5 => ("FlushGardenModel", "sold", "I", false)
  | 6 => ("FlushGardenModel", "sections", "Ljava/util/ArrayList;", true)
  | 7 => ("FlushGardenModel", "lots", "Ljava/util/ArrayList;", true)
  | 8 => ("FlushGardenModel", "tasters", "[LFlushGardenModel$Taster;", true)
  | _ => ("FlushGardenModel", "purses", "[I", true)
def tyX8 : Nat → FieldType := fun k => match k with
  | 0 => .int
  | 1 => .int
  | 2 => .int
  | 3 => .int
  | 4 => .int
  | 5 => .int
  | 6 => .object "java/util/ArrayList"
  | 7 => .object "java/util/ArrayList"
  | 8 => .array (.object "FlushGardenModel$Taster")
  | _ => .array .int
theorem nmX8 : ∀ a, a < 10 → ∀ b, b < 10 → a ≠ b → (TX8 a).2.1 ≠ (TX8 b).2.1 := by decide +kernel
theorem tyX8_ok : ∀ k, k < 10 → parseFieldDescriptor (TX8 k).2.2.1 = some (tyX8 k) := by decide +kernel
abbrev cX8_isIn : ByteArray := prog_7_method_1_code
def yX8_isIn : MethodName := ⟨RX8, "isIn", "(III)Z"⟩
abbrev cX8_held : ByteArray := prog_7_method_2_code
def yX8_held : MethodName := ⟨RX8, "held", "(I)I"⟩
abbrev cX8_init : ByteArray := prog_7_method_3_code
def yX8_init : MethodName := ⟨RX8, "<init>", "()V"⟩
abbrev cX8_thrown : ByteArray := prog_7_method_4_code
def yX8_thrown : MethodName := ⟨RX8, "thrown", "()I"⟩
abbrev cX8_refuse : ByteArray := prog_7_method_5_code
def yX8_refuse : MethodName := ⟨RX8, "refuse", "(ZI)Z"⟩
abbrev cX8_start : ByteArray := prog_7_method_6_code
def yX8_start : MethodName := ⟨RX8, "start", "(ZI)Z"⟩
abbrev cX8_isNoSection : ByteArray := prog_7_method_7_code
def yX8_isNoSection : MethodName := ⟨RX8, "isNoSection", "(I)Z"⟩
abbrev cX8_isNoLot : ByteArray := prog_7_method_8_code
def yX8_isNoLot : MethodName := ⟨RX8, "isNoLot", "(I)Z"⟩
abbrev cX8_isState : ByteArray := prog_7_method_9_code
def yX8_isState : MethodName := ⟨RX8, "isState", "(II)Z"⟩
abbrev cX8_section : ByteArray := prog_7_method_10_code
def yX8_section : MethodName := ⟨RX8, "section", "(II)I"⟩
abbrev cX8_isNoWeather : ByteArray := prog_7_method_11_code
def yX8_isNoWeather : MethodName := ⟨RX8, "isNoWeather", "(II)Z"⟩
abbrev cX8_pass : ByteArray := prog_7_method_12_code
def yX8_pass : MethodName := ⟨RX8, "pass", "(III)I"⟩
abbrev cX8_prune : ByteArray := prog_7_method_13_code
def yX8_prune : MethodName := ⟨RX8, "prune", "(I)I"⟩
abbrev cX8_spray : ByteArray := prog_7_method_14_code
def yX8_spray : MethodName := ⟨RX8, "spray", "(I)I"⟩
abbrev cX8_pluck : ByteArray := prog_7_method_15_code
def yX8_pluck : MethodName := ⟨RX8, "pluck", "(III)I"⟩
abbrev cX8_join : ByteArray := prog_7_method_16_code
def yX8_join : MethodName := ⟨RX8, "join", "(II)I"⟩
abbrev cX8_wither : ByteArray := prog_7_method_17_code
def yX8_wither : MethodName := ⟨RX8, "wither", "(III)I"⟩
abbrev cX8_kill : ByteArray := prog_7_method_18_code
def yX8_kill : MethodName := ⟨RX8, "kill", "(I)I"⟩
abbrev cX8_roll : ByteArray := prog_7_method_19_code
def yX8_roll : MethodName := ⟨RX8, "roll", "(II)I"⟩
abbrev cX8_rest : ByteArray := prog_7_method_20_code
def yX8_rest : MethodName := ⟨RX8, "rest", "(III)I"⟩
abbrev cX8_fire : ByteArray := prog_7_method_21_code
def yX8_fire : MethodName := ⟨RX8, "fire", "(III)I"⟩
abbrev cX8_sort : ByteArray := prog_7_method_22_code
def yX8_sort : MethodName := ⟨RX8, "sort", "(I)I"⟩
abbrev cX8_part : ByteArray := prog_7_method_23_code
def yX8_part : MethodName := ⟨RX8, "part", "(III)I"⟩
abbrev cX8_graded : ByteArray := prog_7_method_24_code
def yX8_graded : MethodName := ⟨RX8, "graded", "(LFlushGardenModel$Lot;)Ljava/util/ArrayList;"⟩
abbrev cX8_canMix : ByteArray := prog_7_method_25_code
def yX8_canMix : MethodName := ⟨RX8, "canMix", "(I)Z"⟩
abbrev cX8_mix : ByteArray := prog_7_method_26_code
def yX8_mix : MethodName := ⟨RX8, "mix", "(IIII)I"⟩
abbrev cX8_take : ByteArray := prog_7_method_27_code
def yX8_take : MethodName := ⟨RX8, "take", "(LFlushGardenModel$Lot;ILFlushGardenModel$Lot;)V"⟩
abbrev cX8_isNoTaster : ByteArray := prog_7_method_28_code
def yX8_isNoTaster : MethodName := ⟨RX8, "isNoTaster", "(I)Z"⟩
abbrev cX8_isNoBuyer : ByteArray := prog_7_method_29_code
def yX8_isNoBuyer : MethodName := ⟨RX8, "isNoBuyer", "(I)Z"⟩
abbrev cX8_lean : ByteArray := prog_7_method_30_code
def yX8_lean : MethodName := ⟨RX8, "lean", "(II)I"⟩
abbrev cX8_repeat : ByteArray := prog_7_method_31_code
def yX8_repeat : MethodName := ⟨RX8, "repeat", "(II)I"⟩
abbrev cX8_purse : ByteArray := prog_7_method_32_code
def yX8_purse : MethodName := ⟨RX8, "purse", "(II)I"⟩
abbrev cX8_offer : ByteArray := prog_7_method_33_code
def yX8_offer : MethodName := ⟨RX8, "offer", "(II)I"⟩
abbrev cX8_bid : ByteArray := prog_7_method_34_code
def yX8_bid : MethodName := ⟨RX8, "bid", "(III)I"⟩
abbrev cX8_able : ByteArray := prog_7_method_35_code
def yX8_able : MethodName := ⟨RX8, "able", "(LFlushGardenModel$Lot;)Ljava/util/ArrayList;"⟩
abbrev cX8_outcome : ByteArray := prog_7_method_36_code
def yX8_outcome : MethodName := ⟨RX8, "outcome", "(LFlushGardenModel$Lot;)[I"⟩
abbrev cX8_knock : ByteArray := prog_7_method_37_code
def yX8_knock : MethodName := ⟨RX8, "knock", "(I)I"⟩
abbrev cX8_ofSectionNow : ByteArray := prog_7_method_38_code
def yX8_ofSectionNow : MethodName := ⟨RX8, "ofSectionNow", "(II)I"⟩
abbrev cX8_ofSection : ByteArray := prog_7_method_39_code
def yX8_ofSection : MethodName := ⟨RX8, "ofSection", "(II)I"⟩
abbrev cX8_ofLotNow : ByteArray := prog_7_method_40_code
def yX8_ofLotNow : MethodName := ⟨RX8, "ofLotNow", "(II)I"⟩
abbrev cX8_ofLot : ByteArray := prog_7_method_41_code
def yX8_ofLot : MethodName := ⟨RX8, "ofLot", "(II)I"⟩
abbrev cX8_isNote : ByteArray := prog_7_method_42_code
def yX8_isNote : MethodName := ⟨RX8, "isNote", "(II)Z"⟩
abbrev cX8_note : ByteArray := prog_7_method_43_code
def yX8_note : MethodName := ⟨RX8, "note", "(II)I"⟩
abbrev cX8_tasteNow : ByteArray := prog_7_method_44_code
def yX8_tasteNow : MethodName := ⟨RX8, "tasteNow", "(II)I"⟩
abbrev cX8_taste : ByteArray := prog_7_method_45_code
def yX8_taste : MethodName := ⟨RX8, "taste", "(II)I"⟩
abbrev cX8_ofTasterNow : ByteArray := prog_7_method_46_code
def yX8_ofTasterNow : MethodName := ⟨RX8, "ofTasterNow", "(II)I"⟩
abbrev cX8_ofTaster : ByteArray := prog_7_method_47_code
def yX8_ofTaster : MethodName := ⟨RX8, "ofTaster", "(II)I"⟩
abbrev cX8_bidOfNow : ByteArray := prog_7_method_48_code
def yX8_bidOfNow : MethodName := ⟨RX8, "bidOfNow", "(II)I"⟩
abbrev cX8_bidOf : ByteArray := prog_7_method_49_code
def yX8_bidOf : MethodName := ⟨RX8, "bidOf", "(II)I"⟩
abbrev cX8_count : ByteArray := prog_7_method_50_code
def yX8_count : MethodName := ⟨RX8, "count", "(I)I"⟩
abbrev cX8_manyNow : ByteArray := prog_7_method_51_code
def yX8_manyNow : MethodName := ⟨RX8, "manyNow", "(I)I"⟩
abbrev cX8_many : ByteArray := prog_7_method_52_code
def yX8_many : MethodName := ⟨RX8, "many", "(I)I"⟩
abbrev cX8_meanNotes : ByteArray := prog_7_method_53_code
def yX8_meanNotes : MethodName := ⟨RX8, "meanNotes", "()D"⟩
abbrev cX8_flushInNow : ByteArray := prog_7_method_54_code
def yX8_flushInNow : MethodName := ⟨RX8, "flushInNow", "(III)I"⟩
abbrev cX8_flushIn : ByteArray := prog_7_method_55_code
def yX8_flushIn : MethodName := ⟨RX8, "flushIn", "(III)I"⟩
abbrev cX8_bestFireNow : ByteArray := prog_7_method_56_code
def yX8_bestFireNow : MethodName := ⟨RX8, "bestFireNow", "(I)I"⟩
abbrev cX8_bestFire : ByteArray := prog_7_method_57_code
def yX8_bestFire : MethodName := ⟨RX8, "bestFire", "(I)I"⟩
abbrev cX8_bestMixNow : ByteArray := prog_7_method_58_code
def yX8_bestMixNow : MethodName := ⟨RX8, "bestMixNow", "([I)I"⟩
abbrev cX8_isNoNote : ByteArray := prog_7_method_59_code
def yX8_isNoNote : MethodName := ⟨RX8, "isNoNote", "(I)Z"⟩
abbrev cX8_bestMix : ByteArray := prog_7_method_60_code
def yX8_bestMix : MethodName := ⟨RX8, "bestMix", "(III)I"⟩
abbrev cX8_wouldPayNow : ByteArray := prog_7_method_61_code
def yX8_wouldPayNow : MethodName := ⟨RX8, "wouldPayNow", "(I)I"⟩
abbrev cX8_wouldPay : ByteArray := prog_7_method_62_code
def yX8_wouldPay : MethodName := ⟨RX8, "wouldPay", "(I)I"⟩
abbrev cX8_add : ByteArray := prog_7_method_63_code
def yX8_add : MethodName := ⟨RX8, "add", "(JJ)J"⟩
abbrev cX8_digest : ByteArray := prog_7_method_64_code
def yX8_digest : MethodName := ⟨RX8, "digest", "()J"⟩
abbrev cX8_addLot : ByteArray := prog_7_method_65_code
def yX8_addLot : MethodName := ⟨RX8, "addLot", "(JI)J"⟩
def RJx145de : String := "java/io/Serializable"
def TJx145de : u_T := fun k => match k with
  | _ => ("", "", "", false)
def tyJx145de : Nat → FieldType := fun k => match k with
  | _ => .int
theorem nmJx145de : ∀ a, a < 0 → ∀ b, b < 0 → a ≠ b → (TJx145de a).2.1 ≠ (TJx145de b).2.1 := by decide +kernel
theorem tyJx145de_ok : ∀ k, k < 0 → parseFieldDescriptor (TJx145de k).2.2.1 = some (tyJx145de k) := by decide +kernel
def RJx8e188 : String := "java/lang/Cloneable"
def TJx8e188 : u_T := fun k => match k with
  | _ => ("", "", "", false)
def tyJx8e188 : Nat → FieldType := fun k => match k with
  | _ => .int
theorem nmJx8e188 : ∀ a, a < 0 → ∀ b, b < 0 → a ≠ b → (TJx8e188 a).2.1 ≠ (TJx8e188 b).2.1 := by decide +kernel
theorem tyJx8e188_ok : ∀ k, k < 0 → parseFieldDescriptor (TJx8e188 k).2.2.1 = some (tyJx8e188 k) := by decide +kernel
def RJxab1ab : String := "java/lang/Iterable"
def TJxab1ab : u_T := fun k => match k with
  | _ => ("", "", "", false)
def tyJxab1ab : Nat → FieldType := fun k => match k with
  | _ => .int
theorem nmJxab1ab : ∀ a, a < 0 → ∀ b, b < 0 → a ≠ b → (TJxab1ab a).2.1 ≠ (TJxab1ab b).2.1 := by decide +kernel
theorem tyJxab1ab_ok : ∀ k, k < 0 → parseFieldDescriptor (TJxab1ab k).2.2.1 = some (tyJxab1ab k) := by decide +kernel
def RJ9 : String := "java/lang/Math"
def TJ9 : u_T := fun k => match k with
  | _ => ("", "", "", false)
def tyJ9 : Nat → FieldType := fun k => match k with
  | _ => .int
theorem nmJ9 : ∀ a, a < 0 → ∀ b, b < 0 → a ≠ b → (TJ9 a).2.1 ≠ (TJ9 b).2.1 := by decide +kernel
theorem tyJ9_ok : ∀ k, k < 0 → parseFieldDescriptor (TJ9 k).2.2.1 = some (tyJ9 k) := by decide +kernel
abbrev cJ9_abs_0f7a4 : ByteArray := prog_18_method_59_code
def yJ9_abs_0f7a4 : MethodName := ⟨RJ9, "abs", "(I)I"⟩
abbrev cJ9_max_7cf53 : ByteArray := prog_18_method_65_code
def yJ9_max_7cf53 : MethodName := ⟨RJ9, "max", "(II)I"⟩
abbrev cJ9_min_7cf53 : ByteArray := prog_18_method_69_code
def yJ9_min_7cf53 : MethodName := ⟨RJ9, "min", "(II)I"⟩
def RJ10 : String := "java/lang/System"
def TJ10 : u_T := fun k => match k with
  | _ => ("", "", "", false)
def tyJ10 : Nat → FieldType := fun k => match k with
  | _ => .int
theorem nmJ10 : ∀ a, a < 0 → ∀ b, b < 0 → a ≠ b → (TJ10 a).2.1 ≠ (TJ10 b).2.1 := by decide +kernel
theorem tyJ10_ok : ∀ k, k < 0 → parseFieldDescriptor (TJ10 k).2.2.1 = some (tyJ10 k) := by decide +kernel
def RJxa1e45 : String := "java/util/AbstractCollection"
def TJxa1e45 : u_T := fun k => match k with
  | _ => ("", "", "", false)
def tyJxa1e45 : Nat → FieldType := fun k => match k with
  | _ => .int
theorem nmJxa1e45 : ∀ a, a < 0 → ∀ b, b < 0 → a ≠ b → (TJxa1e45 a).2.1 ≠ (TJxa1e45 b).2.1 := by decide +kernel
theorem tyJxa1e45_ok : ∀ k, k < 0 → parseFieldDescriptor (TJxa1e45 k).2.2.1 = some (tyJxa1e45 k) := by decide +kernel
abbrev cJxa1e45_init_da8c8 : ByteArray := prog_22_method_1_code
def yJxa1e45_init_da8c8 : MethodName := ⟨RJxa1e45, "<init>", "()V"⟩
def RJxc12de : String := "java/util/AbstractList"
def TJxc12de : u_T := fun k => match k with
  | _ => ("", "", "", false)
def tyJxc12de : Nat → FieldType := fun k => match k with
  | _ => .int
theorem nmJxc12de : ∀ a, a < 0 → ∀ b, b < 0 → a ≠ b → (TJxc12de a).2.1 ≠ (TJxc12de b).2.1 := by decide +kernel
theorem tyJxc12de_ok : ∀ k, k < 0 → parseFieldDescriptor (TJxc12de k).2.2.1 = some (tyJxc12de k) := by decide +kernel
abbrev cJxc12de_init_da8c8 : ByteArray := prog_23_method_1_code
def yJxc12de_init_da8c8 : MethodName := ⟨RJxc12de, "<init>", "()V"⟩
def RJx35411 : String := "java/util/ArrayList$Itr"
def TJx35411 : u_T := fun k => match k with
  | 0 => ("java/util/ArrayList$Itr", "cursor", "I", false)
  | 1 => ("java/util/ArrayList$Itr", "lastRet", "I", false)
  | 2 => ("java/util/ArrayList$Itr", "expectedModCount", "I", false)
  | _ => ("java/util/ArrayList$Itr", "this$0", "Ljava/util/ArrayList;", true)
def tyJx35411 : Nat → FieldType := fun k => match k with
  | 0 => .int
  | 1 => .int
  | 2 => .int
  | _ => .object "java/util/ArrayList"
theorem nmJx35411 : ∀ a, a < 4 → ∀ b, b < 4 → a ≠ b → (TJx35411 a).2.1 ≠ (TJx35411 b).2.1 := by decide +kernel
theorem tyJx35411_ok : ∀ k, k < 4 → parseFieldDescriptor (TJx35411 k).2.2.1 = some (tyJx35411 k) := by decide +kernel
abbrev cJx35411_init_45d68 : ByteArray := prog_25_method_1_code
def yJx35411_init_45d68 : MethodName := ⟨RJx35411, "<init>", "(Ljava/util/ArrayList;)V"⟩
abbrev cJx35411_hasNext_aae02 : ByteArray := prog_25_method_2_code
def yJx35411_hasNext_aae02 : MethodName := ⟨RJx35411, "hasNext", "()Z"⟩
abbrev cJx35411_next_0502b : ByteArray := prog_25_method_3_code
def yJx35411_next_0502b : MethodName := ⟨RJx35411, "next", "()Ljava/lang/Object;"⟩
abbrev cJx35411_checkForComodification_da8c8 : ByteArray := prog_25_method_6_code
def yJx35411_checkForComodification_da8c8 : MethodName := ⟨RJx35411, "checkForComodification", "()V"⟩
def RJx4a65c : String := "java/util/ArrayList"
def TJx4a65c : u_T := fun k => match k with
  | 0 => ("java/util/AbstractList", "modCount", "I", false)
  | 1 => ("java/util/ArrayList", "elementData", "[Ljava/lang/Object;", false)
  | _ => ("java/util/ArrayList", "size", "I", false)
def tyJx4a65c : Nat → FieldType := fun k => match k with
  | 0 => .int
  | 1 => .array (.object "java/lang/Object")
  | _ => .int
theorem nmJx4a65c : ∀ a, a < 3 → ∀ b, b < 3 → a ≠ b → (TJx4a65c a).2.1 ≠ (TJx4a65c b).2.1 := by decide +kernel
theorem tyJx4a65c_ok : ∀ k, k < 3 → parseFieldDescriptor (TJx4a65c k).2.2.1 = some (tyJx4a65c k) := by decide +kernel
abbrev cJx4a65c_init_da8c8 : ByteArray := prog_24_method_2_code
def yJx4a65c_init_da8c8 : MethodName := ⟨RJx4a65c, "<init>", "()V"⟩
abbrev cJx4a65c_grow_92f84 : ByteArray := prog_24_method_6_code
def yJx4a65c_grow_92f84 : MethodName := ⟨RJx4a65c, "grow", "(I)[Ljava/lang/Object;"⟩
abbrev cJx4a65c_grow_d5877 : ByteArray := prog_24_method_7_code
def yJx4a65c_grow_d5877 : MethodName := ⟨RJx4a65c, "grow", "()[Ljava/lang/Object;"⟩
abbrev cJx4a65c_size_8abf5 : ByteArray := prog_24_method_8_code
def yJx4a65c_size_8abf5 : MethodName := ⟨RJx4a65c, "size", "()I"⟩
abbrev cJx4a65c_toArray_d5877 : ByteArray := prog_24_method_16_code
def yJx4a65c_toArray_d5877 : MethodName := ⟨RJx4a65c, "toArray", "()[Ljava/lang/Object;"⟩
abbrev cJx4a65c_elementData_915e3 : ByteArray := prog_24_method_18_code
def yJx4a65c_elementData_915e3 : MethodName := ⟨RJx4a65c, "elementData", "(I)Ljava/lang/Object;"⟩
abbrev cJx4a65c_get_915e3 : ByteArray := prog_24_method_20_code
def yJx4a65c_get_915e3 : MethodName := ⟨RJx4a65c, "get", "(I)Ljava/lang/Object;"⟩
abbrev cJx4a65c_add_72be8 : ByteArray := prog_24_method_24_code
def yJx4a65c_add_72be8 : MethodName := ⟨RJx4a65c, "add", "(Ljava/lang/Object;[Ljava/lang/Object;I)V"⟩
abbrev cJx4a65c_add_9ea2d : ByteArray := prog_24_method_25_code
def yJx4a65c_add_9ea2d : MethodName := ⟨RJx4a65c, "add", "(Ljava/lang/Object;)Z"⟩
abbrev cJx4a65c_remove_915e3 : ByteArray := prog_24_method_29_code
def yJx4a65c_remove_915e3 : MethodName := ⟨RJx4a65c, "remove", "(I)Ljava/lang/Object;"⟩
abbrev cJx4a65c_fastRemove_b59b0 : ByteArray := prog_24_method_39_code
def yJx4a65c_fastRemove_b59b0 : MethodName := ⟨RJx4a65c, "fastRemove", "([Ljava/lang/Object;I)V"⟩
abbrev cJx4a65c_clear_da8c8 : ByteArray := prog_24_method_40_code
def yJx4a65c_clear_da8c8 : MethodName := ⟨RJx4a65c, "clear", "()V"⟩
abbrev cJx4a65c_addAll_f0b43 : ByteArray := prog_24_method_41_code
def yJx4a65c_addAll_f0b43 : MethodName := ⟨RJx4a65c, "addAll", "(Ljava/util/Collection;)Z"⟩
abbrev cJx4a65c_iterator_32c93 : ByteArray := prog_24_method_55_code
def yJx4a65c_iterator_32c93 : MethodName := ⟨RJx4a65c, "iterator", "()Ljava/util/Iterator;"⟩
def RJ7 : String := "java/util/Arrays"
def TJ7 : u_T := fun k => match k with
  | _ => ("", "", "", false)
def tyJ7 : Nat → FieldType := fun k => match k with
  | _ => .int
theorem nmJ7 : ∀ a, a < 0 → ∀ b, b < 0 → a ≠ b → (TJ7 a).2.1 ≠ (TJ7 b).2.1 := by decide +kernel
theorem tyJ7_ok : ∀ k, k < 0 → parseFieldDescriptor (TJ7 k).2.2.1 = some (tyJ7 k) := by decide +kernel
abbrev cJ7_copyOf_1904c : ByteArray := prog_26_method_119_code
def yJ7_copyOf_1904c : MethodName := ⟨RJ7, "copyOf", "([Ljava/lang/Object;I)[Ljava/lang/Object;"⟩
abbrev cJ7_copyOf_6403c : ByteArray := prog_26_method_120_code
def yJ7_copyOf_6403c : MethodName := ⟨RJ7, "copyOf", "([Ljava/lang/Object;ILjava/lang/Class;)[Ljava/lang/Object;"⟩
def RJx5ef63 : String := "java/util/Collection"
def TJx5ef63 : u_T := fun k => match k with
  | _ => ("", "", "", false)
def tyJx5ef63 : Nat → FieldType := fun k => match k with
  | _ => .int
theorem nmJx5ef63 : ∀ a, a < 0 → ∀ b, b < 0 → a ≠ b → (TJx5ef63 a).2.1 ≠ (TJx5ef63 b).2.1 := by decide +kernel
theorem tyJx5ef63_ok : ∀ k, k < 0 → parseFieldDescriptor (TJx5ef63 k).2.2.1 = some (tyJx5ef63 k) := by decide +kernel
def RJx4d0d8 : String := "java/util/Iterator"
def TJx4d0d8 : u_T := fun k => match k with
  | _ => ("", "", "", false)
def tyJx4d0d8 : Nat → FieldType := fun k => match k with
  | _ => .int
theorem nmJx4d0d8 : ∀ a, a < 0 → ∀ b, b < 0 → a ≠ b → (TJx4d0d8 a).2.1 ≠ (TJx4d0d8 b).2.1 := by decide +kernel
theorem tyJx4d0d8_ok : ∀ k, k < 0 → parseFieldDescriptor (TJx4d0d8 k).2.2.1 = some (tyJx4d0d8 k) := by decide +kernel
def RJxbd725 : String := "java/util/List"
def TJxbd725 : u_T := fun k => match k with
  | _ => ("", "", "", false)
def tyJxbd725 : Nat → FieldType := fun k => match k with
  | _ => .int
theorem nmJxbd725 : ∀ a, a < 0 → ∀ b, b < 0 → a ≠ b → (TJxbd725 a).2.1 ≠ (TJxbd725 b).2.1 := by decide +kernel
theorem tyJxbd725_ok : ∀ k, k < 0 → parseFieldDescriptor (TJxbd725 k).2.2.1 = some (tyJxbd725 k) := by decide +kernel
def RJ15 : String := "java/util/Objects"
def TJ15 : u_T := fun k => match k with
  | _ => ("", "", "", false)
def tyJ15 : Nat → FieldType := fun k => match k with
  | _ => .int
theorem nmJ15 : ∀ a, a < 0 → ∀ b, b < 0 → a ≠ b → (TJ15 a).2.1 ≠ (TJ15 b).2.1 := by decide +kernel
theorem tyJ15_ok : ∀ k, k < 0 → parseFieldDescriptor (TJ15 k).2.2.1 = some (tyJ15 k) := by decide +kernel
abbrev cJ15_checkIndex_7cf53 : ByteArray := prog_30_method_17_code
def yJ15_checkIndex_7cf53 : MethodName := ⟨RJ15, "checkIndex", "(II)I"⟩
def RJxf0a74 : String := "java/util/RandomAccess"
def TJxf0a74 : u_T := fun k => match k with
  | _ => ("", "", "", false)
def tyJxf0a74 : Nat → FieldType := fun k => match k with
  | _ => .int
theorem nmJxf0a74 : ∀ a, a < 0 → ∀ b, b < 0 → a ≠ b → (TJxf0a74 a).2.1 ≠ (TJxf0a74 b).2.1 := by decide +kernel
theorem tyJxf0a74_ok : ∀ k, k < 0 → parseFieldDescriptor (TJxf0a74 k).2.2.1 = some (tyJxf0a74 k) := by decide +kernel
def RJxa66e6 : String := "java/util/SequencedCollection"
def TJxa66e6 : u_T := fun k => match k with
  | _ => ("", "", "", false)
def tyJxa66e6 : Nat → FieldType := fun k => match k with
  | _ => .int
theorem nmJxa66e6 : ∀ a, a < 0 → ∀ b, b < 0 → a ≠ b → (TJxa66e6 a).2.1 ≠ (TJxa66e6 b).2.1 := by decide +kernel
theorem tyJxa66e6_ok : ∀ k, k < 0 → parseFieldDescriptor (TJxa66e6 k).2.2.1 = some (tyJxa66e6 k) := by decide +kernel
def RJ8 : String := "jdk/internal/util/ArraysSupport"
def TJ8 : u_T := fun k => match k with
  | _ => ("", "", "", false)
def tyJ8 : Nat → FieldType := fun k => match k with
  | _ => .int
theorem nmJ8 : ∀ a, a < 0 → ∀ b, b < 0 → a ≠ b → (TJ8 a).2.1 ≠ (TJ8 b).2.1 := by decide +kernel
theorem tyJ8_ok : ∀ k, k < 0 → parseFieldDescriptor (TJ8 k).2.2.1 = some (tyJ8 k) := by decide +kernel
abbrev cJ8_newLength_cabcc : ByteArray := prog_33_method_27_code
def yJ8_newLength_cabcc : MethodName := ⟨RJ8, "newLength", "(III)I"⟩
abbrev cJ8_hugeLength_7cf53 : ByteArray := prog_33_method_28_code
def yJ8_hugeLength_7cf53 : MethodName := ⟨RJ8, "hugeLength", "(II)I"⟩
def RJ3 : String := "jdk/internal/util/Preconditions"
def TJ3 : u_T := fun k => match k with
  | _ => ("", "", "", false)
def tyJ3 : Nat → FieldType := fun k => match k with
  | _ => .int
theorem nmJ3 : ∀ a, a < 0 → ∀ b, b < 0 → a ≠ b → (TJ3 a).2.1 ≠ (TJ3 b).2.1 := by decide +kernel
theorem tyJ3_ok : ∀ k, k < 0 → parseFieldDescriptor (TJ3 k).2.2.1 = some (tyJ3 k) := by decide +kernel
abbrev cJ3_checkIndex_8e157 : ByteArray := prog_34_method_11_code
def yJ3_checkIndex_8e157 : MethodName := ⟨RJ3, "checkIndex", "(IILjava/util/function/BiFunction;)I"⟩
def RL : String := "FlushGardenLaw"
abbrev cL_section : ByteArray := method_3_code
def yL_section : MethodName := ⟨RL, "section", "(LFlushGarden;II[J)I"⟩
abbrev cL_pass : ByteArray := method_4_code
def yL_pass : MethodName := ⟨RL, "pass", "(LFlushGarden;III[J)I"⟩
abbrev cL_prune : ByteArray := method_5_code
def yL_prune : MethodName := ⟨RL, "prune", "(LFlushGarden;I[J)I"⟩
abbrev cL_spray : ByteArray := method_6_code
def yL_spray : MethodName := ⟨RL, "spray", "(LFlushGarden;I[J)I"⟩
abbrev cL_pluck : ByteArray := method_7_code
def yL_pluck : MethodName := ⟨RL, "pluck", "(LFlushGarden;III[J)I"⟩
abbrev cL_join : ByteArray := method_8_code
def yL_join : MethodName := ⟨RL, "join", "(LFlushGarden;II[J)I"⟩
abbrev cL_wither : ByteArray := method_9_code
def yL_wither : MethodName := ⟨RL, "wither", "(LFlushGarden;III[J)I"⟩
abbrev cL_kill : ByteArray := method_10_code
def yL_kill : MethodName := ⟨RL, "kill", "(LFlushGarden;I[J)I"⟩
abbrev cL_roll : ByteArray := method_11_code
def yL_roll : MethodName := ⟨RL, "roll", "(LFlushGarden;II[J)I"⟩
abbrev cL_rest : ByteArray := method_12_code
def yL_rest : MethodName := ⟨RL, "rest", "(LFlushGarden;III[J)I"⟩
abbrev cL_fire : ByteArray := method_13_code
def yL_fire : MethodName := ⟨RL, "fire", "(LFlushGarden;III[J)I"⟩
abbrev cL_sort : ByteArray := method_14_code
def yL_sort : MethodName := ⟨RL, "sort", "(LFlushGarden;I[J)I"⟩
abbrev cL_mix : ByteArray := method_15_code
def yL_mix : MethodName := ⟨RL, "mix", "(LFlushGarden;IIII[J)I"⟩
abbrev cL_lean : ByteArray := method_16_code
def yL_lean : MethodName := ⟨RL, "lean", "(LFlushGarden;II[J)I"⟩
abbrev cL_repeat : ByteArray := method_17_code
def yL_repeat : MethodName := ⟨RL, "repeat", "(LFlushGarden;II[J)I"⟩
abbrev cL_purse : ByteArray := method_18_code
def yL_purse : MethodName := ⟨RL, "purse", "(LFlushGarden;II[J)I"⟩
abbrev cL_offer : ByteArray := method_19_code
def yL_offer : MethodName := ⟨RL, "offer", "(LFlushGarden;II[J)I"⟩
abbrev cL_bid : ByteArray := method_20_code
def yL_bid : MethodName := ⟨RL, "bid", "(LFlushGarden;III[J)I"⟩
abbrev cL_knock : ByteArray := method_21_code
def yL_knock : MethodName := ⟨RL, "knock", "(LFlushGarden;I[J)I"⟩
abbrev cL_ofSection : ByteArray := method_22_code
def yL_ofSection : MethodName := ⟨RL, "ofSection", "(LFlushGarden;II[J)I"⟩
abbrev cL_ofLot : ByteArray := method_23_code
def yL_ofLot : MethodName := ⟨RL, "ofLot", "(LFlushGarden;II[J)I"⟩
abbrev cL_note : ByteArray := method_24_code
def yL_note : MethodName := ⟨RL, "note", "(LFlushGarden;II[J)I"⟩
abbrev cL_taste : ByteArray := method_25_code
def yL_taste : MethodName := ⟨RL, "taste", "(LFlushGarden;II[J)I"⟩
abbrev cL_ofTaster : ByteArray := method_26_code
def yL_ofTaster : MethodName := ⟨RL, "ofTaster", "(LFlushGarden;II[J)I"⟩
abbrev cL_bidOf : ByteArray := method_27_code
def yL_bidOf : MethodName := ⟨RL, "bidOf", "(LFlushGarden;II[J)I"⟩
abbrev cL_many : ByteArray := method_28_code
def yL_many : MethodName := ⟨RL, "many", "(LFlushGarden;I[J)I"⟩
abbrev cL_flushIn : ByteArray := method_29_code
def yL_flushIn : MethodName := ⟨RL, "flushIn", "(LFlushGarden;III[J)I"⟩
abbrev cL_bestFire : ByteArray := method_30_code
def yL_bestFire : MethodName := ⟨RL, "bestFire", "(LFlushGarden;I[J)I"⟩
abbrev cL_bestMix : ByteArray := method_31_code
def yL_bestMix : MethodName := ⟨RL, "bestMix", "(LFlushGarden;III[J)I"⟩
abbrev cL_wouldPay : ByteArray := method_32_code
def yL_wouldPay : MethodName := ⟨RL, "wouldPay", "(LFlushGarden;I[J)I"⟩
abbrev cL_law : ByteArray := code
def yL_law : MethodName := ⟨RL, "law", "([I)Z"⟩
theorem dX0_init_0 : decode cX0_init 0 = .ok (.aload_n 0, 1) := by decide +kernel
theorem dX0_init_1 : decode cX0_init 1 = .ok (.invokespecial 3, 3) := by decide +kernel
theorem dX0_init_4 : decode cX0_init 4 = .ok (.aload_n 0, 1) := by decide +kernel
theorem dX0_init_5 : decode cX0_init 5 = .ok (.iconst 0, 1) := by decide +kernel
theorem dX0_init_6 : decode cX0_init 6 = .ok (.putfield 9, 3) := by decide +kernel
theorem dX0_init_9 : decode cX0_init 9 = .ok (.aload_n 0, 1) := by decide +kernel
theorem dX0_init_10 : decode cX0_init 10 = .ok (.iconst 0, 1) := by decide +kernel
theorem dX0_init_11 : decode cX0_init 11 = .ok (.putfield 15, 3) := by decide +kernel
theorem dX0_init_14 : decode cX0_init 14 = .ok (.aload_n 0, 1) := by decide +kernel
theorem dX0_init_15 : decode cX0_init 15 = .ok (.iconst 4, 1) := by decide +kernel
theorem dX0_init_16 : decode cX0_init 16 = .ok (.newarray .int, 2) := by decide +kernel
theorem dX0_init_18 : decode cX0_init 18 = .ok (.putfield 18, 3) := by decide +kernel
theorem dX0_init_21 : decode cX0_init 21 = .ok (.aload_n 0, 1) := by decide +kernel
theorem dX0_init_22 : decode cX0_init 22 = .ok (.iconst 4, 1) := by decide +kernel
theorem dX0_init_23 : decode cX0_init 23 = .ok (.newarray .int, 2) := by decide +kernel
theorem dX0_init_25 : decode cX0_init 25 = .ok (.putfield 22, 3) := by decide +kernel
theorem dX0_init_28 : decode cX0_init 28 = .ok (.return_, 1) := by decide +kernel
theorem dX0_isOpen_0 : decode cX0_isOpen 0 = .ok (.aload_n 0, 1) := by decide +kernel
theorem dX0_isOpen_1 : decode cX0_isOpen 1 = .ok (.getfield 9, 3) := by decide +kernel
theorem dX0_isOpen_4 : decode cX0_isOpen 4 = .ok (.ifCond .le 7, 3) := by decide +kernel
theorem dX0_isOpen_7 : decode cX0_isOpen 7 = .ok (.iconst 1, 1) := by decide +kernel
theorem dX0_isOpen_8 : decode cX0_isOpen 8 = .ok (.goto 4, 3) := by decide +kernel
theorem dX0_isOpen_11 : decode cX0_isOpen 11 = .ok (.iconst 0, 1) := by decide +kernel
theorem dX0_isOpen_12 : decode cX0_isOpen 12 = .ok (.ireturn, 1) := by decide +kernel
theorem dX0_hasBid_0 : decode cX0_hasBid 0 = .ok (.aload_n 0, 1) := by decide +kernel
theorem dX0_hasBid_1 : decode cX0_hasBid 1 = .ok (.getfield 18, 3) := by decide +kernel
theorem dX0_hasBid_4 : decode cX0_hasBid 4 = .ok (.iload_n 1, 1) := by decide +kernel
theorem dX0_hasBid_5 : decode cX0_hasBid 5 = .ok (.iaload, 1) := by decide +kernel
theorem dX0_hasBid_6 : decode cX0_hasBid 6 = .ok (.ifCond .le 7, 3) := by decide +kernel
theorem dX0_hasBid_9 : decode cX0_hasBid 9 = .ok (.iconst 1, 1) := by decide +kernel
theorem dX0_hasBid_10 : decode cX0_hasBid 10 = .ok (.goto 4, 3) := by decide +kernel
theorem dX0_hasBid_13 : decode cX0_hasBid 13 = .ok (.iconst 0, 1) := by decide +kernel
theorem dX0_hasBid_14 : decode cX0_hasBid 14 = .ok (.ireturn, 1) := by decide +kernel
theorem dX0_place_0 : decode cX0_place 0 = .ok (.aload_n 0, 1) := by decide +kernel
theorem dX0_place_1 : decode cX0_place 1 = .ok (.dup, 1) := by decide +kernel
theorem dX0_place_2 : decode cX0_place 2 = .ok (.getfield 15, 3) := by decide +kernel
theorem dX0_place_5 : decode cX0_place 5 = .ok (.iconst 1, 1) := by decide +kernel
theorem dX0_place_6 : decode cX0_place 6 = .ok (.iadd, 1) := by decide +kernel
theorem dX0_place_7 : decode cX0_place 7 = .ok (.putfield 15, 3) := by decide +kernel
theorem dX0_place_10 : decode cX0_place 10 = .ok (.aload_n 0, 1) := by decide +kernel
theorem dX0_place_11 : decode cX0_place 11 = .ok (.getfield 18, 3) := by decide +kernel
theorem dX0_place_14 : decode cX0_place 14 = .ok (.iload_n 1, 1) := by decide +kernel
theorem dX0_place_15 : decode cX0_place 15 = .ok (.iload_n 2, 1) := by decide +kernel
theorem dX0_place_16 : decode cX0_place 16 = .ok (.iastore, 1) := by decide +kernel
theorem dX0_place_17 : decode cX0_place 17 = .ok (.aload_n 0, 1) := by decide +kernel
theorem dX0_place_18 : decode cX0_place 18 = .ok (.getfield 22, 3) := by decide +kernel
theorem dX0_place_21 : decode cX0_place 21 = .ok (.iload_n 1, 1) := by decide +kernel
theorem dX0_place_22 : decode cX0_place 22 = .ok (.aload_n 0, 1) := by decide +kernel
theorem dX0_place_23 : decode cX0_place 23 = .ok (.getfield 15, 3) := by decide +kernel
theorem dX0_place_26 : decode cX0_place 26 = .ok (.iastore, 1) := by decide +kernel
theorem dX0_place_27 : decode cX0_place 27 = .ok (.return_, 1) := by decide +kernel
theorem dX0_countBids_0 : decode cX0_countBids 0 = .ok (.iconst 0, 1) := by decide +kernel
theorem dX0_countBids_1 : decode cX0_countBids 1 = .ok (.istore_n 1, 1) := by decide +kernel
theorem dX0_countBids_2 : decode cX0_countBids 2 = .ok (.iconst 0, 1) := by decide +kernel
theorem dX0_countBids_3 : decode cX0_countBids 3 = .ok (.istore_n 2, 1) := by decide +kernel
theorem dX0_countBids_4 : decode cX0_countBids 4 = .ok (.iload_n 2, 1) := by decide +kernel
theorem dX0_countBids_5 : decode cX0_countBids 5 = .ok (.aload_n 0, 1) := by decide +kernel
theorem dX0_countBids_6 : decode cX0_countBids 6 = .ok (.getfield 18, 3) := by decide +kernel
theorem dX0_countBids_9 : decode cX0_countBids 9 = .ok (.arraylength, 1) := by decide +kernel
theorem dX0_countBids_10 : decode cX0_countBids 10 = .ok (.if_icmp .ge 20, 3) := by decide +kernel
theorem dX0_countBids_13 : decode cX0_countBids 13 = .ok (.aload_n 0, 1) := by decide +kernel
theorem dX0_countBids_14 : decode cX0_countBids 14 = .ok (.iload_n 2, 1) := by decide +kernel
theorem dX0_countBids_15 : decode cX0_countBids 15 = .ok (.invokevirtual 25, 3) := by decide +kernel
theorem dX0_countBids_18 : decode cX0_countBids 18 = .ok (.ifCond .eq 6, 3) := by decide +kernel
theorem dX0_countBids_21 : decode cX0_countBids 21 = .ok (.iinc 1 1, 3) := by decide +kernel
theorem dX0_countBids_24 : decode cX0_countBids 24 = .ok (.iinc 2 1, 3) := by decide +kernel
theorem dX0_countBids_27 : decode cX0_countBids 27 = .ok (.goto (-23), 3) := by decide +kernel
theorem dX0_countBids_30 : decode cX0_countBids 30 = .ok (.iload_n 1, 1) := by decide +kernel
theorem dX0_countBids_31 : decode cX0_countBids 31 = .ok (.ireturn, 1) := by decide +kernel
theorem dX0_isAhead_0 : decode cX0_isAhead 0 = .ok (.aload_n 0, 1) := by decide +kernel
theorem dX0_isAhead_1 : decode cX0_isAhead 1 = .ok (.getfield 18, 3) := by decide +kernel
theorem dX0_isAhead_4 : decode cX0_isAhead 4 = .ok (.iload_n 1, 1) := by decide +kernel
theorem dX0_isAhead_5 : decode cX0_isAhead 5 = .ok (.iaload, 1) := by decide +kernel
theorem dX0_isAhead_6 : decode cX0_isAhead 6 = .ok (.aload_n 0, 1) := by decide +kernel
theorem dX0_isAhead_7 : decode cX0_isAhead 7 = .ok (.getfield 18, 3) := by decide +kernel
theorem dX0_isAhead_10 : decode cX0_isAhead 10 = .ok (.iload_n 2, 1) := by decide +kernel
theorem dX0_isAhead_11 : decode cX0_isAhead 11 = .ok (.iaload, 1) := by decide +kernel
theorem dX0_isAhead_12 : decode cX0_isAhead 12 = .ok (.if_icmp .gt 33, 3) := by decide +kernel
theorem dX0_isAhead_15 : decode cX0_isAhead 15 = .ok (.aload_n 0, 1) := by decide +kernel
theorem dX0_isAhead_16 : decode cX0_isAhead 16 = .ok (.getfield 18, 3) := by decide +kernel
theorem dX0_isAhead_19 : decode cX0_isAhead 19 = .ok (.iload_n 1, 1) := by decide +kernel
theorem dX0_isAhead_20 : decode cX0_isAhead 20 = .ok (.iaload, 1) := by decide +kernel
theorem dX0_isAhead_21 : decode cX0_isAhead 21 = .ok (.aload_n 0, 1) := by decide +kernel
theorem dX0_isAhead_22 : decode cX0_isAhead 22 = .ok (.getfield 18, 3) := by decide +kernel
theorem dX0_isAhead_25 : decode cX0_isAhead 25 = .ok (.iload_n 2, 1) := by decide +kernel
theorem dX0_isAhead_26 : decode cX0_isAhead 26 = .ok (.iaload, 1) := by decide +kernel
theorem dX0_isAhead_27 : decode cX0_isAhead 27 = .ok (.if_icmp .ne 22, 3) := by decide +kernel
theorem dX0_isAhead_30 : decode cX0_isAhead 30 = .ok (.aload_n 0, 1) := by decide +kernel
theorem dX0_isAhead_31 : decode cX0_isAhead 31 = .ok (.getfield 22, 3) := by decide +kernel
theorem dX0_isAhead_34 : decode cX0_isAhead 34 = .ok (.iload_n 1, 1) := by decide +kernel
theorem dX0_isAhead_35 : decode cX0_isAhead 35 = .ok (.iaload, 1) := by decide +kernel
theorem dX0_isAhead_36 : decode cX0_isAhead 36 = .ok (.aload_n 0, 1) := by decide +kernel
theorem dX0_isAhead_37 : decode cX0_isAhead 37 = .ok (.getfield 22, 3) := by decide +kernel
theorem dX0_isAhead_40 : decode cX0_isAhead 40 = .ok (.iload_n 2, 1) := by decide +kernel
theorem dX0_isAhead_41 : decode cX0_isAhead 41 = .ok (.iaload, 1) := by decide +kernel
theorem dX0_isAhead_42 : decode cX0_isAhead 42 = .ok (.if_icmp .ge 7, 3) := by decide +kernel
theorem dX0_isAhead_45 : decode cX0_isAhead 45 = .ok (.iconst 1, 1) := by decide +kernel
theorem dX0_isAhead_46 : decode cX0_isAhead 46 = .ok (.goto 4, 3) := by decide +kernel
theorem dX0_isAhead_49 : decode cX0_isAhead 49 = .ok (.iconst 0, 1) := by decide +kernel
theorem dX0_isAhead_50 : decode cX0_isAhead 50 = .ok (.ireturn, 1) := by decide +kernel
theorem dX0_close_0 : decode cX0_close 0 = .ok (.aload_n 0, 1) := by decide +kernel
theorem dX0_close_1 : decode cX0_close 1 = .ok (.iconst 0, 1) := by decide +kernel
theorem dX0_close_2 : decode cX0_close 2 = .ok (.putfield 9, 3) := by decide +kernel
theorem dX0_close_5 : decode cX0_close 5 = .ok (.iconst 0, 1) := by decide +kernel
theorem dX0_close_6 : decode cX0_close 6 = .ok (.istore_n 1, 1) := by decide +kernel
theorem dX0_close_7 : decode cX0_close 7 = .ok (.iload_n 1, 1) := by decide +kernel
theorem dX0_close_8 : decode cX0_close 8 = .ok (.aload_n 0, 1) := by decide +kernel
theorem dX0_close_9 : decode cX0_close 9 = .ok (.getfield 18, 3) := by decide +kernel
theorem dX0_close_12 : decode cX0_close 12 = .ok (.arraylength, 1) := by decide +kernel
theorem dX0_close_13 : decode cX0_close 13 = .ok (.if_icmp .ge 16, 3) := by decide +kernel
theorem dX0_close_16 : decode cX0_close 16 = .ok (.aload_n 0, 1) := by decide +kernel
theorem dX0_close_17 : decode cX0_close 17 = .ok (.getfield 18, 3) := by decide +kernel
theorem dX0_close_20 : decode cX0_close 20 = .ok (.iload_n 1, 1) := by decide +kernel
theorem dX0_close_21 : decode cX0_close 21 = .ok (.iconst 0, 1) := by decide +kernel
theorem dX0_close_22 : decode cX0_close 22 = .ok (.iastore, 1) := by decide +kernel
theorem dX0_close_23 : decode cX0_close 23 = .ok (.iinc 1 1, 3) := by decide +kernel
theorem dX0_close_26 : decode cX0_close 26 = .ok (.goto (-19), 3) := by decide +kernel
theorem dX0_close_29 : decode cX0_close 29 = .ok (.return_, 1) := by decide +kernel
theorem dX1_init_0 : decode cX1_init 0 = .ok (.aload_n 0, 1) := by decide +kernel
theorem dX1_init_1 : decode cX1_init 1 = .ok (.invokespecial 3, 3) := by decide +kernel
theorem dX1_init_4 : decode cX1_init 4 = .ok (.aload_n 0, 1) := by decide +kernel
theorem dX1_init_5 : decode cX1_init 5 = .ok (.iconst 0, 1) := by decide +kernel
theorem dX1_init_6 : decode cX1_init 6 = .ok (.putfield 9, 3) := by decide +kernel
theorem dX1_init_9 : decode cX1_init 9 = .ok (.aload_n 0, 1) := by decide +kernel
theorem dX1_init_10 : decode cX1_init 10 = .ok (.iconst 0, 1) := by decide +kernel
theorem dX1_init_11 : decode cX1_init 11 = .ok (.putfield 15, 3) := by decide +kernel
theorem dX1_init_14 : decode cX1_init 14 = .ok (.aload_n 0, 1) := by decide +kernel
theorem dX1_init_15 : decode cX1_init 15 = .ok (.iconst 0, 1) := by decide +kernel
theorem dX1_init_16 : decode cX1_init 16 = .ok (.putfield 18, 3) := by decide +kernel
theorem dX1_init_19 : decode cX1_init 19 = .ok (.aload_n 0, 1) := by decide +kernel
theorem dX1_init_20 : decode cX1_init 20 = .ok (.iconst 0, 1) := by decide +kernel
theorem dX1_init_21 : decode cX1_init 21 = .ok (.putfield 21, 3) := by decide +kernel
theorem dX1_init_24 : decode cX1_init 24 = .ok (.aload_n 0, 1) := by decide +kernel
theorem dX1_init_25 : decode cX1_init 25 = .ok (.iconst 0, 1) := by decide +kernel
theorem dX1_init_26 : decode cX1_init 26 = .ok (.putfield 24, 3) := by decide +kernel
theorem dX1_init_29 : decode cX1_init 29 = .ok (.aload_n 0, 1) := by decide +kernel
theorem dX1_init_30 : decode cX1_init 30 = .ok (.iconst 0, 1) := by decide +kernel
theorem dX1_init_31 : decode cX1_init 31 = .ok (.putfield 27, 3) := by decide +kernel
theorem dX1_init_34 : decode cX1_init 34 = .ok (.aload_n 0, 1) := by decide +kernel
theorem dX1_init_35 : decode cX1_init 35 = .ok (.iconst 0, 1) := by decide +kernel
theorem dX1_init_36 : decode cX1_init 36 = .ok (.putfield 30, 3) := by decide +kernel
theorem dX1_init_39 : decode cX1_init 39 = .ok (.aload_n 0, 1) := by decide +kernel
theorem dX1_init_40 : decode cX1_init 40 = .ok (.iconst 0, 1) := by decide +kernel
theorem dX1_init_41 : decode cX1_init 41 = .ok (.putfield 33, 3) := by decide +kernel
theorem dX1_init_44 : decode cX1_init 44 = .ok (.aload_n 0, 1) := by decide +kernel
theorem dX1_init_45 : decode cX1_init 45 = .ok (.iconst 0, 1) := by decide +kernel
theorem dX1_init_46 : decode cX1_init 46 = .ok (.putfield 36, 3) := by decide +kernel
theorem dX1_init_49 : decode cX1_init 49 = .ok (.aload_n 0, 1) := by decide +kernel
theorem dX1_init_50 : decode cX1_init 50 = .ok (.iconst (-1), 1) := by decide +kernel
theorem dX1_init_51 : decode cX1_init 51 = .ok (.putfield 39, 3) := by decide +kernel
theorem dX1_init_54 : decode cX1_init 54 = .ok (.aload_n 0, 1) := by decide +kernel
theorem dX1_init_55 : decode cX1_init 55 = .ok (.iconst 0, 1) := by decide +kernel
theorem dX1_init_56 : decode cX1_init 56 = .ok (.putfield 42, 3) := by decide +kernel
theorem dX1_init_59 : decode cX1_init 59 = .ok (.aload_n 0, 1) := by decide +kernel
theorem dX1_init_60 : decode cX1_init 60 = .ok (.iconst 0, 1) := by decide +kernel
theorem dX1_init_61 : decode cX1_init 61 = .ok (.putfield 46, 3) := by decide +kernel
theorem dX1_init_64 : decode cX1_init 64 = .ok (.aload_n 0, 1) := by decide +kernel
theorem dX1_init_65 : decode cX1_init 65 = .ok (.iconst 0, 1) := by decide +kernel
theorem dX1_init_66 : decode cX1_init 66 = .ok (.putfield 49, 3) := by decide +kernel
theorem dX1_init_69 : decode cX1_init 69 = .ok (.aload_n 0, 1) := by decide +kernel
theorem dX1_init_70 : decode cX1_init 70 = .ok (.iconst 4, 1) := by decide +kernel
theorem dX1_init_71 : decode cX1_init 71 = .ok (.newarray .int, 2) := by decide +kernel
theorem dX1_init_73 : decode cX1_init 73 = .ok (.putfield 52, 3) := by decide +kernel
theorem dX1_init_76 : decode cX1_init 76 = .ok (.aload_n 0, 1) := by decide +kernel
theorem dX1_init_77 : decode cX1_init 77 = .ok (.iconst 3, 1) := by decide +kernel
theorem dX1_init_78 : decode cX1_init 78 = .ok (.newarray .int, 2) := by decide +kernel
theorem dX1_init_80 : decode cX1_init 80 = .ok (.putfield 56, 3) := by decide +kernel
theorem dX1_init_83 : decode cX1_init 83 = .ok (.aload_n 0, 1) := by decide +kernel
theorem dX1_init_84 : decode cX1_init 84 = .ok (.new 59, 3) := by decide +kernel
theorem dX1_init_87 : decode cX1_init 87 = .ok (.dup, 1) := by decide +kernel
theorem dX1_init_88 : decode cX1_init 88 = .ok (.invokespecial 61, 3) := by decide +kernel
theorem dX1_init_91 : decode cX1_init 91 = .ok (.putfield 62, 3) := by decide +kernel
theorem dX1_init_94 : decode cX1_init 94 = .ok (.return_, 1) := by decide +kernel
theorem dX1_isFreeMade_0 : decode cX1_isFreeMade 0 = .ok (.aload_n 0, 1) := by decide +kernel
theorem dX1_isFreeMade_1 : decode cX1_isFreeMade 1 = .ok (.getfield 9, 3) := by decide +kernel
theorem dX1_isFreeMade_4 : decode cX1_isFreeMade 4 = .ok (.iconst 2, 1) := by decide +kernel
theorem dX1_isFreeMade_5 : decode cX1_isFreeMade 5 = .ok (.if_icmp .ne 17, 3) := by decide +kernel
theorem dX1_isFreeMade_8 : decode cX1_isFreeMade 8 = .ok (.aload_n 0, 1) := by decide +kernel
theorem dX1_isFreeMade_9 : decode cX1_isFreeMade 9 = .ok (.getfield 62, 3) := by decide +kernel
theorem dX1_isFreeMade_12 : decode cX1_isFreeMade 12 = .ok (.invokevirtual 66, 3) := by decide +kernel
theorem dX1_isFreeMade_15 : decode cX1_isFreeMade 15 = .ok (.ifCond .ne 7, 3) := by decide +kernel
theorem dX1_isFreeMade_18 : decode cX1_isFreeMade 18 = .ok (.iconst 1, 1) := by decide +kernel
theorem dX1_isFreeMade_19 : decode cX1_isFreeMade 19 = .ok (.goto 4, 3) := by decide +kernel
theorem dX1_isFreeMade_22 : decode cX1_isFreeMade 22 = .ok (.iconst 0, 1) := by decide +kernel
theorem dX1_isFreeMade_23 : decode cX1_isFreeMade 23 = .ok (.ireturn, 1) := by decide +kernel
theorem dX1_isDried_0 : decode cX1_isDried 0 = .ok (.bipush 20, 2) := by decide +kernel
theorem dX1_isDried_2 : decode cX1_isDried 2 = .ok (.aload_n 0, 1) := by decide +kernel
theorem dX1_isDried_3 : decode cX1_isDried 3 = .ok (.getfield 21, 3) := by decide +kernel
theorem dX1_isDried_6 : decode cX1_isDried 6 = .ok (.imul, 1) := by decide +kernel
theorem dX1_isDried_7 : decode cX1_isDried 7 = .ok (.aload_n 0, 1) := by decide +kernel
theorem dX1_isDried_8 : decode cX1_isDried 8 = .ok (.getfield 15, 3) := by decide +kernel
theorem dX1_isDried_11 : decode cX1_isDried 11 = .ok (.if_icmp .gt 7, 3) := by decide +kernel
theorem dX1_isDried_14 : decode cX1_isDried 14 = .ok (.iconst 1, 1) := by decide +kernel
theorem dX1_isDried_15 : decode cX1_isDried 15 = .ok (.goto 4, 3) := by decide +kernel
theorem dX1_isDried_18 : decode cX1_isDried 18 = .ok (.iconst 0, 1) := by decide +kernel
theorem dX1_isDried_19 : decode cX1_isDried 19 = .ok (.ireturn, 1) := by decide +kernel
theorem dX1_vanish_0 : decode cX1_vanish 0 = .ok (.aload_n 0, 1) := by decide +kernel
theorem dX1_vanish_1 : decode cX1_vanish 1 = .ok (.iconst 3, 1) := by decide +kernel
theorem dX1_vanish_2 : decode cX1_vanish 2 = .ok (.putfield 9, 3) := by decide +kernel
theorem dX1_vanish_5 : decode cX1_vanish 5 = .ok (.aload_n 0, 1) := by decide +kernel
theorem dX1_vanish_6 : decode cX1_vanish 6 = .ok (.iconst 0, 1) := by decide +kernel
theorem dX1_vanish_7 : decode cX1_vanish 7 = .ok (.putfield 15, 3) := by decide +kernel
theorem dX1_vanish_10 : decode cX1_vanish 10 = .ok (.iconst 0, 1) := by decide +kernel
theorem dX1_vanish_11 : decode cX1_vanish 11 = .ok (.istore_n 1, 1) := by decide +kernel
theorem dX1_vanish_12 : decode cX1_vanish 12 = .ok (.iload_n 1, 1) := by decide +kernel
theorem dX1_vanish_13 : decode cX1_vanish 13 = .ok (.aload_n 0, 1) := by decide +kernel
theorem dX1_vanish_14 : decode cX1_vanish 14 = .ok (.getfield 52, 3) := by decide +kernel
theorem dX1_vanish_17 : decode cX1_vanish 17 = .ok (.arraylength, 1) := by decide +kernel
theorem dX1_vanish_18 : decode cX1_vanish 18 = .ok (.if_icmp .ge 16, 3) := by decide +kernel
theorem dX1_vanish_21 : decode cX1_vanish 21 = .ok (.aload_n 0, 1) := by decide +kernel
theorem dX1_vanish_22 : decode cX1_vanish 22 = .ok (.getfield 52, 3) := by decide +kernel
theorem dX1_vanish_25 : decode cX1_vanish 25 = .ok (.iload_n 1, 1) := by decide +kernel
theorem dX1_vanish_26 : decode cX1_vanish 26 = .ok (.iconst 0, 1) := by decide +kernel
theorem dX1_vanish_27 : decode cX1_vanish 27 = .ok (.iastore, 1) := by decide +kernel
theorem dX1_vanish_28 : decode cX1_vanish 28 = .ok (.iinc 1 1, 3) := by decide +kernel
theorem dX1_vanish_31 : decode cX1_vanish 31 = .ok (.goto (-19), 3) := by decide +kernel
theorem dX1_vanish_34 : decode cX1_vanish 34 = .ok (.return_, 1) := by decide +kernel
theorem dX1_copyLeaf_0 : decode cX1_copyLeaf 0 = .ok (.aload_n 0, 1) := by decide +kernel
theorem dX1_copyLeaf_1 : decode cX1_copyLeaf 1 = .ok (.aload_n 1, 1) := by decide +kernel
theorem dX1_copyLeaf_2 : decode cX1_copyLeaf 2 = .ok (.getfield 15, 3) := by decide +kernel
theorem dX1_copyLeaf_5 : decode cX1_copyLeaf 5 = .ok (.putfield 15, 3) := by decide +kernel
theorem dX1_copyLeaf_8 : decode cX1_copyLeaf 8 = .ok (.aload_n 0, 1) := by decide +kernel
theorem dX1_copyLeaf_9 : decode cX1_copyLeaf 9 = .ok (.aload_n 1, 1) := by decide +kernel
theorem dX1_copyLeaf_10 : decode cX1_copyLeaf 10 = .ok (.getfield 18, 3) := by decide +kernel
theorem dX1_copyLeaf_13 : decode cX1_copyLeaf 13 = .ok (.putfield 18, 3) := by decide +kernel
theorem dX1_copyLeaf_16 : decode cX1_copyLeaf 16 = .ok (.aload_n 0, 1) := by decide +kernel
theorem dX1_copyLeaf_17 : decode cX1_copyLeaf 17 = .ok (.aload_n 1, 1) := by decide +kernel
theorem dX1_copyLeaf_18 : decode cX1_copyLeaf 18 = .ok (.getfield 21, 3) := by decide +kernel
theorem dX1_copyLeaf_21 : decode cX1_copyLeaf 21 = .ok (.putfield 21, 3) := by decide +kernel
theorem dX1_copyLeaf_24 : decode cX1_copyLeaf 24 = .ok (.aload_n 0, 1) := by decide +kernel
theorem dX1_copyLeaf_25 : decode cX1_copyLeaf 25 = .ok (.aload_n 1, 1) := by decide +kernel
theorem dX1_copyLeaf_26 : decode cX1_copyLeaf 26 = .ok (.getfield 24, 3) := by decide +kernel
theorem dX1_copyLeaf_29 : decode cX1_copyLeaf 29 = .ok (.putfield 24, 3) := by decide +kernel
theorem dX1_copyLeaf_32 : decode cX1_copyLeaf 32 = .ok (.aload_n 0, 1) := by decide +kernel
theorem dX1_copyLeaf_33 : decode cX1_copyLeaf 33 = .ok (.aload_n 1, 1) := by decide +kernel
theorem dX1_copyLeaf_34 : decode cX1_copyLeaf 34 = .ok (.getfield 27, 3) := by decide +kernel
theorem dX1_copyLeaf_37 : decode cX1_copyLeaf 37 = .ok (.putfield 27, 3) := by decide +kernel
theorem dX1_copyLeaf_40 : decode cX1_copyLeaf 40 = .ok (.aload_n 0, 1) := by decide +kernel
theorem dX1_copyLeaf_41 : decode cX1_copyLeaf 41 = .ok (.aload_n 1, 1) := by decide +kernel
theorem dX1_copyLeaf_42 : decode cX1_copyLeaf 42 = .ok (.getfield 30, 3) := by decide +kernel
theorem dX1_copyLeaf_45 : decode cX1_copyLeaf 45 = .ok (.putfield 30, 3) := by decide +kernel
theorem dX1_copyLeaf_48 : decode cX1_copyLeaf 48 = .ok (.aload_n 0, 1) := by decide +kernel
theorem dX1_copyLeaf_49 : decode cX1_copyLeaf 49 = .ok (.aload_n 1, 1) := by decide +kernel
theorem dX1_copyLeaf_50 : decode cX1_copyLeaf 50 = .ok (.getfield 33, 3) := by decide +kernel
theorem dX1_copyLeaf_53 : decode cX1_copyLeaf 53 = .ok (.putfield 33, 3) := by decide +kernel
theorem dX1_copyLeaf_56 : decode cX1_copyLeaf 56 = .ok (.aload_n 0, 1) := by decide +kernel
theorem dX1_copyLeaf_57 : decode cX1_copyLeaf 57 = .ok (.aload_n 1, 1) := by decide +kernel
theorem dX1_copyLeaf_58 : decode cX1_copyLeaf 58 = .ok (.getfield 36, 3) := by decide +kernel
theorem dX1_copyLeaf_61 : decode cX1_copyLeaf 61 = .ok (.putfield 36, 3) := by decide +kernel
theorem dX1_copyLeaf_64 : decode cX1_copyLeaf 64 = .ok (.aload_n 0, 1) := by decide +kernel
theorem dX1_copyLeaf_65 : decode cX1_copyLeaf 65 = .ok (.aload_n 1, 1) := by decide +kernel
theorem dX1_copyLeaf_66 : decode cX1_copyLeaf 66 = .ok (.getfield 42, 3) := by decide +kernel
theorem dX1_copyLeaf_69 : decode cX1_copyLeaf 69 = .ok (.putfield 42, 3) := by decide +kernel
theorem dX1_copyLeaf_72 : decode cX1_copyLeaf 72 = .ok (.aload_n 0, 1) := by decide +kernel
theorem dX1_copyLeaf_73 : decode cX1_copyLeaf 73 = .ok (.aload_n 1, 1) := by decide +kernel
theorem dX1_copyLeaf_74 : decode cX1_copyLeaf 74 = .ok (.getfield 46, 3) := by decide +kernel
theorem dX1_copyLeaf_77 : decode cX1_copyLeaf 77 = .ok (.putfield 46, 3) := by decide +kernel
theorem dX1_copyLeaf_80 : decode cX1_copyLeaf 80 = .ok (.return_, 1) := by decide +kernel
theorem dX1_heatMinute_0 : decode cX1_heatMinute 0 = .ok (.aload_n 0, 1) := by decide +kernel
theorem dX1_heatMinute_1 : decode cX1_heatMinute 1 = .ok (.invokevirtual 70, 3) := by decide +kernel
theorem dX1_heatMinute_4 : decode cX1_heatMinute 4 = .ok (.ifCond .eq 16, 3) := by decide +kernel
theorem dX1_heatMinute_7 : decode cX1_heatMinute 7 = .ok (.aload_n 0, 1) := by decide +kernel
theorem dX1_heatMinute_8 : decode cX1_heatMinute 8 = .ok (.dup, 1) := by decide +kernel
theorem dX1_heatMinute_9 : decode cX1_heatMinute 9 = .ok (.getfield 36, 3) := by decide +kernel
theorem dX1_heatMinute_12 : decode cX1_heatMinute 12 = .ok (.iload_n 1, 1) := by decide +kernel
theorem dX1_heatMinute_13 : decode cX1_heatMinute 13 = .ok (.iadd, 1) := by decide +kernel
theorem dX1_heatMinute_14 : decode cX1_heatMinute 14 = .ok (.putfield 36, 3) := by decide +kernel
theorem dX1_heatMinute_17 : decode cX1_heatMinute 17 = .ok (.goto 29, 3) := by decide +kernel
theorem dX1_heatMinute_20 : decode cX1_heatMinute 20 = .ok (.iload_n 1, 1) := by decide +kernel
theorem dX1_heatMinute_21 : decode cX1_heatMinute 21 = .ok (.iconst 4, 1) := by decide +kernel
theorem dX1_heatMinute_22 : decode cX1_heatMinute 22 = .ok (.if_icmp .lt 24, 3) := by decide +kernel
theorem dX1_heatMinute_25 : decode cX1_heatMinute 25 = .ok (.aload_n 0, 1) := by decide +kernel
theorem dX1_heatMinute_26 : decode cX1_heatMinute 26 = .ok (.getfield 21, 3) := by decide +kernel
theorem dX1_heatMinute_29 : decode cX1_heatMinute 29 = .ok (.aload_n 0, 1) := by decide +kernel
theorem dX1_heatMinute_30 : decode cX1_heatMinute 30 = .ok (.getfield 15, 3) := by decide +kernel
theorem dX1_heatMinute_33 : decode cX1_heatMinute 33 = .ok (.if_icmp .le 13, 3) := by decide +kernel
theorem dX1_heatMinute_36 : decode cX1_heatMinute 36 = .ok (.aload_n 0, 1) := by decide +kernel
theorem dX1_heatMinute_37 : decode cX1_heatMinute 37 = .ok (.dup, 1) := by decide +kernel
theorem dX1_heatMinute_38 : decode cX1_heatMinute 38 = .ok (.getfield 33, 3) := by decide +kernel
theorem dX1_heatMinute_41 : decode cX1_heatMinute 41 = .ok (.iconst 1, 1) := by decide +kernel
theorem dX1_heatMinute_42 : decode cX1_heatMinute 42 = .ok (.iadd, 1) := by decide +kernel
theorem dX1_heatMinute_43 : decode cX1_heatMinute 43 = .ok (.putfield 33, 3) := by decide +kernel
theorem dX1_heatMinute_46 : decode cX1_heatMinute 46 = .ok (.aload_n 0, 1) := by decide +kernel
theorem dX1_heatMinute_47 : decode cX1_heatMinute 47 = .ok (.iconst 0, 1) := by decide +kernel
theorem dX1_heatMinute_48 : decode cX1_heatMinute 48 = .ok (.aload_n 0, 1) := by decide +kernel
theorem dX1_heatMinute_49 : decode cX1_heatMinute 49 = .ok (.getfield 21, 3) := by decide +kernel
theorem dX1_heatMinute_52 : decode cX1_heatMinute 52 = .ok (.iload_n 1, 1) := by decide +kernel
theorem dX1_heatMinute_53 : decode cX1_heatMinute 53 = .ok (.isub, 1) := by decide +kernel
theorem dX1_heatMinute_54 : decode cX1_heatMinute 54 = .ok (.aload_n 0, 1) := by decide +kernel
theorem dX1_heatMinute_55 : decode cX1_heatMinute 55 = .ok (.getfield 15, 3) := by decide +kernel
theorem dX1_heatMinute_58 : decode cX1_heatMinute 58 = .ok (.bipush 20, 2) := by decide +kernel
theorem dX1_heatMinute_60 : decode cX1_heatMinute 60 = .ok (.idiv, 1) := by decide +kernel
theorem dX1_heatMinute_61 : decode cX1_heatMinute 61 = .ok (.isub, 1) := by decide +kernel
theorem dX1_heatMinute_62 : decode cX1_heatMinute 62 = .ok (.invokestatic 73, 3) := by decide +kernel
theorem dX1_heatMinute_65 : decode cX1_heatMinute 65 = .ok (.putfield 21, 3) := by decide +kernel
theorem dX1_heatMinute_68 : decode cX1_heatMinute 68 = .ok (.return_, 1) := by decide +kernel
theorem dX1_shareOfGrade_0 : decode cX1_shareOfGrade 0 = .ok (.bipush 10, 2) := by decide +kernel
theorem dX1_shareOfGrade_2 : decode cX1_shareOfGrade 2 = .ok (.aload_n 0, 1) := by decide +kernel
theorem dX1_shareOfGrade_3 : decode cX1_shareOfGrade 3 = .ok (.getfield 27, 3) := by decide +kernel
theorem dX1_shareOfGrade_6 : decode cX1_shareOfGrade 6 = .ok (.invokestatic 79, 3) := by decide +kernel
theorem dX1_shareOfGrade_9 : decode cX1_shareOfGrade 9 = .ok (.istore_n 3, 1) := by decide +kernel
theorem dX1_shareOfGrade_10 : decode cX1_shareOfGrade 10 = .ok (.iload_n 1, 1) := by decide +kernel
theorem dX1_shareOfGrade_11 : decode cX1_shareOfGrade 11 = .ok (.iload_n 3, 1) := by decide +kernel
theorem dX1_shareOfGrade_12 : decode cX1_shareOfGrade 12 = .ok (.imul, 1) := by decide +kernel
theorem dX1_shareOfGrade_13 : decode cX1_shareOfGrade 13 = .ok (.bipush 40, 2) := by decide +kernel
theorem dX1_shareOfGrade_15 : decode cX1_shareOfGrade 15 = .ok (.idiv, 1) := by decide +kernel
theorem dX1_shareOfGrade_16 : decode cX1_shareOfGrade 16 = .ok (.istore 4, 2) := by decide +kernel
theorem dX1_shareOfGrade_18 : decode cX1_shareOfGrade 18 = .ok (.iload_n 1, 1) := by decide +kernel
theorem dX1_shareOfGrade_19 : decode cX1_shareOfGrade 19 = .ok (.iload_n 3, 1) := by decide +kernel
theorem dX1_shareOfGrade_20 : decode cX1_shareOfGrade 20 = .ok (.imul, 1) := by decide +kernel
theorem dX1_shareOfGrade_21 : decode cX1_shareOfGrade 21 = .ok (.bipush 20, 2) := by decide +kernel
theorem dX1_shareOfGrade_23 : decode cX1_shareOfGrade 23 = .ok (.idiv, 1) := by decide +kernel
theorem dX1_shareOfGrade_24 : decode cX1_shareOfGrade 24 = .ok (.istore 5, 2) := by decide +kernel
theorem dX1_shareOfGrade_26 : decode cX1_shareOfGrade 26 = .ok (.iload_n 2, 1) := by decide +kernel
theorem dX1_shareOfGrade_27 : decode cX1_shareOfGrade 27 = .ok (.iconst 2, 1) := by decide +kernel
theorem dX1_shareOfGrade_28 : decode cX1_shareOfGrade 28 = .ok (.if_icmp .ne 6, 3) := by decide +kernel
theorem dX1_shareOfGrade_31 : decode cX1_shareOfGrade 31 = .ok (.iload 4, 2) := by decide +kernel
theorem dX1_shareOfGrade_33 : decode cX1_shareOfGrade 33 = .ok (.ireturn, 1) := by decide +kernel
theorem dX1_shareOfGrade_34 : decode cX1_shareOfGrade 34 = .ok (.iload_n 2, 1) := by decide +kernel
theorem dX1_shareOfGrade_35 : decode cX1_shareOfGrade 35 = .ok (.iconst 1, 1) := by decide +kernel
theorem dX1_shareOfGrade_36 : decode cX1_shareOfGrade 36 = .ok (.if_icmp .ne 8, 3) := by decide +kernel
theorem dX1_shareOfGrade_39 : decode cX1_shareOfGrade 39 = .ok (.iload 5, 2) := by decide +kernel
theorem dX1_shareOfGrade_41 : decode cX1_shareOfGrade 41 = .ok (.goto 10, 3) := by decide +kernel
theorem dX1_shareOfGrade_44 : decode cX1_shareOfGrade 44 = .ok (.iload_n 1, 1) := by decide +kernel
theorem dX1_shareOfGrade_45 : decode cX1_shareOfGrade 45 = .ok (.iload 5, 2) := by decide +kernel
theorem dX1_shareOfGrade_47 : decode cX1_shareOfGrade 47 = .ok (.isub, 1) := by decide +kernel
theorem dX1_shareOfGrade_48 : decode cX1_shareOfGrade 48 = .ok (.iload 4, 2) := by decide +kernel
theorem dX1_shareOfGrade_50 : decode cX1_shareOfGrade 50 = .ok (.isub, 1) := by decide +kernel
theorem dX1_shareOfGrade_51 : decode cX1_shareOfGrade 51 = .ok (.ireturn, 1) := by decide +kernel
theorem dX1_dryOfGrade_0 : decode cX1_dryOfGrade 0 = .ok (.iconst 0, 1) := by decide +kernel
theorem dX1_dryOfGrade_1 : decode cX1_dryOfGrade 1 = .ok (.istore_n 2, 1) := by decide +kernel
theorem dX1_dryOfGrade_2 : decode cX1_dryOfGrade 2 = .ok (.iconst 0, 1) := by decide +kernel
theorem dX1_dryOfGrade_3 : decode cX1_dryOfGrade 3 = .ok (.istore_n 3, 1) := by decide +kernel
theorem dX1_dryOfGrade_4 : decode cX1_dryOfGrade 4 = .ok (.iload_n 3, 1) := by decide +kernel
theorem dX1_dryOfGrade_5 : decode cX1_dryOfGrade 5 = .ok (.aload_n 0, 1) := by decide +kernel
theorem dX1_dryOfGrade_6 : decode cX1_dryOfGrade 6 = .ok (.getfield 52, 3) := by decide +kernel
theorem dX1_dryOfGrade_9 : decode cX1_dryOfGrade 9 = .ok (.arraylength, 1) := by decide +kernel
theorem dX1_dryOfGrade_10 : decode cX1_dryOfGrade 10 = .ok (.if_icmp .ge 23, 3) := by decide +kernel
theorem dX1_dryOfGrade_13 : decode cX1_dryOfGrade 13 = .ok (.iload_n 2, 1) := by decide +kernel
theorem dX1_dryOfGrade_14 : decode cX1_dryOfGrade 14 = .ok (.aload_n 0, 1) := by decide +kernel
theorem dX1_dryOfGrade_15 : decode cX1_dryOfGrade 15 = .ok (.aload_n 0, 1) := by decide +kernel
theorem dX1_dryOfGrade_16 : decode cX1_dryOfGrade 16 = .ok (.getfield 52, 3) := by decide +kernel
theorem dX1_dryOfGrade_19 : decode cX1_dryOfGrade 19 = .ok (.iload_n 3, 1) := by decide +kernel
theorem dX1_dryOfGrade_20 : decode cX1_dryOfGrade 20 = .ok (.iaload, 1) := by decide +kernel
theorem dX1_dryOfGrade_21 : decode cX1_dryOfGrade 21 = .ok (.iload_n 1, 1) := by decide +kernel
theorem dX1_dryOfGrade_22 : decode cX1_dryOfGrade 22 = .ok (.invokevirtual 82, 3) := by decide +kernel
theorem dX1_dryOfGrade_25 : decode cX1_dryOfGrade 25 = .ok (.iadd, 1) := by decide +kernel
theorem dX1_dryOfGrade_26 : decode cX1_dryOfGrade 26 = .ok (.istore_n 2, 1) := by decide +kernel
theorem dX1_dryOfGrade_27 : decode cX1_dryOfGrade 27 = .ok (.iinc 3 1, 3) := by decide +kernel
theorem dX1_dryOfGrade_30 : decode cX1_dryOfGrade 30 = .ok (.goto (-26), 3) := by decide +kernel
theorem dX1_dryOfGrade_33 : decode cX1_dryOfGrade 33 = .ok (.iload_n 2, 1) := by decide +kernel
theorem dX1_dryOfGrade_34 : decode cX1_dryOfGrade 34 = .ok (.ireturn, 1) := by decide +kernel
theorem dX1_becomeGrade_0 : decode cX1_becomeGrade 0 = .ok (.aload_n 0, 1) := by decide +kernel
theorem dX1_becomeGrade_1 : decode cX1_becomeGrade 1 = .ok (.aload_n 1, 1) := by decide +kernel
theorem dX1_becomeGrade_2 : decode cX1_becomeGrade 2 = .ok (.invokevirtual 85, 3) := by decide +kernel
theorem dX1_becomeGrade_5 : decode cX1_becomeGrade 5 = .ok (.aload_n 0, 1) := by decide +kernel
theorem dX1_becomeGrade_6 : decode cX1_becomeGrade 6 = .ok (.iconst 2, 1) := by decide +kernel
theorem dX1_becomeGrade_7 : decode cX1_becomeGrade 7 = .ok (.putfield 9, 3) := by decide +kernel
theorem dX1_becomeGrade_10 : decode cX1_becomeGrade 10 = .ok (.aload_n 0, 1) := by decide +kernel
theorem dX1_becomeGrade_11 : decode cX1_becomeGrade 11 = .ok (.iload_n 2, 1) := by decide +kernel
theorem dX1_becomeGrade_12 : decode cX1_becomeGrade 12 = .ok (.putfield 39, 3) := by decide +kernel
theorem dX1_becomeGrade_15 : decode cX1_becomeGrade 15 = .ok (.aload_n 0, 1) := by decide +kernel
theorem dX1_becomeGrade_16 : decode cX1_becomeGrade 16 = .ok (.iconst 0, 1) := by decide +kernel
theorem dX1_becomeGrade_17 : decode cX1_becomeGrade 17 = .ok (.putfield 21, 3) := by decide +kernel
theorem dX1_becomeGrade_20 : decode cX1_becomeGrade 20 = .ok (.iconst 0, 1) := by decide +kernel
theorem dX1_becomeGrade_21 : decode cX1_becomeGrade 21 = .ok (.istore_n 3, 1) := by decide +kernel
theorem dX1_becomeGrade_22 : decode cX1_becomeGrade 22 = .ok (.iload_n 3, 1) := by decide +kernel
theorem dX1_becomeGrade_23 : decode cX1_becomeGrade 23 = .ok (.aload_n 0, 1) := by decide +kernel
theorem dX1_becomeGrade_24 : decode cX1_becomeGrade 24 = .ok (.getfield 52, 3) := by decide +kernel
theorem dX1_becomeGrade_27 : decode cX1_becomeGrade 27 = .ok (.arraylength, 1) := by decide +kernel
theorem dX1_becomeGrade_28 : decode cX1_becomeGrade 28 = .ok (.if_icmp .ge 26, 3) := by decide +kernel
theorem dX1_becomeGrade_31 : decode cX1_becomeGrade 31 = .ok (.aload_n 0, 1) := by decide +kernel
theorem dX1_becomeGrade_32 : decode cX1_becomeGrade 32 = .ok (.getfield 52, 3) := by decide +kernel
theorem dX1_becomeGrade_35 : decode cX1_becomeGrade 35 = .ok (.iload_n 3, 1) := by decide +kernel
theorem dX1_becomeGrade_36 : decode cX1_becomeGrade 36 = .ok (.aload_n 1, 1) := by decide +kernel
theorem dX1_becomeGrade_37 : decode cX1_becomeGrade 37 = .ok (.aload_n 1, 1) := by decide +kernel
theorem dX1_becomeGrade_38 : decode cX1_becomeGrade 38 = .ok (.getfield 52, 3) := by decide +kernel
theorem dX1_becomeGrade_41 : decode cX1_becomeGrade 41 = .ok (.iload_n 3, 1) := by decide +kernel
theorem dX1_becomeGrade_42 : decode cX1_becomeGrade 42 = .ok (.iaload, 1) := by decide +kernel
theorem dX1_becomeGrade_43 : decode cX1_becomeGrade 43 = .ok (.iload_n 2, 1) := by decide +kernel
theorem dX1_becomeGrade_44 : decode cX1_becomeGrade 44 = .ok (.invokevirtual 82, 3) := by decide +kernel
theorem dX1_becomeGrade_47 : decode cX1_becomeGrade 47 = .ok (.iastore, 1) := by decide +kernel
theorem dX1_becomeGrade_48 : decode cX1_becomeGrade 48 = .ok (.iinc 3 1, 3) := by decide +kernel
theorem dX1_becomeGrade_51 : decode cX1_becomeGrade 51 = .ok (.goto (-29), 3) := by decide +kernel
theorem dX1_becomeGrade_54 : decode cX1_becomeGrade 54 = .ok (.aload_n 0, 1) := by decide +kernel
theorem dX1_becomeGrade_55 : decode cX1_becomeGrade 55 = .ok (.aload_n 1, 1) := by decide +kernel
theorem dX1_becomeGrade_56 : decode cX1_becomeGrade 56 = .ok (.iload_n 2, 1) := by decide +kernel
theorem dX1_becomeGrade_57 : decode cX1_becomeGrade 57 = .ok (.invokevirtual 89, 3) := by decide +kernel
theorem dX1_becomeGrade_60 : decode cX1_becomeGrade 60 = .ok (.putfield 15, 3) := by decide +kernel
theorem dX1_becomeGrade_63 : decode cX1_becomeGrade 63 = .ok (.aload_n 0, 1) := by decide +kernel
theorem dX1_becomeGrade_64 : decode cX1_becomeGrade 64 = .ok (.aload_n 0, 1) := by decide +kernel
theorem dX1_becomeGrade_65 : decode cX1_becomeGrade 65 = .ok (.getfield 15, 3) := by decide +kernel
theorem dX1_becomeGrade_68 : decode cX1_becomeGrade 68 = .ok (.aload_n 1, 1) := by decide +kernel
theorem dX1_becomeGrade_69 : decode cX1_becomeGrade 69 = .ok (.aload_n 1, 1) := by decide +kernel
theorem dX1_becomeGrade_70 : decode cX1_becomeGrade 70 = .ok (.getfield 18, 3) := by decide +kernel
theorem dX1_becomeGrade_73 : decode cX1_becomeGrade 73 = .ok (.iload_n 2, 1) := by decide +kernel
theorem dX1_becomeGrade_74 : decode cX1_becomeGrade 74 = .ok (.invokevirtual 82, 3) := by decide +kernel
theorem dX1_becomeGrade_77 : decode cX1_becomeGrade 77 = .ok (.invokestatic 79, 3) := by decide +kernel
theorem dX1_becomeGrade_80 : decode cX1_becomeGrade 80 = .ok (.putfield 18, 3) := by decide +kernel
theorem dX1_becomeGrade_83 : decode cX1_becomeGrade 83 = .ok (.return_, 1) := by decide +kernel
theorem dX1_takeUnits_0 : decode cX1_takeUnits 0 = .ok (.iload_n 2, 1) := by decide +kernel
theorem dX1_takeUnits_1 : decode cX1_takeUnits 1 = .ok (.istore_n 3, 1) := by decide +kernel
theorem dX1_takeUnits_2 : decode cX1_takeUnits 2 = .ok (.iconst 0, 1) := by decide +kernel
theorem dX1_takeUnits_3 : decode cX1_takeUnits 3 = .ok (.istore 4, 2) := by decide +kernel
theorem dX1_takeUnits_5 : decode cX1_takeUnits 5 = .ok (.iload 4, 2) := by decide +kernel
theorem dX1_takeUnits_7 : decode cX1_takeUnits 7 = .ok (.aload_n 0, 1) := by decide +kernel
theorem dX1_takeUnits_8 : decode cX1_takeUnits 8 = .ok (.getfield 52, 3) := by decide +kernel
theorem dX1_takeUnits_11 : decode cX1_takeUnits 11 = .ok (.arraylength, 1) := by decide +kernel
theorem dX1_takeUnits_12 : decode cX1_takeUnits 12 = .ok (.if_icmp .ge 51, 3) := by decide +kernel
theorem dX1_takeUnits_15 : decode cX1_takeUnits 15 = .ok (.iload_n 3, 1) := by decide +kernel
theorem dX1_takeUnits_16 : decode cX1_takeUnits 16 = .ok (.aload_n 1, 1) := by decide +kernel
theorem dX1_takeUnits_17 : decode cX1_takeUnits 17 = .ok (.getfield 52, 3) := by decide +kernel
theorem dX1_takeUnits_20 : decode cX1_takeUnits 20 = .ok (.iload 4, 2) := by decide +kernel
theorem dX1_takeUnits_22 : decode cX1_takeUnits 22 = .ok (.iaload, 1) := by decide +kernel
theorem dX1_takeUnits_23 : decode cX1_takeUnits 23 = .ok (.invokestatic 79, 3) := by decide +kernel
theorem dX1_takeUnits_26 : decode cX1_takeUnits 26 = .ok (.istore 5, 2) := by decide +kernel
theorem dX1_takeUnits_28 : decode cX1_takeUnits 28 = .ok (.aload_n 0, 1) := by decide +kernel
theorem dX1_takeUnits_29 : decode cX1_takeUnits 29 = .ok (.getfield 52, 3) := by decide +kernel
theorem dX1_takeUnits_32 : decode cX1_takeUnits 32 = .ok (.iload 4, 2) := by decide +kernel
theorem dX1_takeUnits_34 : decode cX1_takeUnits 34 = .ok (.dup2, 1) := by decide +kernel
theorem dX1_takeUnits_35 : decode cX1_takeUnits 35 = .ok (.iaload, 1) := by decide +kernel
theorem dX1_takeUnits_36 : decode cX1_takeUnits 36 = .ok (.iload 5, 2) := by decide +kernel
theorem dX1_takeUnits_38 : decode cX1_takeUnits 38 = .ok (.iadd, 1) := by decide +kernel
theorem dX1_takeUnits_39 : decode cX1_takeUnits 39 = .ok (.iastore, 1) := by decide +kernel
theorem dX1_takeUnits_40 : decode cX1_takeUnits 40 = .ok (.aload_n 1, 1) := by decide +kernel
theorem dX1_takeUnits_41 : decode cX1_takeUnits 41 = .ok (.getfield 52, 3) := by decide +kernel
theorem dX1_takeUnits_44 : decode cX1_takeUnits 44 = .ok (.iload 4, 2) := by decide +kernel
theorem dX1_takeUnits_46 : decode cX1_takeUnits 46 = .ok (.dup2, 1) := by decide +kernel
theorem dX1_takeUnits_47 : decode cX1_takeUnits 47 = .ok (.iaload, 1) := by decide +kernel
theorem dX1_takeUnits_48 : decode cX1_takeUnits 48 = .ok (.iload 5, 2) := by decide +kernel
theorem dX1_takeUnits_50 : decode cX1_takeUnits 50 = .ok (.isub, 1) := by decide +kernel
theorem dX1_takeUnits_51 : decode cX1_takeUnits 51 = .ok (.iastore, 1) := by decide +kernel
theorem dX1_takeUnits_52 : decode cX1_takeUnits 52 = .ok (.iload_n 3, 1) := by decide +kernel
theorem dX1_takeUnits_53 : decode cX1_takeUnits 53 = .ok (.iload 5, 2) := by decide +kernel
theorem dX1_takeUnits_55 : decode cX1_takeUnits 55 = .ok (.isub, 1) := by decide +kernel
theorem dX1_takeUnits_56 : decode cX1_takeUnits 56 = .ok (.istore_n 3, 1) := by decide +kernel
theorem dX1_takeUnits_57 : decode cX1_takeUnits 57 = .ok (.iinc 4 1, 3) := by decide +kernel
theorem dX1_takeUnits_60 : decode cX1_takeUnits 60 = .ok (.goto (-55), 3) := by decide +kernel
theorem dX1_takeUnits_63 : decode cX1_takeUnits 63 = .ok (.aload_n 0, 1) := by decide +kernel
theorem dX1_takeUnits_64 : decode cX1_takeUnits 64 = .ok (.dup, 1) := by decide +kernel
theorem dX1_takeUnits_65 : decode cX1_takeUnits 65 = .ok (.getfield 15, 3) := by decide +kernel
theorem dX1_takeUnits_68 : decode cX1_takeUnits 68 = .ok (.iload_n 2, 1) := by decide +kernel
theorem dX1_takeUnits_69 : decode cX1_takeUnits 69 = .ok (.iadd, 1) := by decide +kernel
theorem dX1_takeUnits_70 : decode cX1_takeUnits 70 = .ok (.putfield 15, 3) := by decide +kernel
theorem dX1_takeUnits_73 : decode cX1_takeUnits 73 = .ok (.aload_n 1, 1) := by decide +kernel
theorem dX1_takeUnits_74 : decode cX1_takeUnits 74 = .ok (.dup, 1) := by decide +kernel
theorem dX1_takeUnits_75 : decode cX1_takeUnits 75 = .ok (.getfield 15, 3) := by decide +kernel
theorem dX1_takeUnits_78 : decode cX1_takeUnits 78 = .ok (.iload_n 2, 1) := by decide +kernel
theorem dX1_takeUnits_79 : decode cX1_takeUnits 79 = .ok (.isub, 1) := by decide +kernel
theorem dX1_takeUnits_80 : decode cX1_takeUnits 80 = .ok (.putfield 15, 3) := by decide +kernel
theorem dX1_takeUnits_83 : decode cX1_takeUnits 83 = .ok (.aload_n 1, 1) := by decide +kernel
theorem dX1_takeUnits_84 : decode cX1_takeUnits 84 = .ok (.aload_n 1, 1) := by decide +kernel
theorem dX1_takeUnits_85 : decode cX1_takeUnits 85 = .ok (.getfield 18, 3) := by decide +kernel
theorem dX1_takeUnits_88 : decode cX1_takeUnits 88 = .ok (.aload_n 1, 1) := by decide +kernel
theorem dX1_takeUnits_89 : decode cX1_takeUnits 89 = .ok (.getfield 15, 3) := by decide +kernel
theorem dX1_takeUnits_92 : decode cX1_takeUnits 92 = .ok (.invokestatic 79, 3) := by decide +kernel
theorem dX1_takeUnits_95 : decode cX1_takeUnits 95 = .ok (.putfield 18, 3) := by decide +kernel
theorem dX1_takeUnits_98 : decode cX1_takeUnits 98 = .ok (.aload_n 1, 1) := by decide +kernel
theorem dX1_takeUnits_99 : decode cX1_takeUnits 99 = .ok (.getfield 15, 3) := by decide +kernel
theorem dX1_takeUnits_102 : decode cX1_takeUnits 102 = .ok (.ifCond .gt 7, 3) := by decide +kernel
theorem dX1_takeUnits_105 : decode cX1_takeUnits 105 = .ok (.aload_n 1, 1) := by decide +kernel
theorem dX1_takeUnits_106 : decode cX1_takeUnits 106 = .ok (.invokevirtual 93, 3) := by decide +kernel
theorem dX1_takeUnits_109 : decode cX1_takeUnits 109 = .ok (.return_, 1) := by decide +kernel
theorem dX1_noteOf_0 : decode cX1_noteOf 0 = .ok (.aload_n 0, 1) := by decide +kernel
theorem dX1_noteOf_1 : decode cX1_noteOf 1 = .ok (.getfield 49, 3) := by decide +kernel
theorem dX1_noteOf_4 : decode cX1_noteOf 4 = .ok (.ifCond .eq 10, 3) := by decide +kernel
theorem dX1_noteOf_7 : decode cX1_noteOf 7 = .ok (.aload_n 0, 1) := by decide +kernel
theorem dX1_noteOf_8 : decode cX1_noteOf 8 = .ok (.getfield 56, 3) := by decide +kernel
theorem dX1_noteOf_11 : decode cX1_noteOf 11 = .ok (.iload_n 1, 1) := by decide +kernel
theorem dX1_noteOf_12 : decode cX1_noteOf 12 = .ok (.iaload, 1) := by decide +kernel
theorem dX1_noteOf_13 : decode cX1_noteOf 13 = .ok (.ireturn, 1) := by decide +kernel
theorem dX1_noteOf_14 : decode cX1_noteOf 14 = .ok (.aload_n 0, 1) := by decide +kernel
theorem dX1_noteOf_15 : decode cX1_noteOf 15 = .ok (.getfield 15, 3) := by decide +kernel
theorem dX1_noteOf_18 : decode cX1_noteOf 18 = .ok (.ifCond .le 18, 3) := by decide +kernel
theorem dX1_noteOf_21 : decode cX1_noteOf 21 = .ok (.bipush 10, 2) := by decide +kernel
theorem dX1_noteOf_23 : decode cX1_noteOf 23 = .ok (.aload_n 0, 1) := by decide +kernel
theorem dX1_noteOf_24 : decode cX1_noteOf 24 = .ok (.getfield 18, 3) := by decide +kernel
theorem dX1_noteOf_27 : decode cX1_noteOf 27 = .ok (.imul, 1) := by decide +kernel
theorem dX1_noteOf_28 : decode cX1_noteOf 28 = .ok (.aload_n 0, 1) := by decide +kernel
theorem dX1_noteOf_29 : decode cX1_noteOf 29 = .ok (.getfield 15, 3) := by decide +kernel
theorem dX1_noteOf_32 : decode cX1_noteOf 32 = .ok (.idiv, 1) := by decide +kernel
theorem dX1_noteOf_33 : decode cX1_noteOf 33 = .ok (.goto 4, 3) := by decide +kernel
theorem dX1_noteOf_36 : decode cX1_noteOf 36 = .ok (.iconst 0, 1) := by decide +kernel
theorem dX1_noteOf_37 : decode cX1_noteOf 37 = .ok (.istore_n 2, 1) := by decide +kernel
theorem dX1_noteOf_38 : decode cX1_noteOf 38 = .ok (.iload_n 1, 1) := by decide +kernel
theorem dX1_noteOf_39 : decode cX1_noteOf 39 = .ok (.ifCond .ne 11, 3) := by decide +kernel
theorem dX1_noteOf_42 : decode cX1_noteOf 42 = .ok (.aload_n 0, 1) := by decide +kernel
theorem dX1_noteOf_43 : decode cX1_noteOf 43 = .ok (.invokevirtual 96, 3) := by decide +kernel
theorem dX1_noteOf_46 : decode cX1_noteOf 46 = .ok (.invokestatic 100, 3) := by decide +kernel
theorem dX1_noteOf_49 : decode cX1_noteOf 49 = .ok (.ireturn, 1) := by decide +kernel
theorem dX1_noteOf_50 : decode cX1_noteOf 50 = .ok (.iload_n 1, 1) := by decide +kernel
theorem dX1_noteOf_51 : decode cX1_noteOf 51 = .ok (.iconst 1, 1) := by decide +kernel
theorem dX1_noteOf_52 : decode cX1_noteOf 52 = .ok (.if_icmp .ne 11, 3) := by decide +kernel
theorem dX1_noteOf_55 : decode cX1_noteOf 55 = .ok (.aload_n 0, 1) := by decide +kernel
theorem dX1_noteOf_56 : decode cX1_noteOf 56 = .ok (.iload_n 2, 1) := by decide +kernel
theorem dX1_noteOf_57 : decode cX1_noteOf 57 = .ok (.invokevirtual 103, 3) := by decide +kernel
theorem dX1_noteOf_60 : decode cX1_noteOf 60 = .ok (.goto 8, 3) := by decide +kernel
theorem dX1_noteOf_63 : decode cX1_noteOf 63 = .ok (.aload_n 0, 1) := by decide +kernel
theorem dX1_noteOf_64 : decode cX1_noteOf 64 = .ok (.iload_n 2, 1) := by decide +kernel
theorem dX1_noteOf_65 : decode cX1_noteOf 65 = .ok (.invokevirtual 106, 3) := by decide +kernel
theorem dX1_noteOf_68 : decode cX1_noteOf 68 = .ok (.invokestatic 100, 3) := by decide +kernel
theorem dX1_noteOf_71 : decode cX1_noteOf 71 = .ok (.ireturn, 1) := by decide +kernel
theorem dX1_sumOfNotes_0 : decode cX1_sumOfNotes 0 = .ok (.iconst 0, 1) := by decide +kernel
theorem dX1_sumOfNotes_1 : decode cX1_sumOfNotes 1 = .ok (.istore_n 1, 1) := by decide +kernel
theorem dX1_sumOfNotes_2 : decode cX1_sumOfNotes 2 = .ok (.iconst 0, 1) := by decide +kernel
theorem dX1_sumOfNotes_3 : decode cX1_sumOfNotes 3 = .ok (.istore_n 2, 1) := by decide +kernel
theorem dX1_sumOfNotes_4 : decode cX1_sumOfNotes 4 = .ok (.iload_n 2, 1) := by decide +kernel
theorem dX1_sumOfNotes_5 : decode cX1_sumOfNotes 5 = .ok (.iconst 3, 1) := by decide +kernel
theorem dX1_sumOfNotes_6 : decode cX1_sumOfNotes 6 = .ok (.if_icmp .ge 17, 3) := by decide +kernel
theorem dX1_sumOfNotes_9 : decode cX1_sumOfNotes 9 = .ok (.iload_n 1, 1) := by decide +kernel
theorem dX1_sumOfNotes_10 : decode cX1_sumOfNotes 10 = .ok (.aload_n 0, 1) := by decide +kernel
theorem dX1_sumOfNotes_11 : decode cX1_sumOfNotes 11 = .ok (.iload_n 2, 1) := by decide +kernel
theorem dX1_sumOfNotes_12 : decode cX1_sumOfNotes 12 = .ok (.invokevirtual 109, 3) := by decide +kernel
theorem dX1_sumOfNotes_15 : decode cX1_sumOfNotes 15 = .ok (.iadd, 1) := by decide +kernel
theorem dX1_sumOfNotes_16 : decode cX1_sumOfNotes 16 = .ok (.istore_n 1, 1) := by decide +kernel
theorem dX1_sumOfNotes_17 : decode cX1_sumOfNotes 17 = .ok (.iinc 2 1, 3) := by decide +kernel
theorem dX1_sumOfNotes_20 : decode cX1_sumOfNotes 20 = .ok (.goto (-16), 3) := by decide +kernel
theorem dX1_sumOfNotes_23 : decode cX1_sumOfNotes 23 = .ok (.iload_n 1, 1) := by decide +kernel
theorem dX1_sumOfNotes_24 : decode cX1_sumOfNotes 24 = .ok (.ireturn, 1) := by decide +kernel
theorem dX1_bodyOfLeaf_0 : decode cX1_bodyOfLeaf 0 = .ok (.aload_n 0, 1) := by decide +kernel
theorem dX1_bodyOfLeaf_1 : decode cX1_bodyOfLeaf 1 = .ok (.getfield 30, 3) := by decide +kernel
theorem dX1_bodyOfLeaf_4 : decode cX1_bodyOfLeaf 4 = .ok (.bipush 8, 2) := by decide +kernel
theorem dX1_bodyOfLeaf_6 : decode cX1_bodyOfLeaf 6 = .ok (.idiv, 1) := by decide +kernel
theorem dX1_bodyOfLeaf_7 : decode cX1_bodyOfLeaf 7 = .ok (.aload_n 0, 1) := by decide +kernel
theorem dX1_bodyOfLeaf_8 : decode cX1_bodyOfLeaf 8 = .ok (.getfield 27, 3) := by decide +kernel
theorem dX1_bodyOfLeaf_11 : decode cX1_bodyOfLeaf 11 = .ok (.iconst 3, 1) := by decide +kernel
theorem dX1_bodyOfLeaf_12 : decode cX1_bodyOfLeaf 12 = .ok (.idiv, 1) := by decide +kernel
theorem dX1_bodyOfLeaf_13 : decode cX1_bodyOfLeaf 13 = .ok (.iadd, 1) := by decide +kernel
theorem dX1_bodyOfLeaf_14 : decode cX1_bodyOfLeaf 14 = .ok (.aload_n 0, 1) := by decide +kernel
theorem dX1_bodyOfLeaf_15 : decode cX1_bodyOfLeaf 15 = .ok (.getfield 39, 3) := by decide +kernel
theorem dX1_bodyOfLeaf_18 : decode cX1_bodyOfLeaf 18 = .ok (.iconst 2, 1) := by decide +kernel
theorem dX1_bodyOfLeaf_19 : decode cX1_bodyOfLeaf 19 = .ok (.if_icmp .ne 7, 3) := by decide +kernel
theorem dX1_bodyOfLeaf_22 : decode cX1_bodyOfLeaf 22 = .ok (.iconst 2, 1) := by decide +kernel
theorem dX1_bodyOfLeaf_23 : decode cX1_bodyOfLeaf 23 = .ok (.goto 4, 3) := by decide +kernel
theorem dX1_bodyOfLeaf_26 : decode cX1_bodyOfLeaf 26 = .ok (.iconst 0, 1) := by decide +kernel
theorem dX1_bodyOfLeaf_27 : decode cX1_bodyOfLeaf 27 = .ok (.iadd, 1) := by decide +kernel
theorem dX1_bodyOfLeaf_28 : decode cX1_bodyOfLeaf 28 = .ok (.aload_n 0, 1) := by decide +kernel
theorem dX1_bodyOfLeaf_29 : decode cX1_bodyOfLeaf 29 = .ok (.getfield 33, 3) := by decide +kernel
theorem dX1_bodyOfLeaf_32 : decode cX1_bodyOfLeaf 32 = .ok (.isub, 1) := by decide +kernel
theorem dX1_bodyOfLeaf_33 : decode cX1_bodyOfLeaf 33 = .ok (.ireturn, 1) := by decide +kernel
theorem dX1_briskOfLeaf_0 : decode cX1_briskOfLeaf 0 = .ok (.aload_n 0, 1) := by decide +kernel
theorem dX1_briskOfLeaf_1 : decode cX1_briskOfLeaf 1 = .ok (.getfield 42, 3) := by decide +kernel
theorem dX1_briskOfLeaf_4 : decode cX1_briskOfLeaf 4 = .ok (.ifCond .eq 7, 3) := by decide +kernel
theorem dX1_briskOfLeaf_7 : decode cX1_briskOfLeaf 7 = .ok (.iconst 3, 1) := by decide +kernel
theorem dX1_briskOfLeaf_8 : decode cX1_briskOfLeaf 8 = .ok (.goto 18, 3) := by decide +kernel
theorem dX1_briskOfLeaf_11 : decode cX1_briskOfLeaf 11 = .ok (.iconst 4, 1) := by decide +kernel
theorem dX1_briskOfLeaf_12 : decode cX1_briskOfLeaf 12 = .ok (.aload_n 0, 1) := by decide +kernel
theorem dX1_briskOfLeaf_13 : decode cX1_briskOfLeaf 13 = .ok (.getfield 30, 3) := by decide +kernel
theorem dX1_briskOfLeaf_16 : decode cX1_briskOfLeaf 16 = .ok (.bipush 30, 2) := by decide +kernel
theorem dX1_briskOfLeaf_18 : decode cX1_briskOfLeaf 18 = .ok (.isub, 1) := by decide +kernel
theorem dX1_briskOfLeaf_19 : decode cX1_briskOfLeaf 19 = .ok (.invokestatic 112, 3) := by decide +kernel
theorem dX1_briskOfLeaf_22 : decode cX1_briskOfLeaf 22 = .ok (.bipush 8, 2) := by decide +kernel
theorem dX1_briskOfLeaf_24 : decode cX1_briskOfLeaf 24 = .ok (.idiv, 1) := by decide +kernel
theorem dX1_briskOfLeaf_25 : decode cX1_briskOfLeaf 25 = .ok (.isub, 1) := by decide +kernel
theorem dX1_briskOfLeaf_26 : decode cX1_briskOfLeaf 26 = .ok (.istore_n 2, 1) := by decide +kernel
theorem dX1_briskOfLeaf_27 : decode cX1_briskOfLeaf 27 = .ok (.iload_n 1, 1) := by decide +kernel
theorem dX1_briskOfLeaf_28 : decode cX1_briskOfLeaf 28 = .ok (.iconst 2, 1) := by decide +kernel
theorem dX1_briskOfLeaf_29 : decode cX1_briskOfLeaf 29 = .ok (.idiv, 1) := by decide +kernel
theorem dX1_briskOfLeaf_30 : decode cX1_briskOfLeaf 30 = .ok (.iload_n 2, 1) := by decide +kernel
theorem dX1_briskOfLeaf_31 : decode cX1_briskOfLeaf 31 = .ok (.iadd, 1) := by decide +kernel
theorem dX1_briskOfLeaf_32 : decode cX1_briskOfLeaf 32 = .ok (.aload_n 0, 1) := by decide +kernel
theorem dX1_briskOfLeaf_33 : decode cX1_briskOfLeaf 33 = .ok (.getfield 36, 3) := by decide +kernel
theorem dX1_briskOfLeaf_36 : decode cX1_briskOfLeaf 36 = .ok (.iconst 4, 1) := by decide +kernel
theorem dX1_briskOfLeaf_37 : decode cX1_briskOfLeaf 37 = .ok (.idiv, 1) := by decide +kernel
theorem dX1_briskOfLeaf_38 : decode cX1_briskOfLeaf 38 = .ok (.isub, 1) := by decide +kernel
theorem dX1_briskOfLeaf_39 : decode cX1_briskOfLeaf 39 = .ok (.ireturn, 1) := by decide +kernel
theorem dX1_aromaOfLeaf_0 : decode cX1_aromaOfLeaf 0 = .ok (.bipush 12, 2) := by decide +kernel
theorem dX1_aromaOfLeaf_2 : decode cX1_aromaOfLeaf 2 = .ok (.aload_n 0, 1) := by decide +kernel
theorem dX1_aromaOfLeaf_3 : decode cX1_aromaOfLeaf 3 = .ok (.getfield 24, 3) := by decide +kernel
theorem dX1_aromaOfLeaf_6 : decode cX1_aromaOfLeaf 6 = .ok (.invokestatic 79, 3) := by decide +kernel
theorem dX1_aromaOfLeaf_9 : decode cX1_aromaOfLeaf 9 = .ok (.iconst 2, 1) := by decide +kernel
theorem dX1_aromaOfLeaf_10 : decode cX1_aromaOfLeaf 10 = .ok (.idiv, 1) := by decide +kernel
theorem dX1_aromaOfLeaf_11 : decode cX1_aromaOfLeaf 11 = .ok (.istore_n 2, 1) := by decide +kernel
theorem dX1_aromaOfLeaf_12 : decode cX1_aromaOfLeaf 12 = .ok (.iload_n 2, 1) := by decide +kernel
theorem dX1_aromaOfLeaf_13 : decode cX1_aromaOfLeaf 13 = .ok (.iload_n 1, 1) := by decide +kernel
theorem dX1_aromaOfLeaf_14 : decode cX1_aromaOfLeaf 14 = .ok (.iconst 3, 1) := by decide +kernel
theorem dX1_aromaOfLeaf_15 : decode cX1_aromaOfLeaf 15 = .ok (.idiv, 1) := by decide +kernel
theorem dX1_aromaOfLeaf_16 : decode cX1_aromaOfLeaf 16 = .ok (.iadd, 1) := by decide +kernel
theorem dX1_aromaOfLeaf_17 : decode cX1_aromaOfLeaf 17 = .ok (.aload_n 0, 1) := by decide +kernel
theorem dX1_aromaOfLeaf_18 : decode cX1_aromaOfLeaf 18 = .ok (.getfield 33, 3) := by decide +kernel
theorem dX1_aromaOfLeaf_21 : decode cX1_aromaOfLeaf 21 = .ok (.isub, 1) := by decide +kernel
theorem dX1_aromaOfLeaf_22 : decode cX1_aromaOfLeaf 22 = .ok (.aload_n 0, 1) := by decide +kernel
theorem dX1_aromaOfLeaf_23 : decode cX1_aromaOfLeaf 23 = .ok (.getfield 36, 3) := by decide +kernel
theorem dX1_aromaOfLeaf_26 : decode cX1_aromaOfLeaf 26 = .ok (.iconst 5, 1) := by decide +kernel
theorem dX1_aromaOfLeaf_27 : decode cX1_aromaOfLeaf 27 = .ok (.idiv, 1) := by decide +kernel
theorem dX1_aromaOfLeaf_28 : decode cX1_aromaOfLeaf 28 = .ok (.isub, 1) := by decide +kernel
theorem dX1_aromaOfLeaf_29 : decode cX1_aromaOfLeaf 29 = .ok (.aload_n 0, 1) := by decide +kernel
theorem dX1_aromaOfLeaf_30 : decode cX1_aromaOfLeaf 30 = .ok (.getfield 46, 3) := by decide +kernel
theorem dX1_aromaOfLeaf_33 : decode cX1_aromaOfLeaf 33 = .ok (.ifCond .eq 7, 3) := by decide +kernel
theorem dX1_aromaOfLeaf_36 : decode cX1_aromaOfLeaf 36 = .ok (.iconst 5, 1) := by decide +kernel
theorem dX1_aromaOfLeaf_37 : decode cX1_aromaOfLeaf 37 = .ok (.goto 4, 3) := by decide +kernel
theorem dX1_aromaOfLeaf_40 : decode cX1_aromaOfLeaf 40 = .ok (.iconst 0, 1) := by decide +kernel
theorem dX1_aromaOfLeaf_41 : decode cX1_aromaOfLeaf 41 = .ok (.isub, 1) := by decide +kernel
theorem dX1_aromaOfLeaf_42 : decode cX1_aromaOfLeaf 42 = .ok (.ireturn, 1) := by decide +kernel
theorem dX2_init_0 : decode cX2_init 0 = .ok (.aload_n 0, 1) := by decide +kernel
theorem dX2_init_1 : decode cX2_init 1 = .ok (.invokespecial 3, 3) := by decide +kernel
theorem dX2_init_4 : decode cX2_init 4 = .ok (.aload_n 0, 1) := by decide +kernel
theorem dX2_init_5 : decode cX2_init 5 = .ok (.iconst 0, 1) := by decide +kernel
theorem dX2_init_6 : decode cX2_init 6 = .ok (.putfield 9, 3) := by decide +kernel
theorem dX2_init_9 : decode cX2_init 9 = .ok (.aload_n 0, 1) := by decide +kernel
theorem dX2_init_10 : decode cX2_init 10 = .ok (.iconst 0, 1) := by decide +kernel
theorem dX2_init_11 : decode cX2_init 11 = .ok (.putfield 15, 3) := by decide +kernel
theorem dX2_init_14 : decode cX2_init 14 = .ok (.aload_n 0, 1) := by decide +kernel
theorem dX2_init_15 : decode cX2_init 15 = .ok (.iconst 0, 1) := by decide +kernel
theorem dX2_init_16 : decode cX2_init 16 = .ok (.putfield 18, 3) := by decide +kernel
theorem dX2_init_19 : decode cX2_init 19 = .ok (.aload_n 0, 1) := by decide +kernel
theorem dX2_init_20 : decode cX2_init 20 = .ok (.iconst 0, 1) := by decide +kernel
theorem dX2_init_21 : decode cX2_init 21 = .ok (.putfield 21, 3) := by decide +kernel
theorem dX2_init_24 : decode cX2_init 24 = .ok (.aload_n 0, 1) := by decide +kernel
theorem dX2_init_25 : decode cX2_init 25 = .ok (.iconst 0, 1) := by decide +kernel
theorem dX2_init_26 : decode cX2_init 26 = .ok (.putfield 24, 3) := by decide +kernel
theorem dX2_init_29 : decode cX2_init 29 = .ok (.aload_n 0, 1) := by decide +kernel
theorem dX2_init_30 : decode cX2_init 30 = .ok (.iconst 0, 1) := by decide +kernel
theorem dX2_init_31 : decode cX2_init 31 = .ok (.putfield 27, 3) := by decide +kernel
theorem dX2_init_34 : decode cX2_init 34 = .ok (.aload_n 0, 1) := by decide +kernel
theorem dX2_init_35 : decode cX2_init 35 = .ok (.iconst 0, 1) := by decide +kernel
theorem dX2_init_36 : decode cX2_init 36 = .ok (.putfield 30, 3) := by decide +kernel
theorem dX2_init_39 : decode cX2_init 39 = .ok (.aload_n 0, 1) := by decide +kernel
theorem dX2_init_40 : decode cX2_init 40 = .ok (.iconst 4, 1) := by decide +kernel
theorem dX2_init_41 : decode cX2_init 41 = .ok (.newarray .int, 2) := by decide +kernel
theorem dX2_init_43 : decode cX2_init 43 = .ok (.putfield 33, 3) := by decide +kernel
theorem dX2_init_46 : decode cX2_init 46 = .ok (.return_, 1) := by decide +kernel
theorem dX2_sapOfDay_0 : decode cX2_sapOfDay 0 = .ok (.iconst 0, 1) := by decide +kernel
theorem dX2_sapOfDay_1 : decode cX2_sapOfDay 1 = .ok (.iload_n 1, 1) := by decide +kernel
theorem dX2_sapOfDay_2 : decode cX2_sapOfDay 2 = .ok (.aload_n 0, 1) := by decide +kernel
theorem dX2_sapOfDay_3 : decode cX2_sapOfDay 3 = .ok (.getfield 15, 3) := by decide +kernel
theorem dX2_sapOfDay_6 : decode cX2_sapOfDay 6 = .ok (.isub, 1) := by decide +kernel
theorem dX2_sapOfDay_7 : decode cX2_sapOfDay 7 = .ok (.invokestatic 37, 3) := by decide +kernel
theorem dX2_sapOfDay_10 : decode cX2_sapOfDay 10 = .ok (.iconst 3, 1) := by decide +kernel
theorem dX2_sapOfDay_11 : decode cX2_sapOfDay 11 = .ok (.iload_n 2, 1) := by decide +kernel
theorem dX2_sapOfDay_12 : decode cX2_sapOfDay 12 = .ok (.invokestatic 43, 3) := by decide +kernel
theorem dX2_sapOfDay_15 : decode cX2_sapOfDay 15 = .ok (.iadd, 1) := by decide +kernel
theorem dX2_sapOfDay_16 : decode cX2_sapOfDay 16 = .ok (.ireturn, 1) := by decide +kernel
theorem dX2_growDay_0 : decode cX2_growDay 0 = .ok (.aload_n 0, 1) := by decide +kernel
theorem dX2_growDay_1 : decode cX2_growDay 1 = .ok (.getfield 27, 3) := by decide +kernel
theorem dX2_growDay_4 : decode cX2_growDay 4 = .ok (.ifCond .le 13, 3) := by decide +kernel
theorem dX2_growDay_7 : decode cX2_growDay 7 = .ok (.aload_n 0, 1) := by decide +kernel
theorem dX2_growDay_8 : decode cX2_growDay 8 = .ok (.dup, 1) := by decide +kernel
theorem dX2_growDay_9 : decode cX2_growDay 9 = .ok (.getfield 27, 3) := by decide +kernel
theorem dX2_growDay_12 : decode cX2_growDay 12 = .ok (.iconst 1, 1) := by decide +kernel
theorem dX2_growDay_13 : decode cX2_growDay 13 = .ok (.isub, 1) := by decide +kernel
theorem dX2_growDay_14 : decode cX2_growDay 14 = .ok (.putfield 27, 3) := by decide +kernel
theorem dX2_growDay_17 : decode cX2_growDay 17 = .ok (.aload_n 0, 1) := by decide +kernel
theorem dX2_growDay_18 : decode cX2_growDay 18 = .ok (.getfield 21, 3) := by decide +kernel
theorem dX2_growDay_21 : decode cX2_growDay 21 = .ok (.ifCond .le 15, 3) := by decide +kernel
theorem dX2_growDay_24 : decode cX2_growDay 24 = .ok (.aload_n 0, 1) := by decide +kernel
theorem dX2_growDay_25 : decode cX2_growDay 25 = .ok (.dup, 1) := by decide +kernel
theorem dX2_growDay_26 : decode cX2_growDay 26 = .ok (.getfield 21, 3) := by decide +kernel
theorem dX2_growDay_29 : decode cX2_growDay 29 = .ok (.iconst 1, 1) := by decide +kernel
theorem dX2_growDay_30 : decode cX2_growDay 30 = .ok (.isub, 1) := by decide +kernel
theorem dX2_growDay_31 : decode cX2_growDay 31 = .ok (.putfield 21, 3) := by decide +kernel
theorem dX2_growDay_34 : decode cX2_growDay 34 = .ok (.iconst 0, 1) := by decide +kernel
theorem dX2_growDay_35 : decode cX2_growDay 35 = .ok (.ireturn, 1) := by decide +kernel
theorem dX2_growDay_36 : decode cX2_growDay 36 = .ok (.aload_n 0, 1) := by decide +kernel
theorem dX2_growDay_37 : decode cX2_growDay 37 = .ok (.iload_n 2, 1) := by decide +kernel
theorem dX2_growDay_38 : decode cX2_growDay 38 = .ok (.aload_n 0, 1) := by decide +kernel
theorem dX2_growDay_39 : decode cX2_growDay 39 = .ok (.getfield 15, 3) := by decide +kernel
theorem dX2_growDay_42 : decode cX2_growDay 42 = .ok (.iadd, 1) := by decide +kernel
theorem dX2_growDay_43 : decode cX2_growDay 43 = .ok (.iconst 5, 1) := by decide +kernel
theorem dX2_growDay_44 : decode cX2_growDay 44 = .ok (.if_icmp .lt 12, 3) := by decide +kernel
theorem dX2_growDay_47 : decode cX2_growDay 47 = .ok (.aload_n 0, 1) := by decide +kernel
theorem dX2_growDay_48 : decode cX2_growDay 48 = .ok (.getfield 24, 3) := by decide +kernel
theorem dX2_growDay_51 : decode cX2_growDay 51 = .ok (.iconst 1, 1) := by decide +kernel
theorem dX2_growDay_52 : decode cX2_growDay 52 = .ok (.iadd, 1) := by decide +kernel
theorem dX2_growDay_53 : decode cX2_growDay 53 = .ok (.goto 13, 3) := by decide +kernel
theorem dX2_growDay_56 : decode cX2_growDay 56 = .ok (.iconst 0, 1) := by decide +kernel
theorem dX2_growDay_57 : decode cX2_growDay 57 = .ok (.aload_n 0, 1) := by decide +kernel
theorem dX2_growDay_58 : decode cX2_growDay 58 = .ok (.getfield 24, 3) := by decide +kernel
theorem dX2_growDay_61 : decode cX2_growDay 61 = .ok (.iconst 1, 1) := by decide +kernel
theorem dX2_growDay_62 : decode cX2_growDay 62 = .ok (.isub, 1) := by decide +kernel
theorem dX2_growDay_63 : decode cX2_growDay 63 = .ok (.invokestatic 37, 3) := by decide +kernel
theorem dX2_growDay_66 : decode cX2_growDay 66 = .ok (.putfield 24, 3) := by decide +kernel
theorem dX2_growDay_69 : decode cX2_growDay 69 = .ok (.aload_n 0, 1) := by decide +kernel
theorem dX2_growDay_70 : decode cX2_growDay 70 = .ok (.dup, 1) := by decide +kernel
theorem dX2_growDay_71 : decode cX2_growDay 71 = .ok (.getfield 18, 3) := by decide +kernel
theorem dX2_growDay_74 : decode cX2_growDay 74 = .ok (.aload_n 0, 1) := by decide +kernel
theorem dX2_growDay_75 : decode cX2_growDay 75 = .ok (.iload_n 1, 1) := by decide +kernel
theorem dX2_growDay_76 : decode cX2_growDay 76 = .ok (.iload_n 2, 1) := by decide +kernel
theorem dX2_growDay_77 : decode cX2_growDay 77 = .ok (.invokevirtual 46, 3) := by decide +kernel
theorem dX2_growDay_80 : decode cX2_growDay 80 = .ok (.iadd, 1) := by decide +kernel
theorem dX2_growDay_81 : decode cX2_growDay 81 = .ok (.putfield 18, 3) := by decide +kernel
theorem dX2_growDay_84 : decode cX2_growDay 84 = .ok (.aload_n 0, 1) := by decide +kernel
theorem dX2_growDay_85 : decode cX2_growDay 85 = .ok (.getfield 18, 3) := by decide +kernel
theorem dX2_growDay_88 : decode cX2_growDay 88 = .ok (.iconst 5, 1) := by decide +kernel
theorem dX2_growDay_89 : decode cX2_growDay 89 = .ok (.idiv, 1) := by decide +kernel
theorem dX2_growDay_90 : decode cX2_growDay 90 = .ok (.istore_n 3, 1) := by decide +kernel
theorem dX2_growDay_91 : decode cX2_growDay 91 = .ok (.iconst 0, 1) := by decide +kernel
theorem dX2_growDay_92 : decode cX2_growDay 92 = .ok (.istore 4, 2) := by decide +kernel
theorem dX2_growDay_94 : decode cX2_growDay 94 = .ok (.iload 4, 2) := by decide +kernel
theorem dX2_growDay_96 : decode cX2_growDay 96 = .ok (.iload_n 3, 1) := by decide +kernel
theorem dX2_growDay_97 : decode cX2_growDay 97 = .ok (.if_icmp .ge 13, 3) := by decide +kernel
theorem dX2_growDay_100 : decode cX2_growDay 100 = .ok (.aload_n 0, 1) := by decide +kernel
theorem dX2_growDay_101 : decode cX2_growDay 101 = .ok (.invokevirtual 49, 3) := by decide +kernel
theorem dX2_growDay_104 : decode cX2_growDay 104 = .ok (.iinc 4 1, 3) := by decide +kernel
theorem dX2_growDay_107 : decode cX2_growDay 107 = .ok (.goto (-13), 3) := by decide +kernel
theorem dX2_growDay_110 : decode cX2_growDay 110 = .ok (.iload_n 3, 1) := by decide +kernel
theorem dX2_growDay_111 : decode cX2_growDay 111 = .ok (.ireturn, 1) := by decide +kernel
theorem dX2_flushOnce_0 : decode cX2_flushOnce 0 = .ok (.aload_n 0, 1) := by decide +kernel
theorem dX2_flushOnce_1 : decode cX2_flushOnce 1 = .ok (.dup, 1) := by decide +kernel
theorem dX2_flushOnce_2 : decode cX2_flushOnce 2 = .ok (.getfield 18, 3) := by decide +kernel
theorem dX2_flushOnce_5 : decode cX2_flushOnce 5 = .ok (.iconst 5, 1) := by decide +kernel
theorem dX2_flushOnce_6 : decode cX2_flushOnce 6 = .ok (.isub, 1) := by decide +kernel
theorem dX2_flushOnce_7 : decode cX2_flushOnce 7 = .ok (.putfield 18, 3) := by decide +kernel
theorem dX2_flushOnce_10 : decode cX2_flushOnce 10 = .ok (.aload_n 0, 1) := by decide +kernel
theorem dX2_flushOnce_11 : decode cX2_flushOnce 11 = .ok (.dup, 1) := by decide +kernel
theorem dX2_flushOnce_12 : decode cX2_flushOnce 12 = .ok (.getfield 30, 3) := by decide +kernel
theorem dX2_flushOnce_15 : decode cX2_flushOnce 15 = .ok (.aload_n 0, 1) := by decide +kernel
theorem dX2_flushOnce_16 : decode cX2_flushOnce 16 = .ok (.getfield 33, 3) := by decide +kernel
theorem dX2_flushOnce_19 : decode cX2_flushOnce 19 = .ok (.iconst 3, 1) := by decide +kernel
theorem dX2_flushOnce_20 : decode cX2_flushOnce 20 = .ok (.iaload, 1) := by decide +kernel
theorem dX2_flushOnce_21 : decode cX2_flushOnce 21 = .ok (.iadd, 1) := by decide +kernel
theorem dX2_flushOnce_22 : decode cX2_flushOnce 22 = .ok (.putfield 30, 3) := by decide +kernel
theorem dX2_flushOnce_25 : decode cX2_flushOnce 25 = .ok (.aload_n 0, 1) := by decide +kernel
theorem dX2_flushOnce_26 : decode cX2_flushOnce 26 = .ok (.getfield 33, 3) := by decide +kernel
theorem dX2_flushOnce_29 : decode cX2_flushOnce 29 = .ok (.iconst 3, 1) := by decide +kernel
theorem dX2_flushOnce_30 : decode cX2_flushOnce 30 = .ok (.aload_n 0, 1) := by decide +kernel
theorem dX2_flushOnce_31 : decode cX2_flushOnce 31 = .ok (.getfield 33, 3) := by decide +kernel
theorem dX2_flushOnce_34 : decode cX2_flushOnce 34 = .ok (.iconst 2, 1) := by decide +kernel
theorem dX2_flushOnce_35 : decode cX2_flushOnce 35 = .ok (.iaload, 1) := by decide +kernel
theorem dX2_flushOnce_36 : decode cX2_flushOnce 36 = .ok (.iastore, 1) := by decide +kernel
theorem dX2_flushOnce_37 : decode cX2_flushOnce 37 = .ok (.aload_n 0, 1) := by decide +kernel
theorem dX2_flushOnce_38 : decode cX2_flushOnce 38 = .ok (.getfield 33, 3) := by decide +kernel
theorem dX2_flushOnce_41 : decode cX2_flushOnce 41 = .ok (.iconst 2, 1) := by decide +kernel
theorem dX2_flushOnce_42 : decode cX2_flushOnce 42 = .ok (.aload_n 0, 1) := by decide +kernel
theorem dX2_flushOnce_43 : decode cX2_flushOnce 43 = .ok (.getfield 33, 3) := by decide +kernel
theorem dX2_flushOnce_46 : decode cX2_flushOnce 46 = .ok (.iconst 1, 1) := by decide +kernel
theorem dX2_flushOnce_47 : decode cX2_flushOnce 47 = .ok (.iaload, 1) := by decide +kernel
theorem dX2_flushOnce_48 : decode cX2_flushOnce 48 = .ok (.iastore, 1) := by decide +kernel
theorem dX2_flushOnce_49 : decode cX2_flushOnce 49 = .ok (.aload_n 0, 1) := by decide +kernel
theorem dX2_flushOnce_50 : decode cX2_flushOnce 50 = .ok (.getfield 33, 3) := by decide +kernel
theorem dX2_flushOnce_53 : decode cX2_flushOnce 53 = .ok (.iconst 1, 1) := by decide +kernel
theorem dX2_flushOnce_54 : decode cX2_flushOnce 54 = .ok (.aload_n 0, 1) := by decide +kernel
theorem dX2_flushOnce_55 : decode cX2_flushOnce 55 = .ok (.getfield 33, 3) := by decide +kernel
theorem dX2_flushOnce_58 : decode cX2_flushOnce 58 = .ok (.iconst 0, 1) := by decide +kernel
theorem dX2_flushOnce_59 : decode cX2_flushOnce 59 = .ok (.iaload, 1) := by decide +kernel
theorem dX2_flushOnce_60 : decode cX2_flushOnce 60 = .ok (.iastore, 1) := by decide +kernel
theorem dX2_flushOnce_61 : decode cX2_flushOnce 61 = .ok (.aload_n 0, 1) := by decide +kernel
theorem dX2_flushOnce_62 : decode cX2_flushOnce 62 = .ok (.getfield 33, 3) := by decide +kernel
theorem dX2_flushOnce_65 : decode cX2_flushOnce 65 = .ok (.iconst 0, 1) := by decide +kernel
theorem dX2_flushOnce_66 : decode cX2_flushOnce 66 = .ok (.aload_n 0, 1) := by decide +kernel
theorem dX2_flushOnce_67 : decode cX2_flushOnce 67 = .ok (.getfield 24, 3) := by decide +kernel
theorem dX2_flushOnce_70 : decode cX2_flushOnce 70 = .ok (.iconst 3, 1) := by decide +kernel
theorem dX2_flushOnce_71 : decode cX2_flushOnce 71 = .ok (.if_icmp .lt 10, 3) := by decide +kernel
theorem dX2_flushOnce_74 : decode cX2_flushOnce 74 = .ok (.aload_n 0, 1) := by decide +kernel
theorem dX2_flushOnce_75 : decode cX2_flushOnce 75 = .ok (.getfield 9, 3) := by decide +kernel
theorem dX2_flushOnce_78 : decode cX2_flushOnce 78 = .ok (.goto 9, 3) := by decide +kernel
theorem dX2_flushOnce_81 : decode cX2_flushOnce 81 = .ok (.iconst 2, 1) := by decide +kernel
theorem dX2_flushOnce_82 : decode cX2_flushOnce 82 = .ok (.aload_n 0, 1) := by decide +kernel
theorem dX2_flushOnce_83 : decode cX2_flushOnce 83 = .ok (.getfield 9, 3) := by decide +kernel
theorem dX2_flushOnce_86 : decode cX2_flushOnce 86 = .ok (.imul, 1) := by decide +kernel
theorem dX2_flushOnce_87 : decode cX2_flushOnce 87 = .ok (.iastore, 1) := by decide +kernel
theorem dX2_flushOnce_88 : decode cX2_flushOnce 88 = .ok (.return_, 1) := by decide +kernel
theorem dX2_cutBack_0 : decode cX2_cutBack 0 = .ok (.aload_n 0, 1) := by decide +kernel
theorem dX2_cutBack_1 : decode cX2_cutBack 1 = .ok (.getfield 30, 3) := by decide +kernel
theorem dX2_cutBack_4 : decode cX2_cutBack 4 = .ok (.istore_n 1, 1) := by decide +kernel
theorem dX2_cutBack_5 : decode cX2_cutBack 5 = .ok (.aload_n 0, 1) := by decide +kernel
theorem dX2_cutBack_6 : decode cX2_cutBack 6 = .ok (.iconst 0, 1) := by decide +kernel
theorem dX2_cutBack_7 : decode cX2_cutBack 7 = .ok (.putfield 30, 3) := by decide +kernel
theorem dX2_cutBack_10 : decode cX2_cutBack 10 = .ok (.iconst 0, 1) := by decide +kernel
theorem dX2_cutBack_11 : decode cX2_cutBack 11 = .ok (.istore_n 2, 1) := by decide +kernel
theorem dX2_cutBack_12 : decode cX2_cutBack 12 = .ok (.iload_n 2, 1) := by decide +kernel
theorem dX2_cutBack_13 : decode cX2_cutBack 13 = .ok (.aload_n 0, 1) := by decide +kernel
theorem dX2_cutBack_14 : decode cX2_cutBack 14 = .ok (.getfield 33, 3) := by decide +kernel
theorem dX2_cutBack_17 : decode cX2_cutBack 17 = .ok (.arraylength, 1) := by decide +kernel
theorem dX2_cutBack_18 : decode cX2_cutBack 18 = .ok (.if_icmp .ge 25, 3) := by decide +kernel
theorem dX2_cutBack_21 : decode cX2_cutBack 21 = .ok (.iload_n 1, 1) := by decide +kernel
theorem dX2_cutBack_22 : decode cX2_cutBack 22 = .ok (.aload_n 0, 1) := by decide +kernel
theorem dX2_cutBack_23 : decode cX2_cutBack 23 = .ok (.getfield 33, 3) := by decide +kernel
theorem dX2_cutBack_26 : decode cX2_cutBack 26 = .ok (.iload_n 2, 1) := by decide +kernel
theorem dX2_cutBack_27 : decode cX2_cutBack 27 = .ok (.iaload, 1) := by decide +kernel
theorem dX2_cutBack_28 : decode cX2_cutBack 28 = .ok (.iadd, 1) := by decide +kernel
theorem dX2_cutBack_29 : decode cX2_cutBack 29 = .ok (.istore_n 1, 1) := by decide +kernel
theorem dX2_cutBack_30 : decode cX2_cutBack 30 = .ok (.aload_n 0, 1) := by decide +kernel
theorem dX2_cutBack_31 : decode cX2_cutBack 31 = .ok (.getfield 33, 3) := by decide +kernel
theorem dX2_cutBack_34 : decode cX2_cutBack 34 = .ok (.iload_n 2, 1) := by decide +kernel
theorem dX2_cutBack_35 : decode cX2_cutBack 35 = .ok (.iconst 0, 1) := by decide +kernel
theorem dX2_cutBack_36 : decode cX2_cutBack 36 = .ok (.iastore, 1) := by decide +kernel
theorem dX2_cutBack_37 : decode cX2_cutBack 37 = .ok (.iinc 2 1, 3) := by decide +kernel
theorem dX2_cutBack_40 : decode cX2_cutBack 40 = .ok (.goto (-28), 3) := by decide +kernel
theorem dX2_cutBack_43 : decode cX2_cutBack 43 = .ok (.aload_n 0, 1) := by decide +kernel
theorem dX2_cutBack_44 : decode cX2_cutBack 44 = .ok (.iconst 0, 1) := by decide +kernel
theorem dX2_cutBack_45 : decode cX2_cutBack 45 = .ok (.putfield 18, 3) := by decide +kernel
theorem dX2_cutBack_48 : decode cX2_cutBack 48 = .ok (.aload_n 0, 1) := by decide +kernel
theorem dX2_cutBack_49 : decode cX2_cutBack 49 = .ok (.iconst 0, 1) := by decide +kernel
theorem dX2_cutBack_50 : decode cX2_cutBack 50 = .ok (.putfield 24, 3) := by decide +kernel
theorem dX2_cutBack_53 : decode cX2_cutBack 53 = .ok (.aload_n 0, 1) := by decide +kernel
theorem dX2_cutBack_54 : decode cX2_cutBack 54 = .ok (.iconst 4, 1) := by decide +kernel
theorem dX2_cutBack_55 : decode cX2_cutBack 55 = .ok (.putfield 21, 3) := by decide +kernel
theorem dX2_cutBack_58 : decode cX2_cutBack 58 = .ok (.iload_n 1, 1) := by decide +kernel
theorem dX2_cutBack_59 : decode cX2_cutBack 59 = .ok (.ireturn, 1) := by decide +kernel
theorem dX3_init_0 : decode cX3_init 0 = .ok (.aload_n 0, 1) := by decide +kernel
theorem dX3_init_1 : decode cX3_init 1 = .ok (.invokespecial 3, 3) := by decide +kernel
theorem dX3_init_4 : decode cX3_init 4 = .ok (.aload_n 0, 1) := by decide +kernel
theorem dX3_init_5 : decode cX3_init 5 = .ok (.iconst 0, 1) := by decide +kernel
theorem dX3_init_6 : decode cX3_init 6 = .ok (.putfield 9, 3) := by decide +kernel
theorem dX3_init_9 : decode cX3_init 9 = .ok (.aload_n 0, 1) := by decide +kernel
theorem dX3_init_10 : decode cX3_init 10 = .ok (.iconst 0, 1) := by decide +kernel
theorem dX3_init_11 : decode cX3_init 11 = .ok (.putfield 15, 3) := by decide +kernel
theorem dX3_init_14 : decode cX3_init 14 = .ok (.aload_n 0, 1) := by decide +kernel
theorem dX3_init_15 : decode cX3_init 15 = .ok (.iconst 0, 1) := by decide +kernel
theorem dX3_init_16 : decode cX3_init 16 = .ok (.putfield 18, 3) := by decide +kernel
theorem dX3_init_19 : decode cX3_init 19 = .ok (.return_, 1) := by decide +kernel
theorem dX3_tells_0 : decode cX3_tells 0 = .ok (.iload_n 1, 1) := by decide +kernel
theorem dX3_tells_1 : decode cX3_tells 1 = .ok (.aload_n 0, 1) := by decide +kernel
theorem dX3_tells_2 : decode cX3_tells 2 = .ok (.getfield 9, 3) := by decide +kernel
theorem dX3_tells_5 : decode cX3_tells 5 = .ok (.iadd, 1) := by decide +kernel
theorem dX3_tells_6 : decode cX3_tells 6 = .ok (.invokestatic 21, 3) := by decide +kernel
theorem dX3_tells_9 : decode cX3_tells 9 = .ok (.ireturn, 1) := by decide +kernel
theorem dX3_guess_0 : decode cX3_guess 0 = .ok (.iconst 3, 1) := by decide +kernel
theorem dX3_guess_1 : decode cX3_guess 1 = .ok (.aload_n 0, 1) := by decide +kernel
theorem dX3_guess_2 : decode cX3_guess 2 = .ok (.getfield 18, 3) := by decide +kernel
theorem dX3_guess_5 : decode cX3_guess 5 = .ok (.imul, 1) := by decide +kernel
theorem dX3_guess_6 : decode cX3_guess 6 = .ok (.istore_n 1, 1) := by decide +kernel
theorem dX3_guess_7 : decode cX3_guess 7 = .ok (.iload_n 1, 1) := by decide +kernel
theorem dX3_guess_8 : decode cX3_guess 8 = .ok (.ifCond .gt 5, 3) := by decide +kernel
theorem dX3_guess_11 : decode cX3_guess 11 = .ok (.iconst 0, 1) := by decide +kernel
theorem dX3_guess_12 : decode cX3_guess 12 = .ok (.ireturn, 1) := by decide +kernel
theorem dX3_guess_13 : decode cX3_guess 13 = .ok (.iconst 2, 1) := by decide +kernel
theorem dX3_guess_14 : decode cX3_guess 14 = .ok (.aload_n 0, 1) := by decide +kernel
theorem dX3_guess_15 : decode cX3_guess 15 = .ok (.getfield 15, 3) := by decide +kernel
theorem dX3_guess_18 : decode cX3_guess 18 = .ok (.invokestatic 25, 3) := by decide +kernel
theorem dX3_guess_21 : decode cX3_guess 21 = .ok (.imul, 1) := by decide +kernel
theorem dX3_guess_22 : decode cX3_guess 22 = .ok (.iload_n 1, 1) := by decide +kernel
theorem dX3_guess_23 : decode cX3_guess 23 = .ok (.iadd, 1) := by decide +kernel
theorem dX3_guess_24 : decode cX3_guess 24 = .ok (.iconst 2, 1) := by decide +kernel
theorem dX3_guess_25 : decode cX3_guess 25 = .ok (.iload_n 1, 1) := by decide +kernel
theorem dX3_guess_26 : decode cX3_guess 26 = .ok (.imul, 1) := by decide +kernel
theorem dX3_guess_27 : decode cX3_guess 27 = .ok (.idiv, 1) := by decide +kernel
theorem dX3_guess_28 : decode cX3_guess 28 = .ok (.istore_n 2, 1) := by decide +kernel
theorem dX3_guess_29 : decode cX3_guess 29 = .ok (.aload_n 0, 1) := by decide +kernel
theorem dX3_guess_30 : decode cX3_guess 30 = .ok (.getfield 15, 3) := by decide +kernel
theorem dX3_guess_33 : decode cX3_guess 33 = .ok (.ifCond .ge 8, 3) := by decide +kernel
theorem dX3_guess_36 : decode cX3_guess 36 = .ok (.iload_n 2, 1) := by decide +kernel
theorem dX3_guess_37 : decode cX3_guess 37 = .ok (.ineg, 1) := by decide +kernel
theorem dX3_guess_38 : decode cX3_guess 38 = .ok (.goto 4, 3) := by decide +kernel
theorem dX3_guess_41 : decode cX3_guess 41 = .ok (.iload_n 2, 1) := by decide +kernel
theorem dX3_guess_42 : decode cX3_guess 42 = .ok (.ireturn, 1) := by decide +kernel
theorem dX4_init_0 : decode cX4_init 0 = .ok (.aload_n 0, 1) := by decide +kernel
theorem dX4_init_1 : decode cX4_init 1 = .ok (.invokespecial 3, 3) := by decide +kernel
theorem dX4_init_4 : decode cX4_init 4 = .ok (.aload_n 0, 1) := by decide +kernel
theorem dX4_init_5 : decode cX4_init 5 = .ok (.iconst 4, 1) := by decide +kernel
theorem dX4_init_6 : decode cX4_init 6 = .ok (.anewarray 9, 3) := by decide +kernel
theorem dX4_init_9 : decode cX4_init 9 = .ok (.putfield 11, 3) := by decide +kernel
theorem dX4_init_12 : decode cX4_init 12 = .ok (.aload_n 0, 1) := by decide +kernel
theorem dX4_init_13 : decode cX4_init 13 = .ok (.iconst 0, 1) := by decide +kernel
theorem dX4_init_14 : decode cX4_init 14 = .ok (.putfield 15, 3) := by decide +kernel
theorem dX4_init_17 : decode cX4_init 17 = .ok (.aload_n 0, 1) := by decide +kernel
theorem dX4_init_18 : decode cX4_init 18 = .ok (.iconst 0, 1) := by decide +kernel
theorem dX4_init_19 : decode cX4_init 19 = .ok (.putfield 19, 3) := by decide +kernel
theorem dX4_init_22 : decode cX4_init 22 = .ok (.aload_n 0, 1) := by decide +kernel
theorem dX4_init_23 : decode cX4_init 23 = .ok (.bipush 16, 2) := by decide +kernel
theorem dX4_init_25 : decode cX4_init 25 = .ok (.anewarray 22, 3) := by decide +kernel
theorem dX4_init_28 : decode cX4_init 28 = .ok (.putfield 24, 3) := by decide +kernel
theorem dX4_init_31 : decode cX4_init 31 = .ok (.aload_n 0, 1) := by decide +kernel
theorem dX4_init_32 : decode cX4_init 32 = .ok (.iconst 0, 1) := by decide +kernel
theorem dX4_init_33 : decode cX4_init 33 = .ok (.putfield 28, 3) := by decide +kernel
theorem dX4_init_36 : decode cX4_init 36 = .ok (.aload_n 0, 1) := by decide +kernel
theorem dX4_init_37 : decode cX4_init 37 = .ok (.new 22, 3) := by decide +kernel
theorem dX4_init_40 : decode cX4_init 40 = .ok (.dup, 1) := by decide +kernel
theorem dX4_init_41 : decode cX4_init 41 = .ok (.invokespecial 31, 3) := by decide +kernel
theorem dX4_init_44 : decode cX4_init 44 = .ok (.putfield 32, 3) := by decide +kernel
theorem dX4_init_47 : decode cX4_init 47 = .ok (.aload_n 0, 1) := by decide +kernel
theorem dX4_init_48 : decode cX4_init 48 = .ok (.iconst 3, 1) := by decide +kernel
theorem dX4_init_49 : decode cX4_init 49 = .ok (.anewarray 36, 3) := by decide +kernel
theorem dX4_init_52 : decode cX4_init 52 = .ok (.putfield 38, 3) := by decide +kernel
theorem dX4_init_55 : decode cX4_init 55 = .ok (.aload_n 0, 1) := by decide +kernel
theorem dX4_init_56 : decode cX4_init 56 = .ok (.iconst 4, 1) := by decide +kernel
theorem dX4_init_57 : decode cX4_init 57 = .ok (.newarray .int, 2) := by decide +kernel
theorem dX4_init_59 : decode cX4_init 59 = .ok (.putfield 42, 3) := by decide +kernel
theorem dX4_init_62 : decode cX4_init 62 = .ok (.aload_n 0, 1) := by decide +kernel
theorem dX4_init_63 : decode cX4_init 63 = .ok (.iconst 0, 1) := by decide +kernel
theorem dX4_init_64 : decode cX4_init 64 = .ok (.putfield 46, 3) := by decide +kernel
theorem dX4_init_67 : decode cX4_init 67 = .ok (.aload_n 0, 1) := by decide +kernel
theorem dX4_init_68 : decode cX4_init 68 = .ok (.iconst 0, 1) := by decide +kernel
theorem dX4_init_69 : decode cX4_init 69 = .ok (.putfield 49, 3) := by decide +kernel
theorem dX4_init_72 : decode cX4_init 72 = .ok (.aload_n 0, 1) := by decide +kernel
theorem dX4_init_73 : decode cX4_init 73 = .ok (.iconst 0, 1) := by decide +kernel
theorem dX4_init_74 : decode cX4_init 74 = .ok (.putfield 52, 3) := by decide +kernel
theorem dX4_init_77 : decode cX4_init 77 = .ok (.aload_n 0, 1) := by decide +kernel
theorem dX4_init_78 : decode cX4_init 78 = .ok (.iconst 0, 1) := by decide +kernel
theorem dX4_init_79 : decode cX4_init 79 = .ok (.putfield 55, 3) := by decide +kernel
theorem dX4_init_82 : decode cX4_init 82 = .ok (.iconst 0, 1) := by decide +kernel
theorem dX4_init_83 : decode cX4_init 83 = .ok (.istore_n 1, 1) := by decide +kernel
theorem dX4_init_84 : decode cX4_init 84 = .ok (.iload_n 1, 1) := by decide +kernel
theorem dX4_init_85 : decode cX4_init 85 = .ok (.aload_n 0, 1) := by decide +kernel
theorem dX4_init_86 : decode cX4_init 86 = .ok (.getfield 11, 3) := by decide +kernel
theorem dX4_init_89 : decode cX4_init 89 = .ok (.arraylength, 1) := by decide +kernel
theorem dX4_init_90 : decode cX4_init 90 = .ok (.if_icmp .ge 22, 3) := by decide +kernel
theorem dX4_init_93 : decode cX4_init 93 = .ok (.aload_n 0, 1) := by decide +kernel
theorem dX4_init_94 : decode cX4_init 94 = .ok (.getfield 11, 3) := by decide +kernel
theorem dX4_init_97 : decode cX4_init 97 = .ok (.iload_n 1, 1) := by decide +kernel
theorem dX4_init_98 : decode cX4_init 98 = .ok (.new 9, 3) := by decide +kernel
theorem dX4_init_101 : decode cX4_init 101 = .ok (.dup, 1) := by decide +kernel
theorem dX4_init_102 : decode cX4_init 102 = .ok (.invokespecial 58, 3) := by decide +kernel
theorem dX4_init_105 : decode cX4_init 105 = .ok (.aastore, 1) := by decide +kernel
theorem dX4_init_106 : decode cX4_init 106 = .ok (.iinc 1 1, 3) := by decide +kernel
theorem dX4_init_109 : decode cX4_init 109 = .ok (.goto (-25), 3) := by decide +kernel
theorem dX4_init_112 : decode cX4_init 112 = .ok (.iconst 0, 1) := by decide +kernel
theorem dX4_init_113 : decode cX4_init 113 = .ok (.istore_n 1, 1) := by decide +kernel
theorem dX4_init_114 : decode cX4_init 114 = .ok (.iload_n 1, 1) := by decide +kernel
theorem dX4_init_115 : decode cX4_init 115 = .ok (.aload_n 0, 1) := by decide +kernel
theorem dX4_init_116 : decode cX4_init 116 = .ok (.getfield 24, 3) := by decide +kernel
theorem dX4_init_119 : decode cX4_init 119 = .ok (.arraylength, 1) := by decide +kernel
theorem dX4_init_120 : decode cX4_init 120 = .ok (.if_icmp .ge 22, 3) := by decide +kernel
theorem dX4_init_123 : decode cX4_init 123 = .ok (.aload_n 0, 1) := by decide +kernel
theorem dX4_init_124 : decode cX4_init 124 = .ok (.getfield 24, 3) := by decide +kernel
theorem dX4_init_127 : decode cX4_init 127 = .ok (.iload_n 1, 1) := by decide +kernel
theorem dX4_init_128 : decode cX4_init 128 = .ok (.new 22, 3) := by decide +kernel
theorem dX4_init_131 : decode cX4_init 131 = .ok (.dup, 1) := by decide +kernel
theorem dX4_init_132 : decode cX4_init 132 = .ok (.invokespecial 31, 3) := by decide +kernel
theorem dX4_init_135 : decode cX4_init 135 = .ok (.aastore, 1) := by decide +kernel
theorem dX4_init_136 : decode cX4_init 136 = .ok (.iinc 1 1, 3) := by decide +kernel
theorem dX4_init_139 : decode cX4_init 139 = .ok (.goto (-25), 3) := by decide +kernel
theorem dX4_init_142 : decode cX4_init 142 = .ok (.iconst 0, 1) := by decide +kernel
theorem dX4_init_143 : decode cX4_init 143 = .ok (.istore_n 1, 1) := by decide +kernel
theorem dX4_init_144 : decode cX4_init 144 = .ok (.iload_n 1, 1) := by decide +kernel
theorem dX4_init_145 : decode cX4_init 145 = .ok (.aload_n 0, 1) := by decide +kernel
theorem dX4_init_146 : decode cX4_init 146 = .ok (.getfield 38, 3) := by decide +kernel
theorem dX4_init_149 : decode cX4_init 149 = .ok (.arraylength, 1) := by decide +kernel
theorem dX4_init_150 : decode cX4_init 150 = .ok (.if_icmp .ge 22, 3) := by decide +kernel
theorem dX4_init_153 : decode cX4_init 153 = .ok (.aload_n 0, 1) := by decide +kernel
theorem dX4_init_154 : decode cX4_init 154 = .ok (.getfield 38, 3) := by decide +kernel
theorem dX4_init_157 : decode cX4_init 157 = .ok (.iload_n 1, 1) := by decide +kernel
theorem dX4_init_158 : decode cX4_init 158 = .ok (.new 36, 3) := by decide +kernel
theorem dX4_init_161 : decode cX4_init 161 = .ok (.dup, 1) := by decide +kernel
theorem dX4_init_162 : decode cX4_init 162 = .ok (.invokespecial 59, 3) := by decide +kernel
theorem dX4_init_165 : decode cX4_init 165 = .ok (.aastore, 1) := by decide +kernel
theorem dX4_init_166 : decode cX4_init 166 = .ok (.iinc 1 1, 3) := by decide +kernel
theorem dX4_init_169 : decode cX4_init 169 = .ok (.goto (-25), 3) := by decide +kernel
theorem dX4_init_172 : decode cX4_init 172 = .ok (.return_, 1) := by decide +kernel
theorem dX4_section_0 : decode cX4_section 0 = .ok (.iload_n 1, 1) := by decide +kernel
theorem dX4_section_1 : decode cX4_section 1 = .ok (.iconst 1, 1) := by decide +kernel
theorem dX4_section_2 : decode cX4_section 2 = .ok (.bipush 9, 2) := by decide +kernel
theorem dX4_section_4 : decode cX4_section 4 = .ok (.invokestatic 60, 3) := by decide +kernel
theorem dX4_section_7 : decode cX4_section 7 = .ok (.iload_n 2, 1) := by decide +kernel
theorem dX4_section_8 : decode cX4_section 8 = .ok (.iconst 0, 1) := by decide +kernel
theorem dX4_section_9 : decode cX4_section 9 = .ok (.iconst 2, 1) := by decide +kernel
theorem dX4_section_10 : decode cX4_section 10 = .ok (.invokestatic 60, 3) := by decide +kernel
theorem dX4_section_13 : decode cX4_section 13 = .ok (.aload_n 0, 1) := by decide +kernel
theorem dX4_section_14 : decode cX4_section 14 = .ok (.getfield 15, 3) := by decide +kernel
theorem dX4_section_17 : decode cX4_section 17 = .ok (.iconst 4, 1) := by decide +kernel
theorem dX4_section_18 : decode cX4_section 18 = .ok (.if_icmp .ge 7, 3) := by decide +kernel
theorem dX4_section_21 : decode cX4_section 21 = .ok (.iconst 1, 1) := by decide +kernel
theorem dX4_section_22 : decode cX4_section 22 = .ok (.goto 4, 3) := by decide +kernel
theorem dX4_section_25 : decode cX4_section 25 = .ok (.iconst 0, 1) := by decide +kernel
theorem dX4_section_26 : decode cX4_section 26 = .ok (.invokestatic 64, 3) := by decide +kernel
theorem dX4_section_29 : decode cX4_section 29 = .ok (.aload_n 0, 1) := by decide +kernel
theorem dX4_section_30 : decode cX4_section 30 = .ok (.getfield 11, 3) := by decide +kernel
theorem dX4_section_33 : decode cX4_section 33 = .ok (.aload_n 0, 1) := by decide +kernel
theorem dX4_section_34 : decode cX4_section 34 = .ok (.getfield 15, 3) := by decide +kernel
theorem dX4_section_37 : decode cX4_section 37 = .ok (.aaload, 1) := by decide +kernel
theorem dX4_section_38 : decode cX4_section 38 = .ok (.astore_n 3, 1) := by decide +kernel
theorem dX4_section_39 : decode cX4_section 39 = .ok (.aload_n 3, 1) := by decide +kernel
theorem dX4_section_40 : decode cX4_section 40 = .ok (.iload_n 1, 1) := by decide +kernel
theorem dX4_section_41 : decode cX4_section 41 = .ok (.putfield 68, 3) := by decide +kernel
theorem dX4_section_44 : decode cX4_section 44 = .ok (.aload_n 3, 1) := by decide +kernel
theorem dX4_section_45 : decode cX4_section 45 = .ok (.iload_n 2, 1) := by decide +kernel
theorem dX4_section_46 : decode cX4_section 46 = .ok (.putfield 71, 3) := by decide +kernel
theorem dX4_section_49 : decode cX4_section 49 = .ok (.aload_n 0, 1) := by decide +kernel
theorem dX4_section_50 : decode cX4_section 50 = .ok (.dup, 1) := by decide +kernel
theorem dX4_section_51 : decode cX4_section 51 = .ok (.getfield 15, 3) := by decide +kernel
theorem dX4_section_54 : decode cX4_section 54 = .ok (.iconst 1, 1) := by decide +kernel
theorem dX4_section_55 : decode cX4_section 55 = .ok (.iadd, 1) := by decide +kernel
theorem dX4_section_56 : decode cX4_section 56 = .ok (.putfield 15, 3) := by decide +kernel
theorem dX4_section_59 : decode cX4_section 59 = .ok (.aload_n 0, 1) := by decide +kernel
theorem dX4_section_60 : decode cX4_section 60 = .ok (.getfield 15, 3) := by decide +kernel
theorem dX4_section_63 : decode cX4_section 63 = .ok (.iconst 1, 1) := by decide +kernel
theorem dX4_section_64 : decode cX4_section 64 = .ok (.isub, 1) := by decide +kernel
theorem dX4_section_65 : decode cX4_section 65 = .ok (.ireturn, 1) := by decide +kernel
theorem dX4_pass_0 : decode cX4_pass 0 = .ok (.iload_n 1, 1) := by decide +kernel
theorem dX4_pass_1 : decode cX4_pass 1 = .ok (.iconst 0, 1) := by decide +kernel
theorem dX4_pass_2 : decode cX4_pass 2 = .ok (.bipush 6, 2) := by decide +kernel
theorem dX4_pass_4 : decode cX4_pass 4 = .ok (.invokestatic 60, 3) := by decide +kernel
theorem dX4_pass_7 : decode cX4_pass 7 = .ok (.iload_n 2, 1) := by decide +kernel
theorem dX4_pass_8 : decode cX4_pass 8 = .ok (.iconst 0, 1) := by decide +kernel
theorem dX4_pass_9 : decode cX4_pass 9 = .ok (.bipush 6, 2) := by decide +kernel
theorem dX4_pass_11 : decode cX4_pass 11 = .ok (.invokestatic 60, 3) := by decide +kernel
theorem dX4_pass_14 : decode cX4_pass 14 = .ok (.iload_n 3, 1) := by decide +kernel
theorem dX4_pass_15 : decode cX4_pass 15 = .ok (.iconst 1, 1) := by decide +kernel
theorem dX4_pass_16 : decode cX4_pass 16 = .ok (.bipush 30, 2) := by decide +kernel
theorem dX4_pass_18 : decode cX4_pass 18 = .ok (.invokestatic 60, 3) := by decide +kernel
theorem dX4_pass_21 : decode cX4_pass 21 = .ok (.iconst 0, 1) := by decide +kernel
theorem dX4_pass_22 : decode cX4_pass 22 = .ok (.istore 4, 2) := by decide +kernel
theorem dX4_pass_24 : decode cX4_pass 24 = .ok (.iconst 0, 1) := by decide +kernel
theorem dX4_pass_25 : decode cX4_pass 25 = .ok (.istore 5, 2) := by decide +kernel
theorem dX4_pass_27 : decode cX4_pass 27 = .ok (.iload 5, 2) := by decide +kernel
theorem dX4_pass_29 : decode cX4_pass 29 = .ok (.iload_n 3, 1) := by decide +kernel
theorem dX4_pass_30 : decode cX4_pass 30 = .ok (.if_icmp .ge 54, 3) := by decide +kernel
theorem dX4_pass_33 : decode cX4_pass 33 = .ok (.aload_n 0, 1) := by decide +kernel
theorem dX4_pass_34 : decode cX4_pass 34 = .ok (.dup, 1) := by decide +kernel
theorem dX4_pass_35 : decode cX4_pass 35 = .ok (.getfield 19, 3) := by decide +kernel
theorem dX4_pass_38 : decode cX4_pass 38 = .ok (.iconst 1, 1) := by decide +kernel
theorem dX4_pass_39 : decode cX4_pass 39 = .ok (.iadd, 1) := by decide +kernel
theorem dX4_pass_40 : decode cX4_pass 40 = .ok (.putfield 19, 3) := by decide +kernel
theorem dX4_pass_43 : decode cX4_pass 43 = .ok (.iconst 0, 1) := by decide +kernel
theorem dX4_pass_44 : decode cX4_pass 44 = .ok (.istore 6, 2) := by decide +kernel
theorem dX4_pass_46 : decode cX4_pass 46 = .ok (.iload 6, 2) := by decide +kernel
theorem dX4_pass_48 : decode cX4_pass 48 = .ok (.aload_n 0, 1) := by decide +kernel
theorem dX4_pass_49 : decode cX4_pass 49 = .ok (.getfield 15, 3) := by decide +kernel
theorem dX4_pass_52 : decode cX4_pass 52 = .ok (.if_icmp .ge 26, 3) := by decide +kernel
theorem dX4_pass_55 : decode cX4_pass 55 = .ok (.iload 4, 2) := by decide +kernel
theorem dX4_pass_57 : decode cX4_pass 57 = .ok (.aload_n 0, 1) := by decide +kernel
theorem dX4_pass_58 : decode cX4_pass 58 = .ok (.getfield 11, 3) := by decide +kernel
theorem dX4_pass_61 : decode cX4_pass 61 = .ok (.iload 6, 2) := by decide +kernel
theorem dX4_pass_63 : decode cX4_pass 63 = .ok (.aaload, 1) := by decide +kernel
theorem dX4_pass_64 : decode cX4_pass 64 = .ok (.iload_n 1, 1) := by decide +kernel
theorem dX4_pass_65 : decode cX4_pass 65 = .ok (.iload_n 2, 1) := by decide +kernel
theorem dX4_pass_66 : decode cX4_pass 66 = .ok (.invokevirtual 74, 3) := by decide +kernel
theorem dX4_pass_69 : decode cX4_pass 69 = .ok (.iadd, 1) := by decide +kernel
theorem dX4_pass_70 : decode cX4_pass 70 = .ok (.istore 4, 2) := by decide +kernel
theorem dX4_pass_72 : decode cX4_pass 72 = .ok (.iinc 6 1, 3) := by decide +kernel
theorem dX4_pass_75 : decode cX4_pass 75 = .ok (.goto (-29), 3) := by decide +kernel
theorem dX4_pass_78 : decode cX4_pass 78 = .ok (.iinc 5 1, 3) := by decide +kernel
theorem dX4_pass_81 : decode cX4_pass 81 = .ok (.goto (-54), 3) := by decide +kernel
theorem dX4_pass_84 : decode cX4_pass 84 = .ok (.iload 4, 2) := by decide +kernel
theorem dX4_pass_86 : decode cX4_pass 86 = .ok (.ireturn, 1) := by decide +kernel
theorem dX4_prune_0 : decode cX4_prune 0 = .ok (.aload_n 0, 1) := by decide +kernel
theorem dX4_prune_1 : decode cX4_prune 1 = .ok (.iload_n 1, 1) := by decide +kernel
theorem dX4_prune_2 : decode cX4_prune 2 = .ok (.invokevirtual 78, 3) := by decide +kernel
theorem dX4_prune_5 : decode cX4_prune 5 = .ok (.invokevirtual 82, 3) := by decide +kernel
theorem dX4_prune_8 : decode cX4_prune 8 = .ok (.ireturn, 1) := by decide +kernel
theorem dX4_spray_0 : decode cX4_spray 0 = .ok (.aload_n 0, 1) := by decide +kernel
theorem dX4_spray_1 : decode cX4_spray 1 = .ok (.iload_n 1, 1) := by decide +kernel
theorem dX4_spray_2 : decode cX4_spray 2 = .ok (.invokevirtual 78, 3) := by decide +kernel
theorem dX4_spray_5 : decode cX4_spray 5 = .ok (.astore_n 2, 1) := by decide +kernel
theorem dX4_spray_6 : decode cX4_spray 6 = .ok (.aload_n 2, 1) := by decide +kernel
theorem dX4_spray_7 : decode cX4_spray 7 = .ok (.getfield 86, 3) := by decide +kernel
theorem dX4_spray_10 : decode cX4_spray 10 = .ok (.istore_n 3, 1) := by decide +kernel
theorem dX4_spray_11 : decode cX4_spray 11 = .ok (.aload_n 2, 1) := by decide +kernel
theorem dX4_spray_12 : decode cX4_spray 12 = .ok (.iconst 0, 1) := by decide +kernel
theorem dX4_spray_13 : decode cX4_spray 13 = .ok (.putfield 86, 3) := by decide +kernel
theorem dX4_spray_16 : decode cX4_spray 16 = .ok (.aload_n 2, 1) := by decide +kernel
theorem dX4_spray_17 : decode cX4_spray 17 = .ok (.iconst 3, 1) := by decide +kernel
theorem dX4_spray_18 : decode cX4_spray 18 = .ok (.putfield 89, 3) := by decide +kernel
theorem dX4_spray_21 : decode cX4_spray 21 = .ok (.iload_n 3, 1) := by decide +kernel
theorem dX4_spray_22 : decode cX4_spray 22 = .ok (.ireturn, 1) := by decide +kernel
theorem dX4_pluck_0 : decode cX4_pluck 0 = .ok (.aload_n 0, 1) := by decide +kernel
theorem dX4_pluck_1 : decode cX4_pluck 1 = .ok (.iload_n 1, 1) := by decide +kernel
theorem dX4_pluck_2 : decode cX4_pluck 2 = .ok (.invokevirtual 78, 3) := by decide +kernel
theorem dX4_pluck_5 : decode cX4_pluck 5 = .ok (.astore 4, 2) := by decide +kernel
theorem dX4_pluck_7 : decode cX4_pluck 7 = .ok (.iload_n 2, 1) := by decide +kernel
theorem dX4_pluck_8 : decode cX4_pluck 8 = .ok (.iconst 1, 1) := by decide +kernel
theorem dX4_pluck_9 : decode cX4_pluck 9 = .ok (.iconst 3, 1) := by decide +kernel
theorem dX4_pluck_10 : decode cX4_pluck 10 = .ok (.invokestatic 60, 3) := by decide +kernel
theorem dX4_pluck_13 : decode cX4_pluck 13 = .ok (.iload_n 3, 1) := by decide +kernel
theorem dX4_pluck_14 : decode cX4_pluck 14 = .ok (.iconst 1, 1) := by decide +kernel
theorem dX4_pluck_15 : decode cX4_pluck 15 = .ok (.bipush 9, 2) := by decide +kernel
theorem dX4_pluck_17 : decode cX4_pluck 17 = .ok (.invokestatic 60, 3) := by decide +kernel
theorem dX4_pluck_20 : decode cX4_pluck 20 = .ok (.bipush 8, 2) := by decide +kernel
theorem dX4_pluck_22 : decode cX4_pluck 22 = .ok (.iload_n 3, 1) := by decide +kernel
theorem dX4_pluck_23 : decode cX4_pluck 23 = .ok (.imul, 1) := by decide +kernel
theorem dX4_pluck_24 : decode cX4_pluck 24 = .ok (.istore 5, 2) := by decide +kernel
theorem dX4_pluck_26 : decode cX4_pluck 26 = .ok (.iload_n 2, 1) := by decide +kernel
theorem dX4_pluck_27 : decode cX4_pluck 27 = .ok (.iconst 3, 1) := by decide +kernel
theorem dX4_pluck_28 : decode cX4_pluck 28 = .ok (.if_icmp .ge 7, 3) := by decide +kernel
theorem dX4_pluck_31 : decode cX4_pluck 31 = .ok (.iconst 0, 1) := by decide +kernel
theorem dX4_pluck_32 : decode cX4_pluck 32 = .ok (.goto 13, 3) := by decide +kernel
theorem dX4_pluck_35 : decode cX4_pluck 35 = .ok (.iload 5, 2) := by decide +kernel
theorem dX4_pluck_37 : decode cX4_pluck 37 = .ok (.aload 4, 2) := by decide +kernel
theorem dX4_pluck_39 : decode cX4_pluck 39 = .ok (.getfield 92, 3) := by decide +kernel
theorem dX4_pluck_42 : decode cX4_pluck 42 = .ok (.invokestatic 95, 3) := by decide +kernel
theorem dX4_pluck_45 : decode cX4_pluck 45 = .ok (.istore 6, 2) := by decide +kernel
theorem dX4_pluck_47 : decode cX4_pluck 47 = .ok (.iload_n 2, 1) := by decide +kernel
theorem dX4_pluck_48 : decode cX4_pluck 48 = .ok (.iconst 2, 1) := by decide +kernel
theorem dX4_pluck_49 : decode cX4_pluck 49 = .ok (.if_icmp .ge 7, 3) := by decide +kernel
theorem dX4_pluck_52 : decode cX4_pluck 52 = .ok (.iconst 0, 1) := by decide +kernel
theorem dX4_pluck_53 : decode cX4_pluck 53 = .ok (.goto 18, 3) := by decide +kernel
theorem dX4_pluck_56 : decode cX4_pluck 56 = .ok (.iload 5, 2) := by decide +kernel
theorem dX4_pluck_58 : decode cX4_pluck 58 = .ok (.iload 6, 2) := by decide +kernel
theorem dX4_pluck_60 : decode cX4_pluck 60 = .ok (.isub, 1) := by decide +kernel
theorem dX4_pluck_61 : decode cX4_pluck 61 = .ok (.aload 4, 2) := by decide +kernel
theorem dX4_pluck_63 : decode cX4_pluck 63 = .ok (.getfield 100, 3) := by decide +kernel
theorem dX4_pluck_66 : decode cX4_pluck 66 = .ok (.iconst 3, 1) := by decide +kernel
theorem dX4_pluck_67 : decode cX4_pluck 67 = .ok (.iaload, 1) := by decide +kernel
theorem dX4_pluck_68 : decode cX4_pluck 68 = .ok (.invokestatic 95, 3) := by decide +kernel
theorem dX4_pluck_71 : decode cX4_pluck 71 = .ok (.istore 7, 2) := by decide +kernel
theorem dX4_pluck_73 : decode cX4_pluck 73 = .ok (.iload 5, 2) := by decide +kernel
theorem dX4_pluck_75 : decode cX4_pluck 75 = .ok (.iload 6, 2) := by decide +kernel
theorem dX4_pluck_77 : decode cX4_pluck 77 = .ok (.isub, 1) := by decide +kernel
theorem dX4_pluck_78 : decode cX4_pluck 78 = .ok (.iload 7, 2) := by decide +kernel
theorem dX4_pluck_80 : decode cX4_pluck 80 = .ok (.isub, 1) := by decide +kernel
theorem dX4_pluck_81 : decode cX4_pluck 81 = .ok (.aload 4, 2) := by decide +kernel
theorem dX4_pluck_83 : decode cX4_pluck 83 = .ok (.getfield 100, 3) := by decide +kernel
theorem dX4_pluck_86 : decode cX4_pluck 86 = .ok (.iconst 2, 1) := by decide +kernel
theorem dX4_pluck_87 : decode cX4_pluck 87 = .ok (.iaload, 1) := by decide +kernel
theorem dX4_pluck_88 : decode cX4_pluck 88 = .ok (.invokestatic 95, 3) := by decide +kernel
theorem dX4_pluck_91 : decode cX4_pluck 91 = .ok (.istore 8, 2) := by decide +kernel
theorem dX4_pluck_93 : decode cX4_pluck 93 = .ok (.iload 6, 2) := by decide +kernel
theorem dX4_pluck_95 : decode cX4_pluck 95 = .ok (.iload 7, 2) := by decide +kernel
theorem dX4_pluck_97 : decode cX4_pluck 97 = .ok (.iadd, 1) := by decide +kernel
theorem dX4_pluck_98 : decode cX4_pluck 98 = .ok (.iload 8, 2) := by decide +kernel
theorem dX4_pluck_100 : decode cX4_pluck 100 = .ok (.iadd, 1) := by decide +kernel
theorem dX4_pluck_101 : decode cX4_pluck 101 = .ok (.ifCond .le 7, 3) := by decide +kernel
theorem dX4_pluck_104 : decode cX4_pluck 104 = .ok (.iconst 1, 1) := by decide +kernel
theorem dX4_pluck_105 : decode cX4_pluck 105 = .ok (.goto 4, 3) := by decide +kernel
theorem dX4_pluck_108 : decode cX4_pluck 108 = .ok (.iconst 0, 1) := by decide +kernel
theorem dX4_pluck_109 : decode cX4_pluck 109 = .ok (.invokestatic 64, 3) := by decide +kernel
theorem dX4_pluck_112 : decode cX4_pluck 112 = .ok (.aload_n 0, 1) := by decide +kernel
theorem dX4_pluck_113 : decode cX4_pluck 113 = .ok (.invokevirtual 103, 3) := by decide +kernel
theorem dX4_pluck_116 : decode cX4_pluck 116 = .ok (.astore 9, 2) := by decide +kernel
theorem dX4_pluck_118 : decode cX4_pluck 118 = .ok (.aload 4, 2) := by decide +kernel
theorem dX4_pluck_120 : decode cX4_pluck 120 = .ok (.dup, 1) := by decide +kernel
theorem dX4_pluck_121 : decode cX4_pluck 121 = .ok (.getfield 92, 3) := by decide +kernel
theorem dX4_pluck_124 : decode cX4_pluck 124 = .ok (.iload 6, 2) := by decide +kernel
theorem dX4_pluck_126 : decode cX4_pluck 126 = .ok (.isub, 1) := by decide +kernel
theorem dX4_pluck_127 : decode cX4_pluck 127 = .ok (.putfield 92, 3) := by decide +kernel
theorem dX4_pluck_130 : decode cX4_pluck 130 = .ok (.aload 4, 2) := by decide +kernel
theorem dX4_pluck_132 : decode cX4_pluck 132 = .ok (.getfield 100, 3) := by decide +kernel
theorem dX4_pluck_135 : decode cX4_pluck 135 = .ok (.iconst 3, 1) := by decide +kernel
theorem dX4_pluck_136 : decode cX4_pluck 136 = .ok (.dup2, 1) := by decide +kernel
theorem dX4_pluck_137 : decode cX4_pluck 137 = .ok (.iaload, 1) := by decide +kernel
theorem dX4_pluck_138 : decode cX4_pluck 138 = .ok (.iload 7, 2) := by decide +kernel
theorem dX4_pluck_140 : decode cX4_pluck 140 = .ok (.isub, 1) := by decide +kernel
theorem dX4_pluck_141 : decode cX4_pluck 141 = .ok (.iastore, 1) := by decide +kernel
theorem dX4_pluck_142 : decode cX4_pluck 142 = .ok (.aload 4, 2) := by decide +kernel
theorem dX4_pluck_144 : decode cX4_pluck 144 = .ok (.getfield 100, 3) := by decide +kernel
theorem dX4_pluck_147 : decode cX4_pluck 147 = .ok (.iconst 2, 1) := by decide +kernel
theorem dX4_pluck_148 : decode cX4_pluck 148 = .ok (.dup2, 1) := by decide +kernel
theorem dX4_pluck_149 : decode cX4_pluck 149 = .ok (.iaload, 1) := by decide +kernel
theorem dX4_pluck_150 : decode cX4_pluck 150 = .ok (.iload 8, 2) := by decide +kernel
theorem dX4_pluck_152 : decode cX4_pluck 152 = .ok (.isub, 1) := by decide +kernel
theorem dX4_pluck_153 : decode cX4_pluck 153 = .ok (.iastore, 1) := by decide +kernel
theorem dX4_pluck_154 : decode cX4_pluck 154 = .ok (.aload 9, 2) := by decide +kernel
theorem dX4_pluck_156 : decode cX4_pluck 156 = .ok (.iconst 0, 1) := by decide +kernel
theorem dX4_pluck_157 : decode cX4_pluck 157 = .ok (.putfield 107, 3) := by decide +kernel
theorem dX4_pluck_160 : decode cX4_pluck 160 = .ok (.aload 9, 2) := by decide +kernel
theorem dX4_pluck_162 : decode cX4_pluck 162 = .ok (.iconst 3, 1) := by decide +kernel
theorem dX4_pluck_163 : decode cX4_pluck 163 = .ok (.iload 8, 2) := by decide +kernel
theorem dX4_pluck_165 : decode cX4_pluck 165 = .ok (.imul, 1) := by decide +kernel
theorem dX4_pluck_166 : decode cX4_pluck 166 = .ok (.putfield 110, 3) := by decide +kernel
theorem dX4_pluck_169 : decode cX4_pluck 169 = .ok (.aload 9, 2) := by decide +kernel
theorem dX4_pluck_171 : decode cX4_pluck 171 = .ok (.iconst 5, 1) := by decide +kernel
theorem dX4_pluck_172 : decode cX4_pluck 172 = .ok (.iload 6, 2) := by decide +kernel
theorem dX4_pluck_174 : decode cX4_pluck 174 = .ok (.imul, 1) := by decide +kernel
theorem dX4_pluck_175 : decode cX4_pluck 175 = .ok (.iconst 4, 1) := by decide +kernel
theorem dX4_pluck_176 : decode cX4_pluck 176 = .ok (.iload 7, 2) := by decide +kernel
theorem dX4_pluck_178 : decode cX4_pluck 178 = .ok (.imul, 1) := by decide +kernel
theorem dX4_pluck_179 : decode cX4_pluck 179 = .ok (.iadd, 1) := by decide +kernel
theorem dX4_pluck_180 : decode cX4_pluck 180 = .ok (.aload 9, 2) := by decide +kernel
theorem dX4_pluck_182 : decode cX4_pluck 182 = .ok (.getfield 110, 3) := by decide +kernel
theorem dX4_pluck_185 : decode cX4_pluck 185 = .ok (.iadd, 1) := by decide +kernel
theorem dX4_pluck_186 : decode cX4_pluck 186 = .ok (.putfield 113, 3) := by decide +kernel
theorem dX4_pluck_189 : decode cX4_pluck 189 = .ok (.aload 9, 2) := by decide +kernel
theorem dX4_pluck_191 : decode cX4_pluck 191 = .ok (.getfield 116, 3) := by decide +kernel
theorem dX4_pluck_194 : decode cX4_pluck 194 = .ok (.iload_n 1, 1) := by decide +kernel
theorem dX4_pluck_195 : decode cX4_pluck 195 = .ok (.aload 9, 2) := by decide +kernel
theorem dX4_pluck_197 : decode cX4_pluck 197 = .ok (.getfield 113, 3) := by decide +kernel
theorem dX4_pluck_200 : decode cX4_pluck 200 = .ok (.iastore, 1) := by decide +kernel
theorem dX4_pluck_201 : decode cX4_pluck 201 = .ok (.aload 9, 2) := by decide +kernel
theorem dX4_pluck_203 : decode cX4_pluck 203 = .ok (.iconst 3, 1) := by decide +kernel
theorem dX4_pluck_204 : decode cX4_pluck 204 = .ok (.aload 9, 2) := by decide +kernel
theorem dX4_pluck_206 : decode cX4_pluck 206 = .ok (.getfield 113, 3) := by decide +kernel
theorem dX4_pluck_209 : decode cX4_pluck 209 = .ok (.imul, 1) := by decide +kernel
theorem dX4_pluck_210 : decode cX4_pluck 210 = .ok (.putfield 119, 3) := by decide +kernel
theorem dX4_pluck_213 : decode cX4_pluck 213 = .ok (.aload 9, 2) := by decide +kernel
theorem dX4_pluck_215 : decode cX4_pluck 215 = .ok (.aload 4, 2) := by decide +kernel
theorem dX4_pluck_217 : decode cX4_pluck 217 = .ok (.getfield 89, 3) := by decide +kernel
theorem dX4_pluck_220 : decode cX4_pluck 220 = .ok (.ifCond .le 7, 3) := by decide +kernel
theorem dX4_pluck_223 : decode cX4_pluck 223 = .ok (.iconst 1, 1) := by decide +kernel
theorem dX4_pluck_224 : decode cX4_pluck 224 = .ok (.goto 4, 3) := by decide +kernel
theorem dX4_pluck_227 : decode cX4_pluck 227 = .ok (.iconst 0, 1) := by decide +kernel
theorem dX4_pluck_228 : decode cX4_pluck 228 = .ok (.putfield 122, 3) := by decide +kernel
theorem dX4_pluck_231 : decode cX4_pluck 231 = .ok (.aload_n 0, 1) := by decide +kernel
theorem dX4_pluck_232 : decode cX4_pluck 232 = .ok (.dup, 1) := by decide +kernel
theorem dX4_pluck_233 : decode cX4_pluck 233 = .ok (.getfield 46, 3) := by decide +kernel
theorem dX4_pluck_236 : decode cX4_pluck 236 = .ok (.iconst 2, 1) := by decide +kernel
theorem dX4_pluck_237 : decode cX4_pluck 237 = .ok (.iload_n 3, 1) := by decide +kernel
theorem dX4_pluck_238 : decode cX4_pluck 238 = .ok (.imul, 1) := by decide +kernel
theorem dX4_pluck_239 : decode cX4_pluck 239 = .ok (.isub, 1) := by decide +kernel
theorem dX4_pluck_240 : decode cX4_pluck 240 = .ok (.putfield 46, 3) := by decide +kernel
theorem dX4_pluck_243 : decode cX4_pluck 243 = .ok (.aload_n 0, 1) := by decide +kernel
theorem dX4_pluck_244 : decode cX4_pluck 244 = .ok (.dup, 1) := by decide +kernel
theorem dX4_pluck_245 : decode cX4_pluck 245 = .ok (.getfield 55, 3) := by decide +kernel
theorem dX4_pluck_248 : decode cX4_pluck 248 = .ok (.aload 9, 2) := by decide +kernel
theorem dX4_pluck_250 : decode cX4_pluck 250 = .ok (.getfield 113, 3) := by decide +kernel
theorem dX4_pluck_253 : decode cX4_pluck 253 = .ok (.iadd, 1) := by decide +kernel
theorem dX4_pluck_254 : decode cX4_pluck 254 = .ok (.putfield 55, 3) := by decide +kernel
theorem dX4_pluck_257 : decode cX4_pluck 257 = .ok (.aload_n 0, 1) := by decide +kernel
theorem dX4_pluck_258 : decode cX4_pluck 258 = .ok (.getfield 28, 3) := by decide +kernel
theorem dX4_pluck_261 : decode cX4_pluck 261 = .ok (.iconst 1, 1) := by decide +kernel
theorem dX4_pluck_262 : decode cX4_pluck 262 = .ok (.isub, 1) := by decide +kernel
theorem dX4_pluck_263 : decode cX4_pluck 263 = .ok (.ireturn, 1) := by decide +kernel
theorem dX4_join_0 : decode cX4_join 0 = .ok (.aload_n 0, 1) := by decide +kernel
theorem dX4_join_1 : decode cX4_join 1 = .ok (.iload_n 1, 1) := by decide +kernel
theorem dX4_join_2 : decode cX4_join 2 = .ok (.invokevirtual 126, 3) := by decide +kernel
theorem dX4_join_5 : decode cX4_join 5 = .ok (.astore_n 3, 1) := by decide +kernel
theorem dX4_join_6 : decode cX4_join 6 = .ok (.aload_n 0, 1) := by decide +kernel
theorem dX4_join_7 : decode cX4_join 7 = .ok (.iload_n 2, 1) := by decide +kernel
theorem dX4_join_8 : decode cX4_join 8 = .ok (.invokevirtual 126, 3) := by decide +kernel
theorem dX4_join_11 : decode cX4_join 11 = .ok (.astore 4, 2) := by decide +kernel
theorem dX4_join_13 : decode cX4_join 13 = .ok (.iload_n 1, 1) := by decide +kernel
theorem dX4_join_14 : decode cX4_join 14 = .ok (.iload_n 2, 1) := by decide +kernel
theorem dX4_join_15 : decode cX4_join 15 = .ok (.invokestatic 130, 3) := by decide +kernel
theorem dX4_join_18 : decode cX4_join 18 = .ok (.aload_n 3, 1) := by decide +kernel
theorem dX4_join_19 : decode cX4_join 19 = .ok (.getfield 107, 3) := by decide +kernel
theorem dX4_join_22 : decode cX4_join 22 = .ok (.ifCond .ne 15, 3) := by decide +kernel
theorem dX4_join_25 : decode cX4_join 25 = .ok (.aload 4, 2) := by decide +kernel
theorem dX4_join_27 : decode cX4_join 27 = .ok (.getfield 107, 3) := by decide +kernel
theorem dX4_join_30 : decode cX4_join 30 = .ok (.ifCond .ne 7, 3) := by decide +kernel
theorem dX4_join_33 : decode cX4_join 33 = .ok (.iconst 1, 1) := by decide +kernel
theorem dX4_join_34 : decode cX4_join 34 = .ok (.goto 4, 3) := by decide +kernel
theorem dX4_join_37 : decode cX4_join 37 = .ok (.iconst 0, 1) := by decide +kernel
theorem dX4_join_38 : decode cX4_join 38 = .ok (.invokestatic 64, 3) := by decide +kernel
theorem dX4_join_41 : decode cX4_join 41 = .ok (.aload_n 3, 1) := by decide +kernel
theorem dX4_join_42 : decode cX4_join 42 = .ok (.getfield 134, 3) := by decide +kernel
theorem dX4_join_45 : decode cX4_join 45 = .ok (.aload 4, 2) := by decide +kernel
theorem dX4_join_47 : decode cX4_join 47 = .ok (.getfield 134, 3) := by decide +kernel
theorem dX4_join_50 : decode cX4_join 50 = .ok (.if_icmp .ne 19, 3) := by decide +kernel
theorem dX4_join_53 : decode cX4_join 53 = .ok (.aload_n 3, 1) := by decide +kernel
theorem dX4_join_54 : decode cX4_join 54 = .ok (.getfield 137, 3) := by decide +kernel
theorem dX4_join_57 : decode cX4_join 57 = .ok (.aload 4, 2) := by decide +kernel
theorem dX4_join_59 : decode cX4_join 59 = .ok (.getfield 137, 3) := by decide +kernel
theorem dX4_join_62 : decode cX4_join 62 = .ok (.if_icmp .ne 7, 3) := by decide +kernel
theorem dX4_join_65 : decode cX4_join 65 = .ok (.iconst 1, 1) := by decide +kernel
theorem dX4_join_66 : decode cX4_join 66 = .ok (.goto 4, 3) := by decide +kernel
theorem dX4_join_69 : decode cX4_join 69 = .ok (.iconst 0, 1) := by decide +kernel
theorem dX4_join_70 : decode cX4_join 70 = .ok (.invokestatic 64, 3) := by decide +kernel
theorem dX4_join_73 : decode cX4_join 73 = .ok (.iconst 0, 1) := by decide +kernel
theorem dX4_join_74 : decode cX4_join 74 = .ok (.istore 5, 2) := by decide +kernel
theorem dX4_join_76 : decode cX4_join 76 = .ok (.iload 5, 2) := by decide +kernel
theorem dX4_join_78 : decode cX4_join 78 = .ok (.aload_n 3, 1) := by decide +kernel
theorem dX4_join_79 : decode cX4_join 79 = .ok (.getfield 116, 3) := by decide +kernel
theorem dX4_join_82 : decode cX4_join 82 = .ok (.arraylength, 1) := by decide +kernel
theorem dX4_join_83 : decode cX4_join 83 = .ok (.if_icmp .ge 27, 3) := by decide +kernel
theorem dX4_join_86 : decode cX4_join 86 = .ok (.aload_n 3, 1) := by decide +kernel
theorem dX4_join_87 : decode cX4_join 87 = .ok (.getfield 116, 3) := by decide +kernel
theorem dX4_join_90 : decode cX4_join 90 = .ok (.iload 5, 2) := by decide +kernel
theorem dX4_join_92 : decode cX4_join 92 = .ok (.dup2, 1) := by decide +kernel
theorem dX4_join_93 : decode cX4_join 93 = .ok (.iaload, 1) := by decide +kernel
theorem dX4_join_94 : decode cX4_join 94 = .ok (.aload 4, 2) := by decide +kernel
theorem dX4_join_96 : decode cX4_join 96 = .ok (.getfield 116, 3) := by decide +kernel
theorem dX4_join_99 : decode cX4_join 99 = .ok (.iload 5, 2) := by decide +kernel
theorem dX4_join_101 : decode cX4_join 101 = .ok (.iaload, 1) := by decide +kernel
theorem dX4_join_102 : decode cX4_join 102 = .ok (.iadd, 1) := by decide +kernel
theorem dX4_join_103 : decode cX4_join 103 = .ok (.iastore, 1) := by decide +kernel
theorem dX4_join_104 : decode cX4_join 104 = .ok (.iinc 5 1, 3) := by decide +kernel
theorem dX4_join_107 : decode cX4_join 107 = .ok (.goto (-31), 3) := by decide +kernel
theorem dX4_join_110 : decode cX4_join 110 = .ok (.aload_n 3, 1) := by decide +kernel
theorem dX4_join_111 : decode cX4_join 111 = .ok (.dup, 1) := by decide +kernel
theorem dX4_join_112 : decode cX4_join 112 = .ok (.getfield 113, 3) := by decide +kernel
theorem dX4_join_115 : decode cX4_join 115 = .ok (.aload 4, 2) := by decide +kernel
theorem dX4_join_117 : decode cX4_join 117 = .ok (.getfield 113, 3) := by decide +kernel
theorem dX4_join_120 : decode cX4_join 120 = .ok (.iadd, 1) := by decide +kernel
theorem dX4_join_121 : decode cX4_join 121 = .ok (.putfield 113, 3) := by decide +kernel
theorem dX4_join_124 : decode cX4_join 124 = .ok (.aload_n 3, 1) := by decide +kernel
theorem dX4_join_125 : decode cX4_join 125 = .ok (.dup, 1) := by decide +kernel
theorem dX4_join_126 : decode cX4_join 126 = .ok (.getfield 110, 3) := by decide +kernel
theorem dX4_join_129 : decode cX4_join 129 = .ok (.aload 4, 2) := by decide +kernel
theorem dX4_join_131 : decode cX4_join 131 = .ok (.getfield 110, 3) := by decide +kernel
theorem dX4_join_134 : decode cX4_join 134 = .ok (.iadd, 1) := by decide +kernel
theorem dX4_join_135 : decode cX4_join 135 = .ok (.putfield 110, 3) := by decide +kernel
theorem dX4_join_138 : decode cX4_join 138 = .ok (.aload_n 3, 1) := by decide +kernel
theorem dX4_join_139 : decode cX4_join 139 = .ok (.dup, 1) := by decide +kernel
theorem dX4_join_140 : decode cX4_join 140 = .ok (.getfield 119, 3) := by decide +kernel
theorem dX4_join_143 : decode cX4_join 143 = .ok (.aload 4, 2) := by decide +kernel
theorem dX4_join_145 : decode cX4_join 145 = .ok (.getfield 119, 3) := by decide +kernel
theorem dX4_join_148 : decode cX4_join 148 = .ok (.iadd, 1) := by decide +kernel
theorem dX4_join_149 : decode cX4_join 149 = .ok (.putfield 119, 3) := by decide +kernel
theorem dX4_join_152 : decode cX4_join 152 = .ok (.aload_n 3, 1) := by decide +kernel
theorem dX4_join_153 : decode cX4_join 153 = .ok (.aload_n 3, 1) := by decide +kernel
theorem dX4_join_154 : decode cX4_join 154 = .ok (.getfield 122, 3) := by decide +kernel
theorem dX4_join_157 : decode cX4_join 157 = .ok (.ifCond .ne 11, 3) := by decide +kernel
theorem dX4_join_160 : decode cX4_join 160 = .ok (.aload 4, 2) := by decide +kernel
theorem dX4_join_162 : decode cX4_join 162 = .ok (.getfield 122, 3) := by decide +kernel
theorem dX4_join_165 : decode cX4_join 165 = .ok (.ifCond .eq 7, 3) := by decide +kernel
theorem dX4_join_168 : decode cX4_join 168 = .ok (.iconst 1, 1) := by decide +kernel
theorem dX4_join_169 : decode cX4_join 169 = .ok (.goto 4, 3) := by decide +kernel
theorem dX4_join_172 : decode cX4_join 172 = .ok (.iconst 0, 1) := by decide +kernel
theorem dX4_join_173 : decode cX4_join 173 = .ok (.putfield 122, 3) := by decide +kernel
theorem dX4_join_176 : decode cX4_join 176 = .ok (.aload 4, 2) := by decide +kernel
theorem dX4_join_178 : decode cX4_join 178 = .ok (.invokevirtual 140, 3) := by decide +kernel
theorem dX4_join_181 : decode cX4_join 181 = .ok (.aload_n 3, 1) := by decide +kernel
theorem dX4_join_182 : decode cX4_join 182 = .ok (.getfield 113, 3) := by decide +kernel
theorem dX4_join_185 : decode cX4_join 185 = .ok (.ireturn, 1) := by decide +kernel
theorem dX4_wither_0 : decode cX4_wither 0 = .ok (.aload_n 0, 1) := by decide +kernel
theorem dX4_wither_1 : decode cX4_wither 1 = .ok (.iload_n 1, 1) := by decide +kernel
theorem dX4_wither_2 : decode cX4_wither 2 = .ok (.invokevirtual 126, 3) := by decide +kernel
theorem dX4_wither_5 : decode cX4_wither 5 = .ok (.astore 4, 2) := by decide +kernel
theorem dX4_wither_7 : decode cX4_wither 7 = .ok (.iload_n 2, 1) := by decide +kernel
theorem dX4_wither_8 : decode cX4_wither 8 = .ok (.iconst 1, 1) := by decide +kernel
theorem dX4_wither_9 : decode cX4_wither 9 = .ok (.bipush 20, 2) := by decide +kernel
theorem dX4_wither_11 : decode cX4_wither 11 = .ok (.invokestatic 60, 3) := by decide +kernel
theorem dX4_wither_14 : decode cX4_wither 14 = .ok (.iload_n 3, 1) := by decide +kernel
theorem dX4_wither_15 : decode cX4_wither 15 = .ok (.iconst 1, 1) := by decide +kernel
theorem dX4_wither_16 : decode cX4_wither 16 = .ok (.iconst 3, 1) := by decide +kernel
theorem dX4_wither_17 : decode cX4_wither 17 = .ok (.invokestatic 60, 3) := by decide +kernel
theorem dX4_wither_20 : decode cX4_wither 20 = .ok (.aload 4, 2) := by decide +kernel
theorem dX4_wither_22 : decode cX4_wither 22 = .ok (.getfield 107, 3) := by decide +kernel
theorem dX4_wither_25 : decode cX4_wither 25 = .ok (.ifCond .ne 15, 3) := by decide +kernel
theorem dX4_wither_28 : decode cX4_wither 28 = .ok (.aload 4, 2) := by decide +kernel
theorem dX4_wither_30 : decode cX4_wither 30 = .ok (.getfield 137, 3) := by decide +kernel
theorem dX4_wither_33 : decode cX4_wither 33 = .ok (.ifCond .ne 7, 3) := by decide +kernel
theorem dX4_wither_36 : decode cX4_wither 36 = .ok (.iconst 1, 1) := by decide +kernel
theorem dX4_wither_37 : decode cX4_wither 37 = .ok (.goto 4, 3) := by decide +kernel
theorem dX4_wither_40 : decode cX4_wither 40 = .ok (.iconst 0, 1) := by decide +kernel
theorem dX4_wither_41 : decode cX4_wither 41 = .ok (.invokestatic 64, 3) := by decide +kernel
theorem dX4_wither_44 : decode cX4_wither 44 = .ok (.iconst 0, 1) := by decide +kernel
theorem dX4_wither_45 : decode cX4_wither 45 = .ok (.istore 5, 2) := by decide +kernel
theorem dX4_wither_47 : decode cX4_wither 47 = .ok (.iload 5, 2) := by decide +kernel
theorem dX4_wither_49 : decode cX4_wither 49 = .ok (.iload_n 2, 1) := by decide +kernel
theorem dX4_wither_50 : decode cX4_wither 50 = .ok (.if_icmp .ge 52, 3) := by decide +kernel
theorem dX4_wither_53 : decode cX4_wither 53 = .ok (.aload 4, 2) := by decide +kernel
theorem dX4_wither_55 : decode cX4_wither 55 = .ok (.aload 4, 2) := by decide +kernel
theorem dX4_wither_57 : decode cX4_wither 57 = .ok (.getfield 113, 3) := by decide +kernel
theorem dX4_wither_60 : decode cX4_wither 60 = .ok (.aload 4, 2) := by decide +kernel
theorem dX4_wither_62 : decode cX4_wither 62 = .ok (.getfield 119, 3) := by decide +kernel
theorem dX4_wither_65 : decode cX4_wither 65 = .ok (.aload 4, 2) := by decide +kernel
theorem dX4_wither_67 : decode cX4_wither 67 = .ok (.getfield 119, 3) := by decide +kernel
theorem dX4_wither_70 : decode cX4_wither 70 = .ok (.iload_n 3, 1) := by decide +kernel
theorem dX4_wither_71 : decode cX4_wither 71 = .ok (.imul, 1) := by decide +kernel
theorem dX4_wither_72 : decode cX4_wither 72 = .ok (.bipush 9, 2) := by decide +kernel
theorem dX4_wither_74 : decode cX4_wither 74 = .ok (.iadd, 1) := by decide +kernel
theorem dX4_wither_75 : decode cX4_wither 75 = .ok (.bipush 10, 2) := by decide +kernel
theorem dX4_wither_77 : decode cX4_wither 77 = .ok (.idiv, 1) := by decide +kernel
theorem dX4_wither_78 : decode cX4_wither 78 = .ok (.isub, 1) := by decide +kernel
theorem dX4_wither_79 : decode cX4_wither 79 = .ok (.invokestatic 143, 3) := by decide +kernel
theorem dX4_wither_82 : decode cX4_wither 82 = .ok (.putfield 119, 3) := by decide +kernel
theorem dX4_wither_85 : decode cX4_wither 85 = .ok (.aload 4, 2) := by decide +kernel
theorem dX4_wither_87 : decode cX4_wither 87 = .ok (.dup, 1) := by decide +kernel
theorem dX4_wither_88 : decode cX4_wither 88 = .ok (.getfield 134, 3) := by decide +kernel
theorem dX4_wither_91 : decode cX4_wither 91 = .ok (.iconst 1, 1) := by decide +kernel
theorem dX4_wither_92 : decode cX4_wither 92 = .ok (.iadd, 1) := by decide +kernel
theorem dX4_wither_93 : decode cX4_wither 93 = .ok (.putfield 134, 3) := by decide +kernel
theorem dX4_wither_96 : decode cX4_wither 96 = .ok (.iinc 5 1, 3) := by decide +kernel
theorem dX4_wither_99 : decode cX4_wither 99 = .ok (.goto (-52), 3) := by decide +kernel
theorem dX4_wither_102 : decode cX4_wither 102 = .ok (.aload 4, 2) := by decide +kernel
theorem dX4_wither_104 : decode cX4_wither 104 = .ok (.getfield 119, 3) := by decide +kernel
theorem dX4_wither_107 : decode cX4_wither 107 = .ok (.ireturn, 1) := by decide +kernel
theorem dX4_kill_0 : decode cX4_kill 0 = .ok (.aload_n 0, 1) := by decide +kernel
theorem dX4_kill_1 : decode cX4_kill 1 = .ok (.iload_n 1, 1) := by decide +kernel
theorem dX4_kill_2 : decode cX4_kill 2 = .ok (.invokevirtual 126, 3) := by decide +kernel
theorem dX4_kill_5 : decode cX4_kill 5 = .ok (.astore_n 2, 1) := by decide +kernel
theorem dX4_kill_6 : decode cX4_kill 6 = .ok (.aload_n 2, 1) := by decide +kernel
theorem dX4_kill_7 : decode cX4_kill 7 = .ok (.getfield 107, 3) := by decide +kernel
theorem dX4_kill_10 : decode cX4_kill 10 = .ok (.ifCond .ne 14, 3) := by decide +kernel
theorem dX4_kill_13 : decode cX4_kill 13 = .ok (.aload_n 2, 1) := by decide +kernel
theorem dX4_kill_14 : decode cX4_kill 14 = .ok (.getfield 137, 3) := by decide +kernel
theorem dX4_kill_17 : decode cX4_kill 17 = .ok (.ifCond .ne 7, 3) := by decide +kernel
theorem dX4_kill_20 : decode cX4_kill 20 = .ok (.iconst 1, 1) := by decide +kernel
theorem dX4_kill_21 : decode cX4_kill 21 = .ok (.goto 4, 3) := by decide +kernel
theorem dX4_kill_24 : decode cX4_kill 24 = .ok (.iconst 0, 1) := by decide +kernel
theorem dX4_kill_25 : decode cX4_kill 25 = .ok (.invokestatic 64, 3) := by decide +kernel
theorem dX4_kill_28 : decode cX4_kill 28 = .ok (.aload_n 2, 1) := by decide +kernel
theorem dX4_kill_29 : decode cX4_kill 29 = .ok (.dup, 1) := by decide +kernel
theorem dX4_kill_30 : decode cX4_kill 30 = .ok (.getfield 119, 3) := by decide +kernel
theorem dX4_kill_33 : decode cX4_kill 33 = .ok (.aload_n 2, 1) := by decide +kernel
theorem dX4_kill_34 : decode cX4_kill 34 = .ok (.getfield 119, 3) := by decide +kernel
theorem dX4_kill_37 : decode cX4_kill 37 = .ok (.iconst 5, 1) := by decide +kernel
theorem dX4_kill_38 : decode cX4_kill 38 = .ok (.idiv, 1) := by decide +kernel
theorem dX4_kill_39 : decode cX4_kill 39 = .ok (.isub, 1) := by decide +kernel
theorem dX4_kill_40 : decode cX4_kill 40 = .ok (.putfield 119, 3) := by decide +kernel
theorem dX4_kill_43 : decode cX4_kill 43 = .ok (.aload_n 2, 1) := by decide +kernel
theorem dX4_kill_44 : decode cX4_kill 44 = .ok (.iconst 1, 1) := by decide +kernel
theorem dX4_kill_45 : decode cX4_kill 45 = .ok (.putfield 137, 3) := by decide +kernel
theorem dX4_kill_48 : decode cX4_kill 48 = .ok (.aload_n 2, 1) := by decide +kernel
theorem dX4_kill_49 : decode cX4_kill 49 = .ok (.getfield 119, 3) := by decide +kernel
theorem dX4_kill_52 : decode cX4_kill 52 = .ok (.ireturn, 1) := by decide +kernel
theorem dX4_roll_0 : decode cX4_roll 0 = .ok (.aload_n 0, 1) := by decide +kernel
theorem dX4_roll_1 : decode cX4_roll 1 = .ok (.iload_n 1, 1) := by decide +kernel
theorem dX4_roll_2 : decode cX4_roll 2 = .ok (.invokevirtual 126, 3) := by decide +kernel
theorem dX4_roll_5 : decode cX4_roll 5 = .ok (.astore_n 3, 1) := by decide +kernel
theorem dX4_roll_6 : decode cX4_roll 6 = .ok (.iload_n 2, 1) := by decide +kernel
theorem dX4_roll_7 : decode cX4_roll 7 = .ok (.iconst 1, 1) := by decide +kernel
theorem dX4_roll_8 : decode cX4_roll 8 = .ok (.iconst 5, 1) := by decide +kernel
theorem dX4_roll_9 : decode cX4_roll 9 = .ok (.invokestatic 60, 3) := by decide +kernel
theorem dX4_roll_12 : decode cX4_roll 12 = .ok (.aload_n 3, 1) := by decide +kernel
theorem dX4_roll_13 : decode cX4_roll 13 = .ok (.getfield 107, 3) := by decide +kernel
theorem dX4_roll_16 : decode cX4_roll 16 = .ok (.ifCond .eq 11, 3) := by decide +kernel
theorem dX4_roll_19 : decode cX4_roll 19 = .ok (.aload_n 3, 1) := by decide +kernel
theorem dX4_roll_20 : decode cX4_roll 20 = .ok (.getfield 107, 3) := by decide +kernel
theorem dX4_roll_23 : decode cX4_roll 23 = .ok (.iconst 1, 1) := by decide +kernel
theorem dX4_roll_24 : decode cX4_roll 24 = .ok (.if_icmp .ne 7, 3) := by decide +kernel
theorem dX4_roll_27 : decode cX4_roll 27 = .ok (.iconst 1, 1) := by decide +kernel
theorem dX4_roll_28 : decode cX4_roll 28 = .ok (.goto 4, 3) := by decide +kernel
theorem dX4_roll_31 : decode cX4_roll 31 = .ok (.iconst 0, 1) := by decide +kernel
theorem dX4_roll_32 : decode cX4_roll 32 = .ok (.invokestatic 64, 3) := by decide +kernel
theorem dX4_roll_35 : decode cX4_roll 35 = .ok (.aload_n 3, 1) := by decide +kernel
theorem dX4_roll_36 : decode cX4_roll 36 = .ok (.getfield 119, 3) := by decide +kernel
theorem dX4_roll_39 : decode cX4_roll 39 = .ok (.iconst 2, 1) := by decide +kernel
theorem dX4_roll_40 : decode cX4_roll 40 = .ok (.aload_n 3, 1) := by decide +kernel
theorem dX4_roll_41 : decode cX4_roll 41 = .ok (.getfield 113, 3) := by decide +kernel
theorem dX4_roll_44 : decode cX4_roll 44 = .ok (.imul, 1) := by decide +kernel
theorem dX4_roll_45 : decode cX4_roll 45 = .ok (.if_icmp .gt 7, 3) := by decide +kernel
theorem dX4_roll_48 : decode cX4_roll 48 = .ok (.iconst 1, 1) := by decide +kernel
theorem dX4_roll_49 : decode cX4_roll 49 = .ok (.goto 4, 3) := by decide +kernel
theorem dX4_roll_52 : decode cX4_roll 52 = .ok (.iconst 0, 1) := by decide +kernel
theorem dX4_roll_53 : decode cX4_roll 53 = .ok (.invokestatic 64, 3) := by decide +kernel
theorem dX4_roll_56 : decode cX4_roll 56 = .ok (.aload_n 3, 1) := by decide +kernel
theorem dX4_roll_57 : decode cX4_roll 57 = .ok (.dup, 1) := by decide +kernel
theorem dX4_roll_58 : decode cX4_roll 58 = .ok (.getfield 146, 3) := by decide +kernel
theorem dX4_roll_61 : decode cX4_roll 61 = .ok (.iload_n 2, 1) := by decide +kernel
theorem dX4_roll_62 : decode cX4_roll 62 = .ok (.iadd, 1) := by decide +kernel
theorem dX4_roll_63 : decode cX4_roll 63 = .ok (.putfield 146, 3) := by decide +kernel
theorem dX4_roll_66 : decode cX4_roll 66 = .ok (.aload_n 3, 1) := by decide +kernel
theorem dX4_roll_67 : decode cX4_roll 67 = .ok (.iconst 1, 1) := by decide +kernel
theorem dX4_roll_68 : decode cX4_roll 68 = .ok (.putfield 107, 3) := by decide +kernel
theorem dX4_roll_71 : decode cX4_roll 71 = .ok (.aload_n 3, 1) := by decide +kernel
theorem dX4_roll_72 : decode cX4_roll 72 = .ok (.getfield 146, 3) := by decide +kernel
theorem dX4_roll_75 : decode cX4_roll 75 = .ok (.ireturn, 1) := by decide +kernel
theorem dX4_rest_0 : decode cX4_rest 0 = .ok (.aload_n 0, 1) := by decide +kernel
theorem dX4_rest_1 : decode cX4_rest 1 = .ok (.iload_n 1, 1) := by decide +kernel
theorem dX4_rest_2 : decode cX4_rest 2 = .ok (.invokevirtual 126, 3) := by decide +kernel
theorem dX4_rest_5 : decode cX4_rest 5 = .ok (.astore 4, 2) := by decide +kernel
theorem dX4_rest_7 : decode cX4_rest 7 = .ok (.iload_n 2, 1) := by decide +kernel
theorem dX4_rest_8 : decode cX4_rest 8 = .ok (.iconst 1, 1) := by decide +kernel
theorem dX4_rest_9 : decode cX4_rest 9 = .ok (.bipush 20, 2) := by decide +kernel
theorem dX4_rest_11 : decode cX4_rest 11 = .ok (.invokestatic 60, 3) := by decide +kernel
theorem dX4_rest_14 : decode cX4_rest 14 = .ok (.iload_n 3, 1) := by decide +kernel
theorem dX4_rest_15 : decode cX4_rest 15 = .ok (.iconst 1, 1) := by decide +kernel
theorem dX4_rest_16 : decode cX4_rest 16 = .ok (.iconst 4, 1) := by decide +kernel
theorem dX4_rest_17 : decode cX4_rest 17 = .ok (.invokestatic 60, 3) := by decide +kernel
theorem dX4_rest_20 : decode cX4_rest 20 = .ok (.aload 4, 2) := by decide +kernel
theorem dX4_rest_22 : decode cX4_rest 22 = .ok (.getfield 107, 3) := by decide +kernel
theorem dX4_rest_25 : decode cX4_rest 25 = .ok (.iconst 1, 1) := by decide +kernel
theorem dX4_rest_26 : decode cX4_rest 26 = .ok (.if_icmp .ne 15, 3) := by decide +kernel
theorem dX4_rest_29 : decode cX4_rest 29 = .ok (.aload 4, 2) := by decide +kernel
theorem dX4_rest_31 : decode cX4_rest 31 = .ok (.getfield 137, 3) := by decide +kernel
theorem dX4_rest_34 : decode cX4_rest 34 = .ok (.ifCond .ne 7, 3) := by decide +kernel
theorem dX4_rest_37 : decode cX4_rest 37 = .ok (.iconst 1, 1) := by decide +kernel
theorem dX4_rest_38 : decode cX4_rest 38 = .ok (.goto 4, 3) := by decide +kernel
theorem dX4_rest_41 : decode cX4_rest 41 = .ok (.iconst 0, 1) := by decide +kernel
theorem dX4_rest_42 : decode cX4_rest 42 = .ok (.invokestatic 64, 3) := by decide +kernel
theorem dX4_rest_45 : decode cX4_rest 45 = .ok (.aload 4, 2) := by decide +kernel
theorem dX4_rest_47 : decode cX4_rest 47 = .ok (.bipush 60, 2) := by decide +kernel
theorem dX4_rest_49 : decode cX4_rest 49 = .ok (.aload 4, 2) := by decide +kernel
theorem dX4_rest_51 : decode cX4_rest 51 = .ok (.getfield 149, 3) := by decide +kernel
theorem dX4_rest_54 : decode cX4_rest 54 = .ok (.iload_n 2, 1) := by decide +kernel
theorem dX4_rest_55 : decode cX4_rest 55 = .ok (.iload_n 3, 1) := by decide +kernel
theorem dX4_rest_56 : decode cX4_rest 56 = .ok (.imul, 1) := by decide +kernel
theorem dX4_rest_57 : decode cX4_rest 57 = .ok (.iadd, 1) := by decide +kernel
theorem dX4_rest_58 : decode cX4_rest 58 = .ok (.invokestatic 95, 3) := by decide +kernel
theorem dX4_rest_61 : decode cX4_rest 61 = .ok (.putfield 149, 3) := by decide +kernel
theorem dX4_rest_64 : decode cX4_rest 64 = .ok (.aload 4, 2) := by decide +kernel
theorem dX4_rest_66 : decode cX4_rest 66 = .ok (.getfield 149, 3) := by decide +kernel
theorem dX4_rest_69 : decode cX4_rest 69 = .ok (.ireturn, 1) := by decide +kernel
theorem dX4_fire_0 : decode cX4_fire 0 = .ok (.aload_n 0, 1) := by decide +kernel
theorem dX4_fire_1 : decode cX4_fire 1 = .ok (.iload_n 1, 1) := by decide +kernel
theorem dX4_fire_2 : decode cX4_fire 2 = .ok (.invokevirtual 126, 3) := by decide +kernel
theorem dX4_fire_5 : decode cX4_fire 5 = .ok (.astore 4, 2) := by decide +kernel
theorem dX4_fire_7 : decode cX4_fire 7 = .ok (.iload_n 2, 1) := by decide +kernel
theorem dX4_fire_8 : decode cX4_fire 8 = .ok (.iconst 1, 1) := by decide +kernel
theorem dX4_fire_9 : decode cX4_fire 9 = .ok (.iconst 5, 1) := by decide +kernel
theorem dX4_fire_10 : decode cX4_fire 10 = .ok (.invokestatic 60, 3) := by decide +kernel
theorem dX4_fire_13 : decode cX4_fire 13 = .ok (.iload_n 3, 1) := by decide +kernel
theorem dX4_fire_14 : decode cX4_fire 14 = .ok (.iconst 1, 1) := by decide +kernel
theorem dX4_fire_15 : decode cX4_fire 15 = .ok (.bipush 30, 2) := by decide +kernel
theorem dX4_fire_17 : decode cX4_fire 17 = .ok (.invokestatic 60, 3) := by decide +kernel
theorem dX4_fire_20 : decode cX4_fire 20 = .ok (.aload 4, 2) := by decide +kernel
theorem dX4_fire_22 : decode cX4_fire 22 = .ok (.getfield 107, 3) := by decide +kernel
theorem dX4_fire_25 : decode cX4_fire 25 = .ok (.iconst 1, 1) := by decide +kernel
theorem dX4_fire_26 : decode cX4_fire 26 = .ok (.if_icmp .ne 7, 3) := by decide +kernel
theorem dX4_fire_29 : decode cX4_fire 29 = .ok (.iconst 1, 1) := by decide +kernel
theorem dX4_fire_30 : decode cX4_fire 30 = .ok (.goto 4, 3) := by decide +kernel
theorem dX4_fire_33 : decode cX4_fire 33 = .ok (.iconst 0, 1) := by decide +kernel
theorem dX4_fire_34 : decode cX4_fire 34 = .ok (.invokestatic 64, 3) := by decide +kernel
theorem dX4_fire_37 : decode cX4_fire 37 = .ok (.iconst 0, 1) := by decide +kernel
theorem dX4_fire_38 : decode cX4_fire 38 = .ok (.istore 5, 2) := by decide +kernel
theorem dX4_fire_40 : decode cX4_fire 40 = .ok (.iload 5, 2) := by decide +kernel
theorem dX4_fire_42 : decode cX4_fire 42 = .ok (.iload_n 3, 1) := by decide +kernel
theorem dX4_fire_43 : decode cX4_fire 43 = .ok (.if_icmp .ge 15, 3) := by decide +kernel
theorem dX4_fire_46 : decode cX4_fire 46 = .ok (.aload 4, 2) := by decide +kernel
theorem dX4_fire_48 : decode cX4_fire 48 = .ok (.iload_n 2, 1) := by decide +kernel
theorem dX4_fire_49 : decode cX4_fire 49 = .ok (.invokevirtual 152, 3) := by decide +kernel
theorem dX4_fire_52 : decode cX4_fire 52 = .ok (.iinc 5 1, 3) := by decide +kernel
theorem dX4_fire_55 : decode cX4_fire 55 = .ok (.goto (-15), 3) := by decide +kernel
theorem dX4_fire_58 : decode cX4_fire 58 = .ok (.aload 4, 2) := by decide +kernel
theorem dX4_fire_60 : decode cX4_fire 60 = .ok (.invokevirtual 156, 3) := by decide +kernel
theorem dX4_fire_63 : decode cX4_fire 63 = .ok (.ifCond .eq 9, 3) := by decide +kernel
theorem dX4_fire_66 : decode cX4_fire 66 = .ok (.aload 4, 2) := by decide +kernel
theorem dX4_fire_68 : decode cX4_fire 68 = .ok (.iconst 2, 1) := by decide +kernel
theorem dX4_fire_69 : decode cX4_fire 69 = .ok (.putfield 107, 3) := by decide +kernel
theorem dX4_fire_72 : decode cX4_fire 72 = .ok (.aload 4, 2) := by decide +kernel
theorem dX4_fire_74 : decode cX4_fire 74 = .ok (.getfield 119, 3) := by decide +kernel
theorem dX4_fire_77 : decode cX4_fire 77 = .ok (.ireturn, 1) := by decide +kernel
theorem dX4_sort_0 : decode cX4_sort 0 = .ok (.aload_n 0, 1) := by decide +kernel
theorem dX4_sort_1 : decode cX4_sort 1 = .ok (.iload_n 1, 1) := by decide +kernel
theorem dX4_sort_2 : decode cX4_sort 2 = .ok (.invokevirtual 126, 3) := by decide +kernel
theorem dX4_sort_5 : decode cX4_sort 5 = .ok (.astore_n 2, 1) := by decide +kernel
theorem dX4_sort_6 : decode cX4_sort 6 = .ok (.aload_n 2, 1) := by decide +kernel
theorem dX4_sort_7 : decode cX4_sort 7 = .ok (.invokevirtual 160, 3) := by decide +kernel
theorem dX4_sort_10 : decode cX4_sort 10 = .ok (.ifCond .eq 22, 3) := by decide +kernel
theorem dX4_sort_13 : decode cX4_sort 13 = .ok (.aload_n 2, 1) := by decide +kernel
theorem dX4_sort_14 : decode cX4_sort 14 = .ok (.getfield 163, 3) := by decide +kernel
theorem dX4_sort_17 : decode cX4_sort 17 = .ok (.iconst (-1), 1) := by decide +kernel
theorem dX4_sort_18 : decode cX4_sort 18 = .ok (.if_icmp .ne 14, 3) := by decide +kernel
theorem dX4_sort_21 : decode cX4_sort 21 = .ok (.aload_n 2, 1) := by decide +kernel
theorem dX4_sort_22 : decode cX4_sort 22 = .ok (.getfield 166, 3) := by decide +kernel
theorem dX4_sort_25 : decode cX4_sort 25 = .ok (.ifCond .ne 7, 3) := by decide +kernel
theorem dX4_sort_28 : decode cX4_sort 28 = .ok (.iconst 1, 1) := by decide +kernel
theorem dX4_sort_29 : decode cX4_sort 29 = .ok (.goto 4, 3) := by decide +kernel
theorem dX4_sort_32 : decode cX4_sort 32 = .ok (.iconst 0, 1) := by decide +kernel
theorem dX4_sort_33 : decode cX4_sort 33 = .ok (.invokestatic 64, 3) := by decide +kernel
theorem dX4_sort_36 : decode cX4_sort 36 = .ok (.iconst 0, 1) := by decide +kernel
theorem dX4_sort_37 : decode cX4_sort 37 = .ok (.istore_n 3, 1) := by decide +kernel
theorem dX4_sort_38 : decode cX4_sort 38 = .ok (.iconst 0, 1) := by decide +kernel
theorem dX4_sort_39 : decode cX4_sort 39 = .ok (.istore 4, 2) := by decide +kernel
theorem dX4_sort_41 : decode cX4_sort 41 = .ok (.iload 4, 2) := by decide +kernel
theorem dX4_sort_43 : decode cX4_sort 43 = .ok (.iconst 3, 1) := by decide +kernel
theorem dX4_sort_44 : decode cX4_sort 44 = .ok (.if_icmp .ge 21, 3) := by decide +kernel
theorem dX4_sort_47 : decode cX4_sort 47 = .ok (.aload_n 2, 1) := by decide +kernel
theorem dX4_sort_48 : decode cX4_sort 48 = .ok (.iload 4, 2) := by decide +kernel
theorem dX4_sort_50 : decode cX4_sort 50 = .ok (.invokevirtual 169, 3) := by decide +kernel
theorem dX4_sort_53 : decode cX4_sort 53 = .ok (.ifCond .le 6, 3) := by decide +kernel
theorem dX4_sort_56 : decode cX4_sort 56 = .ok (.iinc 3 1, 3) := by decide +kernel
theorem dX4_sort_59 : decode cX4_sort 59 = .ok (.iinc 4 1, 3) := by decide +kernel
theorem dX4_sort_62 : decode cX4_sort 62 = .ok (.goto (-21), 3) := by decide +kernel
theorem dX4_sort_65 : decode cX4_sort 65 = .ok (.aload_n 0, 1) := by decide +kernel
theorem dX4_sort_66 : decode cX4_sort 66 = .ok (.getfield 28, 3) := by decide +kernel
theorem dX4_sort_69 : decode cX4_sort 69 = .ok (.iload_n 3, 1) := by decide +kernel
theorem dX4_sort_70 : decode cX4_sort 70 = .ok (.iadd, 1) := by decide +kernel
theorem dX4_sort_71 : decode cX4_sort 71 = .ok (.bipush 16, 2) := by decide +kernel
theorem dX4_sort_73 : decode cX4_sort 73 = .ok (.if_icmp .gt 7, 3) := by decide +kernel
theorem dX4_sort_76 : decode cX4_sort 76 = .ok (.iconst 1, 1) := by decide +kernel
theorem dX4_sort_77 : decode cX4_sort 77 = .ok (.goto 4, 3) := by decide +kernel
theorem dX4_sort_80 : decode cX4_sort 80 = .ok (.iconst 0, 1) := by decide +kernel
theorem dX4_sort_81 : decode cX4_sort 81 = .ok (.invokestatic 64, 3) := by decide +kernel
theorem dX4_sort_84 : decode cX4_sort 84 = .ok (.iconst 0, 1) := by decide +kernel
theorem dX4_sort_85 : decode cX4_sort 85 = .ok (.istore 4, 2) := by decide +kernel
theorem dX4_sort_87 : decode cX4_sort 87 = .ok (.iload 4, 2) := by decide +kernel
theorem dX4_sort_89 : decode cX4_sort 89 = .ok (.iconst 3, 1) := by decide +kernel
theorem dX4_sort_90 : decode cX4_sort 90 = .ok (.if_icmp .ge 28, 3) := by decide +kernel
theorem dX4_sort_93 : decode cX4_sort 93 = .ok (.aload_n 2, 1) := by decide +kernel
theorem dX4_sort_94 : decode cX4_sort 94 = .ok (.iload 4, 2) := by decide +kernel
theorem dX4_sort_96 : decode cX4_sort 96 = .ok (.invokevirtual 169, 3) := by decide +kernel
theorem dX4_sort_99 : decode cX4_sort 99 = .ok (.ifCond .le 13, 3) := by decide +kernel
theorem dX4_sort_102 : decode cX4_sort 102 = .ok (.aload_n 0, 1) := by decide +kernel
theorem dX4_sort_103 : decode cX4_sort 103 = .ok (.invokevirtual 103, 3) := by decide +kernel
theorem dX4_sort_106 : decode cX4_sort 106 = .ok (.aload_n 2, 1) := by decide +kernel
theorem dX4_sort_107 : decode cX4_sort 107 = .ok (.iload 4, 2) := by decide +kernel
theorem dX4_sort_109 : decode cX4_sort 109 = .ok (.invokevirtual 173, 3) := by decide +kernel
theorem dX4_sort_112 : decode cX4_sort 112 = .ok (.iinc 4 1, 3) := by decide +kernel
theorem dX4_sort_115 : decode cX4_sort 115 = .ok (.goto (-28), 3) := by decide +kernel
theorem dX4_sort_118 : decode cX4_sort 118 = .ok (.aload_n 2, 1) := by decide +kernel
theorem dX4_sort_119 : decode cX4_sort 119 = .ok (.invokevirtual 140, 3) := by decide +kernel
theorem dX4_sort_122 : decode cX4_sort 122 = .ok (.iload_n 3, 1) := by decide +kernel
theorem dX4_sort_123 : decode cX4_sort 123 = .ok (.ireturn, 1) := by decide +kernel
theorem dX4_mix_0 : decode cX4_mix 0 = .ok (.aload_n 0, 1) := by decide +kernel
theorem dX4_mix_1 : decode cX4_mix 1 = .ok (.iload_n 1, 1) := by decide +kernel
theorem dX4_mix_2 : decode cX4_mix 2 = .ok (.invokevirtual 126, 3) := by decide +kernel
theorem dX4_mix_5 : decode cX4_mix 5 = .ok (.astore 5, 2) := by decide +kernel
theorem dX4_mix_7 : decode cX4_mix 7 = .ok (.aload_n 0, 1) := by decide +kernel
theorem dX4_mix_8 : decode cX4_mix 8 = .ok (.iload_n 3, 1) := by decide +kernel
theorem dX4_mix_9 : decode cX4_mix 9 = .ok (.invokevirtual 126, 3) := by decide +kernel
theorem dX4_mix_12 : decode cX4_mix 12 = .ok (.astore 6, 2) := by decide +kernel
theorem dX4_mix_14 : decode cX4_mix 14 = .ok (.iload_n 1, 1) := by decide +kernel
theorem dX4_mix_15 : decode cX4_mix 15 = .ok (.iload_n 3, 1) := by decide +kernel
theorem dX4_mix_16 : decode cX4_mix 16 = .ok (.invokestatic 130, 3) := by decide +kernel
theorem dX4_mix_19 : decode cX4_mix 19 = .ok (.aload 5, 2) := by decide +kernel
theorem dX4_mix_21 : decode cX4_mix 21 = .ok (.invokevirtual 160, 3) := by decide +kernel
theorem dX4_mix_24 : decode cX4_mix 24 = .ok (.ifCond .eq 21, 3) := by decide +kernel
theorem dX4_mix_27 : decode cX4_mix 27 = .ok (.iload_n 2, 1) := by decide +kernel
theorem dX4_mix_28 : decode cX4_mix 28 = .ok (.iconst 1, 1) := by decide +kernel
theorem dX4_mix_29 : decode cX4_mix 29 = .ok (.if_icmp .lt 16, 3) := by decide +kernel
theorem dX4_mix_32 : decode cX4_mix 32 = .ok (.iload_n 2, 1) := by decide +kernel
theorem dX4_mix_33 : decode cX4_mix 33 = .ok (.aload 5, 2) := by decide +kernel
theorem dX4_mix_35 : decode cX4_mix 35 = .ok (.getfield 113, 3) := by decide +kernel
theorem dX4_mix_38 : decode cX4_mix 38 = .ok (.if_icmp .gt 7, 3) := by decide +kernel
theorem dX4_mix_41 : decode cX4_mix 41 = .ok (.iconst 1, 1) := by decide +kernel
theorem dX4_mix_42 : decode cX4_mix 42 = .ok (.goto 4, 3) := by decide +kernel
theorem dX4_mix_45 : decode cX4_mix 45 = .ok (.iconst 0, 1) := by decide +kernel
theorem dX4_mix_46 : decode cX4_mix 46 = .ok (.invokestatic 64, 3) := by decide +kernel
theorem dX4_mix_49 : decode cX4_mix 49 = .ok (.aload 6, 2) := by decide +kernel
theorem dX4_mix_51 : decode cX4_mix 51 = .ok (.invokevirtual 160, 3) := by decide +kernel
theorem dX4_mix_54 : decode cX4_mix 54 = .ok (.ifCond .eq 23, 3) := by decide +kernel
theorem dX4_mix_57 : decode cX4_mix 57 = .ok (.iload 4, 2) := by decide +kernel
theorem dX4_mix_59 : decode cX4_mix 59 = .ok (.iconst 1, 1) := by decide +kernel
theorem dX4_mix_60 : decode cX4_mix 60 = .ok (.if_icmp .lt 17, 3) := by decide +kernel
theorem dX4_mix_63 : decode cX4_mix 63 = .ok (.iload 4, 2) := by decide +kernel
theorem dX4_mix_65 : decode cX4_mix 65 = .ok (.aload 6, 2) := by decide +kernel
theorem dX4_mix_67 : decode cX4_mix 67 = .ok (.getfield 113, 3) := by decide +kernel
theorem dX4_mix_70 : decode cX4_mix 70 = .ok (.if_icmp .gt 7, 3) := by decide +kernel
theorem dX4_mix_73 : decode cX4_mix 73 = .ok (.iconst 1, 1) := by decide +kernel
theorem dX4_mix_74 : decode cX4_mix 74 = .ok (.goto 4, 3) := by decide +kernel
theorem dX4_mix_77 : decode cX4_mix 77 = .ok (.iconst 0, 1) := by decide +kernel
theorem dX4_mix_78 : decode cX4_mix 78 = .ok (.invokestatic 64, 3) := by decide +kernel
theorem dX4_mix_81 : decode cX4_mix 81 = .ok (.aload_n 0, 1) := by decide +kernel
theorem dX4_mix_82 : decode cX4_mix 82 = .ok (.invokevirtual 103, 3) := by decide +kernel
theorem dX4_mix_85 : decode cX4_mix 85 = .ok (.astore 7, 2) := by decide +kernel
theorem dX4_mix_87 : decode cX4_mix 87 = .ok (.aload 7, 2) := by decide +kernel
theorem dX4_mix_89 : decode cX4_mix 89 = .ok (.iconst 2, 1) := by decide +kernel
theorem dX4_mix_90 : decode cX4_mix 90 = .ok (.putfield 107, 3) := by decide +kernel
theorem dX4_mix_93 : decode cX4_mix 93 = .ok (.aload 7, 2) := by decide +kernel
theorem dX4_mix_95 : decode cX4_mix 95 = .ok (.iconst 1, 1) := by decide +kernel
theorem dX4_mix_96 : decode cX4_mix 96 = .ok (.putfield 166, 3) := by decide +kernel
theorem dX4_mix_99 : decode cX4_mix 99 = .ok (.aload 7, 2) := by decide +kernel
theorem dX4_mix_101 : decode cX4_mix 101 = .ok (.aload 5, 2) := by decide +kernel
theorem dX4_mix_103 : decode cX4_mix 103 = .ok (.getfield 122, 3) := by decide +kernel
theorem dX4_mix_106 : decode cX4_mix 106 = .ok (.ifCond .ne 11, 3) := by decide +kernel
theorem dX4_mix_109 : decode cX4_mix 109 = .ok (.aload 6, 2) := by decide +kernel
theorem dX4_mix_111 : decode cX4_mix 111 = .ok (.getfield 122, 3) := by decide +kernel
theorem dX4_mix_114 : decode cX4_mix 114 = .ok (.ifCond .eq 7, 3) := by decide +kernel
theorem dX4_mix_117 : decode cX4_mix 117 = .ok (.iconst 1, 1) := by decide +kernel
theorem dX4_mix_118 : decode cX4_mix 118 = .ok (.goto 4, 3) := by decide +kernel
theorem dX4_mix_121 : decode cX4_mix 121 = .ok (.iconst 0, 1) := by decide +kernel
theorem dX4_mix_122 : decode cX4_mix 122 = .ok (.putfield 122, 3) := by decide +kernel
theorem dX4_mix_125 : decode cX4_mix 125 = .ok (.iload_n 2, 1) := by decide +kernel
theorem dX4_mix_126 : decode cX4_mix 126 = .ok (.iload 4, 2) := by decide +kernel
theorem dX4_mix_128 : decode cX4_mix 128 = .ok (.iadd, 1) := by decide +kernel
theorem dX4_mix_129 : decode cX4_mix 129 = .ok (.istore 8, 2) := by decide +kernel
theorem dX4_mix_131 : decode cX4_mix 131 = .ok (.iconst 0, 1) := by decide +kernel
theorem dX4_mix_132 : decode cX4_mix 132 = .ok (.istore 9, 2) := by decide +kernel
theorem dX4_mix_134 : decode cX4_mix 134 = .ok (.iload 9, 2) := by decide +kernel
theorem dX4_mix_136 : decode cX4_mix 136 = .ok (.iconst 3, 1) := by decide +kernel
theorem dX4_mix_137 : decode cX4_mix 137 = .ok (.if_icmp .ge 40, 3) := by decide +kernel
theorem dX4_mix_140 : decode cX4_mix 140 = .ok (.aload 7, 2) := by decide +kernel
theorem dX4_mix_142 : decode cX4_mix 142 = .ok (.getfield 177, 3) := by decide +kernel
theorem dX4_mix_145 : decode cX4_mix 145 = .ok (.iload 9, 2) := by decide +kernel
theorem dX4_mix_147 : decode cX4_mix 147 = .ok (.aload 5, 2) := by decide +kernel
theorem dX4_mix_149 : decode cX4_mix 149 = .ok (.iload 9, 2) := by decide +kernel
theorem dX4_mix_151 : decode cX4_mix 151 = .ok (.invokevirtual 180, 3) := by decide +kernel
theorem dX4_mix_154 : decode cX4_mix 154 = .ok (.iload_n 2, 1) := by decide +kernel
theorem dX4_mix_155 : decode cX4_mix 155 = .ok (.imul, 1) := by decide +kernel
theorem dX4_mix_156 : decode cX4_mix 156 = .ok (.aload 6, 2) := by decide +kernel
theorem dX4_mix_158 : decode cX4_mix 158 = .ok (.iload 9, 2) := by decide +kernel
theorem dX4_mix_160 : decode cX4_mix 160 = .ok (.invokevirtual 180, 3) := by decide +kernel
theorem dX4_mix_163 : decode cX4_mix 163 = .ok (.iload 4, 2) := by decide +kernel
theorem dX4_mix_165 : decode cX4_mix 165 = .ok (.imul, 1) := by decide +kernel
theorem dX4_mix_166 : decode cX4_mix 166 = .ok (.iadd, 1) := by decide +kernel
theorem dX4_mix_167 : decode cX4_mix 167 = .ok (.iload 8, 2) := by decide +kernel
theorem dX4_mix_169 : decode cX4_mix 169 = .ok (.idiv, 1) := by decide +kernel
theorem dX4_mix_170 : decode cX4_mix 170 = .ok (.iastore, 1) := by decide +kernel
theorem dX4_mix_171 : decode cX4_mix 171 = .ok (.iinc 9 1, 3) := by decide +kernel
theorem dX4_mix_174 : decode cX4_mix 174 = .ok (.goto (-40), 3) := by decide +kernel
theorem dX4_mix_177 : decode cX4_mix 177 = .ok (.aload 7, 2) := by decide +kernel
theorem dX4_mix_179 : decode cX4_mix 179 = .ok (.aload 5, 2) := by decide +kernel
theorem dX4_mix_181 : decode cX4_mix 181 = .ok (.iload_n 2, 1) := by decide +kernel
theorem dX4_mix_182 : decode cX4_mix 182 = .ok (.invokevirtual 183, 3) := by decide +kernel
theorem dX4_mix_185 : decode cX4_mix 185 = .ok (.aload 7, 2) := by decide +kernel
theorem dX4_mix_187 : decode cX4_mix 187 = .ok (.aload 6, 2) := by decide +kernel
theorem dX4_mix_189 : decode cX4_mix 189 = .ok (.iload 4, 2) := by decide +kernel
theorem dX4_mix_191 : decode cX4_mix 191 = .ok (.invokevirtual 183, 3) := by decide +kernel
theorem dX4_mix_194 : decode cX4_mix 194 = .ok (.aload_n 0, 1) := by decide +kernel
theorem dX4_mix_195 : decode cX4_mix 195 = .ok (.getfield 28, 3) := by decide +kernel
theorem dX4_mix_198 : decode cX4_mix 198 = .ok (.iconst 1, 1) := by decide +kernel
theorem dX4_mix_199 : decode cX4_mix 199 = .ok (.isub, 1) := by decide +kernel
theorem dX4_mix_200 : decode cX4_mix 200 = .ok (.ireturn, 1) := by decide +kernel
theorem dX4_lean_0 : decode cX4_lean 0 = .ok (.aload_n 0, 1) := by decide +kernel
theorem dX4_lean_1 : decode cX4_lean 1 = .ok (.iload_n 1, 1) := by decide +kernel
theorem dX4_lean_2 : decode cX4_lean 2 = .ok (.invokevirtual 186, 3) := by decide +kernel
theorem dX4_lean_5 : decode cX4_lean 5 = .ok (.astore_n 3, 1) := by decide +kernel
theorem dX4_lean_6 : decode cX4_lean 6 = .ok (.iload_n 2, 1) := by decide +kernel
theorem dX4_lean_7 : decode cX4_lean 7 = .ok (.bipush (-2), 2) := by decide +kernel
theorem dX4_lean_9 : decode cX4_lean 9 = .ok (.iconst 2, 1) := by decide +kernel
theorem dX4_lean_10 : decode cX4_lean 10 = .ok (.invokestatic 60, 3) := by decide +kernel
theorem dX4_lean_13 : decode cX4_lean 13 = .ok (.aload_n 3, 1) := by decide +kernel
theorem dX4_lean_14 : decode cX4_lean 14 = .ok (.getfield 190, 3) := by decide +kernel
theorem dX4_lean_17 : decode cX4_lean 17 = .ok (.istore 4, 2) := by decide +kernel
theorem dX4_lean_19 : decode cX4_lean 19 = .ok (.aload_n 3, 1) := by decide +kernel
theorem dX4_lean_20 : decode cX4_lean 20 = .ok (.iload_n 2, 1) := by decide +kernel
theorem dX4_lean_21 : decode cX4_lean 21 = .ok (.putfield 190, 3) := by decide +kernel
theorem dX4_lean_24 : decode cX4_lean 24 = .ok (.iload 4, 2) := by decide +kernel
theorem dX4_lean_26 : decode cX4_lean 26 = .ok (.ireturn, 1) := by decide +kernel
theorem dX4_repeat_0 : decode cX4_repeat 0 = .ok (.aload_n 0, 1) := by decide +kernel
theorem dX4_repeat_1 : decode cX4_repeat 1 = .ok (.iload_n 1, 1) := by decide +kernel
theorem dX4_repeat_2 : decode cX4_repeat 2 = .ok (.invokevirtual 186, 3) := by decide +kernel
theorem dX4_repeat_5 : decode cX4_repeat 5 = .ok (.astore_n 3, 1) := by decide +kernel
theorem dX4_repeat_6 : decode cX4_repeat 6 = .ok (.aload_n 0, 1) := by decide +kernel
theorem dX4_repeat_7 : decode cX4_repeat 7 = .ok (.iload_n 2, 1) := by decide +kernel
theorem dX4_repeat_8 : decode cX4_repeat 8 = .ok (.invokevirtual 193, 3) := by decide +kernel
theorem dX4_repeat_11 : decode cX4_repeat 11 = .ok (.astore 4, 2) := by decide +kernel
theorem dX4_repeat_13 : decode cX4_repeat 13 = .ok (.iconst 0, 1) := by decide +kernel
theorem dX4_repeat_14 : decode cX4_repeat 14 = .ok (.istore 5, 2) := by decide +kernel
theorem dX4_repeat_16 : decode cX4_repeat 16 = .ok (.iload 5, 2) := by decide +kernel
theorem dX4_repeat_18 : decode cX4_repeat 18 = .ok (.iconst 3, 1) := by decide +kernel
theorem dX4_repeat_19 : decode cX4_repeat 19 = .ok (.if_icmp .ge 36, 3) := by decide +kernel
theorem dX4_repeat_22 : decode cX4_repeat 22 = .ok (.aload 4, 2) := by decide +kernel
theorem dX4_repeat_24 : decode cX4_repeat 24 = .ok (.iload 5, 2) := by decide +kernel
theorem dX4_repeat_26 : decode cX4_repeat 26 = .ok (.invokevirtual 180, 3) := by decide +kernel
theorem dX4_repeat_29 : decode cX4_repeat 29 = .ok (.istore 6, 2) := by decide +kernel
theorem dX4_repeat_31 : decode cX4_repeat 31 = .ok (.aload_n 3, 1) := by decide +kernel
theorem dX4_repeat_32 : decode cX4_repeat 32 = .ok (.dup, 1) := by decide +kernel
theorem dX4_repeat_33 : decode cX4_repeat 33 = .ok (.getfield 196, 3) := by decide +kernel
theorem dX4_repeat_36 : decode cX4_repeat 36 = .ok (.aload_n 3, 1) := by decide +kernel
theorem dX4_repeat_37 : decode cX4_repeat 37 = .ok (.iload 6, 2) := by decide +kernel
theorem dX4_repeat_39 : decode cX4_repeat 39 = .ok (.invokevirtual 199, 3) := by decide +kernel
theorem dX4_repeat_42 : decode cX4_repeat 42 = .ok (.iload 6, 2) := by decide +kernel
theorem dX4_repeat_44 : decode cX4_repeat 44 = .ok (.isub, 1) := by decide +kernel
theorem dX4_repeat_45 : decode cX4_repeat 45 = .ok (.iadd, 1) := by decide +kernel
theorem dX4_repeat_46 : decode cX4_repeat 46 = .ok (.putfield 196, 3) := by decide +kernel
theorem dX4_repeat_49 : decode cX4_repeat 49 = .ok (.iinc 5 1, 3) := by decide +kernel
theorem dX4_repeat_52 : decode cX4_repeat 52 = .ok (.goto (-36), 3) := by decide +kernel
theorem dX4_repeat_55 : decode cX4_repeat 55 = .ok (.aload_n 3, 1) := by decide +kernel
theorem dX4_repeat_56 : decode cX4_repeat 56 = .ok (.dup, 1) := by decide +kernel
theorem dX4_repeat_57 : decode cX4_repeat 57 = .ok (.getfield 202, 3) := by decide +kernel
theorem dX4_repeat_60 : decode cX4_repeat 60 = .ok (.iconst 1, 1) := by decide +kernel
theorem dX4_repeat_61 : decode cX4_repeat 61 = .ok (.iadd, 1) := by decide +kernel
theorem dX4_repeat_62 : decode cX4_repeat 62 = .ok (.putfield 202, 3) := by decide +kernel
theorem dX4_repeat_65 : decode cX4_repeat 65 = .ok (.aload_n 3, 1) := by decide +kernel
theorem dX4_repeat_66 : decode cX4_repeat 66 = .ok (.invokevirtual 205, 3) := by decide +kernel
theorem dX4_repeat_69 : decode cX4_repeat 69 = .ok (.ireturn, 1) := by decide +kernel
theorem dX4_purse_0 : decode cX4_purse 0 = .ok (.iload_n 1, 1) := by decide +kernel
theorem dX4_purse_1 : decode cX4_purse 1 = .ok (.iconst 4, 1) := by decide +kernel
theorem dX4_purse_2 : decode cX4_purse 2 = .ok (.invokestatic 208, 3) := by decide +kernel
theorem dX4_purse_5 : decode cX4_purse 5 = .ok (.iload_n 2, 1) := by decide +kernel
theorem dX4_purse_6 : decode cX4_purse 6 = .ok (.iconst 1, 1) := by decide +kernel
theorem dX4_purse_7 : decode cX4_purse 7 = .ok (.sipush 9999, 3) := by decide +kernel
theorem dX4_purse_10 : decode cX4_purse 10 = .ok (.invokestatic 60, 3) := by decide +kernel
theorem dX4_purse_13 : decode cX4_purse 13 = .ok (.aload_n 0, 1) := by decide +kernel
theorem dX4_purse_14 : decode cX4_purse 14 = .ok (.getfield 42, 3) := by decide +kernel
theorem dX4_purse_17 : decode cX4_purse 17 = .ok (.iload_n 1, 1) := by decide +kernel
theorem dX4_purse_18 : decode cX4_purse 18 = .ok (.dup2, 1) := by decide +kernel
theorem dX4_purse_19 : decode cX4_purse 19 = .ok (.iaload, 1) := by decide +kernel
theorem dX4_purse_20 : decode cX4_purse 20 = .ok (.iload_n 2, 1) := by decide +kernel
theorem dX4_purse_21 : decode cX4_purse 21 = .ok (.iadd, 1) := by decide +kernel
theorem dX4_purse_22 : decode cX4_purse 22 = .ok (.iastore, 1) := by decide +kernel
theorem dX4_purse_23 : decode cX4_purse 23 = .ok (.aload_n 0, 1) := by decide +kernel
theorem dX4_purse_24 : decode cX4_purse 24 = .ok (.getfield 42, 3) := by decide +kernel
theorem dX4_purse_27 : decode cX4_purse 27 = .ok (.iload_n 1, 1) := by decide +kernel
theorem dX4_purse_28 : decode cX4_purse 28 = .ok (.iaload, 1) := by decide +kernel
theorem dX4_purse_29 : decode cX4_purse 29 = .ok (.ireturn, 1) := by decide +kernel
theorem dX4_offer_0 : decode cX4_offer 0 = .ok (.aload_n 0, 1) := by decide +kernel
theorem dX4_offer_1 : decode cX4_offer 1 = .ok (.iload_n 1, 1) := by decide +kernel
theorem dX4_offer_2 : decode cX4_offer 2 = .ok (.invokevirtual 126, 3) := by decide +kernel
theorem dX4_offer_5 : decode cX4_offer 5 = .ok (.astore_n 3, 1) := by decide +kernel
theorem dX4_offer_6 : decode cX4_offer 6 = .ok (.iload_n 2, 1) := by decide +kernel
theorem dX4_offer_7 : decode cX4_offer 7 = .ok (.iconst 1, 1) := by decide +kernel
theorem dX4_offer_8 : decode cX4_offer 8 = .ok (.bipush 99, 2) := by decide +kernel
theorem dX4_offer_10 : decode cX4_offer 10 = .ok (.invokestatic 60, 3) := by decide +kernel
theorem dX4_offer_13 : decode cX4_offer 13 = .ok (.aload_n 3, 1) := by decide +kernel
theorem dX4_offer_14 : decode cX4_offer 14 = .ok (.getfield 107, 3) := by decide +kernel
theorem dX4_offer_17 : decode cX4_offer 17 = .ok (.iconst 2, 1) := by decide +kernel
theorem dX4_offer_18 : decode cX4_offer 18 = .ok (.if_icmp .ne 7, 3) := by decide +kernel
theorem dX4_offer_21 : decode cX4_offer 21 = .ok (.iconst 1, 1) := by decide +kernel
theorem dX4_offer_22 : decode cX4_offer 22 = .ok (.goto 4, 3) := by decide +kernel
theorem dX4_offer_25 : decode cX4_offer 25 = .ok (.iconst 0, 1) := by decide +kernel
theorem dX4_offer_26 : decode cX4_offer 26 = .ok (.invokestatic 64, 3) := by decide +kernel
theorem dX4_offer_29 : decode cX4_offer 29 = .ok (.aload_n 3, 1) := by decide +kernel
theorem dX4_offer_30 : decode cX4_offer 30 = .ok (.getfield 211, 3) := by decide +kernel
theorem dX4_offer_33 : decode cX4_offer 33 = .ok (.iload_n 2, 1) := by decide +kernel
theorem dX4_offer_34 : decode cX4_offer 34 = .ok (.putfield 215, 3) := by decide +kernel
theorem dX4_offer_37 : decode cX4_offer 37 = .ok (.iconst 0, 1) := by decide +kernel
theorem dX4_offer_38 : decode cX4_offer 38 = .ok (.istore 4, 2) := by decide +kernel
theorem dX4_offer_40 : decode cX4_offer 40 = .ok (.iconst 0, 1) := by decide +kernel
theorem dX4_offer_41 : decode cX4_offer 41 = .ok (.istore 5, 2) := by decide +kernel
theorem dX4_offer_43 : decode cX4_offer 43 = .ok (.iload 5, 2) := by decide +kernel
theorem dX4_offer_45 : decode cX4_offer 45 = .ok (.aload_n 0, 1) := by decide +kernel
theorem dX4_offer_46 : decode cX4_offer 46 = .ok (.getfield 28, 3) := by decide +kernel
theorem dX4_offer_49 : decode cX4_offer 49 = .ok (.if_icmp .ge 28, 3) := by decide +kernel
theorem dX4_offer_52 : decode cX4_offer 52 = .ok (.aload_n 0, 1) := by decide +kernel
theorem dX4_offer_53 : decode cX4_offer 53 = .ok (.getfield 24, 3) := by decide +kernel
theorem dX4_offer_56 : decode cX4_offer 56 = .ok (.iload 5, 2) := by decide +kernel
theorem dX4_offer_58 : decode cX4_offer 58 = .ok (.aaload, 1) := by decide +kernel
theorem dX4_offer_59 : decode cX4_offer 59 = .ok (.getfield 211, 3) := by decide +kernel
theorem dX4_offer_62 : decode cX4_offer 62 = .ok (.invokevirtual 220, 3) := by decide +kernel
theorem dX4_offer_65 : decode cX4_offer 65 = .ok (.ifCond .eq 6, 3) := by decide +kernel
theorem dX4_offer_68 : decode cX4_offer 68 = .ok (.iinc 4 1, 3) := by decide +kernel
theorem dX4_offer_71 : decode cX4_offer 71 = .ok (.iinc 5 1, 3) := by decide +kernel
theorem dX4_offer_74 : decode cX4_offer 74 = .ok (.goto (-31), 3) := by decide +kernel
theorem dX4_offer_77 : decode cX4_offer 77 = .ok (.iload 4, 2) := by decide +kernel
theorem dX4_offer_79 : decode cX4_offer 79 = .ok (.ireturn, 1) := by decide +kernel
theorem dX4_bid_0 : decode cX4_bid 0 = .ok (.iload_n 1, 1) := by decide +kernel
theorem dX4_bid_1 : decode cX4_bid 1 = .ok (.iconst 4, 1) := by decide +kernel
theorem dX4_bid_2 : decode cX4_bid 2 = .ok (.invokestatic 208, 3) := by decide +kernel
theorem dX4_bid_5 : decode cX4_bid 5 = .ok (.aload_n 0, 1) := by decide +kernel
theorem dX4_bid_6 : decode cX4_bid 6 = .ok (.iload_n 2, 1) := by decide +kernel
theorem dX4_bid_7 : decode cX4_bid 7 = .ok (.invokevirtual 126, 3) := by decide +kernel
theorem dX4_bid_10 : decode cX4_bid 10 = .ok (.astore 4, 2) := by decide +kernel
theorem dX4_bid_12 : decode cX4_bid 12 = .ok (.iload_n 3, 1) := by decide +kernel
theorem dX4_bid_13 : decode cX4_bid 13 = .ok (.iconst 1, 1) := by decide +kernel
theorem dX4_bid_14 : decode cX4_bid 14 = .ok (.bipush 99, 2) := by decide +kernel
theorem dX4_bid_16 : decode cX4_bid 16 = .ok (.invokestatic 60, 3) := by decide +kernel
theorem dX4_bid_19 : decode cX4_bid 19 = .ok (.aload 4, 2) := by decide +kernel
theorem dX4_bid_21 : decode cX4_bid 21 = .ok (.getfield 211, 3) := by decide +kernel
theorem dX4_bid_24 : decode cX4_bid 24 = .ok (.invokevirtual 220, 3) := by decide +kernel
theorem dX4_bid_27 : decode cX4_bid 27 = .ok (.invokestatic 64, 3) := by decide +kernel
theorem dX4_bid_30 : decode cX4_bid 30 = .ok (.aload 4, 2) := by decide +kernel
theorem dX4_bid_32 : decode cX4_bid 32 = .ok (.getfield 211, 3) := by decide +kernel
theorem dX4_bid_35 : decode cX4_bid 35 = .ok (.iload_n 1, 1) := by decide +kernel
theorem dX4_bid_36 : decode cX4_bid 36 = .ok (.iload_n 3, 1) := by decide +kernel
theorem dX4_bid_37 : decode cX4_bid 37 = .ok (.invokevirtual 223, 3) := by decide +kernel
theorem dX4_bid_40 : decode cX4_bid 40 = .ok (.aload 4, 2) := by decide +kernel
theorem dX4_bid_42 : decode cX4_bid 42 = .ok (.getfield 211, 3) := by decide +kernel
theorem dX4_bid_45 : decode cX4_bid 45 = .ok (.invokevirtual 226, 3) := by decide +kernel
theorem dX4_bid_48 : decode cX4_bid 48 = .ok (.ireturn, 1) := by decide +kernel
theorem dX4_knock_0 : decode cX4_knock 0 = .ok (.aload_n 0, 1) := by decide +kernel
theorem dX4_knock_1 : decode cX4_knock 1 = .ok (.iload_n 1, 1) := by decide +kernel
theorem dX4_knock_2 : decode cX4_knock 2 = .ok (.invokevirtual 126, 3) := by decide +kernel
theorem dX4_knock_5 : decode cX4_knock 5 = .ok (.astore_n 2, 1) := by decide +kernel
theorem dX4_knock_6 : decode cX4_knock 6 = .ok (.aload_n 2, 1) := by decide +kernel
theorem dX4_knock_7 : decode cX4_knock 7 = .ok (.getfield 211, 3) := by decide +kernel
theorem dX4_knock_10 : decode cX4_knock 10 = .ok (.invokevirtual 220, 3) := by decide +kernel
theorem dX4_knock_13 : decode cX4_knock 13 = .ok (.invokestatic 64, 3) := by decide +kernel
theorem dX4_knock_16 : decode cX4_knock 16 = .ok (.aload_n 0, 1) := by decide +kernel
theorem dX4_knock_17 : decode cX4_knock 17 = .ok (.aload_n 2, 1) := by decide +kernel
theorem dX4_knock_18 : decode cX4_knock 18 = .ok (.invokevirtual 229, 3) := by decide +kernel
theorem dX4_knock_21 : decode cX4_knock 21 = .ok (.istore_n 3, 1) := by decide +kernel
theorem dX4_knock_22 : decode cX4_knock 22 = .ok (.iload_n 3, 1) := by decide +kernel
theorem dX4_knock_23 : decode cX4_knock 23 = .ok (.iconst (-1), 1) := by decide +kernel
theorem dX4_knock_24 : decode cX4_knock 24 = .ok (.if_icmp .eq 64, 3) := by decide +kernel
theorem dX4_knock_27 : decode cX4_knock 27 = .ok (.aload_n 2, 1) := by decide +kernel
theorem dX4_knock_28 : decode cX4_knock 28 = .ok (.aload_n 0, 1) := by decide +kernel
theorem dX4_knock_29 : decode cX4_knock 29 = .ok (.aload_n 2, 1) := by decide +kernel
theorem dX4_knock_30 : decode cX4_knock 30 = .ok (.iload_n 3, 1) := by decide +kernel
theorem dX4_knock_31 : decode cX4_knock 31 = .ok (.invokevirtual 233, 3) := by decide +kernel
theorem dX4_knock_34 : decode cX4_knock 34 = .ok (.invokestatic 237, 3) := by decide +kernel
theorem dX4_knock_37 : decode cX4_knock 37 = .ok (.istore 4, 2) := by decide +kernel
theorem dX4_knock_39 : decode cX4_knock 39 = .ok (.aload_n 0, 1) := by decide +kernel
theorem dX4_knock_40 : decode cX4_knock 40 = .ok (.getfield 42, 3) := by decide +kernel
theorem dX4_knock_43 : decode cX4_knock 43 = .ok (.iload_n 3, 1) := by decide +kernel
theorem dX4_knock_44 : decode cX4_knock 44 = .ok (.dup2, 1) := by decide +kernel
theorem dX4_knock_45 : decode cX4_knock 45 = .ok (.iaload, 1) := by decide +kernel
theorem dX4_knock_46 : decode cX4_knock 46 = .ok (.iload 4, 2) := by decide +kernel
theorem dX4_knock_48 : decode cX4_knock 48 = .ok (.isub, 1) := by decide +kernel
theorem dX4_knock_49 : decode cX4_knock 49 = .ok (.iastore, 1) := by decide +kernel
theorem dX4_knock_50 : decode cX4_knock 50 = .ok (.aload_n 0, 1) := by decide +kernel
theorem dX4_knock_51 : decode cX4_knock 51 = .ok (.dup, 1) := by decide +kernel
theorem dX4_knock_52 : decode cX4_knock 52 = .ok (.getfield 46, 3) := by decide +kernel
theorem dX4_knock_55 : decode cX4_knock 55 = .ok (.iload 4, 2) := by decide +kernel
theorem dX4_knock_57 : decode cX4_knock 57 = .ok (.iadd, 1) := by decide +kernel
theorem dX4_knock_58 : decode cX4_knock 58 = .ok (.putfield 46, 3) := by decide +kernel
theorem dX4_knock_61 : decode cX4_knock 61 = .ok (.aload_n 0, 1) := by decide +kernel
theorem dX4_knock_62 : decode cX4_knock 62 = .ok (.dup, 1) := by decide +kernel
theorem dX4_knock_63 : decode cX4_knock 63 = .ok (.getfield 49, 3) := by decide +kernel
theorem dX4_knock_66 : decode cX4_knock 66 = .ok (.iconst 1, 1) := by decide +kernel
theorem dX4_knock_67 : decode cX4_knock 67 = .ok (.iadd, 1) := by decide +kernel
theorem dX4_knock_68 : decode cX4_knock 68 = .ok (.putfield 49, 3) := by decide +kernel
theorem dX4_knock_71 : decode cX4_knock 71 = .ok (.aload_n 0, 1) := by decide +kernel
theorem dX4_knock_72 : decode cX4_knock 72 = .ok (.dup, 1) := by decide +kernel
theorem dX4_knock_73 : decode cX4_knock 73 = .ok (.getfield 52, 3) := by decide +kernel
theorem dX4_knock_76 : decode cX4_knock 76 = .ok (.aload_n 2, 1) := by decide +kernel
theorem dX4_knock_77 : decode cX4_knock 77 = .ok (.getfield 113, 3) := by decide +kernel
theorem dX4_knock_80 : decode cX4_knock 80 = .ok (.iadd, 1) := by decide +kernel
theorem dX4_knock_81 : decode cX4_knock 81 = .ok (.putfield 52, 3) := by decide +kernel
theorem dX4_knock_84 : decode cX4_knock 84 = .ok (.aload_n 2, 1) := by decide +kernel
theorem dX4_knock_85 : decode cX4_knock 85 = .ok (.invokevirtual 140, 3) := by decide +kernel
theorem dX4_knock_88 : decode cX4_knock 88 = .ok (.aload_n 2, 1) := by decide +kernel
theorem dX4_knock_89 : decode cX4_knock 89 = .ok (.getfield 211, 3) := by decide +kernel
theorem dX4_knock_92 : decode cX4_knock 92 = .ok (.invokevirtual 240, 3) := by decide +kernel
theorem dX4_knock_95 : decode cX4_knock 95 = .ok (.iload_n 3, 1) := by decide +kernel
theorem dX4_knock_96 : decode cX4_knock 96 = .ok (.ireturn, 1) := by decide +kernel
theorem dX4_ofSection_0 : decode cX4_ofSection 0 = .ok (.aload_n 0, 1) := by decide +kernel
theorem dX4_ofSection_1 : decode cX4_ofSection 1 = .ok (.iload_n 1, 1) := by decide +kernel
theorem dX4_ofSection_2 : decode cX4_ofSection 2 = .ok (.invokevirtual 78, 3) := by decide +kernel
theorem dX4_ofSection_5 : decode cX4_ofSection 5 = .ok (.astore_n 3, 1) := by decide +kernel
theorem dX4_ofSection_6 : decode cX4_ofSection 6 = .ok (.iload_n 2, 1) := by decide +kernel
theorem dX4_ofSection_7 : decode cX4_ofSection 7 = .ok (.iconst 0, 1) := by decide +kernel
theorem dX4_ofSection_8 : decode cX4_ofSection 8 = .ok (.bipush 10, 2) := by decide +kernel
theorem dX4_ofSection_10 : decode cX4_ofSection 10 = .ok (.invokestatic 60, 3) := by decide +kernel
theorem dX4_ofSection_13 : decode cX4_ofSection 13 = .ok (.iload_n 2, 1) := by decide +kernel
theorem dX4_ofSection_14 : decode cX4_ofSection 14 = .ok (.tableswitch 93 0 10 #[58, 63, 68, 73, 78, 83, 93, 93, 93, 93, 88], 58) := by decide +kernel
theorem dX4_ofSection_72 : decode cX4_ofSection 72 = .ok (.aload_n 3, 1) := by decide +kernel
theorem dX4_ofSection_73 : decode cX4_ofSection 73 = .ok (.getfield 68, 3) := by decide +kernel
theorem dX4_ofSection_76 : decode cX4_ofSection 76 = .ok (.ireturn, 1) := by decide +kernel
theorem dX4_ofSection_77 : decode cX4_ofSection 77 = .ok (.aload_n 3, 1) := by decide +kernel
theorem dX4_ofSection_78 : decode cX4_ofSection 78 = .ok (.getfield 71, 3) := by decide +kernel
theorem dX4_ofSection_81 : decode cX4_ofSection 81 = .ok (.ireturn, 1) := by decide +kernel
theorem dX4_ofSection_82 : decode cX4_ofSection 82 = .ok (.aload_n 3, 1) := by decide +kernel
theorem dX4_ofSection_83 : decode cX4_ofSection 83 = .ok (.getfield 243, 3) := by decide +kernel
theorem dX4_ofSection_86 : decode cX4_ofSection 86 = .ok (.ireturn, 1) := by decide +kernel
theorem dX4_ofSection_87 : decode cX4_ofSection 87 = .ok (.aload_n 3, 1) := by decide +kernel
theorem dX4_ofSection_88 : decode cX4_ofSection 88 = .ok (.getfield 246, 3) := by decide +kernel
theorem dX4_ofSection_91 : decode cX4_ofSection 91 = .ok (.ireturn, 1) := by decide +kernel
theorem dX4_ofSection_92 : decode cX4_ofSection 92 = .ok (.aload_n 3, 1) := by decide +kernel
theorem dX4_ofSection_93 : decode cX4_ofSection 93 = .ok (.getfield 86, 3) := by decide +kernel
theorem dX4_ofSection_96 : decode cX4_ofSection 96 = .ok (.ireturn, 1) := by decide +kernel
theorem dX4_ofSection_97 : decode cX4_ofSection 97 = .ok (.aload_n 3, 1) := by decide +kernel
theorem dX4_ofSection_98 : decode cX4_ofSection 98 = .ok (.getfield 89, 3) := by decide +kernel
theorem dX4_ofSection_101 : decode cX4_ofSection 101 = .ok (.ireturn, 1) := by decide +kernel
theorem dX4_ofSection_102 : decode cX4_ofSection 102 = .ok (.aload_n 3, 1) := by decide +kernel
theorem dX4_ofSection_103 : decode cX4_ofSection 103 = .ok (.getfield 92, 3) := by decide +kernel
theorem dX4_ofSection_106 : decode cX4_ofSection 106 = .ok (.ireturn, 1) := by decide +kernel
theorem dX4_ofSection_107 : decode cX4_ofSection 107 = .ok (.aload_n 3, 1) := by decide +kernel
theorem dX4_ofSection_108 : decode cX4_ofSection 108 = .ok (.getfield 100, 3) := by decide +kernel
theorem dX4_ofSection_111 : decode cX4_ofSection 111 = .ok (.iload_n 2, 1) := by decide +kernel
theorem dX4_ofSection_112 : decode cX4_ofSection 112 = .ok (.bipush 6, 2) := by decide +kernel
theorem dX4_ofSection_114 : decode cX4_ofSection 114 = .ok (.isub, 1) := by decide +kernel
theorem dX4_ofSection_115 : decode cX4_ofSection 115 = .ok (.iaload, 1) := by decide +kernel
theorem dX4_ofSection_116 : decode cX4_ofSection 116 = .ok (.ireturn, 1) := by decide +kernel
theorem dX4_ofLot_0 : decode cX4_ofLot 0 = .ok (.aload_n 0, 1) := by decide +kernel
theorem dX4_ofLot_1 : decode cX4_ofLot 1 = .ok (.iload_n 1, 1) := by decide +kernel
theorem dX4_ofLot_2 : decode cX4_ofLot 2 = .ok (.invokevirtual 126, 3) := by decide +kernel
theorem dX4_ofLot_5 : decode cX4_ofLot 5 = .ok (.astore_n 3, 1) := by decide +kernel
theorem dX4_ofLot_6 : decode cX4_ofLot 6 = .ok (.iload_n 2, 1) := by decide +kernel
theorem dX4_ofLot_7 : decode cX4_ofLot 7 = .ok (.iconst 0, 1) := by decide +kernel
theorem dX4_ofLot_8 : decode cX4_ofLot 8 = .ok (.bipush 17, 2) := by decide +kernel
theorem dX4_ofLot_10 : decode cX4_ofLot 10 = .ok (.invokestatic 60, 3) := by decide +kernel
theorem dX4_ofLot_13 : decode cX4_ofLot 13 = .ok (.iload_n 2, 1) := by decide +kernel
theorem dX4_ofLot_14 : decode cX4_ofLot 14 = .ok (.tableswitch 167 0 13 #[70, 75, 80, 85, 90, 95, 100, 105, 110, 115, 120, 133, 146, 159], 70) := by decide +kernel
theorem dX4_ofLot_84 : decode cX4_ofLot 84 = .ok (.aload_n 3, 1) := by decide +kernel
theorem dX4_ofLot_85 : decode cX4_ofLot 85 = .ok (.getfield 107, 3) := by decide +kernel
theorem dX4_ofLot_88 : decode cX4_ofLot 88 = .ok (.ireturn, 1) := by decide +kernel
theorem dX4_ofLot_89 : decode cX4_ofLot 89 = .ok (.aload_n 3, 1) := by decide +kernel
theorem dX4_ofLot_90 : decode cX4_ofLot 90 = .ok (.getfield 113, 3) := by decide +kernel
theorem dX4_ofLot_93 : decode cX4_ofLot 93 = .ok (.ireturn, 1) := by decide +kernel
theorem dX4_ofLot_94 : decode cX4_ofLot 94 = .ok (.aload_n 3, 1) := by decide +kernel
theorem dX4_ofLot_95 : decode cX4_ofLot 95 = .ok (.getfield 110, 3) := by decide +kernel
theorem dX4_ofLot_98 : decode cX4_ofLot 98 = .ok (.ireturn, 1) := by decide +kernel
theorem dX4_ofLot_99 : decode cX4_ofLot 99 = .ok (.aload_n 3, 1) := by decide +kernel
theorem dX4_ofLot_100 : decode cX4_ofLot 100 = .ok (.getfield 119, 3) := by decide +kernel
theorem dX4_ofLot_103 : decode cX4_ofLot 103 = .ok (.ireturn, 1) := by decide +kernel
theorem dX4_ofLot_104 : decode cX4_ofLot 104 = .ok (.aload_n 3, 1) := by decide +kernel
theorem dX4_ofLot_105 : decode cX4_ofLot 105 = .ok (.getfield 134, 3) := by decide +kernel
theorem dX4_ofLot_108 : decode cX4_ofLot 108 = .ok (.ireturn, 1) := by decide +kernel
theorem dX4_ofLot_109 : decode cX4_ofLot 109 = .ok (.aload_n 3, 1) := by decide +kernel
theorem dX4_ofLot_110 : decode cX4_ofLot 110 = .ok (.getfield 146, 3) := by decide +kernel
theorem dX4_ofLot_113 : decode cX4_ofLot 113 = .ok (.ireturn, 1) := by decide +kernel
theorem dX4_ofLot_114 : decode cX4_ofLot 114 = .ok (.aload_n 3, 1) := by decide +kernel
theorem dX4_ofLot_115 : decode cX4_ofLot 115 = .ok (.getfield 149, 3) := by decide +kernel
theorem dX4_ofLot_118 : decode cX4_ofLot 118 = .ok (.ireturn, 1) := by decide +kernel
theorem dX4_ofLot_119 : decode cX4_ofLot 119 = .ok (.aload_n 3, 1) := by decide +kernel
theorem dX4_ofLot_120 : decode cX4_ofLot 120 = .ok (.getfield 249, 3) := by decide +kernel
theorem dX4_ofLot_123 : decode cX4_ofLot 123 = .ok (.ireturn, 1) := by decide +kernel
theorem dX4_ofLot_124 : decode cX4_ofLot 124 = .ok (.aload_n 3, 1) := by decide +kernel
theorem dX4_ofLot_125 : decode cX4_ofLot 125 = .ok (.getfield 252, 3) := by decide +kernel
theorem dX4_ofLot_128 : decode cX4_ofLot 128 = .ok (.ireturn, 1) := by decide +kernel
theorem dX4_ofLot_129 : decode cX4_ofLot 129 = .ok (.aload_n 3, 1) := by decide +kernel
theorem dX4_ofLot_130 : decode cX4_ofLot 130 = .ok (.getfield 163, 3) := by decide +kernel
theorem dX4_ofLot_133 : decode cX4_ofLot 133 = .ok (.ireturn, 1) := by decide +kernel
theorem dX4_ofLot_134 : decode cX4_ofLot 134 = .ok (.aload_n 3, 1) := by decide +kernel
theorem dX4_ofLot_135 : decode cX4_ofLot 135 = .ok (.getfield 137, 3) := by decide +kernel
theorem dX4_ofLot_138 : decode cX4_ofLot 138 = .ok (.ifCond .eq 7, 3) := by decide +kernel
theorem dX4_ofLot_141 : decode cX4_ofLot 141 = .ok (.iconst 1, 1) := by decide +kernel
theorem dX4_ofLot_142 : decode cX4_ofLot 142 = .ok (.goto 4, 3) := by decide +kernel
theorem dX4_ofLot_145 : decode cX4_ofLot 145 = .ok (.iconst 0, 1) := by decide +kernel
theorem dX4_ofLot_146 : decode cX4_ofLot 146 = .ok (.ireturn, 1) := by decide +kernel
theorem dX4_ofLot_147 : decode cX4_ofLot 147 = .ok (.aload_n 3, 1) := by decide +kernel
theorem dX4_ofLot_148 : decode cX4_ofLot 148 = .ok (.getfield 122, 3) := by decide +kernel
theorem dX4_ofLot_151 : decode cX4_ofLot 151 = .ok (.ifCond .eq 7, 3) := by decide +kernel
theorem dX4_ofLot_154 : decode cX4_ofLot 154 = .ok (.iconst 1, 1) := by decide +kernel
theorem dX4_ofLot_155 : decode cX4_ofLot 155 = .ok (.goto 4, 3) := by decide +kernel
theorem dX4_ofLot_158 : decode cX4_ofLot 158 = .ok (.iconst 0, 1) := by decide +kernel
theorem dX4_ofLot_159 : decode cX4_ofLot 159 = .ok (.ireturn, 1) := by decide +kernel
theorem dX4_ofLot_160 : decode cX4_ofLot 160 = .ok (.aload_n 3, 1) := by decide +kernel
theorem dX4_ofLot_161 : decode cX4_ofLot 161 = .ok (.getfield 166, 3) := by decide +kernel
theorem dX4_ofLot_164 : decode cX4_ofLot 164 = .ok (.ifCond .eq 7, 3) := by decide +kernel
theorem dX4_ofLot_167 : decode cX4_ofLot 167 = .ok (.iconst 1, 1) := by decide +kernel
theorem dX4_ofLot_168 : decode cX4_ofLot 168 = .ok (.goto 4, 3) := by decide +kernel
theorem dX4_ofLot_171 : decode cX4_ofLot 171 = .ok (.iconst 0, 1) := by decide +kernel
theorem dX4_ofLot_172 : decode cX4_ofLot 172 = .ok (.ireturn, 1) := by decide +kernel
theorem dX4_ofLot_173 : decode cX4_ofLot 173 = .ok (.aload_n 3, 1) := by decide +kernel
theorem dX4_ofLot_174 : decode cX4_ofLot 174 = .ok (.getfield 211, 3) := by decide +kernel
theorem dX4_ofLot_177 : decode cX4_ofLot 177 = .ok (.getfield 215, 3) := by decide +kernel
theorem dX4_ofLot_180 : decode cX4_ofLot 180 = .ok (.ireturn, 1) := by decide +kernel
theorem dX4_ofLot_181 : decode cX4_ofLot 181 = .ok (.aload_n 3, 1) := by decide +kernel
theorem dX4_ofLot_182 : decode cX4_ofLot 182 = .ok (.getfield 116, 3) := by decide +kernel
theorem dX4_ofLot_185 : decode cX4_ofLot 185 = .ok (.iload_n 2, 1) := by decide +kernel
theorem dX4_ofLot_186 : decode cX4_ofLot 186 = .ok (.bipush 14, 2) := by decide +kernel
theorem dX4_ofLot_188 : decode cX4_ofLot 188 = .ok (.isub, 1) := by decide +kernel
theorem dX4_ofLot_189 : decode cX4_ofLot 189 = .ok (.iaload, 1) := by decide +kernel
theorem dX4_ofLot_190 : decode cX4_ofLot 190 = .ok (.ireturn, 1) := by decide +kernel
theorem dX4_note_0 : decode cX4_note 0 = .ok (.aload_n 0, 1) := by decide +kernel
theorem dX4_note_1 : decode cX4_note 1 = .ok (.iload_n 1, 1) := by decide +kernel
theorem dX4_note_2 : decode cX4_note 2 = .ok (.invokevirtual 126, 3) := by decide +kernel
theorem dX4_note_5 : decode cX4_note 5 = .ok (.astore_n 3, 1) := by decide +kernel
theorem dX4_note_6 : decode cX4_note 6 = .ok (.iload_n 2, 1) := by decide +kernel
theorem dX4_note_7 : decode cX4_note 7 = .ok (.iconst 0, 1) := by decide +kernel
theorem dX4_note_8 : decode cX4_note 8 = .ok (.iconst 2, 1) := by decide +kernel
theorem dX4_note_9 : decode cX4_note 9 = .ok (.invokestatic 60, 3) := by decide +kernel
theorem dX4_note_12 : decode cX4_note 12 = .ok (.aload_n 3, 1) := by decide +kernel
theorem dX4_note_13 : decode cX4_note 13 = .ok (.getfield 107, 3) := by decide +kernel
theorem dX4_note_16 : decode cX4_note 16 = .ok (.iconst 2, 1) := by decide +kernel
theorem dX4_note_17 : decode cX4_note 17 = .ok (.if_icmp .ne 7, 3) := by decide +kernel
theorem dX4_note_20 : decode cX4_note 20 = .ok (.iconst 1, 1) := by decide +kernel
theorem dX4_note_21 : decode cX4_note 21 = .ok (.goto 4, 3) := by decide +kernel
theorem dX4_note_24 : decode cX4_note 24 = .ok (.iconst 0, 1) := by decide +kernel
theorem dX4_note_25 : decode cX4_note 25 = .ok (.invokestatic 64, 3) := by decide +kernel
theorem dX4_note_28 : decode cX4_note 28 = .ok (.aload_n 3, 1) := by decide +kernel
theorem dX4_note_29 : decode cX4_note 29 = .ok (.iload_n 2, 1) := by decide +kernel
theorem dX4_note_30 : decode cX4_note 30 = .ok (.invokevirtual 180, 3) := by decide +kernel
theorem dX4_note_33 : decode cX4_note 33 = .ok (.ireturn, 1) := by decide +kernel
theorem dX4_taste_0 : decode cX4_taste 0 = .ok (.aload_n 0, 1) := by decide +kernel
theorem dX4_taste_1 : decode cX4_taste 1 = .ok (.iload_n 1, 1) := by decide +kernel
theorem dX4_taste_2 : decode cX4_taste 2 = .ok (.iload_n 2, 1) := by decide +kernel
theorem dX4_taste_3 : decode cX4_taste 3 = .ok (.invokevirtual 255, 3) := by decide +kernel
theorem dX4_taste_6 : decode cX4_taste 6 = .ok (.istore_n 3, 1) := by decide +kernel
theorem dX4_taste_7 : decode cX4_taste 7 = .ok (.iconst 0, 1) := by decide +kernel
theorem dX4_taste_8 : decode cX4_taste 8 = .ok (.istore 4, 2) := by decide +kernel
theorem dX4_taste_10 : decode cX4_taste 10 = .ok (.iconst 0, 1) := by decide +kernel
theorem dX4_taste_11 : decode cX4_taste 11 = .ok (.istore 5, 2) := by decide +kernel
theorem dX4_taste_13 : decode cX4_taste 13 = .ok (.iload 5, 2) := by decide +kernel
theorem dX4_taste_15 : decode cX4_taste 15 = .ok (.aload_n 0, 1) := by decide +kernel
theorem dX4_taste_16 : decode cX4_taste 16 = .ok (.getfield 38, 3) := by decide +kernel
theorem dX4_taste_19 : decode cX4_taste 19 = .ok (.arraylength, 1) := by decide +kernel
theorem dX4_taste_20 : decode cX4_taste 20 = .ok (.if_icmp .ge 36, 3) := by decide +kernel
theorem dX4_taste_23 : decode cX4_taste 23 = .ok (.iload 4, 2) := by decide +kernel
theorem dX4_taste_25 : decode cX4_taste 25 = .ok (.aload_n 0, 1) := by decide +kernel
theorem dX4_taste_26 : decode cX4_taste 26 = .ok (.getfield 38, 3) := by decide +kernel
theorem dX4_taste_29 : decode cX4_taste 29 = .ok (.iload 5, 2) := by decide +kernel
theorem dX4_taste_31 : decode cX4_taste 31 = .ok (.aaload, 1) := by decide +kernel
theorem dX4_taste_32 : decode cX4_taste 32 = .ok (.iload_n 3, 1) := by decide +kernel
theorem dX4_taste_33 : decode cX4_taste 33 = .ok (.invokevirtual 199, 3) := by decide +kernel
theorem dX4_taste_36 : decode cX4_taste 36 = .ok (.aload_n 0, 1) := by decide +kernel
theorem dX4_taste_37 : decode cX4_taste 37 = .ok (.getfield 38, 3) := by decide +kernel
theorem dX4_taste_40 : decode cX4_taste 40 = .ok (.iload 5, 2) := by decide +kernel
theorem dX4_taste_42 : decode cX4_taste 42 = .ok (.aaload, 1) := by decide +kernel
theorem dX4_taste_43 : decode cX4_taste 43 = .ok (.invokevirtual 205, 3) := by decide +kernel
theorem dX4_taste_46 : decode cX4_taste 46 = .ok (.isub, 1) := by decide +kernel
theorem dX4_taste_47 : decode cX4_taste 47 = .ok (.iadd, 1) := by decide +kernel
theorem dX4_taste_48 : decode cX4_taste 48 = .ok (.istore 4, 2) := by decide +kernel
theorem dX4_taste_50 : decode cX4_taste 50 = .ok (.iinc 5 1, 3) := by decide +kernel
theorem dX4_taste_53 : decode cX4_taste 53 = .ok (.goto (-40), 3) := by decide +kernel
theorem dX4_taste_56 : decode cX4_taste 56 = .ok (.iload 4, 2) := by decide +kernel
theorem dX4_taste_58 : decode cX4_taste 58 = .ok (.iconst 3, 1) := by decide +kernel
theorem dX4_taste_59 : decode cX4_taste 59 = .ok (.idiv, 1) := by decide +kernel
theorem dX4_taste_60 : decode cX4_taste 60 = .ok (.invokestatic 258, 3) := by decide +kernel
theorem dX4_taste_63 : decode cX4_taste 63 = .ok (.ireturn, 1) := by decide +kernel
theorem dX4_ofTaster_0 : decode cX4_ofTaster 0 = .ok (.aload_n 0, 1) := by decide +kernel
theorem dX4_ofTaster_1 : decode cX4_ofTaster 1 = .ok (.iload_n 1, 1) := by decide +kernel
theorem dX4_ofTaster_2 : decode cX4_ofTaster 2 = .ok (.invokevirtual 186, 3) := by decide +kernel
theorem dX4_ofTaster_5 : decode cX4_ofTaster 5 = .ok (.astore_n 3, 1) := by decide +kernel
theorem dX4_ofTaster_6 : decode cX4_ofTaster 6 = .ok (.iload_n 2, 1) := by decide +kernel
theorem dX4_ofTaster_7 : decode cX4_ofTaster 7 = .ok (.iconst 0, 1) := by decide +kernel
theorem dX4_ofTaster_8 : decode cX4_ofTaster 8 = .ok (.iconst 1, 1) := by decide +kernel
theorem dX4_ofTaster_9 : decode cX4_ofTaster 9 = .ok (.invokestatic 60, 3) := by decide +kernel
theorem dX4_ofTaster_12 : decode cX4_ofTaster 12 = .ok (.iload_n 2, 1) := by decide +kernel
theorem dX4_ofTaster_13 : decode cX4_ofTaster 13 = .ok (.ifCond .ne 10, 3) := by decide +kernel
theorem dX4_ofTaster_16 : decode cX4_ofTaster 16 = .ok (.aload_n 3, 1) := by decide +kernel
theorem dX4_ofTaster_17 : decode cX4_ofTaster 17 = .ok (.invokevirtual 205, 3) := by decide +kernel
theorem dX4_ofTaster_20 : decode cX4_ofTaster 20 = .ok (.goto 7, 3) := by decide +kernel
theorem dX4_ofTaster_23 : decode cX4_ofTaster 23 = .ok (.aload_n 3, 1) := by decide +kernel
theorem dX4_ofTaster_24 : decode cX4_ofTaster 24 = .ok (.getfield 202, 3) := by decide +kernel
theorem dX4_ofTaster_27 : decode cX4_ofTaster 27 = .ok (.ireturn, 1) := by decide +kernel
theorem dX4_bidOf_0 : decode cX4_bidOf 0 = .ok (.iload_n 1, 1) := by decide +kernel
theorem dX4_bidOf_1 : decode cX4_bidOf 1 = .ok (.iconst 4, 1) := by decide +kernel
theorem dX4_bidOf_2 : decode cX4_bidOf 2 = .ok (.invokestatic 208, 3) := by decide +kernel
theorem dX4_bidOf_5 : decode cX4_bidOf 5 = .ok (.aload_n 0, 1) := by decide +kernel
theorem dX4_bidOf_6 : decode cX4_bidOf 6 = .ok (.iload_n 2, 1) := by decide +kernel
theorem dX4_bidOf_7 : decode cX4_bidOf 7 = .ok (.invokevirtual 126, 3) := by decide +kernel
theorem dX4_bidOf_10 : decode cX4_bidOf 10 = .ok (.astore_n 3, 1) := by decide +kernel
theorem dX4_bidOf_11 : decode cX4_bidOf 11 = .ok (.aload_n 3, 1) := by decide +kernel
theorem dX4_bidOf_12 : decode cX4_bidOf 12 = .ok (.getfield 211, 3) := by decide +kernel
theorem dX4_bidOf_15 : decode cX4_bidOf 15 = .ok (.iload_n 1, 1) := by decide +kernel
theorem dX4_bidOf_16 : decode cX4_bidOf 16 = .ok (.invokevirtual 261, 3) := by decide +kernel
theorem dX4_bidOf_19 : decode cX4_bidOf 19 = .ok (.ifCond .eq 15, 3) := by decide +kernel
theorem dX4_bidOf_22 : decode cX4_bidOf 22 = .ok (.aload_n 3, 1) := by decide +kernel
theorem dX4_bidOf_23 : decode cX4_bidOf 23 = .ok (.getfield 211, 3) := by decide +kernel
theorem dX4_bidOf_26 : decode cX4_bidOf 26 = .ok (.getfield 265, 3) := by decide +kernel
theorem dX4_bidOf_29 : decode cX4_bidOf 29 = .ok (.iload_n 1, 1) := by decide +kernel
theorem dX4_bidOf_30 : decode cX4_bidOf 30 = .ok (.iaload, 1) := by decide +kernel
theorem dX4_bidOf_31 : decode cX4_bidOf 31 = .ok (.goto 4, 3) := by decide +kernel
theorem dX4_bidOf_34 : decode cX4_bidOf 34 = .ok (.iconst (-1), 1) := by decide +kernel
theorem dX4_bidOf_35 : decode cX4_bidOf 35 = .ok (.ireturn, 1) := by decide +kernel
theorem dX4_many_0 : decode cX4_many 0 = .ok (.iload_n 1, 1) := by decide +kernel
theorem dX4_many_1 : decode cX4_many 1 = .ok (.iconst 0, 1) := by decide +kernel
theorem dX4_many_2 : decode cX4_many 2 = .ok (.bipush 14, 2) := by decide +kernel
theorem dX4_many_4 : decode cX4_many 4 = .ok (.invokestatic 60, 3) := by decide +kernel
theorem dX4_many_7 : decode cX4_many 7 = .ok (.iload_n 1, 1) := by decide +kernel
theorem dX4_many_8 : decode cX4_many 8 = .ok (.tableswitch 118 0 10 #[60, 65, 70, 75, 81, 87, 93, 98, 103, 108, 113], 60) := by decide +kernel
theorem dX4_many_68 : decode cX4_many 68 = .ok (.aload_n 0, 1) := by decide +kernel
theorem dX4_many_69 : decode cX4_many 69 = .ok (.getfield 15, 3) := by decide +kernel
theorem dX4_many_72 : decode cX4_many 72 = .ok (.ireturn, 1) := by decide +kernel
theorem dX4_many_73 : decode cX4_many 73 = .ok (.aload_n 0, 1) := by decide +kernel
theorem dX4_many_74 : decode cX4_many 74 = .ok (.getfield 19, 3) := by decide +kernel
theorem dX4_many_77 : decode cX4_many 77 = .ok (.ireturn, 1) := by decide +kernel
theorem dX4_many_78 : decode cX4_many 78 = .ok (.aload_n 0, 1) := by decide +kernel
theorem dX4_many_79 : decode cX4_many 79 = .ok (.getfield 28, 3) := by decide +kernel
theorem dX4_many_82 : decode cX4_many 82 = .ok (.ireturn, 1) := by decide +kernel
theorem dX4_many_83 : decode cX4_many 83 = .ok (.aload_n 0, 1) := by decide +kernel
theorem dX4_many_84 : decode cX4_many 84 = .ok (.iconst 0, 1) := by decide +kernel
theorem dX4_many_85 : decode cX4_many 85 = .ok (.invokevirtual 268, 3) := by decide +kernel
theorem dX4_many_88 : decode cX4_many 88 = .ok (.ireturn, 1) := by decide +kernel
theorem dX4_many_89 : decode cX4_many 89 = .ok (.aload_n 0, 1) := by decide +kernel
theorem dX4_many_90 : decode cX4_many 90 = .ok (.iconst 1, 1) := by decide +kernel
theorem dX4_many_91 : decode cX4_many 91 = .ok (.invokevirtual 268, 3) := by decide +kernel
theorem dX4_many_94 : decode cX4_many 94 = .ok (.ireturn, 1) := by decide +kernel
theorem dX4_many_95 : decode cX4_many 95 = .ok (.aload_n 0, 1) := by decide +kernel
theorem dX4_many_96 : decode cX4_many 96 = .ok (.iconst 2, 1) := by decide +kernel
theorem dX4_many_97 : decode cX4_many 97 = .ok (.invokevirtual 268, 3) := by decide +kernel
theorem dX4_many_100 : decode cX4_many 100 = .ok (.ireturn, 1) := by decide +kernel
theorem dX4_many_101 : decode cX4_many 101 = .ok (.aload_n 0, 1) := by decide +kernel
theorem dX4_many_102 : decode cX4_many 102 = .ok (.getfield 46, 3) := by decide +kernel
theorem dX4_many_105 : decode cX4_many 105 = .ok (.ireturn, 1) := by decide +kernel
theorem dX4_many_106 : decode cX4_many 106 = .ok (.aload_n 0, 1) := by decide +kernel
theorem dX4_many_107 : decode cX4_many 107 = .ok (.getfield 49, 3) := by decide +kernel
theorem dX4_many_110 : decode cX4_many 110 = .ok (.ireturn, 1) := by decide +kernel
theorem dX4_many_111 : decode cX4_many 111 = .ok (.aload_n 0, 1) := by decide +kernel
theorem dX4_many_112 : decode cX4_many 112 = .ok (.invokevirtual 271, 3) := by decide +kernel
theorem dX4_many_115 : decode cX4_many 115 = .ok (.ireturn, 1) := by decide +kernel
theorem dX4_many_116 : decode cX4_many 116 = .ok (.aload_n 0, 1) := by decide +kernel
theorem dX4_many_117 : decode cX4_many 117 = .ok (.getfield 55, 3) := by decide +kernel
theorem dX4_many_120 : decode cX4_many 120 = .ok (.ireturn, 1) := by decide +kernel
theorem dX4_many_121 : decode cX4_many 121 = .ok (.aload_n 0, 1) := by decide +kernel
theorem dX4_many_122 : decode cX4_many 122 = .ok (.getfield 52, 3) := by decide +kernel
theorem dX4_many_125 : decode cX4_many 125 = .ok (.ireturn, 1) := by decide +kernel
theorem dX4_many_126 : decode cX4_many 126 = .ok (.aload_n 0, 1) := by decide +kernel
theorem dX4_many_127 : decode cX4_many 127 = .ok (.getfield 42, 3) := by decide +kernel
theorem dX4_many_130 : decode cX4_many 130 = .ok (.iload_n 1, 1) := by decide +kernel
theorem dX4_many_131 : decode cX4_many 131 = .ok (.bipush 11, 2) := by decide +kernel
theorem dX4_many_133 : decode cX4_many 133 = .ok (.isub, 1) := by decide +kernel
theorem dX4_many_134 : decode cX4_many 134 = .ok (.iaload, 1) := by decide +kernel
theorem dX4_many_135 : decode cX4_many 135 = .ok (.ireturn, 1) := by decide +kernel
theorem dX4_meanNotes_0 : decode cX4_meanNotes 0 = .ok (.iconst 0, 1) := by decide +kernel
theorem dX4_meanNotes_1 : decode cX4_meanNotes 1 = .ok (.istore_n 1, 1) := by decide +kernel
theorem dX4_meanNotes_2 : decode cX4_meanNotes 2 = .ok (.iconst 0, 1) := by decide +kernel
theorem dX4_meanNotes_3 : decode cX4_meanNotes 3 = .ok (.istore_n 2, 1) := by decide +kernel
theorem dX4_meanNotes_4 : decode cX4_meanNotes 4 = .ok (.iconst 0, 1) := by decide +kernel
theorem dX4_meanNotes_5 : decode cX4_meanNotes 5 = .ok (.istore_n 3, 1) := by decide +kernel
theorem dX4_meanNotes_6 : decode cX4_meanNotes 6 = .ok (.iload_n 3, 1) := by decide +kernel
theorem dX4_meanNotes_7 : decode cX4_meanNotes 7 = .ok (.aload_n 0, 1) := by decide +kernel
theorem dX4_meanNotes_8 : decode cX4_meanNotes 8 = .ok (.getfield 28, 3) := by decide +kernel
theorem dX4_meanNotes_11 : decode cX4_meanNotes 11 = .ok (.if_icmp .ge 56, 3) := by decide +kernel
theorem dX4_meanNotes_14 : decode cX4_meanNotes 14 = .ok (.aload_n 0, 1) := by decide +kernel
theorem dX4_meanNotes_15 : decode cX4_meanNotes 15 = .ok (.getfield 24, 3) := by decide +kernel
theorem dX4_meanNotes_18 : decode cX4_meanNotes 18 = .ok (.iload_n 3, 1) := by decide +kernel
theorem dX4_meanNotes_19 : decode cX4_meanNotes 19 = .ok (.aaload, 1) := by decide +kernel
theorem dX4_meanNotes_20 : decode cX4_meanNotes 20 = .ok (.getfield 107, 3) := by decide +kernel
theorem dX4_meanNotes_23 : decode cX4_meanNotes 23 = .ok (.iconst 2, 1) := by decide +kernel
theorem dX4_meanNotes_24 : decode cX4_meanNotes 24 = .ok (.if_icmp .ne 37, 3) := by decide +kernel
theorem dX4_meanNotes_27 : decode cX4_meanNotes 27 = .ok (.iload_n 1, 1) := by decide +kernel
theorem dX4_meanNotes_28 : decode cX4_meanNotes 28 = .ok (.aload_n 0, 1) := by decide +kernel
theorem dX4_meanNotes_29 : decode cX4_meanNotes 29 = .ok (.getfield 24, 3) := by decide +kernel
theorem dX4_meanNotes_32 : decode cX4_meanNotes 32 = .ok (.iload_n 3, 1) := by decide +kernel
theorem dX4_meanNotes_33 : decode cX4_meanNotes 33 = .ok (.aaload, 1) := by decide +kernel
theorem dX4_meanNotes_34 : decode cX4_meanNotes 34 = .ok (.getfield 113, 3) := by decide +kernel
theorem dX4_meanNotes_37 : decode cX4_meanNotes 37 = .ok (.iadd, 1) := by decide +kernel
theorem dX4_meanNotes_38 : decode cX4_meanNotes 38 = .ok (.istore_n 1, 1) := by decide +kernel
theorem dX4_meanNotes_39 : decode cX4_meanNotes 39 = .ok (.iload_n 2, 1) := by decide +kernel
theorem dX4_meanNotes_40 : decode cX4_meanNotes 40 = .ok (.aload_n 0, 1) := by decide +kernel
theorem dX4_meanNotes_41 : decode cX4_meanNotes 41 = .ok (.getfield 24, 3) := by decide +kernel
theorem dX4_meanNotes_44 : decode cX4_meanNotes 44 = .ok (.iload_n 3, 1) := by decide +kernel
theorem dX4_meanNotes_45 : decode cX4_meanNotes 45 = .ok (.aaload, 1) := by decide +kernel
theorem dX4_meanNotes_46 : decode cX4_meanNotes 46 = .ok (.getfield 113, 3) := by decide +kernel
theorem dX4_meanNotes_49 : decode cX4_meanNotes 49 = .ok (.aload_n 0, 1) := by decide +kernel
theorem dX4_meanNotes_50 : decode cX4_meanNotes 50 = .ok (.getfield 24, 3) := by decide +kernel
theorem dX4_meanNotes_53 : decode cX4_meanNotes 53 = .ok (.iload_n 3, 1) := by decide +kernel
theorem dX4_meanNotes_54 : decode cX4_meanNotes 54 = .ok (.aaload, 1) := by decide +kernel
theorem dX4_meanNotes_55 : decode cX4_meanNotes 55 = .ok (.invokevirtual 274, 3) := by decide +kernel
theorem dX4_meanNotes_58 : decode cX4_meanNotes 58 = .ok (.imul, 1) := by decide +kernel
theorem dX4_meanNotes_59 : decode cX4_meanNotes 59 = .ok (.iadd, 1) := by decide +kernel
theorem dX4_meanNotes_60 : decode cX4_meanNotes 60 = .ok (.istore_n 2, 1) := by decide +kernel
theorem dX4_meanNotes_61 : decode cX4_meanNotes 61 = .ok (.iinc 3 1, 3) := by decide +kernel
theorem dX4_meanNotes_64 : decode cX4_meanNotes 64 = .ok (.goto (-58), 3) := by decide +kernel
theorem dX4_meanNotes_67 : decode cX4_meanNotes 67 = .ok (.iload_n 1, 1) := by decide +kernel
theorem dX4_meanNotes_68 : decode cX4_meanNotes 68 = .ok (.ifCond .le 11, 3) := by decide +kernel
theorem dX4_meanNotes_71 : decode cX4_meanNotes 71 = .ok (.iload_n 2, 1) := by decide +kernel
theorem dX4_meanNotes_72 : decode cX4_meanNotes 72 = .ok (.i2d, 1) := by decide +kernel
theorem dX4_meanNotes_73 : decode cX4_meanNotes 73 = .ok (.iload_n 1, 1) := by decide +kernel
theorem dX4_meanNotes_74 : decode cX4_meanNotes 74 = .ok (.i2d, 1) := by decide +kernel
theorem dX4_meanNotes_75 : decode cX4_meanNotes 75 = .ok (.ddiv, 1) := by decide +kernel
theorem dX4_meanNotes_76 : decode cX4_meanNotes 76 = .ok (.goto 4, 3) := by decide +kernel
theorem dX4_meanNotes_79 : decode cX4_meanNotes 79 = .ok (.dconst 0, 1) := by decide +kernel
theorem dX4_meanNotes_80 : decode cX4_meanNotes 80 = .ok (.dreturn, 1) := by decide +kernel
theorem dX4_flushIn_0 : decode cX4_flushIn 0 = .ok (.aload_n 0, 1) := by decide +kernel
theorem dX4_flushIn_1 : decode cX4_flushIn 1 = .ok (.iload_n 1, 1) := by decide +kernel
theorem dX4_flushIn_2 : decode cX4_flushIn 2 = .ok (.invokevirtual 78, 3) := by decide +kernel
theorem dX4_flushIn_5 : decode cX4_flushIn 5 = .ok (.astore 4, 2) := by decide +kernel
theorem dX4_flushIn_7 : decode cX4_flushIn 7 = .ok (.iload_n 2, 1) := by decide +kernel
theorem dX4_flushIn_8 : decode cX4_flushIn 8 = .ok (.iconst 0, 1) := by decide +kernel
theorem dX4_flushIn_9 : decode cX4_flushIn 9 = .ok (.bipush 6, 2) := by decide +kernel
theorem dX4_flushIn_11 : decode cX4_flushIn 11 = .ok (.invokestatic 60, 3) := by decide +kernel
theorem dX4_flushIn_14 : decode cX4_flushIn 14 = .ok (.iload_n 3, 1) := by decide +kernel
theorem dX4_flushIn_15 : decode cX4_flushIn 15 = .ok (.iconst 0, 1) := by decide +kernel
theorem dX4_flushIn_16 : decode cX4_flushIn 16 = .ok (.bipush 6, 2) := by decide +kernel
theorem dX4_flushIn_18 : decode cX4_flushIn 18 = .ok (.invokestatic 60, 3) := by decide +kernel
theorem dX4_flushIn_21 : decode cX4_flushIn 21 = .ok (.aload 4, 2) := by decide +kernel
theorem dX4_flushIn_23 : decode cX4_flushIn 23 = .ok (.getfield 243, 3) := by decide +kernel
theorem dX4_flushIn_26 : decode cX4_flushIn 26 = .ok (.istore 5, 2) := by decide +kernel
theorem dX4_flushIn_28 : decode cX4_flushIn 28 = .ok (.iconst 1, 1) := by decide +kernel
theorem dX4_flushIn_29 : decode cX4_flushIn 29 = .ok (.istore 6, 2) := by decide +kernel
theorem dX4_flushIn_31 : decode cX4_flushIn 31 = .ok (.iload 6, 2) := by decide +kernel
theorem dX4_flushIn_33 : decode cX4_flushIn 33 = .ok (.bipush 30, 2) := by decide +kernel
theorem dX4_flushIn_35 : decode cX4_flushIn 35 = .ok (.if_icmp .gt 40, 3) := by decide +kernel
theorem dX4_flushIn_38 : decode cX4_flushIn 38 = .ok (.iload 6, 2) := by decide +kernel
theorem dX4_flushIn_40 : decode cX4_flushIn 40 = .ok (.aload 4, 2) := by decide +kernel
theorem dX4_flushIn_42 : decode cX4_flushIn 42 = .ok (.getfield 246, 3) := by decide +kernel
theorem dX4_flushIn_45 : decode cX4_flushIn 45 = .ok (.if_icmp .le 15, 3) := by decide +kernel
theorem dX4_flushIn_48 : decode cX4_flushIn 48 = .ok (.iload 5, 2) := by decide +kernel
theorem dX4_flushIn_50 : decode cX4_flushIn 50 = .ok (.aload 4, 2) := by decide +kernel
theorem dX4_flushIn_52 : decode cX4_flushIn 52 = .ok (.iload_n 2, 1) := by decide +kernel
theorem dX4_flushIn_53 : decode cX4_flushIn 53 = .ok (.iload_n 3, 1) := by decide +kernel
theorem dX4_flushIn_54 : decode cX4_flushIn 54 = .ok (.invokevirtual 277, 3) := by decide +kernel
theorem dX4_flushIn_57 : decode cX4_flushIn 57 = .ok (.iadd, 1) := by decide +kernel
theorem dX4_flushIn_58 : decode cX4_flushIn 58 = .ok (.istore 5, 2) := by decide +kernel
theorem dX4_flushIn_60 : decode cX4_flushIn 60 = .ok (.iload 5, 2) := by decide +kernel
theorem dX4_flushIn_62 : decode cX4_flushIn 62 = .ok (.iconst 5, 1) := by decide +kernel
theorem dX4_flushIn_63 : decode cX4_flushIn 63 = .ok (.if_icmp .lt 6, 3) := by decide +kernel
theorem dX4_flushIn_66 : decode cX4_flushIn 66 = .ok (.iload 6, 2) := by decide +kernel
theorem dX4_flushIn_68 : decode cX4_flushIn 68 = .ok (.ireturn, 1) := by decide +kernel
theorem dX4_flushIn_69 : decode cX4_flushIn 69 = .ok (.iinc 6 1, 3) := by decide +kernel
theorem dX4_flushIn_72 : decode cX4_flushIn 72 = .ok (.goto (-41), 3) := by decide +kernel
theorem dX4_flushIn_75 : decode cX4_flushIn 75 = .ok (.iconst (-1), 1) := by decide +kernel
theorem dX4_flushIn_76 : decode cX4_flushIn 76 = .ok (.ireturn, 1) := by decide +kernel
theorem dX4_bestFire_0 : decode cX4_bestFire 0 = .ok (.aload_n 0, 1) := by decide +kernel
theorem dX4_bestFire_1 : decode cX4_bestFire 1 = .ok (.iload_n 1, 1) := by decide +kernel
theorem dX4_bestFire_2 : decode cX4_bestFire 2 = .ok (.invokevirtual 126, 3) := by decide +kernel
theorem dX4_bestFire_5 : decode cX4_bestFire 5 = .ok (.astore_n 2, 1) := by decide +kernel
theorem dX4_bestFire_6 : decode cX4_bestFire 6 = .ok (.aload_n 2, 1) := by decide +kernel
theorem dX4_bestFire_7 : decode cX4_bestFire 7 = .ok (.getfield 107, 3) := by decide +kernel
theorem dX4_bestFire_10 : decode cX4_bestFire 10 = .ok (.iconst 1, 1) := by decide +kernel
theorem dX4_bestFire_11 : decode cX4_bestFire 11 = .ok (.if_icmp .ne 7, 3) := by decide +kernel
theorem dX4_bestFire_14 : decode cX4_bestFire 14 = .ok (.iconst 1, 1) := by decide +kernel
theorem dX4_bestFire_15 : decode cX4_bestFire 15 = .ok (.goto 4, 3) := by decide +kernel
theorem dX4_bestFire_18 : decode cX4_bestFire 18 = .ok (.iconst 0, 1) := by decide +kernel
theorem dX4_bestFire_19 : decode cX4_bestFire 19 = .ok (.invokestatic 64, 3) := by decide +kernel
theorem dX4_bestFire_22 : decode cX4_bestFire 22 = .ok (.iconst (-1), 1) := by decide +kernel
theorem dX4_bestFire_23 : decode cX4_bestFire 23 = .ok (.istore_n 3, 1) := by decide +kernel
theorem dX4_bestFire_24 : decode cX4_bestFire 24 = .ok (.iconst (-1), 1) := by decide +kernel
theorem dX4_bestFire_25 : decode cX4_bestFire 25 = .ok (.istore 4, 2) := by decide +kernel
theorem dX4_bestFire_27 : decode cX4_bestFire 27 = .ok (.iconst 1, 1) := by decide +kernel
theorem dX4_bestFire_28 : decode cX4_bestFire 28 = .ok (.istore 5, 2) := by decide +kernel
theorem dX4_bestFire_30 : decode cX4_bestFire 30 = .ok (.iload 5, 2) := by decide +kernel
theorem dX4_bestFire_32 : decode cX4_bestFire 32 = .ok (.iconst 5, 1) := by decide +kernel
theorem dX4_bestFire_33 : decode cX4_bestFire 33 = .ok (.if_icmp .gt 85, 3) := by decide +kernel
theorem dX4_bestFire_36 : decode cX4_bestFire 36 = .ok (.aload_n 0, 1) := by decide +kernel
theorem dX4_bestFire_37 : decode cX4_bestFire 37 = .ok (.getfield 32, 3) := by decide +kernel
theorem dX4_bestFire_40 : decode cX4_bestFire 40 = .ok (.aload_n 2, 1) := by decide +kernel
theorem dX4_bestFire_41 : decode cX4_bestFire 41 = .ok (.invokevirtual 280, 3) := by decide +kernel
theorem dX4_bestFire_44 : decode cX4_bestFire 44 = .ok (.iconst 1, 1) := by decide +kernel
theorem dX4_bestFire_45 : decode cX4_bestFire 45 = .ok (.istore 6, 2) := by decide +kernel
theorem dX4_bestFire_47 : decode cX4_bestFire 47 = .ok (.iload 6, 2) := by decide +kernel
theorem dX4_bestFire_49 : decode cX4_bestFire 49 = .ok (.bipush 30, 2) := by decide +kernel
theorem dX4_bestFire_51 : decode cX4_bestFire 51 = .ok (.if_icmp .gt 61, 3) := by decide +kernel
theorem dX4_bestFire_54 : decode cX4_bestFire 54 = .ok (.aload_n 0, 1) := by decide +kernel
theorem dX4_bestFire_55 : decode cX4_bestFire 55 = .ok (.getfield 32, 3) := by decide +kernel
theorem dX4_bestFire_58 : decode cX4_bestFire 58 = .ok (.iload 5, 2) := by decide +kernel
theorem dX4_bestFire_60 : decode cX4_bestFire 60 = .ok (.invokevirtual 152, 3) := by decide +kernel
theorem dX4_bestFire_63 : decode cX4_bestFire 63 = .ok (.aload_n 0, 1) := by decide +kernel
theorem dX4_bestFire_64 : decode cX4_bestFire 64 = .ok (.getfield 32, 3) := by decide +kernel
theorem dX4_bestFire_67 : decode cX4_bestFire 67 = .ok (.invokevirtual 156, 3) := by decide +kernel
theorem dX4_bestFire_70 : decode cX4_bestFire 70 = .ok (.ifCond .eq 13, 3) := by decide +kernel
theorem dX4_bestFire_73 : decode cX4_bestFire 73 = .ok (.aload_n 0, 1) := by decide +kernel
theorem dX4_bestFire_74 : decode cX4_bestFire 74 = .ok (.getfield 32, 3) := by decide +kernel
theorem dX4_bestFire_77 : decode cX4_bestFire 77 = .ok (.invokevirtual 274, 3) := by decide +kernel
theorem dX4_bestFire_80 : decode cX4_bestFire 80 = .ok (.goto 4, 3) := by decide +kernel
theorem dX4_bestFire_83 : decode cX4_bestFire 83 = .ok (.iconst (-1), 1) := by decide +kernel
theorem dX4_bestFire_84 : decode cX4_bestFire 84 = .ok (.istore 7, 2) := by decide +kernel
theorem dX4_bestFire_86 : decode cX4_bestFire 86 = .ok (.iload 7, 2) := by decide +kernel
theorem dX4_bestFire_88 : decode cX4_bestFire 88 = .ok (.iload 4, 2) := by decide +kernel
theorem dX4_bestFire_90 : decode cX4_bestFire 90 = .ok (.if_icmp .le 16, 3) := by decide +kernel
theorem dX4_bestFire_93 : decode cX4_bestFire 93 = .ok (.iload 7, 2) := by decide +kernel
theorem dX4_bestFire_95 : decode cX4_bestFire 95 = .ok (.istore 4, 2) := by decide +kernel
theorem dX4_bestFire_97 : decode cX4_bestFire 97 = .ok (.bipush 100, 2) := by decide +kernel
theorem dX4_bestFire_99 : decode cX4_bestFire 99 = .ok (.iload 5, 2) := by decide +kernel
theorem dX4_bestFire_101 : decode cX4_bestFire 101 = .ok (.imul, 1) := by decide +kernel
theorem dX4_bestFire_102 : decode cX4_bestFire 102 = .ok (.iload 6, 2) := by decide +kernel
theorem dX4_bestFire_104 : decode cX4_bestFire 104 = .ok (.iadd, 1) := by decide +kernel
theorem dX4_bestFire_105 : decode cX4_bestFire 105 = .ok (.istore_n 3, 1) := by decide +kernel
theorem dX4_bestFire_106 : decode cX4_bestFire 106 = .ok (.iinc 6 1, 3) := by decide +kernel
theorem dX4_bestFire_109 : decode cX4_bestFire 109 = .ok (.goto (-62), 3) := by decide +kernel
theorem dX4_bestFire_112 : decode cX4_bestFire 112 = .ok (.iinc 5 1, 3) := by decide +kernel
theorem dX4_bestFire_115 : decode cX4_bestFire 115 = .ok (.goto (-85), 3) := by decide +kernel
theorem dX4_bestFire_118 : decode cX4_bestFire 118 = .ok (.iload_n 3, 1) := by decide +kernel
theorem dX4_bestFire_119 : decode cX4_bestFire 119 = .ok (.ireturn, 1) := by decide +kernel
theorem dX4_bestMix_0 : decode cX4_bestMix 0 = .ok (.iload_n 1, 1) := by decide +kernel
theorem dX4_bestMix_1 : decode cX4_bestMix 1 = .ok (.iconst 0, 1) := by decide +kernel
theorem dX4_bestMix_2 : decode cX4_bestMix 2 = .ok (.bipush 9, 2) := by decide +kernel
theorem dX4_bestMix_4 : decode cX4_bestMix 4 = .ok (.invokestatic 60, 3) := by decide +kernel
theorem dX4_bestMix_7 : decode cX4_bestMix 7 = .ok (.iload_n 2, 1) := by decide +kernel
theorem dX4_bestMix_8 : decode cX4_bestMix 8 = .ok (.iconst 0, 1) := by decide +kernel
theorem dX4_bestMix_9 : decode cX4_bestMix 9 = .ok (.bipush 9, 2) := by decide +kernel
theorem dX4_bestMix_11 : decode cX4_bestMix 11 = .ok (.invokestatic 60, 3) := by decide +kernel
theorem dX4_bestMix_14 : decode cX4_bestMix 14 = .ok (.iload_n 3, 1) := by decide +kernel
theorem dX4_bestMix_15 : decode cX4_bestMix 15 = .ok (.iconst 0, 1) := by decide +kernel
theorem dX4_bestMix_16 : decode cX4_bestMix 16 = .ok (.bipush 9, 2) := by decide +kernel
theorem dX4_bestMix_18 : decode cX4_bestMix 18 = .ok (.invokestatic 60, 3) := by decide +kernel
theorem dX4_bestMix_21 : decode cX4_bestMix 21 = .ok (.ldc_w 284, 3) := by decide +kernel
theorem dX4_bestMix_24 : decode cX4_bestMix 24 = .ok (.istore 4, 2) := by decide +kernel
theorem dX4_bestMix_26 : decode cX4_bestMix 26 = .ok (.iconst 0, 1) := by decide +kernel
theorem dX4_bestMix_27 : decode cX4_bestMix 27 = .ok (.istore 5, 2) := by decide +kernel
theorem dX4_bestMix_29 : decode cX4_bestMix 29 = .ok (.iload 5, 2) := by decide +kernel
theorem dX4_bestMix_31 : decode cX4_bestMix 31 = .ok (.aload_n 0, 1) := by decide +kernel
theorem dX4_bestMix_32 : decode cX4_bestMix 32 = .ok (.getfield 28, 3) := by decide +kernel
theorem dX4_bestMix_35 : decode cX4_bestMix 35 = .ok (.if_icmp .ge 99, 3) := by decide +kernel
theorem dX4_bestMix_38 : decode cX4_bestMix 38 = .ok (.iload 5, 2) := by decide +kernel
theorem dX4_bestMix_40 : decode cX4_bestMix 40 = .ok (.iconst 1, 1) := by decide +kernel
theorem dX4_bestMix_41 : decode cX4_bestMix 41 = .ok (.iadd, 1) := by decide +kernel
theorem dX4_bestMix_42 : decode cX4_bestMix 42 = .ok (.istore 6, 2) := by decide +kernel
theorem dX4_bestMix_44 : decode cX4_bestMix 44 = .ok (.iload 6, 2) := by decide +kernel
theorem dX4_bestMix_46 : decode cX4_bestMix 46 = .ok (.aload_n 0, 1) := by decide +kernel
theorem dX4_bestMix_47 : decode cX4_bestMix 47 = .ok (.getfield 28, 3) := by decide +kernel
theorem dX4_bestMix_50 : decode cX4_bestMix 50 = .ok (.if_icmp .ge 78, 3) := by decide +kernel
theorem dX4_bestMix_53 : decode cX4_bestMix 53 = .ok (.aload_n 0, 1) := by decide +kernel
theorem dX4_bestMix_54 : decode cX4_bestMix 54 = .ok (.getfield 24, 3) := by decide +kernel
theorem dX4_bestMix_57 : decode cX4_bestMix 57 = .ok (.iload 5, 2) := by decide +kernel
theorem dX4_bestMix_59 : decode cX4_bestMix 59 = .ok (.aaload, 1) := by decide +kernel
theorem dX4_bestMix_60 : decode cX4_bestMix 60 = .ok (.invokevirtual 160, 3) := by decide +kernel
theorem dX4_bestMix_63 : decode cX4_bestMix 63 = .ok (.ifCond .eq 59, 3) := by decide +kernel
theorem dX4_bestMix_66 : decode cX4_bestMix 66 = .ok (.aload_n 0, 1) := by decide +kernel
theorem dX4_bestMix_67 : decode cX4_bestMix 67 = .ok (.getfield 24, 3) := by decide +kernel
theorem dX4_bestMix_70 : decode cX4_bestMix 70 = .ok (.iload 6, 2) := by decide +kernel
theorem dX4_bestMix_72 : decode cX4_bestMix 72 = .ok (.aaload, 1) := by decide +kernel
theorem dX4_bestMix_73 : decode cX4_bestMix 73 = .ok (.invokevirtual 160, 3) := by decide +kernel
theorem dX4_bestMix_76 : decode cX4_bestMix 76 = .ok (.ifCond .eq 46, 3) := by decide +kernel
theorem dX4_bestMix_79 : decode cX4_bestMix 79 = .ok (.sipush 1000, 3) := by decide +kernel
theorem dX4_bestMix_82 : decode cX4_bestMix 82 = .ok (.iload 5, 2) := by decide +kernel
theorem dX4_bestMix_84 : decode cX4_bestMix 84 = .ok (.imul, 1) := by decide +kernel
theorem dX4_bestMix_85 : decode cX4_bestMix 85 = .ok (.bipush 10, 2) := by decide +kernel
theorem dX4_bestMix_87 : decode cX4_bestMix 87 = .ok (.iload 6, 2) := by decide +kernel
theorem dX4_bestMix_89 : decode cX4_bestMix 89 = .ok (.imul, 1) := by decide +kernel
theorem dX4_bestMix_90 : decode cX4_bestMix 90 = .ok (.iadd, 1) := by decide +kernel
theorem dX4_bestMix_91 : decode cX4_bestMix 91 = .ok (.istore 7, 2) := by decide +kernel
theorem dX4_bestMix_93 : decode cX4_bestMix 93 = .ok (.iload 4, 2) := by decide +kernel
theorem dX4_bestMix_95 : decode cX4_bestMix 95 = .ok (.iload 7, 2) := by decide +kernel
theorem dX4_bestMix_97 : decode cX4_bestMix 97 = .ok (.aload_n 0, 1) := by decide +kernel
theorem dX4_bestMix_98 : decode cX4_bestMix 98 = .ok (.getfield 24, 3) := by decide +kernel
theorem dX4_bestMix_101 : decode cX4_bestMix 101 = .ok (.iload 5, 2) := by decide +kernel
theorem dX4_bestMix_103 : decode cX4_bestMix 103 = .ok (.aaload, 1) := by decide +kernel
theorem dX4_bestMix_104 : decode cX4_bestMix 104 = .ok (.aload_n 0, 1) := by decide +kernel
theorem dX4_bestMix_105 : decode cX4_bestMix 105 = .ok (.getfield 24, 3) := by decide +kernel
theorem dX4_bestMix_108 : decode cX4_bestMix 108 = .ok (.iload 6, 2) := by decide +kernel
theorem dX4_bestMix_110 : decode cX4_bestMix 110 = .ok (.aaload, 1) := by decide +kernel
theorem dX4_bestMix_111 : decode cX4_bestMix 111 = .ok (.iload_n 1, 1) := by decide +kernel
theorem dX4_bestMix_112 : decode cX4_bestMix 112 = .ok (.iload_n 2, 1) := by decide +kernel
theorem dX4_bestMix_113 : decode cX4_bestMix 113 = .ok (.iload_n 3, 1) := by decide +kernel
theorem dX4_bestMix_114 : decode cX4_bestMix 114 = .ok (.invokestatic 285, 3) := by decide +kernel
theorem dX4_bestMix_117 : decode cX4_bestMix 117 = .ok (.invokestatic 95, 3) := by decide +kernel
theorem dX4_bestMix_120 : decode cX4_bestMix 120 = .ok (.istore 4, 2) := by decide +kernel
theorem dX4_bestMix_122 : decode cX4_bestMix 122 = .ok (.iinc 6 1, 3) := by decide +kernel
theorem dX4_bestMix_125 : decode cX4_bestMix 125 = .ok (.goto (-81), 3) := by decide +kernel
theorem dX4_bestMix_128 : decode cX4_bestMix 128 = .ok (.iinc 5 1, 3) := by decide +kernel
theorem dX4_bestMix_131 : decode cX4_bestMix 131 = .ok (.goto (-102), 3) := by decide +kernel
theorem dX4_bestMix_134 : decode cX4_bestMix 134 = .ok (.iload 4, 2) := by decide +kernel
theorem dX4_bestMix_136 : decode cX4_bestMix 136 = .ok (.ldc_w 284, 3) := by decide +kernel
theorem dX4_bestMix_139 : decode cX4_bestMix 139 = .ok (.if_icmp .ne 7, 3) := by decide +kernel
theorem dX4_bestMix_142 : decode cX4_bestMix 142 = .ok (.iconst (-1), 1) := by decide +kernel
theorem dX4_bestMix_143 : decode cX4_bestMix 143 = .ok (.goto 9, 3) := by decide +kernel
theorem dX4_bestMix_146 : decode cX4_bestMix 146 = .ok (.iload 4, 2) := by decide +kernel
theorem dX4_bestMix_148 : decode cX4_bestMix 148 = .ok (.ldc_w 289, 3) := by decide +kernel
theorem dX4_bestMix_151 : decode cX4_bestMix 151 = .ok (.irem, 1) := by decide +kernel
theorem dX4_bestMix_152 : decode cX4_bestMix 152 = .ok (.ireturn, 1) := by decide +kernel
theorem dX4_wouldPay_0 : decode cX4_wouldPay 0 = .ok (.aload_n 0, 1) := by decide +kernel
theorem dX4_wouldPay_1 : decode cX4_wouldPay 1 = .ok (.iload_n 1, 1) := by decide +kernel
theorem dX4_wouldPay_2 : decode cX4_wouldPay 2 = .ok (.invokevirtual 126, 3) := by decide +kernel
theorem dX4_wouldPay_5 : decode cX4_wouldPay 5 = .ok (.astore_n 2, 1) := by decide +kernel
theorem dX4_wouldPay_6 : decode cX4_wouldPay 6 = .ok (.aload_n 2, 1) := by decide +kernel
theorem dX4_wouldPay_7 : decode cX4_wouldPay 7 = .ok (.getfield 211, 3) := by decide +kernel
theorem dX4_wouldPay_10 : decode cX4_wouldPay 10 = .ok (.invokevirtual 220, 3) := by decide +kernel
theorem dX4_wouldPay_13 : decode cX4_wouldPay 13 = .ok (.invokestatic 64, 3) := by decide +kernel
theorem dX4_wouldPay_16 : decode cX4_wouldPay 16 = .ok (.aload_n 0, 1) := by decide +kernel
theorem dX4_wouldPay_17 : decode cX4_wouldPay 17 = .ok (.aload_n 2, 1) := by decide +kernel
theorem dX4_wouldPay_18 : decode cX4_wouldPay 18 = .ok (.invokevirtual 229, 3) := by decide +kernel
theorem dX4_wouldPay_21 : decode cX4_wouldPay 21 = .ok (.istore_n 3, 1) := by decide +kernel
theorem dX4_wouldPay_22 : decode cX4_wouldPay 22 = .ok (.iload_n 3, 1) := by decide +kernel
theorem dX4_wouldPay_23 : decode cX4_wouldPay 23 = .ok (.iconst (-1), 1) := by decide +kernel
theorem dX4_wouldPay_24 : decode cX4_wouldPay 24 = .ok (.if_icmp .ne 7, 3) := by decide +kernel
theorem dX4_wouldPay_27 : decode cX4_wouldPay 27 = .ok (.iconst 0, 1) := by decide +kernel
theorem dX4_wouldPay_28 : decode cX4_wouldPay 28 = .ok (.goto 13, 3) := by decide +kernel
theorem dX4_wouldPay_31 : decode cX4_wouldPay 31 = .ok (.aload_n 2, 1) := by decide +kernel
theorem dX4_wouldPay_32 : decode cX4_wouldPay 32 = .ok (.aload_n 0, 1) := by decide +kernel
theorem dX4_wouldPay_33 : decode cX4_wouldPay 33 = .ok (.aload_n 2, 1) := by decide +kernel
theorem dX4_wouldPay_34 : decode cX4_wouldPay 34 = .ok (.iload_n 3, 1) := by decide +kernel
theorem dX4_wouldPay_35 : decode cX4_wouldPay 35 = .ok (.invokevirtual 233, 3) := by decide +kernel
theorem dX4_wouldPay_38 : decode cX4_wouldPay 38 = .ok (.invokestatic 237, 3) := by decide +kernel
theorem dX4_wouldPay_41 : decode cX4_wouldPay 41 = .ok (.ireturn, 1) := by decide +kernel
theorem dX4_digest_0 : decode cX4_digest 0 = .ok (.ldc2_w 290, 3) := by decide +kernel
theorem dX4_digest_3 : decode cX4_digest 3 = .ok (.lstore_n 1, 1) := by decide +kernel
theorem dX4_digest_4 : decode cX4_digest 4 = .ok (.iconst 0, 1) := by decide +kernel
theorem dX4_digest_5 : decode cX4_digest 5 = .ok (.istore_n 3, 1) := by decide +kernel
theorem dX4_digest_6 : decode cX4_digest 6 = .ok (.iload_n 3, 1) := by decide +kernel
theorem dX4_digest_7 : decode cX4_digest 7 = .ok (.bipush 14, 2) := by decide +kernel
theorem dX4_digest_9 : decode cX4_digest 9 = .ok (.if_icmp .gt 22, 3) := by decide +kernel
theorem dX4_digest_12 : decode cX4_digest 12 = .ok (.lload_n 1, 1) := by decide +kernel
theorem dX4_digest_13 : decode cX4_digest 13 = .ok (.ldc2_w 292, 3) := by decide +kernel
theorem dX4_digest_16 : decode cX4_digest 16 = .ok (.lmul, 1) := by decide +kernel
theorem dX4_digest_17 : decode cX4_digest 17 = .ok (.aload_n 0, 1) := by decide +kernel
theorem dX4_digest_18 : decode cX4_digest 18 = .ok (.iload_n 3, 1) := by decide +kernel
theorem dX4_digest_19 : decode cX4_digest 19 = .ok (.invokevirtual 294, 3) := by decide +kernel
theorem dX4_digest_22 : decode cX4_digest 22 = .ok (.i2l, 1) := by decide +kernel
theorem dX4_digest_23 : decode cX4_digest 23 = .ok (.ladd, 1) := by decide +kernel
theorem dX4_digest_24 : decode cX4_digest 24 = .ok (.lstore_n 1, 1) := by decide +kernel
theorem dX4_digest_25 : decode cX4_digest 25 = .ok (.iinc 3 1, 3) := by decide +kernel
theorem dX4_digest_28 : decode cX4_digest 28 = .ok (.goto (-22), 3) := by decide +kernel
theorem dX4_digest_31 : decode cX4_digest 31 = .ok (.iconst 0, 1) := by decide +kernel
theorem dX4_digest_32 : decode cX4_digest 32 = .ok (.istore_n 3, 1) := by decide +kernel
theorem dX4_digest_33 : decode cX4_digest 33 = .ok (.iload_n 3, 1) := by decide +kernel
theorem dX4_digest_34 : decode cX4_digest 34 = .ok (.aload_n 0, 1) := by decide +kernel
theorem dX4_digest_35 : decode cX4_digest 35 = .ok (.getfield 15, 3) := by decide +kernel
theorem dX4_digest_38 : decode cX4_digest 38 = .ok (.if_icmp .ge 55, 3) := by decide +kernel
theorem dX4_digest_41 : decode cX4_digest 41 = .ok (.iconst 0, 1) := by decide +kernel
theorem dX4_digest_42 : decode cX4_digest 42 = .ok (.istore 4, 2) := by decide +kernel
theorem dX4_digest_44 : decode cX4_digest 44 = .ok (.iload 4, 2) := by decide +kernel
theorem dX4_digest_46 : decode cX4_digest 46 = .ok (.bipush 10, 2) := by decide +kernel
theorem dX4_digest_48 : decode cX4_digest 48 = .ok (.if_icmp .gt 24, 3) := by decide +kernel
theorem dX4_digest_51 : decode cX4_digest 51 = .ok (.lload_n 1, 1) := by decide +kernel
theorem dX4_digest_52 : decode cX4_digest 52 = .ok (.ldc2_w 292, 3) := by decide +kernel
theorem dX4_digest_55 : decode cX4_digest 55 = .ok (.lmul, 1) := by decide +kernel
theorem dX4_digest_56 : decode cX4_digest 56 = .ok (.aload_n 0, 1) := by decide +kernel
theorem dX4_digest_57 : decode cX4_digest 57 = .ok (.iload_n 3, 1) := by decide +kernel
theorem dX4_digest_58 : decode cX4_digest 58 = .ok (.iload 4, 2) := by decide +kernel
theorem dX4_digest_60 : decode cX4_digest 60 = .ok (.invokevirtual 297, 3) := by decide +kernel
theorem dX4_digest_63 : decode cX4_digest 63 = .ok (.i2l, 1) := by decide +kernel
theorem dX4_digest_64 : decode cX4_digest 64 = .ok (.ladd, 1) := by decide +kernel
theorem dX4_digest_65 : decode cX4_digest 65 = .ok (.lstore_n 1, 1) := by decide +kernel
theorem dX4_digest_66 : decode cX4_digest 66 = .ok (.iinc 4 1, 3) := by decide +kernel
theorem dX4_digest_69 : decode cX4_digest 69 = .ok (.goto (-25), 3) := by decide +kernel
theorem dX4_digest_72 : decode cX4_digest 72 = .ok (.lload_n 1, 1) := by decide +kernel
theorem dX4_digest_73 : decode cX4_digest 73 = .ok (.ldc2_w 292, 3) := by decide +kernel
theorem dX4_digest_76 : decode cX4_digest 76 = .ok (.lmul, 1) := by decide +kernel
theorem dX4_digest_77 : decode cX4_digest 77 = .ok (.aload_n 0, 1) := by decide +kernel
theorem dX4_digest_78 : decode cX4_digest 78 = .ok (.iload_n 3, 1) := by decide +kernel
theorem dX4_digest_79 : decode cX4_digest 79 = .ok (.iconst 3, 1) := by decide +kernel
theorem dX4_digest_80 : decode cX4_digest 80 = .ok (.iconst 2, 1) := by decide +kernel
theorem dX4_digest_81 : decode cX4_digest 81 = .ok (.invokevirtual 300, 3) := by decide +kernel
theorem dX4_digest_84 : decode cX4_digest 84 = .ok (.i2l, 1) := by decide +kernel
theorem dX4_digest_85 : decode cX4_digest 85 = .ok (.ladd, 1) := by decide +kernel
theorem dX4_digest_86 : decode cX4_digest 86 = .ok (.lstore_n 1, 1) := by decide +kernel
theorem dX4_digest_87 : decode cX4_digest 87 = .ok (.iinc 3 1, 3) := by decide +kernel
theorem dX4_digest_90 : decode cX4_digest 90 = .ok (.goto (-57), 3) := by decide +kernel
theorem dX4_digest_93 : decode cX4_digest 93 = .ok (.iconst 0, 1) := by decide +kernel
theorem dX4_digest_94 : decode cX4_digest 94 = .ok (.istore_n 3, 1) := by decide +kernel
theorem dX4_digest_95 : decode cX4_digest 95 = .ok (.iload_n 3, 1) := by decide +kernel
theorem dX4_digest_96 : decode cX4_digest 96 = .ok (.aload_n 0, 1) := by decide +kernel
theorem dX4_digest_97 : decode cX4_digest 97 = .ok (.getfield 28, 3) := by decide +kernel
theorem dX4_digest_100 : decode cX4_digest 100 = .ok (.if_icmp .ge 16, 3) := by decide +kernel
theorem dX4_digest_103 : decode cX4_digest 103 = .ok (.aload_n 0, 1) := by decide +kernel
theorem dX4_digest_104 : decode cX4_digest 104 = .ok (.lload_n 1, 1) := by decide +kernel
theorem dX4_digest_105 : decode cX4_digest 105 = .ok (.iload_n 3, 1) := by decide +kernel
theorem dX4_digest_106 : decode cX4_digest 106 = .ok (.invokevirtual 304, 3) := by decide +kernel
theorem dX4_digest_109 : decode cX4_digest 109 = .ok (.lstore_n 1, 1) := by decide +kernel
theorem dX4_digest_110 : decode cX4_digest 110 = .ok (.iinc 3 1, 3) := by decide +kernel
theorem dX4_digest_113 : decode cX4_digest 113 = .ok (.goto (-18), 3) := by decide +kernel
theorem dX4_digest_116 : decode cX4_digest 116 = .ok (.iconst 0, 1) := by decide +kernel
theorem dX4_digest_117 : decode cX4_digest 117 = .ok (.istore_n 3, 1) := by decide +kernel
theorem dX4_digest_118 : decode cX4_digest 118 = .ok (.iload_n 3, 1) := by decide +kernel
theorem dX4_digest_119 : decode cX4_digest 119 = .ok (.iconst 3, 1) := by decide +kernel
theorem dX4_digest_120 : decode cX4_digest 120 = .ok (.if_icmp .ge 37, 3) := by decide +kernel
theorem dX4_digest_123 : decode cX4_digest 123 = .ok (.lload_n 1, 1) := by decide +kernel
theorem dX4_digest_124 : decode cX4_digest 124 = .ok (.ldc2_w 292, 3) := by decide +kernel
theorem dX4_digest_127 : decode cX4_digest 127 = .ok (.lmul, 1) := by decide +kernel
theorem dX4_digest_128 : decode cX4_digest 128 = .ok (.aload_n 0, 1) := by decide +kernel
theorem dX4_digest_129 : decode cX4_digest 129 = .ok (.iload_n 3, 1) := by decide +kernel
theorem dX4_digest_130 : decode cX4_digest 130 = .ok (.iconst 0, 1) := by decide +kernel
theorem dX4_digest_131 : decode cX4_digest 131 = .ok (.invokevirtual 308, 3) := by decide +kernel
theorem dX4_digest_134 : decode cX4_digest 134 = .ok (.i2l, 1) := by decide +kernel
theorem dX4_digest_135 : decode cX4_digest 135 = .ok (.ladd, 1) := by decide +kernel
theorem dX4_digest_136 : decode cX4_digest 136 = .ok (.lstore_n 1, 1) := by decide +kernel
theorem dX4_digest_137 : decode cX4_digest 137 = .ok (.lload_n 1, 1) := by decide +kernel
theorem dX4_digest_138 : decode cX4_digest 138 = .ok (.ldc2_w 292, 3) := by decide +kernel
theorem dX4_digest_141 : decode cX4_digest 141 = .ok (.lmul, 1) := by decide +kernel
theorem dX4_digest_142 : decode cX4_digest 142 = .ok (.aload_n 0, 1) := by decide +kernel
theorem dX4_digest_143 : decode cX4_digest 143 = .ok (.iload_n 3, 1) := by decide +kernel
theorem dX4_digest_144 : decode cX4_digest 144 = .ok (.iconst 1, 1) := by decide +kernel
theorem dX4_digest_145 : decode cX4_digest 145 = .ok (.invokevirtual 308, 3) := by decide +kernel
theorem dX4_digest_148 : decode cX4_digest 148 = .ok (.i2l, 1) := by decide +kernel
theorem dX4_digest_149 : decode cX4_digest 149 = .ok (.ladd, 1) := by decide +kernel
theorem dX4_digest_150 : decode cX4_digest 150 = .ok (.lstore_n 1, 1) := by decide +kernel
theorem dX4_digest_151 : decode cX4_digest 151 = .ok (.iinc 3 1, 3) := by decide +kernel
theorem dX4_digest_154 : decode cX4_digest 154 = .ok (.goto (-36), 3) := by decide +kernel
theorem dX4_digest_157 : decode cX4_digest 157 = .ok (.lload_n 1, 1) := by decide +kernel
theorem dX4_digest_158 : decode cX4_digest 158 = .ok (.ldc2_w 292, 3) := by decide +kernel
theorem dX4_digest_161 : decode cX4_digest 161 = .ok (.lmul, 1) := by decide +kernel
theorem dX4_digest_162 : decode cX4_digest 162 = .ok (.aload_n 0, 1) := by decide +kernel
theorem dX4_digest_163 : decode cX4_digest 163 = .ok (.iconst 3, 1) := by decide +kernel
theorem dX4_digest_164 : decode cX4_digest 164 = .ok (.iconst 3, 1) := by decide +kernel
theorem dX4_digest_165 : decode cX4_digest 165 = .ok (.iconst 3, 1) := by decide +kernel
theorem dX4_digest_166 : decode cX4_digest 166 = .ok (.invokevirtual 311, 3) := by decide +kernel
theorem dX4_digest_169 : decode cX4_digest 169 = .ok (.i2l, 1) := by decide +kernel
theorem dX4_digest_170 : decode cX4_digest 170 = .ok (.ladd, 1) := by decide +kernel
theorem dX4_digest_171 : decode cX4_digest 171 = .ok (.lreturn, 1) := by decide +kernel
theorem dX4_digestLot_0 : decode cX4_digestLot 0 = .ok (.lload_n 1, 1) := by decide +kernel
theorem dX4_digestLot_1 : decode cX4_digestLot 1 = .ok (.lstore 4, 2) := by decide +kernel
theorem dX4_digestLot_3 : decode cX4_digestLot 3 = .ok (.iconst 0, 1) := by decide +kernel
theorem dX4_digestLot_4 : decode cX4_digestLot 4 = .ok (.istore 6, 2) := by decide +kernel
theorem dX4_digestLot_6 : decode cX4_digestLot 6 = .ok (.iload 6, 2) := by decide +kernel
theorem dX4_digestLot_8 : decode cX4_digestLot 8 = .ok (.bipush 17, 2) := by decide +kernel
theorem dX4_digestLot_10 : decode cX4_digestLot 10 = .ok (.if_icmp .gt 26, 3) := by decide +kernel
theorem dX4_digestLot_13 : decode cX4_digestLot 13 = .ok (.lload 4, 2) := by decide +kernel
theorem dX4_digestLot_15 : decode cX4_digestLot 15 = .ok (.ldc2_w 292, 3) := by decide +kernel
theorem dX4_digestLot_18 : decode cX4_digestLot 18 = .ok (.lmul, 1) := by decide +kernel
theorem dX4_digestLot_19 : decode cX4_digestLot 19 = .ok (.aload_n 0, 1) := by decide +kernel
theorem dX4_digestLot_20 : decode cX4_digestLot 20 = .ok (.iload_n 3, 1) := by decide +kernel
theorem dX4_digestLot_21 : decode cX4_digestLot 21 = .ok (.iload 6, 2) := by decide +kernel
theorem dX4_digestLot_23 : decode cX4_digestLot 23 = .ok (.invokevirtual 314, 3) := by decide +kernel
theorem dX4_digestLot_26 : decode cX4_digestLot 26 = .ok (.i2l, 1) := by decide +kernel
theorem dX4_digestLot_27 : decode cX4_digestLot 27 = .ok (.ladd, 1) := by decide +kernel
theorem dX4_digestLot_28 : decode cX4_digestLot 28 = .ok (.lstore 4, 2) := by decide +kernel
theorem dX4_digestLot_30 : decode cX4_digestLot 30 = .ok (.iinc 6 1, 3) := by decide +kernel
theorem dX4_digestLot_33 : decode cX4_digestLot 33 = .ok (.goto (-27), 3) := by decide +kernel
theorem dX4_digestLot_36 : decode cX4_digestLot 36 = .ok (.aload_n 0, 1) := by decide +kernel
theorem dX4_digestLot_37 : decode cX4_digestLot 37 = .ok (.iload_n 3, 1) := by decide +kernel
theorem dX4_digestLot_38 : decode cX4_digestLot 38 = .ok (.invokevirtual 126, 3) := by decide +kernel
theorem dX4_digestLot_41 : decode cX4_digestLot 41 = .ok (.astore 6, 2) := by decide +kernel
theorem dX4_digestLot_43 : decode cX4_digestLot 43 = .ok (.iconst 0, 1) := by decide +kernel
theorem dX4_digestLot_44 : decode cX4_digestLot 44 = .ok (.istore 7, 2) := by decide +kernel
theorem dX4_digestLot_46 : decode cX4_digestLot 46 = .ok (.aload 6, 2) := by decide +kernel
theorem dX4_digestLot_48 : decode cX4_digestLot 48 = .ok (.getfield 107, 3) := by decide +kernel
theorem dX4_digestLot_51 : decode cX4_digestLot 51 = .ok (.iconst 2, 1) := by decide +kernel
theorem dX4_digestLot_52 : decode cX4_digestLot 52 = .ok (.if_icmp .ne 32, 3) := by decide +kernel
theorem dX4_digestLot_55 : decode cX4_digestLot 55 = .ok (.iload 7, 2) := by decide +kernel
theorem dX4_digestLot_57 : decode cX4_digestLot 57 = .ok (.iconst 3, 1) := by decide +kernel
theorem dX4_digestLot_58 : decode cX4_digestLot 58 = .ok (.if_icmp .ge 26, 3) := by decide +kernel
theorem dX4_digestLot_61 : decode cX4_digestLot 61 = .ok (.lload 4, 2) := by decide +kernel
theorem dX4_digestLot_63 : decode cX4_digestLot 63 = .ok (.ldc2_w 292, 3) := by decide +kernel
theorem dX4_digestLot_66 : decode cX4_digestLot 66 = .ok (.lmul, 1) := by decide +kernel
theorem dX4_digestLot_67 : decode cX4_digestLot 67 = .ok (.aload_n 0, 1) := by decide +kernel
theorem dX4_digestLot_68 : decode cX4_digestLot 68 = .ok (.iload_n 3, 1) := by decide +kernel
theorem dX4_digestLot_69 : decode cX4_digestLot 69 = .ok (.iload 7, 2) := by decide +kernel
theorem dX4_digestLot_71 : decode cX4_digestLot 71 = .ok (.invokevirtual 255, 3) := by decide +kernel
theorem dX4_digestLot_74 : decode cX4_digestLot 74 = .ok (.i2l, 1) := by decide +kernel
theorem dX4_digestLot_75 : decode cX4_digestLot 75 = .ok (.ladd, 1) := by decide +kernel
theorem dX4_digestLot_76 : decode cX4_digestLot 76 = .ok (.lstore 4, 2) := by decide +kernel
theorem dX4_digestLot_78 : decode cX4_digestLot 78 = .ok (.iinc 7 1, 3) := by decide +kernel
theorem dX4_digestLot_81 : decode cX4_digestLot 81 = .ok (.goto (-35), 3) := by decide +kernel
theorem dX4_digestLot_84 : decode cX4_digestLot 84 = .ok (.iconst 0, 1) := by decide +kernel
theorem dX4_digestLot_85 : decode cX4_digestLot 85 = .ok (.istore 7, 2) := by decide +kernel
theorem dX4_digestLot_87 : decode cX4_digestLot 87 = .ok (.aload 6, 2) := by decide +kernel
theorem dX4_digestLot_89 : decode cX4_digestLot 89 = .ok (.getfield 107, 3) := by decide +kernel
theorem dX4_digestLot_92 : decode cX4_digestLot 92 = .ok (.iconst 2, 1) := by decide +kernel
theorem dX4_digestLot_93 : decode cX4_digestLot 93 = .ok (.if_icmp .ne 32, 3) := by decide +kernel
theorem dX4_digestLot_96 : decode cX4_digestLot 96 = .ok (.iload 7, 2) := by decide +kernel
theorem dX4_digestLot_98 : decode cX4_digestLot 98 = .ok (.iconst 3, 1) := by decide +kernel
theorem dX4_digestLot_99 : decode cX4_digestLot 99 = .ok (.if_icmp .ge 26, 3) := by decide +kernel
theorem dX4_digestLot_102 : decode cX4_digestLot 102 = .ok (.lload 4, 2) := by decide +kernel
theorem dX4_digestLot_104 : decode cX4_digestLot 104 = .ok (.ldc2_w 292, 3) := by decide +kernel
theorem dX4_digestLot_107 : decode cX4_digestLot 107 = .ok (.lmul, 1) := by decide +kernel
theorem dX4_digestLot_108 : decode cX4_digestLot 108 = .ok (.aload_n 0, 1) := by decide +kernel
theorem dX4_digestLot_109 : decode cX4_digestLot 109 = .ok (.iload_n 3, 1) := by decide +kernel
theorem dX4_digestLot_110 : decode cX4_digestLot 110 = .ok (.iload 7, 2) := by decide +kernel
theorem dX4_digestLot_112 : decode cX4_digestLot 112 = .ok (.invokevirtual 317, 3) := by decide +kernel
theorem dX4_digestLot_115 : decode cX4_digestLot 115 = .ok (.i2l, 1) := by decide +kernel
theorem dX4_digestLot_116 : decode cX4_digestLot 116 = .ok (.ladd, 1) := by decide +kernel
theorem dX4_digestLot_117 : decode cX4_digestLot 117 = .ok (.lstore 4, 2) := by decide +kernel
theorem dX4_digestLot_119 : decode cX4_digestLot 119 = .ok (.iinc 7 1, 3) := by decide +kernel
theorem dX4_digestLot_122 : decode cX4_digestLot 122 = .ok (.goto (-35), 3) := by decide +kernel
theorem dX4_digestLot_125 : decode cX4_digestLot 125 = .ok (.aload 6, 2) := by decide +kernel
theorem dX4_digestLot_127 : decode cX4_digestLot 127 = .ok (.getfield 107, 3) := by decide +kernel
theorem dX4_digestLot_130 : decode cX4_digestLot 130 = .ok (.iconst 1, 1) := by decide +kernel
theorem dX4_digestLot_131 : decode cX4_digestLot 131 = .ok (.if_icmp .ne 18, 3) := by decide +kernel
theorem dX4_digestLot_134 : decode cX4_digestLot 134 = .ok (.lload 4, 2) := by decide +kernel
theorem dX4_digestLot_136 : decode cX4_digestLot 136 = .ok (.ldc2_w 292, 3) := by decide +kernel
theorem dX4_digestLot_139 : decode cX4_digestLot 139 = .ok (.lmul, 1) := by decide +kernel
theorem dX4_digestLot_140 : decode cX4_digestLot 140 = .ok (.aload_n 0, 1) := by decide +kernel
theorem dX4_digestLot_141 : decode cX4_digestLot 141 = .ok (.iload_n 3, 1) := by decide +kernel
theorem dX4_digestLot_142 : decode cX4_digestLot 142 = .ok (.invokevirtual 320, 3) := by decide +kernel
theorem dX4_digestLot_145 : decode cX4_digestLot 145 = .ok (.i2l, 1) := by decide +kernel
theorem dX4_digestLot_146 : decode cX4_digestLot 146 = .ok (.ladd, 1) := by decide +kernel
theorem dX4_digestLot_147 : decode cX4_digestLot 147 = .ok (.lstore 4, 2) := by decide +kernel
theorem dX4_digestLot_149 : decode cX4_digestLot 149 = .ok (.aload 6, 2) := by decide +kernel
theorem dX4_digestLot_151 : decode cX4_digestLot 151 = .ok (.getfield 211, 3) := by decide +kernel
theorem dX4_digestLot_154 : decode cX4_digestLot 154 = .ok (.invokevirtual 220, 3) := by decide +kernel
theorem dX4_digestLot_157 : decode cX4_digestLot 157 = .ok (.ifCond .eq 50, 3) := by decide +kernel
theorem dX4_digestLot_160 : decode cX4_digestLot 160 = .ok (.lload 4, 2) := by decide +kernel
theorem dX4_digestLot_162 : decode cX4_digestLot 162 = .ok (.ldc2_w 292, 3) := by decide +kernel
theorem dX4_digestLot_165 : decode cX4_digestLot 165 = .ok (.lmul, 1) := by decide +kernel
theorem dX4_digestLot_166 : decode cX4_digestLot 166 = .ok (.aload_n 0, 1) := by decide +kernel
theorem dX4_digestLot_167 : decode cX4_digestLot 167 = .ok (.iload_n 3, 1) := by decide +kernel
theorem dX4_digestLot_168 : decode cX4_digestLot 168 = .ok (.invokevirtual 323, 3) := by decide +kernel
theorem dX4_digestLot_171 : decode cX4_digestLot 171 = .ok (.i2l, 1) := by decide +kernel
theorem dX4_digestLot_172 : decode cX4_digestLot 172 = .ok (.ladd, 1) := by decide +kernel
theorem dX4_digestLot_173 : decode cX4_digestLot 173 = .ok (.lstore 4, 2) := by decide +kernel
theorem dX4_digestLot_175 : decode cX4_digestLot 175 = .ok (.iconst 0, 1) := by decide +kernel
theorem dX4_digestLot_176 : decode cX4_digestLot 176 = .ok (.istore 7, 2) := by decide +kernel
theorem dX4_digestLot_178 : decode cX4_digestLot 178 = .ok (.iload 7, 2) := by decide +kernel
theorem dX4_digestLot_180 : decode cX4_digestLot 180 = .ok (.iconst 4, 1) := by decide +kernel
theorem dX4_digestLot_181 : decode cX4_digestLot 181 = .ok (.if_icmp .ge 26, 3) := by decide +kernel
theorem dX4_digestLot_184 : decode cX4_digestLot 184 = .ok (.lload 4, 2) := by decide +kernel
theorem dX4_digestLot_186 : decode cX4_digestLot 186 = .ok (.ldc2_w 292, 3) := by decide +kernel
theorem dX4_digestLot_189 : decode cX4_digestLot 189 = .ok (.lmul, 1) := by decide +kernel
theorem dX4_digestLot_190 : decode cX4_digestLot 190 = .ok (.aload_n 0, 1) := by decide +kernel
theorem dX4_digestLot_191 : decode cX4_digestLot 191 = .ok (.iload 7, 2) := by decide +kernel
theorem dX4_digestLot_193 : decode cX4_digestLot 193 = .ok (.iload_n 3, 1) := by decide +kernel
theorem dX4_digestLot_194 : decode cX4_digestLot 194 = .ok (.invokevirtual 326, 3) := by decide +kernel
theorem dX4_digestLot_197 : decode cX4_digestLot 197 = .ok (.i2l, 1) := by decide +kernel
theorem dX4_digestLot_198 : decode cX4_digestLot 198 = .ok (.ladd, 1) := by decide +kernel
theorem dX4_digestLot_199 : decode cX4_digestLot 199 = .ok (.lstore 4, 2) := by decide +kernel
theorem dX4_digestLot_201 : decode cX4_digestLot 201 = .ok (.iinc 7 1, 3) := by decide +kernel
theorem dX4_digestLot_204 : decode cX4_digestLot 204 = .ok (.goto (-26), 3) := by decide +kernel
theorem dX4_digestLot_207 : decode cX4_digestLot 207 = .ok (.lload 4, 2) := by decide +kernel
theorem dX4_digestLot_209 : decode cX4_digestLot 209 = .ok (.lreturn, 1) := by decide +kernel
theorem dX4_requireArgument_0 : decode cX4_requireArgument 0 = .ok (.iload_n 0, 1) := by decide +kernel
theorem dX4_requireArgument_1 : decode cX4_requireArgument 1 = .ok (.iload_n 1, 1) := by decide +kernel
theorem dX4_requireArgument_2 : decode cX4_requireArgument 2 = .ok (.if_icmp .lt 8, 3) := by decide +kernel
theorem dX4_requireArgument_5 : decode cX4_requireArgument 5 = .ok (.iload_n 0, 1) := by decide +kernel
theorem dX4_requireArgument_6 : decode cX4_requireArgument 6 = .ok (.iload_n 2, 1) := by decide +kernel
theorem dX4_requireArgument_7 : decode cX4_requireArgument 7 = .ok (.if_icmp .le 11, 3) := by decide +kernel
theorem dX4_requireArgument_10 : decode cX4_requireArgument 10 = .ok (.new 329, 3) := by decide +kernel
theorem dX4_requireArgument_13 : decode cX4_requireArgument 13 = .ok (.dup, 1) := by decide +kernel
theorem dX4_requireArgument_14 : decode cX4_requireArgument 14 = .ok (.invokespecial 331, 3) := by decide +kernel
theorem dX4_requireArgument_17 : decode cX4_requireArgument 17 = .ok (.athrow, 1) := by decide +kernel
theorem dX4_requireArgument_18 : decode cX4_requireArgument 18 = .ok (.return_, 1) := by decide +kernel
theorem dX4_requireDifferent_0 : decode cX4_requireDifferent 0 = .ok (.iload_n 0, 1) := by decide +kernel
theorem dX4_requireDifferent_1 : decode cX4_requireDifferent 1 = .ok (.iload_n 1, 1) := by decide +kernel
theorem dX4_requireDifferent_2 : decode cX4_requireDifferent 2 = .ok (.if_icmp .ne 11, 3) := by decide +kernel
theorem dX4_requireDifferent_5 : decode cX4_requireDifferent 5 = .ok (.new 329, 3) := by decide +kernel
theorem dX4_requireDifferent_8 : decode cX4_requireDifferent 8 = .ok (.dup, 1) := by decide +kernel
theorem dX4_requireDifferent_9 : decode cX4_requireDifferent 9 = .ok (.invokespecial 331, 3) := by decide +kernel
theorem dX4_requireDifferent_12 : decode cX4_requireDifferent 12 = .ok (.athrow, 1) := by decide +kernel
theorem dX4_requireDifferent_13 : decode cX4_requireDifferent 13 = .ok (.return_, 1) := by decide +kernel
theorem dX4_requireIndex_0 : decode cX4_requireIndex 0 = .ok (.iload_n 0, 1) := by decide +kernel
theorem dX4_requireIndex_1 : decode cX4_requireIndex 1 = .ok (.ifCond .lt 8, 3) := by decide +kernel
theorem dX4_requireIndex_4 : decode cX4_requireIndex 4 = .ok (.iload_n 0, 1) := by decide +kernel
theorem dX4_requireIndex_5 : decode cX4_requireIndex 5 = .ok (.iload_n 1, 1) := by decide +kernel
theorem dX4_requireIndex_6 : decode cX4_requireIndex 6 = .ok (.if_icmp .lt 11, 3) := by decide +kernel
theorem dX4_requireIndex_9 : decode cX4_requireIndex 9 = .ok (.new 332, 3) := by decide +kernel
theorem dX4_requireIndex_12 : decode cX4_requireIndex 12 = .ok (.dup, 1) := by decide +kernel
theorem dX4_requireIndex_13 : decode cX4_requireIndex 13 = .ok (.invokespecial 334, 3) := by decide +kernel
theorem dX4_requireIndex_16 : decode cX4_requireIndex 16 = .ok (.athrow, 1) := by decide +kernel
theorem dX4_requireIndex_17 : decode cX4_requireIndex 17 = .ok (.return_, 1) := by decide +kernel
theorem dX4_requireState_0 : decode cX4_requireState 0 = .ok (.iload_n 0, 1) := by decide +kernel
theorem dX4_requireState_1 : decode cX4_requireState 1 = .ok (.ifCond .ne 11, 3) := by decide +kernel
theorem dX4_requireState_4 : decode cX4_requireState 4 = .ok (.new 335, 3) := by decide +kernel
theorem dX4_requireState_7 : decode cX4_requireState 7 = .ok (.dup, 1) := by decide +kernel
theorem dX4_requireState_8 : decode cX4_requireState 8 = .ok (.invokespecial 337, 3) := by decide +kernel
theorem dX4_requireState_11 : decode cX4_requireState 11 = .ok (.athrow, 1) := by decide +kernel
theorem dX4_requireState_12 : decode cX4_requireState 12 = .ok (.return_, 1) := by decide +kernel
theorem dX4_heldNote_0 : decode cX4_heldNote 0 = .ok (.iconst 0, 1) := by decide +kernel
theorem dX4_heldNote_1 : decode cX4_heldNote 1 = .ok (.bipush 9, 2) := by decide +kernel
theorem dX4_heldNote_3 : decode cX4_heldNote 3 = .ok (.iload_n 0, 1) := by decide +kernel
theorem dX4_heldNote_4 : decode cX4_heldNote 4 = .ok (.invokestatic 95, 3) := by decide +kernel
theorem dX4_heldNote_7 : decode cX4_heldNote 7 = .ok (.invokestatic 143, 3) := by decide +kernel
theorem dX4_heldNote_10 : decode cX4_heldNote 10 = .ok (.ireturn, 1) := by decide +kernel
theorem dX4_sectionAt_0 : decode cX4_sectionAt 0 = .ok (.iload_n 1, 1) := by decide +kernel
theorem dX4_sectionAt_1 : decode cX4_sectionAt 1 = .ok (.aload_n 0, 1) := by decide +kernel
theorem dX4_sectionAt_2 : decode cX4_sectionAt 2 = .ok (.getfield 15, 3) := by decide +kernel
theorem dX4_sectionAt_5 : decode cX4_sectionAt 5 = .ok (.invokestatic 208, 3) := by decide +kernel
theorem dX4_sectionAt_8 : decode cX4_sectionAt 8 = .ok (.aload_n 0, 1) := by decide +kernel
theorem dX4_sectionAt_9 : decode cX4_sectionAt 9 = .ok (.getfield 11, 3) := by decide +kernel
theorem dX4_sectionAt_12 : decode cX4_sectionAt 12 = .ok (.iload_n 1, 1) := by decide +kernel
theorem dX4_sectionAt_13 : decode cX4_sectionAt 13 = .ok (.aaload, 1) := by decide +kernel
theorem dX4_sectionAt_14 : decode cX4_sectionAt 14 = .ok (.areturn, 1) := by decide +kernel
theorem dX4_lotAt_0 : decode cX4_lotAt 0 = .ok (.iload_n 1, 1) := by decide +kernel
theorem dX4_lotAt_1 : decode cX4_lotAt 1 = .ok (.aload_n 0, 1) := by decide +kernel
theorem dX4_lotAt_2 : decode cX4_lotAt 2 = .ok (.getfield 28, 3) := by decide +kernel
theorem dX4_lotAt_5 : decode cX4_lotAt 5 = .ok (.invokestatic 208, 3) := by decide +kernel
theorem dX4_lotAt_8 : decode cX4_lotAt 8 = .ok (.aload_n 0, 1) := by decide +kernel
theorem dX4_lotAt_9 : decode cX4_lotAt 9 = .ok (.getfield 24, 3) := by decide +kernel
theorem dX4_lotAt_12 : decode cX4_lotAt 12 = .ok (.iload_n 1, 1) := by decide +kernel
theorem dX4_lotAt_13 : decode cX4_lotAt 13 = .ok (.aaload, 1) := by decide +kernel
theorem dX4_lotAt_14 : decode cX4_lotAt 14 = .ok (.areturn, 1) := by decide +kernel
theorem dX4_madeLotAt_0 : decode cX4_madeLotAt 0 = .ok (.aload_n 0, 1) := by decide +kernel
theorem dX4_madeLotAt_1 : decode cX4_madeLotAt 1 = .ok (.iload_n 1, 1) := by decide +kernel
theorem dX4_madeLotAt_2 : decode cX4_madeLotAt 2 = .ok (.invokevirtual 126, 3) := by decide +kernel
theorem dX4_madeLotAt_5 : decode cX4_madeLotAt 5 = .ok (.astore_n 2, 1) := by decide +kernel
theorem dX4_madeLotAt_6 : decode cX4_madeLotAt 6 = .ok (.aload_n 2, 1) := by decide +kernel
theorem dX4_madeLotAt_7 : decode cX4_madeLotAt 7 = .ok (.getfield 107, 3) := by decide +kernel
theorem dX4_madeLotAt_10 : decode cX4_madeLotAt 10 = .ok (.iconst 2, 1) := by decide +kernel
theorem dX4_madeLotAt_11 : decode cX4_madeLotAt 11 = .ok (.if_icmp .ne 7, 3) := by decide +kernel
theorem dX4_madeLotAt_14 : decode cX4_madeLotAt 14 = .ok (.iconst 1, 1) := by decide +kernel
theorem dX4_madeLotAt_15 : decode cX4_madeLotAt 15 = .ok (.goto 4, 3) := by decide +kernel
theorem dX4_madeLotAt_18 : decode cX4_madeLotAt 18 = .ok (.iconst 0, 1) := by decide +kernel
theorem dX4_madeLotAt_19 : decode cX4_madeLotAt 19 = .ok (.invokestatic 64, 3) := by decide +kernel
theorem dX4_madeLotAt_22 : decode cX4_madeLotAt 22 = .ok (.aload_n 2, 1) := by decide +kernel
theorem dX4_madeLotAt_23 : decode cX4_madeLotAt 23 = .ok (.areturn, 1) := by decide +kernel
theorem dX4_tasterAt_0 : decode cX4_tasterAt 0 = .ok (.iload_n 1, 1) := by decide +kernel
theorem dX4_tasterAt_1 : decode cX4_tasterAt 1 = .ok (.iconst 3, 1) := by decide +kernel
theorem dX4_tasterAt_2 : decode cX4_tasterAt 2 = .ok (.invokestatic 208, 3) := by decide +kernel
theorem dX4_tasterAt_5 : decode cX4_tasterAt 5 = .ok (.aload_n 0, 1) := by decide +kernel
theorem dX4_tasterAt_6 : decode cX4_tasterAt 6 = .ok (.getfield 38, 3) := by decide +kernel
theorem dX4_tasterAt_9 : decode cX4_tasterAt 9 = .ok (.iload_n 1, 1) := by decide +kernel
theorem dX4_tasterAt_10 : decode cX4_tasterAt 10 = .ok (.aaload, 1) := by decide +kernel
theorem dX4_tasterAt_11 : decode cX4_tasterAt 11 = .ok (.areturn, 1) := by decide +kernel
theorem dX4_newLot_0 : decode cX4_newLot 0 = .ok (.aload_n 0, 1) := by decide +kernel
theorem dX4_newLot_1 : decode cX4_newLot 1 = .ok (.getfield 28, 3) := by decide +kernel
theorem dX4_newLot_4 : decode cX4_newLot 4 = .ok (.bipush 16, 2) := by decide +kernel
theorem dX4_newLot_6 : decode cX4_newLot 6 = .ok (.if_icmp .ge 7, 3) := by decide +kernel
theorem dX4_newLot_9 : decode cX4_newLot 9 = .ok (.iconst 1, 1) := by decide +kernel
theorem dX4_newLot_10 : decode cX4_newLot 10 = .ok (.goto 4, 3) := by decide +kernel
theorem dX4_newLot_13 : decode cX4_newLot 13 = .ok (.iconst 0, 1) := by decide +kernel
theorem dX4_newLot_14 : decode cX4_newLot 14 = .ok (.invokestatic 64, 3) := by decide +kernel
theorem dX4_newLot_17 : decode cX4_newLot 17 = .ok (.aload_n 0, 1) := by decide +kernel
theorem dX4_newLot_18 : decode cX4_newLot 18 = .ok (.getfield 24, 3) := by decide +kernel
theorem dX4_newLot_21 : decode cX4_newLot 21 = .ok (.aload_n 0, 1) := by decide +kernel
theorem dX4_newLot_22 : decode cX4_newLot 22 = .ok (.getfield 28, 3) := by decide +kernel
theorem dX4_newLot_25 : decode cX4_newLot 25 = .ok (.aaload, 1) := by decide +kernel
theorem dX4_newLot_26 : decode cX4_newLot 26 = .ok (.astore_n 1, 1) := by decide +kernel
theorem dX4_newLot_27 : decode cX4_newLot 27 = .ok (.aload_n 0, 1) := by decide +kernel
theorem dX4_newLot_28 : decode cX4_newLot 28 = .ok (.dup, 1) := by decide +kernel
theorem dX4_newLot_29 : decode cX4_newLot 29 = .ok (.getfield 28, 3) := by decide +kernel
theorem dX4_newLot_32 : decode cX4_newLot 32 = .ok (.iconst 1, 1) := by decide +kernel
theorem dX4_newLot_33 : decode cX4_newLot 33 = .ok (.iadd, 1) := by decide +kernel
theorem dX4_newLot_34 : decode cX4_newLot 34 = .ok (.putfield 28, 3) := by decide +kernel
theorem dX4_newLot_37 : decode cX4_newLot 37 = .ok (.aload_n 1, 1) := by decide +kernel
theorem dX4_newLot_38 : decode cX4_newLot 38 = .ok (.areturn, 1) := by decide +kernel
theorem dX4_countLots_0 : decode cX4_countLots 0 = .ok (.iconst 0, 1) := by decide +kernel
theorem dX4_countLots_1 : decode cX4_countLots 1 = .ok (.istore_n 2, 1) := by decide +kernel
theorem dX4_countLots_2 : decode cX4_countLots 2 = .ok (.iconst 0, 1) := by decide +kernel
theorem dX4_countLots_3 : decode cX4_countLots 3 = .ok (.istore_n 3, 1) := by decide +kernel
theorem dX4_countLots_4 : decode cX4_countLots 4 = .ok (.iload_n 3, 1) := by decide +kernel
theorem dX4_countLots_5 : decode cX4_countLots 5 = .ok (.aload_n 0, 1) := by decide +kernel
theorem dX4_countLots_6 : decode cX4_countLots 6 = .ok (.getfield 28, 3) := by decide +kernel
theorem dX4_countLots_9 : decode cX4_countLots 9 = .ok (.if_icmp .ge 25, 3) := by decide +kernel
theorem dX4_countLots_12 : decode cX4_countLots 12 = .ok (.aload_n 0, 1) := by decide +kernel
theorem dX4_countLots_13 : decode cX4_countLots 13 = .ok (.getfield 24, 3) := by decide +kernel
theorem dX4_countLots_16 : decode cX4_countLots 16 = .ok (.iload_n 3, 1) := by decide +kernel
theorem dX4_countLots_17 : decode cX4_countLots 17 = .ok (.aaload, 1) := by decide +kernel
theorem dX4_countLots_18 : decode cX4_countLots 18 = .ok (.getfield 107, 3) := by decide +kernel
theorem dX4_countLots_21 : decode cX4_countLots 21 = .ok (.iload_n 1, 1) := by decide +kernel
theorem dX4_countLots_22 : decode cX4_countLots 22 = .ok (.if_icmp .ne 6, 3) := by decide +kernel
theorem dX4_countLots_25 : decode cX4_countLots 25 = .ok (.iinc 2 1, 3) := by decide +kernel
theorem dX4_countLots_28 : decode cX4_countLots 28 = .ok (.iinc 3 1, 3) := by decide +kernel
theorem dX4_countLots_31 : decode cX4_countLots 31 = .ok (.goto (-27), 3) := by decide +kernel
theorem dX4_countLots_34 : decode cX4_countLots 34 = .ok (.iload_n 2, 1) := by decide +kernel
theorem dX4_countLots_35 : decode cX4_countLots 35 = .ok (.ireturn, 1) := by decide +kernel
theorem dX4_dryOfAll_0 : decode cX4_dryOfAll 0 = .ok (.iconst 0, 1) := by decide +kernel
theorem dX4_dryOfAll_1 : decode cX4_dryOfAll 1 = .ok (.istore_n 1, 1) := by decide +kernel
theorem dX4_dryOfAll_2 : decode cX4_dryOfAll 2 = .ok (.iconst 0, 1) := by decide +kernel
theorem dX4_dryOfAll_3 : decode cX4_dryOfAll 3 = .ok (.istore_n 2, 1) := by decide +kernel
theorem dX4_dryOfAll_4 : decode cX4_dryOfAll 4 = .ok (.iload_n 2, 1) := by decide +kernel
theorem dX4_dryOfAll_5 : decode cX4_dryOfAll 5 = .ok (.aload_n 0, 1) := by decide +kernel
theorem dX4_dryOfAll_6 : decode cX4_dryOfAll 6 = .ok (.getfield 28, 3) := by decide +kernel
theorem dX4_dryOfAll_9 : decode cX4_dryOfAll 9 = .ok (.if_icmp .ge 21, 3) := by decide +kernel
theorem dX4_dryOfAll_12 : decode cX4_dryOfAll 12 = .ok (.iload_n 1, 1) := by decide +kernel
theorem dX4_dryOfAll_13 : decode cX4_dryOfAll 13 = .ok (.aload_n 0, 1) := by decide +kernel
theorem dX4_dryOfAll_14 : decode cX4_dryOfAll 14 = .ok (.getfield 24, 3) := by decide +kernel
theorem dX4_dryOfAll_17 : decode cX4_dryOfAll 17 = .ok (.iload_n 2, 1) := by decide +kernel
theorem dX4_dryOfAll_18 : decode cX4_dryOfAll 18 = .ok (.aaload, 1) := by decide +kernel
theorem dX4_dryOfAll_19 : decode cX4_dryOfAll 19 = .ok (.getfield 113, 3) := by decide +kernel
theorem dX4_dryOfAll_22 : decode cX4_dryOfAll 22 = .ok (.iadd, 1) := by decide +kernel
theorem dX4_dryOfAll_23 : decode cX4_dryOfAll 23 = .ok (.istore_n 1, 1) := by decide +kernel
theorem dX4_dryOfAll_24 : decode cX4_dryOfAll 24 = .ok (.iinc 2 1, 3) := by decide +kernel
theorem dX4_dryOfAll_27 : decode cX4_dryOfAll 27 = .ok (.goto (-23), 3) := by decide +kernel
theorem dX4_dryOfAll_30 : decode cX4_dryOfAll 30 = .ok (.iload_n 1, 1) := by decide +kernel
theorem dX4_dryOfAll_31 : decode cX4_dryOfAll 31 = .ok (.ireturn, 1) := by decide +kernel
theorem dX4_costOf_0 : decode cX4_costOf 0 = .ok (.iload_n 1, 1) := by decide +kernel
theorem dX4_costOf_1 : decode cX4_costOf 1 = .ok (.aload_n 0, 1) := by decide +kernel
theorem dX4_costOf_2 : decode cX4_costOf 2 = .ok (.getfield 113, 3) := by decide +kernel
theorem dX4_costOf_5 : decode cX4_costOf 5 = .ok (.imul, 1) := by decide +kernel
theorem dX4_costOf_6 : decode cX4_costOf 6 = .ok (.bipush 10, 2) := by decide +kernel
theorem dX4_costOf_8 : decode cX4_costOf 8 = .ok (.idiv, 1) := by decide +kernel
theorem dX4_costOf_9 : decode cX4_costOf 9 = .ok (.ireturn, 1) := by decide +kernel
theorem dX4_mayBuy_0 : decode cX4_mayBuy 0 = .ok (.aload_n 1, 1) := by decide +kernel
theorem dX4_mayBuy_1 : decode cX4_mayBuy 1 = .ok (.getfield 211, 3) := by decide +kernel
theorem dX4_mayBuy_4 : decode cX4_mayBuy 4 = .ok (.getfield 265, 3) := by decide +kernel
theorem dX4_mayBuy_7 : decode cX4_mayBuy 7 = .ok (.iload_n 2, 1) := by decide +kernel
theorem dX4_mayBuy_8 : decode cX4_mayBuy 8 = .ok (.iaload, 1) := by decide +kernel
theorem dX4_mayBuy_9 : decode cX4_mayBuy 9 = .ok (.istore_n 3, 1) := by decide +kernel
theorem dX4_mayBuy_10 : decode cX4_mayBuy 10 = .ok (.aload_n 1, 1) := by decide +kernel
theorem dX4_mayBuy_11 : decode cX4_mayBuy 11 = .ok (.getfield 211, 3) := by decide +kernel
theorem dX4_mayBuy_14 : decode cX4_mayBuy 14 = .ok (.iload_n 2, 1) := by decide +kernel
theorem dX4_mayBuy_15 : decode cX4_mayBuy 15 = .ok (.invokevirtual 261, 3) := by decide +kernel
theorem dX4_mayBuy_18 : decode cX4_mayBuy 18 = .ok (.ifCond .eq 32, 3) := by decide +kernel
theorem dX4_mayBuy_21 : decode cX4_mayBuy 21 = .ok (.iload_n 3, 1) := by decide +kernel
theorem dX4_mayBuy_22 : decode cX4_mayBuy 22 = .ok (.aload_n 1, 1) := by decide +kernel
theorem dX4_mayBuy_23 : decode cX4_mayBuy 23 = .ok (.getfield 211, 3) := by decide +kernel
theorem dX4_mayBuy_26 : decode cX4_mayBuy 26 = .ok (.getfield 215, 3) := by decide +kernel
theorem dX4_mayBuy_29 : decode cX4_mayBuy 29 = .ok (.if_icmp .lt 21, 3) := by decide +kernel
theorem dX4_mayBuy_32 : decode cX4_mayBuy 32 = .ok (.aload_n 0, 1) := by decide +kernel
theorem dX4_mayBuy_33 : decode cX4_mayBuy 33 = .ok (.getfield 42, 3) := by decide +kernel
theorem dX4_mayBuy_36 : decode cX4_mayBuy 36 = .ok (.iload_n 2, 1) := by decide +kernel
theorem dX4_mayBuy_37 : decode cX4_mayBuy 37 = .ok (.iaload, 1) := by decide +kernel
theorem dX4_mayBuy_38 : decode cX4_mayBuy 38 = .ok (.aload_n 1, 1) := by decide +kernel
theorem dX4_mayBuy_39 : decode cX4_mayBuy 39 = .ok (.iload_n 3, 1) := by decide +kernel
theorem dX4_mayBuy_40 : decode cX4_mayBuy 40 = .ok (.invokestatic 237, 3) := by decide +kernel
theorem dX4_mayBuy_43 : decode cX4_mayBuy 43 = .ok (.if_icmp .lt 7, 3) := by decide +kernel
theorem dX4_mayBuy_46 : decode cX4_mayBuy 46 = .ok (.iconst 1, 1) := by decide +kernel
theorem dX4_mayBuy_47 : decode cX4_mayBuy 47 = .ok (.goto 4, 3) := by decide +kernel
theorem dX4_mayBuy_50 : decode cX4_mayBuy 50 = .ok (.iconst 0, 1) := by decide +kernel
theorem dX4_mayBuy_51 : decode cX4_mayBuy 51 = .ok (.ireturn, 1) := by decide +kernel
theorem dX4_winnerOf_0 : decode cX4_winnerOf 0 = .ok (.iconst (-1), 1) := by decide +kernel
theorem dX4_winnerOf_1 : decode cX4_winnerOf 1 = .ok (.istore_n 2, 1) := by decide +kernel
theorem dX4_winnerOf_2 : decode cX4_winnerOf 2 = .ok (.iconst 0, 1) := by decide +kernel
theorem dX4_winnerOf_3 : decode cX4_winnerOf 3 = .ok (.istore_n 3, 1) := by decide +kernel
theorem dX4_winnerOf_4 : decode cX4_winnerOf 4 = .ok (.iload_n 3, 1) := by decide +kernel
theorem dX4_winnerOf_5 : decode cX4_winnerOf 5 = .ok (.iconst 4, 1) := by decide +kernel
theorem dX4_winnerOf_6 : decode cX4_winnerOf 6 = .ok (.if_icmp .ge 37, 3) := by decide +kernel
theorem dX4_winnerOf_9 : decode cX4_winnerOf 9 = .ok (.aload_n 0, 1) := by decide +kernel
theorem dX4_winnerOf_10 : decode cX4_winnerOf 10 = .ok (.aload_n 1, 1) := by decide +kernel
theorem dX4_winnerOf_11 : decode cX4_winnerOf 11 = .ok (.iload_n 3, 1) := by decide +kernel
theorem dX4_winnerOf_12 : decode cX4_winnerOf 12 = .ok (.invokevirtual 338, 3) := by decide +kernel
theorem dX4_winnerOf_15 : decode cX4_winnerOf 15 = .ok (.ifCond .eq 22, 3) := by decide +kernel
theorem dX4_winnerOf_18 : decode cX4_winnerOf 18 = .ok (.iload_n 2, 1) := by decide +kernel
theorem dX4_winnerOf_19 : decode cX4_winnerOf 19 = .ok (.iconst (-1), 1) := by decide +kernel
theorem dX4_winnerOf_20 : decode cX4_winnerOf 20 = .ok (.if_icmp .eq 15, 3) := by decide +kernel
theorem dX4_winnerOf_23 : decode cX4_winnerOf 23 = .ok (.aload_n 1, 1) := by decide +kernel
theorem dX4_winnerOf_24 : decode cX4_winnerOf 24 = .ok (.getfield 211, 3) := by decide +kernel
theorem dX4_winnerOf_27 : decode cX4_winnerOf 27 = .ok (.iload_n 3, 1) := by decide +kernel
theorem dX4_winnerOf_28 : decode cX4_winnerOf 28 = .ok (.iload_n 2, 1) := by decide +kernel
theorem dX4_winnerOf_29 : decode cX4_winnerOf 29 = .ok (.invokevirtual 342, 3) := by decide +kernel
theorem dX4_winnerOf_32 : decode cX4_winnerOf 32 = .ok (.ifCond .eq 5, 3) := by decide +kernel
theorem dX4_winnerOf_35 : decode cX4_winnerOf 35 = .ok (.iload_n 3, 1) := by decide +kernel
theorem dX4_winnerOf_36 : decode cX4_winnerOf 36 = .ok (.istore_n 2, 1) := by decide +kernel
theorem dX4_winnerOf_37 : decode cX4_winnerOf 37 = .ok (.iinc 3 1, 3) := by decide +kernel
theorem dX4_winnerOf_40 : decode cX4_winnerOf 40 = .ok (.goto (-36), 3) := by decide +kernel
theorem dX4_winnerOf_43 : decode cX4_winnerOf 43 = .ok (.iload_n 2, 1) := by decide +kernel
theorem dX4_winnerOf_44 : decode cX4_winnerOf 44 = .ok (.ireturn, 1) := by decide +kernel
theorem dX4_priceFor_0 : decode cX4_priceFor 0 = .ok (.iconst (-1), 1) := by decide +kernel
theorem dX4_priceFor_1 : decode cX4_priceFor 1 = .ok (.istore_n 3, 1) := by decide +kernel
theorem dX4_priceFor_2 : decode cX4_priceFor 2 = .ok (.iconst 0, 1) := by decide +kernel
theorem dX4_priceFor_3 : decode cX4_priceFor 3 = .ok (.istore 4, 2) := by decide +kernel
theorem dX4_priceFor_5 : decode cX4_priceFor 5 = .ok (.iload 4, 2) := by decide +kernel
theorem dX4_priceFor_7 : decode cX4_priceFor 7 = .ok (.iconst 4, 1) := by decide +kernel
theorem dX4_priceFor_8 : decode cX4_priceFor 8 = .ok (.if_icmp .ge 40, 3) := by decide +kernel
theorem dX4_priceFor_11 : decode cX4_priceFor 11 = .ok (.iload 4, 2) := by decide +kernel
theorem dX4_priceFor_13 : decode cX4_priceFor 13 = .ok (.iload_n 2, 1) := by decide +kernel
theorem dX4_priceFor_14 : decode cX4_priceFor 14 = .ok (.if_icmp .eq 28, 3) := by decide +kernel
theorem dX4_priceFor_17 : decode cX4_priceFor 17 = .ok (.aload_n 0, 1) := by decide +kernel
theorem dX4_priceFor_18 : decode cX4_priceFor 18 = .ok (.aload_n 1, 1) := by decide +kernel
theorem dX4_priceFor_19 : decode cX4_priceFor 19 = .ok (.iload 4, 2) := by decide +kernel
theorem dX4_priceFor_21 : decode cX4_priceFor 21 = .ok (.invokevirtual 338, 3) := by decide +kernel
theorem dX4_priceFor_24 : decode cX4_priceFor 24 = .ok (.ifCond .eq 18, 3) := by decide +kernel
theorem dX4_priceFor_27 : decode cX4_priceFor 27 = .ok (.iload_n 3, 1) := by decide +kernel
theorem dX4_priceFor_28 : decode cX4_priceFor 28 = .ok (.aload_n 1, 1) := by decide +kernel
theorem dX4_priceFor_29 : decode cX4_priceFor 29 = .ok (.getfield 211, 3) := by decide +kernel
theorem dX4_priceFor_32 : decode cX4_priceFor 32 = .ok (.getfield 265, 3) := by decide +kernel
theorem dX4_priceFor_35 : decode cX4_priceFor 35 = .ok (.iload 4, 2) := by decide +kernel
theorem dX4_priceFor_37 : decode cX4_priceFor 37 = .ok (.iaload, 1) := by decide +kernel
theorem dX4_priceFor_38 : decode cX4_priceFor 38 = .ok (.invokestatic 143, 3) := by decide +kernel
theorem dX4_priceFor_41 : decode cX4_priceFor 41 = .ok (.istore_n 3, 1) := by decide +kernel
theorem dX4_priceFor_42 : decode cX4_priceFor 42 = .ok (.iinc 4 1, 3) := by decide +kernel
theorem dX4_priceFor_45 : decode cX4_priceFor 45 = .ok (.goto (-40), 3) := by decide +kernel
theorem dX4_priceFor_48 : decode cX4_priceFor 48 = .ok (.iload_n 3, 1) := by decide +kernel
theorem dX4_priceFor_49 : decode cX4_priceFor 49 = .ok (.iconst (-1), 1) := by decide +kernel
theorem dX4_priceFor_50 : decode cX4_priceFor 50 = .ok (.if_icmp .ne 13, 3) := by decide +kernel
theorem dX4_priceFor_53 : decode cX4_priceFor 53 = .ok (.aload_n 1, 1) := by decide +kernel
theorem dX4_priceFor_54 : decode cX4_priceFor 54 = .ok (.getfield 211, 3) := by decide +kernel
theorem dX4_priceFor_57 : decode cX4_priceFor 57 = .ok (.getfield 215, 3) := by decide +kernel
theorem dX4_priceFor_60 : decode cX4_priceFor 60 = .ok (.goto 18, 3) := by decide +kernel
theorem dX4_priceFor_63 : decode cX4_priceFor 63 = .ok (.aload_n 1, 1) := by decide +kernel
theorem dX4_priceFor_64 : decode cX4_priceFor 64 = .ok (.getfield 211, 3) := by decide +kernel
theorem dX4_priceFor_67 : decode cX4_priceFor 67 = .ok (.getfield 265, 3) := by decide +kernel
theorem dX4_priceFor_70 : decode cX4_priceFor 70 = .ok (.iload_n 2, 1) := by decide +kernel
theorem dX4_priceFor_71 : decode cX4_priceFor 71 = .ok (.iaload, 1) := by decide +kernel
theorem dX4_priceFor_72 : decode cX4_priceFor 72 = .ok (.iload_n 3, 1) := by decide +kernel
theorem dX4_priceFor_73 : decode cX4_priceFor 73 = .ok (.iconst 1, 1) := by decide +kernel
theorem dX4_priceFor_74 : decode cX4_priceFor 74 = .ok (.iadd, 1) := by decide +kernel
theorem dX4_priceFor_75 : decode cX4_priceFor 75 = .ok (.invokestatic 95, 3) := by decide +kernel
theorem dX4_priceFor_78 : decode cX4_priceFor 78 = .ok (.ireturn, 1) := by decide +kernel
theorem dX4_leastMix_0 : decode cX4_leastMix 0 = .ok (.aload_n 1, 1) := by decide +kernel
theorem dX4_leastMix_1 : decode cX4_leastMix 1 = .ok (.iconst 0, 1) := by decide +kernel
theorem dX4_leastMix_2 : decode cX4_leastMix 2 = .ok (.invokevirtual 180, 3) := by decide +kernel
theorem dX4_leastMix_5 : decode cX4_leastMix 5 = .ok (.istore 6, 2) := by decide +kernel
theorem dX4_leastMix_7 : decode cX4_leastMix 7 = .ok (.aload_n 1, 1) := by decide +kernel
theorem dX4_leastMix_8 : decode cX4_leastMix 8 = .ok (.iconst 1, 1) := by decide +kernel
theorem dX4_leastMix_9 : decode cX4_leastMix 9 = .ok (.invokevirtual 180, 3) := by decide +kernel
theorem dX4_leastMix_12 : decode cX4_leastMix 12 = .ok (.istore 7, 2) := by decide +kernel
theorem dX4_leastMix_14 : decode cX4_leastMix 14 = .ok (.aload_n 1, 1) := by decide +kernel
theorem dX4_leastMix_15 : decode cX4_leastMix 15 = .ok (.iconst 2, 1) := by decide +kernel
theorem dX4_leastMix_16 : decode cX4_leastMix 16 = .ok (.invokevirtual 180, 3) := by decide +kernel
theorem dX4_leastMix_19 : decode cX4_leastMix 19 = .ok (.istore 8, 2) := by decide +kernel
theorem dX4_leastMix_21 : decode cX4_leastMix 21 = .ok (.aload_n 2, 1) := by decide +kernel
theorem dX4_leastMix_22 : decode cX4_leastMix 22 = .ok (.iconst 0, 1) := by decide +kernel
theorem dX4_leastMix_23 : decode cX4_leastMix 23 = .ok (.invokevirtual 180, 3) := by decide +kernel
theorem dX4_leastMix_26 : decode cX4_leastMix 26 = .ok (.istore 9, 2) := by decide +kernel
theorem dX4_leastMix_28 : decode cX4_leastMix 28 = .ok (.aload_n 2, 1) := by decide +kernel
theorem dX4_leastMix_29 : decode cX4_leastMix 29 = .ok (.iconst 1, 1) := by decide +kernel
theorem dX4_leastMix_30 : decode cX4_leastMix 30 = .ok (.invokevirtual 180, 3) := by decide +kernel
theorem dX4_leastMix_33 : decode cX4_leastMix 33 = .ok (.istore 10, 2) := by decide +kernel
theorem dX4_leastMix_35 : decode cX4_leastMix 35 = .ok (.aload_n 2, 1) := by decide +kernel
theorem dX4_leastMix_36 : decode cX4_leastMix 36 = .ok (.iconst 2, 1) := by decide +kernel
theorem dX4_leastMix_37 : decode cX4_leastMix 37 = .ok (.invokevirtual 180, 3) := by decide +kernel
theorem dX4_leastMix_40 : decode cX4_leastMix 40 = .ok (.istore 11, 2) := by decide +kernel
theorem dX4_leastMix_42 : decode cX4_leastMix 42 = .ok (.ldc_w 284, 3) := by decide +kernel
theorem dX4_leastMix_45 : decode cX4_leastMix 45 = .ok (.istore 12, 2) := by decide +kernel
theorem dX4_leastMix_47 : decode cX4_leastMix 47 = .ok (.iconst 1, 1) := by decide +kernel
theorem dX4_leastMix_48 : decode cX4_leastMix 48 = .ok (.istore 13, 2) := by decide +kernel
theorem dX4_leastMix_50 : decode cX4_leastMix 50 = .ok (.iload 13, 2) := by decide +kernel
theorem dX4_leastMix_52 : decode cX4_leastMix 52 = .ok (.bipush 9, 2) := by decide +kernel
theorem dX4_leastMix_54 : decode cX4_leastMix 54 = .ok (.if_icmp .gt 114, 3) := by decide +kernel
theorem dX4_leastMix_57 : decode cX4_leastMix 57 = .ok (.iload 13, 2) := by decide +kernel
theorem dX4_leastMix_59 : decode cX4_leastMix 59 = .ok (.iload 6, 2) := by decide +kernel
theorem dX4_leastMix_61 : decode cX4_leastMix 61 = .ok (.imul, 1) := by decide +kernel
theorem dX4_leastMix_62 : decode cX4_leastMix 62 = .ok (.bipush 10, 2) := by decide +kernel
theorem dX4_leastMix_64 : decode cX4_leastMix 64 = .ok (.iload 13, 2) := by decide +kernel
theorem dX4_leastMix_66 : decode cX4_leastMix 66 = .ok (.isub, 1) := by decide +kernel
theorem dX4_leastMix_67 : decode cX4_leastMix 67 = .ok (.iload 9, 2) := by decide +kernel
theorem dX4_leastMix_69 : decode cX4_leastMix 69 = .ok (.imul, 1) := by decide +kernel
theorem dX4_leastMix_70 : decode cX4_leastMix 70 = .ok (.iadd, 1) := by decide +kernel
theorem dX4_leastMix_71 : decode cX4_leastMix 71 = .ok (.istore 14, 2) := by decide +kernel
theorem dX4_leastMix_73 : decode cX4_leastMix 73 = .ok (.iload 13, 2) := by decide +kernel
theorem dX4_leastMix_75 : decode cX4_leastMix 75 = .ok (.iload 7, 2) := by decide +kernel
theorem dX4_leastMix_77 : decode cX4_leastMix 77 = .ok (.imul, 1) := by decide +kernel
theorem dX4_leastMix_78 : decode cX4_leastMix 78 = .ok (.bipush 10, 2) := by decide +kernel
theorem dX4_leastMix_80 : decode cX4_leastMix 80 = .ok (.iload 13, 2) := by decide +kernel
theorem dX4_leastMix_82 : decode cX4_leastMix 82 = .ok (.isub, 1) := by decide +kernel
theorem dX4_leastMix_83 : decode cX4_leastMix 83 = .ok (.iload 10, 2) := by decide +kernel
theorem dX4_leastMix_85 : decode cX4_leastMix 85 = .ok (.imul, 1) := by decide +kernel
theorem dX4_leastMix_86 : decode cX4_leastMix 86 = .ok (.iadd, 1) := by decide +kernel
theorem dX4_leastMix_87 : decode cX4_leastMix 87 = .ok (.istore 15, 2) := by decide +kernel
theorem dX4_leastMix_89 : decode cX4_leastMix 89 = .ok (.iload 13, 2) := by decide +kernel
theorem dX4_leastMix_91 : decode cX4_leastMix 91 = .ok (.iload 8, 2) := by decide +kernel
theorem dX4_leastMix_93 : decode cX4_leastMix 93 = .ok (.imul, 1) := by decide +kernel
theorem dX4_leastMix_94 : decode cX4_leastMix 94 = .ok (.bipush 10, 2) := by decide +kernel
theorem dX4_leastMix_96 : decode cX4_leastMix 96 = .ok (.iload 13, 2) := by decide +kernel
theorem dX4_leastMix_98 : decode cX4_leastMix 98 = .ok (.isub, 1) := by decide +kernel
theorem dX4_leastMix_99 : decode cX4_leastMix 99 = .ok (.iload 11, 2) := by decide +kernel
theorem dX4_leastMix_101 : decode cX4_leastMix 101 = .ok (.imul, 1) := by decide +kernel
theorem dX4_leastMix_102 : decode cX4_leastMix 102 = .ok (.iadd, 1) := by decide +kernel
theorem dX4_leastMix_103 : decode cX4_leastMix 103 = .ok (.istore 16, 2) := by decide +kernel
theorem dX4_leastMix_105 : decode cX4_leastMix 105 = .ok (.iload 14, 2) := by decide +kernel
theorem dX4_leastMix_107 : decode cX4_leastMix 107 = .ok (.bipush 10, 2) := by decide +kernel
theorem dX4_leastMix_109 : decode cX4_leastMix 109 = .ok (.idiv, 1) := by decide +kernel
theorem dX4_leastMix_110 : decode cX4_leastMix 110 = .ok (.iload_n 3, 1) := by decide +kernel
theorem dX4_leastMix_111 : decode cX4_leastMix 111 = .ok (.if_icmp .lt 51, 3) := by decide +kernel
theorem dX4_leastMix_114 : decode cX4_leastMix 114 = .ok (.iload 15, 2) := by decide +kernel
theorem dX4_leastMix_116 : decode cX4_leastMix 116 = .ok (.bipush 10, 2) := by decide +kernel
theorem dX4_leastMix_118 : decode cX4_leastMix 118 = .ok (.idiv, 1) := by decide +kernel
theorem dX4_leastMix_119 : decode cX4_leastMix 119 = .ok (.iload 4, 2) := by decide +kernel
theorem dX4_leastMix_121 : decode cX4_leastMix 121 = .ok (.if_icmp .lt 41, 3) := by decide +kernel
theorem dX4_leastMix_124 : decode cX4_leastMix 124 = .ok (.iload 16, 2) := by decide +kernel
theorem dX4_leastMix_126 : decode cX4_leastMix 126 = .ok (.bipush 10, 2) := by decide +kernel
theorem dX4_leastMix_128 : decode cX4_leastMix 128 = .ok (.idiv, 1) := by decide +kernel
theorem dX4_leastMix_129 : decode cX4_leastMix 129 = .ok (.iload 5, 2) := by decide +kernel
theorem dX4_leastMix_131 : decode cX4_leastMix 131 = .ok (.if_icmp .lt 31, 3) := by decide +kernel
theorem dX4_leastMix_134 : decode cX4_leastMix 134 = .ok (.iload 14, 2) := by decide +kernel
theorem dX4_leastMix_136 : decode cX4_leastMix 136 = .ok (.iload 15, 2) := by decide +kernel
theorem dX4_leastMix_138 : decode cX4_leastMix 138 = .ok (.iadd, 1) := by decide +kernel
theorem dX4_leastMix_139 : decode cX4_leastMix 139 = .ok (.iload 16, 2) := by decide +kernel
theorem dX4_leastMix_141 : decode cX4_leastMix 141 = .ok (.iadd, 1) := by decide +kernel
theorem dX4_leastMix_142 : decode cX4_leastMix 142 = .ok (.istore 17, 2) := by decide +kernel
theorem dX4_leastMix_144 : decode cX4_leastMix 144 = .ok (.iload 12, 2) := by decide +kernel
theorem dX4_leastMix_146 : decode cX4_leastMix 146 = .ok (.iload 17, 2) := by decide +kernel
theorem dX4_leastMix_148 : decode cX4_leastMix 148 = .ok (.ldc_w 289, 3) := by decide +kernel
theorem dX4_leastMix_151 : decode cX4_leastMix 151 = .ok (.imul, 1) := by decide +kernel
theorem dX4_leastMix_152 : decode cX4_leastMix 152 = .ok (.iload_n 0, 1) := by decide +kernel
theorem dX4_leastMix_153 : decode cX4_leastMix 153 = .ok (.iadd, 1) := by decide +kernel
theorem dX4_leastMix_154 : decode cX4_leastMix 154 = .ok (.iload 13, 2) := by decide +kernel
theorem dX4_leastMix_156 : decode cX4_leastMix 156 = .ok (.iadd, 1) := by decide +kernel
theorem dX4_leastMix_157 : decode cX4_leastMix 157 = .ok (.invokestatic 95, 3) := by decide +kernel
theorem dX4_leastMix_160 : decode cX4_leastMix 160 = .ok (.istore 12, 2) := by decide +kernel
theorem dX4_leastMix_162 : decode cX4_leastMix 162 = .ok (.iinc 13 1, 3) := by decide +kernel
theorem dX4_leastMix_165 : decode cX4_leastMix 165 = .ok (.goto (-115), 3) := by decide +kernel
theorem dX4_leastMix_168 : decode cX4_leastMix 168 = .ok (.iload 12, 2) := by decide +kernel
theorem dX4_leastMix_170 : decode cX4_leastMix 170 = .ok (.ireturn, 1) := by decide +kernel
theorem dX5_init_0 : decode cX5_init 0 = .ok (.aload_n 0, 1) := by decide +kernel
theorem dX5_init_1 : decode cX5_init 1 = .ok (.invokespecial 3, 3) := by decide +kernel
theorem dX5_init_4 : decode cX5_init 4 = .ok (.aload_n 0, 1) := by decide +kernel
theorem dX5_init_5 : decode cX5_init 5 = .ok (.iconst 4, 1) := by decide +kernel
theorem dX5_init_6 : decode cX5_init 6 = .ok (.newarray .int, 2) := by decide +kernel
theorem dX5_init_8 : decode cX5_init 8 = .ok (.putfield 9, 3) := by decide +kernel
theorem dX5_init_11 : decode cX5_init 11 = .ok (.aload_n 0, 1) := by decide +kernel
theorem dX5_init_12 : decode cX5_init 12 = .ok (.iconst (-1), 1) := by decide +kernel
theorem dX5_init_13 : decode cX5_init 13 = .ok (.putfield 15, 3) := by decide +kernel
theorem dX5_init_16 : decode cX5_init 16 = .ok (.aload_n 0, 1) := by decide +kernel
theorem dX5_init_17 : decode cX5_init 17 = .ok (.new 19, 3) := by decide +kernel
theorem dX5_init_20 : decode cX5_init 20 = .ok (.dup, 1) := by decide +kernel
theorem dX5_init_21 : decode cX5_init 21 = .ok (.invokespecial 21, 3) := by decide +kernel
theorem dX5_init_24 : decode cX5_init 24 = .ok (.putfield 22, 3) := by decide +kernel
theorem dX5_init_27 : decode cX5_init 27 = .ok (.return_, 1) := by decide +kernel
theorem dX5_dry_0 : decode cX5_dry 0 = .ok (.iconst 0, 1) := by decide +kernel
theorem dX5_dry_1 : decode cX5_dry 1 = .ok (.istore_n 1, 1) := by decide +kernel
theorem dX5_dry_2 : decode cX5_dry 2 = .ok (.aload_n 0, 1) := by decide +kernel
theorem dX5_dry_3 : decode cX5_dry 3 = .ok (.getfield 9, 3) := by decide +kernel
theorem dX5_dry_6 : decode cX5_dry 6 = .ok (.astore_n 2, 1) := by decide +kernel
theorem dX5_dry_7 : decode cX5_dry 7 = .ok (.aload_n 2, 1) := by decide +kernel
theorem dX5_dry_8 : decode cX5_dry 8 = .ok (.arraylength, 1) := by decide +kernel
theorem dX5_dry_9 : decode cX5_dry 9 = .ok (.istore_n 3, 1) := by decide +kernel
theorem dX5_dry_10 : decode cX5_dry 10 = .ok (.iconst 0, 1) := by decide +kernel
theorem dX5_dry_11 : decode cX5_dry 11 = .ok (.istore 4, 2) := by decide +kernel
theorem dX5_dry_13 : decode cX5_dry 13 = .ok (.iload 4, 2) := by decide +kernel
theorem dX5_dry_15 : decode cX5_dry 15 = .ok (.iload_n 3, 1) := by decide +kernel
theorem dX5_dry_16 : decode cX5_dry 16 = .ok (.if_icmp .ge 20, 3) := by decide +kernel
theorem dX5_dry_19 : decode cX5_dry 19 = .ok (.aload_n 2, 1) := by decide +kernel
theorem dX5_dry_20 : decode cX5_dry 20 = .ok (.iload 4, 2) := by decide +kernel
theorem dX5_dry_22 : decode cX5_dry 22 = .ok (.iaload, 1) := by decide +kernel
theorem dX5_dry_23 : decode cX5_dry 23 = .ok (.istore 5, 2) := by decide +kernel
theorem dX5_dry_25 : decode cX5_dry 25 = .ok (.iload_n 1, 1) := by decide +kernel
theorem dX5_dry_26 : decode cX5_dry 26 = .ok (.iload 5, 2) := by decide +kernel
theorem dX5_dry_28 : decode cX5_dry 28 = .ok (.iadd, 1) := by decide +kernel
theorem dX5_dry_29 : decode cX5_dry 29 = .ok (.istore_n 1, 1) := by decide +kernel
theorem dX5_dry_30 : decode cX5_dry 30 = .ok (.iinc 4 1, 3) := by decide +kernel
theorem dX5_dry_33 : decode cX5_dry 33 = .ok (.goto (-20), 3) := by decide +kernel
theorem dX5_dry_36 : decode cX5_dry 36 = .ok (.iload_n 1, 1) := by decide +kernel
theorem dX5_dry_37 : decode cX5_dry 37 = .ok (.ireturn, 1) := by decide +kernel
theorem dX5_like_0 : decode cX5_like 0 = .ok (.new 10, 3) := by decide +kernel
theorem dX5_like_3 : decode cX5_like 3 = .ok (.dup, 1) := by decide +kernel
theorem dX5_like_4 : decode cX5_like 4 = .ok (.invokespecial 26, 3) := by decide +kernel
theorem dX5_like_7 : decode cX5_like 7 = .ok (.astore_n 1, 1) := by decide +kernel
theorem dX5_like_8 : decode cX5_like 8 = .ok (.aload_n 1, 1) := by decide +kernel
theorem dX5_like_9 : decode cX5_like 9 = .ok (.aload_n 0, 1) := by decide +kernel
theorem dX5_like_10 : decode cX5_like 10 = .ok (.getfield 27, 3) := by decide +kernel
theorem dX5_like_13 : decode cX5_like 13 = .ok (.putfield 27, 3) := by decide +kernel
theorem dX5_like_16 : decode cX5_like 16 = .ok (.aload_n 1, 1) := by decide +kernel
theorem dX5_like_17 : decode cX5_like 17 = .ok (.aload_n 0, 1) := by decide +kernel
theorem dX5_like_18 : decode cX5_like 18 = .ok (.getfield 30, 3) := by decide +kernel
theorem dX5_like_21 : decode cX5_like 21 = .ok (.putfield 30, 3) := by decide +kernel
theorem dX5_like_24 : decode cX5_like 24 = .ok (.aload_n 1, 1) := by decide +kernel
theorem dX5_like_25 : decode cX5_like 25 = .ok (.aload_n 0, 1) := by decide +kernel
theorem dX5_like_26 : decode cX5_like 26 = .ok (.getfield 33, 3) := by decide +kernel
theorem dX5_like_29 : decode cX5_like 29 = .ok (.putfield 33, 3) := by decide +kernel
theorem dX5_like_32 : decode cX5_like 32 = .ok (.aload_n 1, 1) := by decide +kernel
theorem dX5_like_33 : decode cX5_like 33 = .ok (.aload_n 0, 1) := by decide +kernel
theorem dX5_like_34 : decode cX5_like 34 = .ok (.getfield 36, 3) := by decide +kernel
theorem dX5_like_37 : decode cX5_like 37 = .ok (.putfield 36, 3) := by decide +kernel
theorem dX5_like_40 : decode cX5_like 40 = .ok (.aload_n 1, 1) := by decide +kernel
theorem dX5_like_41 : decode cX5_like 41 = .ok (.aload_n 0, 1) := by decide +kernel
theorem dX5_like_42 : decode cX5_like 42 = .ok (.getfield 39, 3) := by decide +kernel
theorem dX5_like_45 : decode cX5_like 45 = .ok (.putfield 39, 3) := by decide +kernel
theorem dX5_like_48 : decode cX5_like 48 = .ok (.aload_n 1, 1) := by decide +kernel
theorem dX5_like_49 : decode cX5_like 49 = .ok (.aload_n 0, 1) := by decide +kernel
theorem dX5_like_50 : decode cX5_like 50 = .ok (.getfield 42, 3) := by decide +kernel
theorem dX5_like_53 : decode cX5_like 53 = .ok (.putfield 42, 3) := by decide +kernel
theorem dX5_like_56 : decode cX5_like 56 = .ok (.aload_n 1, 1) := by decide +kernel
theorem dX5_like_57 : decode cX5_like 57 = .ok (.aload_n 0, 1) := by decide +kernel
theorem dX5_like_58 : decode cX5_like 58 = .ok (.getfield 45, 3) := by decide +kernel
theorem dX5_like_61 : decode cX5_like 61 = .ok (.putfield 45, 3) := by decide +kernel
theorem dX5_like_64 : decode cX5_like 64 = .ok (.aload_n 1, 1) := by decide +kernel
theorem dX5_like_65 : decode cX5_like 65 = .ok (.aload_n 0, 1) := by decide +kernel
theorem dX5_like_66 : decode cX5_like 66 = .ok (.getfield 15, 3) := by decide +kernel
theorem dX5_like_69 : decode cX5_like 69 = .ok (.putfield 15, 3) := by decide +kernel
theorem dX5_like_72 : decode cX5_like 72 = .ok (.aload_n 1, 1) := by decide +kernel
theorem dX5_like_73 : decode cX5_like 73 = .ok (.aload_n 0, 1) := by decide +kernel
theorem dX5_like_74 : decode cX5_like 74 = .ok (.getfield 48, 3) := by decide +kernel
theorem dX5_like_77 : decode cX5_like 77 = .ok (.putfield 48, 3) := by decide +kernel
theorem dX5_like_80 : decode cX5_like 80 = .ok (.aload_n 1, 1) := by decide +kernel
theorem dX5_like_81 : decode cX5_like 81 = .ok (.aload_n 0, 1) := by decide +kernel
theorem dX5_like_82 : decode cX5_like 82 = .ok (.getfield 52, 3) := by decide +kernel
theorem dX5_like_85 : decode cX5_like 85 = .ok (.putfield 52, 3) := by decide +kernel
theorem dX5_like_88 : decode cX5_like 88 = .ok (.aload_n 1, 1) := by decide +kernel
theorem dX5_like_89 : decode cX5_like 89 = .ok (.areturn, 1) := by decide +kernel
theorem dX5_copy_0 : decode cX5_copy 0 = .ok (.aload_n 0, 1) := by decide +kernel
theorem dX5_copy_1 : decode cX5_copy 1 = .ok (.invokevirtual 55, 3) := by decide +kernel
theorem dX5_copy_4 : decode cX5_copy 4 = .ok (.astore_n 1, 1) := by decide +kernel
theorem dX5_copy_5 : decode cX5_copy 5 = .ok (.aload_n 1, 1) := by decide +kernel
theorem dX5_copy_6 : decode cX5_copy 6 = .ok (.aload_n 0, 1) := by decide +kernel
theorem dX5_copy_7 : decode cX5_copy 7 = .ok (.getfield 59, 3) := by decide +kernel
theorem dX5_copy_10 : decode cX5_copy 10 = .ok (.putfield 59, 3) := by decide +kernel
theorem dX5_copy_13 : decode cX5_copy 13 = .ok (.aload_n 0, 1) := by decide +kernel
theorem dX5_copy_14 : decode cX5_copy 14 = .ok (.getfield 9, 3) := by decide +kernel
theorem dX5_copy_17 : decode cX5_copy 17 = .ok (.iconst 0, 1) := by decide +kernel
theorem dX5_copy_18 : decode cX5_copy 18 = .ok (.aload_n 1, 1) := by decide +kernel
theorem dX5_copy_19 : decode cX5_copy 19 = .ok (.getfield 9, 3) := by decide +kernel
theorem dX5_copy_22 : decode cX5_copy 22 = .ok (.iconst 0, 1) := by decide +kernel
theorem dX5_copy_23 : decode cX5_copy 23 = .ok (.iconst 4, 1) := by decide +kernel
theorem dX5_copy_24 : decode cX5_copy 24 = .ok (.invokestatic 62, 3) := by decide +kernel
theorem dX5_copy_27 : decode cX5_copy 27 = .ok (.aload_n 1, 1) := by decide +kernel
theorem dX5_copy_28 : decode cX5_copy 28 = .ok (.areturn, 1) := by decide +kernel
theorem dX5_go_0 : decode cX5_go 0 = .ok (.aload_n 0, 1) := by decide +kernel
theorem dX5_go_1 : decode cX5_go 1 = .ok (.iconst 3, 1) := by decide +kernel
theorem dX5_go_2 : decode cX5_go 2 = .ok (.putfield 27, 3) := by decide +kernel
theorem dX5_go_5 : decode cX5_go 5 = .ok (.aload_n 0, 1) := by decide +kernel
theorem dX5_go_6 : decode cX5_go 6 = .ok (.iconst 0, 1) := by decide +kernel
theorem dX5_go_7 : decode cX5_go 7 = .ok (.putfield 68, 3) := by decide +kernel
theorem dX5_go_10 : decode cX5_go 10 = .ok (.aload_n 0, 1) := by decide +kernel
theorem dX5_go_11 : decode cX5_go 11 = .ok (.getfield 22, 3) := by decide +kernel
theorem dX5_go_14 : decode cX5_go 14 = .ok (.invokevirtual 71, 3) := by decide +kernel
theorem dX5_go_17 : decode cX5_go 17 = .ok (.iconst 0, 1) := by decide +kernel
theorem dX5_go_18 : decode cX5_go 18 = .ok (.istore_n 1, 1) := by decide +kernel
theorem dX5_go_19 : decode cX5_go 19 = .ok (.iload_n 1, 1) := by decide +kernel
theorem dX5_go_20 : decode cX5_go 20 = .ok (.iconst 4, 1) := by decide +kernel
theorem dX5_go_21 : decode cX5_go 21 = .ok (.if_icmp .ge 16, 3) := by decide +kernel
theorem dX5_go_24 : decode cX5_go 24 = .ok (.aload_n 0, 1) := by decide +kernel
theorem dX5_go_25 : decode cX5_go 25 = .ok (.getfield 9, 3) := by decide +kernel
theorem dX5_go_28 : decode cX5_go 28 = .ok (.iload_n 1, 1) := by decide +kernel
theorem dX5_go_29 : decode cX5_go 29 = .ok (.iconst 0, 1) := by decide +kernel
theorem dX5_go_30 : decode cX5_go 30 = .ok (.iastore, 1) := by decide +kernel
theorem dX5_go_31 : decode cX5_go 31 = .ok (.iinc 1 1, 3) := by decide +kernel
theorem dX5_go_34 : decode cX5_go 34 = .ok (.goto (-15), 3) := by decide +kernel
theorem dX5_go_37 : decode cX5_go 37 = .ok (.return_, 1) := by decide +kernel
theorem dX5_isOffered_0 : decode cX5_isOffered 0 = .ok (.aload_n 0, 1) := by decide +kernel
theorem dX5_isOffered_1 : decode cX5_isOffered 1 = .ok (.getfield 68, 3) := by decide +kernel
theorem dX5_isOffered_4 : decode cX5_isOffered 4 = .ok (.ifCond .le 7, 3) := by decide +kernel
theorem dX5_isOffered_7 : decode cX5_isOffered 7 = .ok (.iconst 1, 1) := by decide +kernel
theorem dX5_isOffered_8 : decode cX5_isOffered 8 = .ok (.goto 4, 3) := by decide +kernel
theorem dX5_isOffered_11 : decode cX5_isOffered 11 = .ok (.iconst 0, 1) := by decide +kernel
theorem dX5_isOffered_12 : decode cX5_isOffered 12 = .ok (.ireturn, 1) := by decide +kernel
theorem dX5_isDryEnough_0 : decode cX5_isDryEnough 0 = .ok (.bipush 20, 2) := by decide +kernel
theorem dX5_isDryEnough_2 : decode cX5_isDryEnough 2 = .ok (.aload_n 0, 1) := by decide +kernel
theorem dX5_isDryEnough_3 : decode cX5_isDryEnough 3 = .ok (.getfield 30, 3) := by decide +kernel
theorem dX5_isDryEnough_6 : decode cX5_isDryEnough 6 = .ok (.imul, 1) := by decide +kernel
theorem dX5_isDryEnough_7 : decode cX5_isDryEnough 7 = .ok (.aload_n 0, 1) := by decide +kernel
theorem dX5_isDryEnough_8 : decode cX5_isDryEnough 8 = .ok (.invokevirtual 74, 3) := by decide +kernel
theorem dX5_isDryEnough_11 : decode cX5_isDryEnough 11 = .ok (.if_icmp .gt 7, 3) := by decide +kernel
theorem dX5_isDryEnough_14 : decode cX5_isDryEnough 14 = .ok (.iconst 1, 1) := by decide +kernel
theorem dX5_isDryEnough_15 : decode cX5_isDryEnough 15 = .ok (.goto 4, 3) := by decide +kernel
theorem dX5_isDryEnough_18 : decode cX5_isDryEnough 18 = .ok (.iconst 0, 1) := by decide +kernel
theorem dX5_isDryEnough_19 : decode cX5_isDryEnough 19 = .ok (.ireturn, 1) := by decide +kernel
theorem dX5_note_0 : decode cX5_note 0 = .ok (.aload_n 0, 1) := by decide +kernel
theorem dX5_note_1 : decode cX5_note 1 = .ok (.getfield 78, 3) := by decide +kernel
theorem dX5_note_4 : decode cX5_note 4 = .ok (.ifnull 10, 3) := by decide +kernel
theorem dX5_note_7 : decode cX5_note 7 = .ok (.aload_n 0, 1) := by decide +kernel
theorem dX5_note_8 : decode cX5_note 8 = .ok (.getfield 78, 3) := by decide +kernel
theorem dX5_note_11 : decode cX5_note 11 = .ok (.iload_n 1, 1) := by decide +kernel
theorem dX5_note_12 : decode cX5_note 12 = .ok (.iaload, 1) := by decide +kernel
theorem dX5_note_13 : decode cX5_note 13 = .ok (.ireturn, 1) := by decide +kernel
theorem dX5_note_14 : decode cX5_note 14 = .ok (.bipush 10, 2) := by decide +kernel
theorem dX5_note_16 : decode cX5_note 16 = .ok (.aload_n 0, 1) := by decide +kernel
theorem dX5_note_17 : decode cX5_note 17 = .ok (.getfield 59, 3) := by decide +kernel
theorem dX5_note_20 : decode cX5_note 20 = .ok (.imul, 1) := by decide +kernel
theorem dX5_note_21 : decode cX5_note 21 = .ok (.aload_n 0, 1) := by decide +kernel
theorem dX5_note_22 : decode cX5_note 22 = .ok (.invokevirtual 74, 3) := by decide +kernel
theorem dX5_note_25 : decode cX5_note 25 = .ok (.idiv, 1) := by decide +kernel
theorem dX5_note_26 : decode cX5_note 26 = .ok (.istore_n 2, 1) := by decide +kernel
theorem dX5_note_27 : decode cX5_note 27 = .ok (.iload_n 1, 1) := by decide +kernel
theorem dX5_note_28 : decode cX5_note 28 = .ok (.lookupswitch 106 #[(0, 28), (1, 65)], 28) := by decide +kernel
theorem dX5_note_56 : decode cX5_note 56 = .ok (.aload_n 0, 1) := by decide +kernel
theorem dX5_note_57 : decode cX5_note 57 = .ok (.getfield 39, 3) := by decide +kernel
theorem dX5_note_60 : decode cX5_note 60 = .ok (.bipush 8, 2) := by decide +kernel
theorem dX5_note_62 : decode cX5_note 62 = .ok (.idiv, 1) := by decide +kernel
theorem dX5_note_63 : decode cX5_note 63 = .ok (.aload_n 0, 1) := by decide +kernel
theorem dX5_note_64 : decode cX5_note 64 = .ok (.getfield 36, 3) := by decide +kernel
theorem dX5_note_67 : decode cX5_note 67 = .ok (.iconst 3, 1) := by decide +kernel
theorem dX5_note_68 : decode cX5_note 68 = .ok (.idiv, 1) := by decide +kernel
theorem dX5_note_69 : decode cX5_note 69 = .ok (.iadd, 1) := by decide +kernel
theorem dX5_note_70 : decode cX5_note 70 = .ok (.aload_n 0, 1) := by decide +kernel
theorem dX5_note_71 : decode cX5_note 71 = .ok (.getfield 15, 3) := by decide +kernel
theorem dX5_note_74 : decode cX5_note 74 = .ok (.iconst 2, 1) := by decide +kernel
theorem dX5_note_75 : decode cX5_note 75 = .ok (.if_icmp .ne 7, 3) := by decide +kernel
theorem dX5_note_78 : decode cX5_note 78 = .ok (.iconst 2, 1) := by decide +kernel
theorem dX5_note_79 : decode cX5_note 79 = .ok (.goto 4, 3) := by decide +kernel
theorem dX5_note_82 : decode cX5_note 82 = .ok (.iconst 0, 1) := by decide +kernel
theorem dX5_note_83 : decode cX5_note 83 = .ok (.iadd, 1) := by decide +kernel
theorem dX5_note_84 : decode cX5_note 84 = .ok (.aload_n 0, 1) := by decide +kernel
theorem dX5_note_85 : decode cX5_note 85 = .ok (.getfield 42, 3) := by decide +kernel
theorem dX5_note_88 : decode cX5_note 88 = .ok (.isub, 1) := by decide +kernel
theorem dX5_note_89 : decode cX5_note 89 = .ok (.invokestatic 81, 3) := by decide +kernel
theorem dX5_note_92 : decode cX5_note 92 = .ok (.ireturn, 1) := by decide +kernel
theorem dX5_note_93 : decode cX5_note 93 = .ok (.iload_n 2, 1) := by decide +kernel
theorem dX5_note_94 : decode cX5_note 94 = .ok (.iconst 2, 1) := by decide +kernel
theorem dX5_note_95 : decode cX5_note 95 = .ok (.idiv, 1) := by decide +kernel
theorem dX5_note_96 : decode cX5_note 96 = .ok (.aload_n 0, 1) := by decide +kernel
theorem dX5_note_97 : decode cX5_note 97 = .ok (.getfield 48, 3) := by decide +kernel
theorem dX5_note_100 : decode cX5_note 100 = .ok (.ifCond .eq 7, 3) := by decide +kernel
theorem dX5_note_103 : decode cX5_note 103 = .ok (.iconst 3, 1) := by decide +kernel
theorem dX5_note_104 : decode cX5_note 104 = .ok (.goto 18, 3) := by decide +kernel
theorem dX5_note_107 : decode cX5_note 107 = .ok (.iconst 4, 1) := by decide +kernel
theorem dX5_note_108 : decode cX5_note 108 = .ok (.aload_n 0, 1) := by decide +kernel
theorem dX5_note_109 : decode cX5_note 109 = .ok (.getfield 39, 3) := by decide +kernel
theorem dX5_note_112 : decode cX5_note 112 = .ok (.bipush 30, 2) := by decide +kernel
theorem dX5_note_114 : decode cX5_note 114 = .ok (.isub, 1) := by decide +kernel
theorem dX5_note_115 : decode cX5_note 115 = .ok (.invokestatic 85, 3) := by decide +kernel
theorem dX5_note_118 : decode cX5_note 118 = .ok (.bipush 8, 2) := by decide +kernel
theorem dX5_note_120 : decode cX5_note 120 = .ok (.idiv, 1) := by decide +kernel
theorem dX5_note_121 : decode cX5_note 121 = .ok (.isub, 1) := by decide +kernel
theorem dX5_note_122 : decode cX5_note 122 = .ok (.iadd, 1) := by decide +kernel
theorem dX5_note_123 : decode cX5_note 123 = .ok (.aload_n 0, 1) := by decide +kernel
theorem dX5_note_124 : decode cX5_note 124 = .ok (.getfield 45, 3) := by decide +kernel
theorem dX5_note_127 : decode cX5_note 127 = .ok (.iconst 4, 1) := by decide +kernel
theorem dX5_note_128 : decode cX5_note 128 = .ok (.idiv, 1) := by decide +kernel
theorem dX5_note_129 : decode cX5_note 129 = .ok (.isub, 1) := by decide +kernel
theorem dX5_note_130 : decode cX5_note 130 = .ok (.invokestatic 81, 3) := by decide +kernel
theorem dX5_note_133 : decode cX5_note 133 = .ok (.ireturn, 1) := by decide +kernel
theorem dX5_note_134 : decode cX5_note 134 = .ok (.bipush 12, 2) := by decide +kernel
theorem dX5_note_136 : decode cX5_note 136 = .ok (.aload_n 0, 1) := by decide +kernel
theorem dX5_note_137 : decode cX5_note 137 = .ok (.getfield 33, 3) := by decide +kernel
theorem dX5_note_140 : decode cX5_note 140 = .ok (.invokestatic 90, 3) := by decide +kernel
theorem dX5_note_143 : decode cX5_note 143 = .ok (.iconst 2, 1) := by decide +kernel
theorem dX5_note_144 : decode cX5_note 144 = .ok (.idiv, 1) := by decide +kernel
theorem dX5_note_145 : decode cX5_note 145 = .ok (.iload_n 2, 1) := by decide +kernel
theorem dX5_note_146 : decode cX5_note 146 = .ok (.iconst 3, 1) := by decide +kernel
theorem dX5_note_147 : decode cX5_note 147 = .ok (.idiv, 1) := by decide +kernel
theorem dX5_note_148 : decode cX5_note 148 = .ok (.iadd, 1) := by decide +kernel
theorem dX5_note_149 : decode cX5_note 149 = .ok (.aload_n 0, 1) := by decide +kernel
theorem dX5_note_150 : decode cX5_note 150 = .ok (.getfield 42, 3) := by decide +kernel
theorem dX5_note_153 : decode cX5_note 153 = .ok (.isub, 1) := by decide +kernel
theorem dX5_note_154 : decode cX5_note 154 = .ok (.aload_n 0, 1) := by decide +kernel
theorem dX5_note_155 : decode cX5_note 155 = .ok (.getfield 45, 3) := by decide +kernel
theorem dX5_note_158 : decode cX5_note 158 = .ok (.iconst 5, 1) := by decide +kernel
theorem dX5_note_159 : decode cX5_note 159 = .ok (.idiv, 1) := by decide +kernel
theorem dX5_note_160 : decode cX5_note 160 = .ok (.isub, 1) := by decide +kernel
theorem dX5_note_161 : decode cX5_note 161 = .ok (.aload_n 0, 1) := by decide +kernel
theorem dX5_note_162 : decode cX5_note 162 = .ok (.getfield 52, 3) := by decide +kernel
theorem dX5_note_165 : decode cX5_note 165 = .ok (.ifCond .eq 7, 3) := by decide +kernel
theorem dX5_note_168 : decode cX5_note 168 = .ok (.iconst 5, 1) := by decide +kernel
theorem dX5_note_169 : decode cX5_note 169 = .ok (.goto 4, 3) := by decide +kernel
theorem dX5_note_172 : decode cX5_note 172 = .ok (.iconst 0, 1) := by decide +kernel
theorem dX5_note_173 : decode cX5_note 173 = .ok (.isub, 1) := by decide +kernel
theorem dX5_note_174 : decode cX5_note 174 = .ok (.invokestatic 81, 3) := by decide +kernel
theorem dX5_note_177 : decode cX5_note 177 = .ok (.ireturn, 1) := by decide +kernel
theorem dX5_sum_0 : decode cX5_sum 0 = .ok (.aload_n 0, 1) := by decide +kernel
theorem dX5_sum_1 : decode cX5_sum 1 = .ok (.iconst 0, 1) := by decide +kernel
theorem dX5_sum_2 : decode cX5_sum 2 = .ok (.invokevirtual 94, 3) := by decide +kernel
theorem dX5_sum_5 : decode cX5_sum 5 = .ok (.aload_n 0, 1) := by decide +kernel
theorem dX5_sum_6 : decode cX5_sum 6 = .ok (.iconst 1, 1) := by decide +kernel
theorem dX5_sum_7 : decode cX5_sum 7 = .ok (.invokevirtual 94, 3) := by decide +kernel
theorem dX5_sum_10 : decode cX5_sum 10 = .ok (.iadd, 1) := by decide +kernel
theorem dX5_sum_11 : decode cX5_sum 11 = .ok (.aload_n 0, 1) := by decide +kernel
theorem dX5_sum_12 : decode cX5_sum 12 = .ok (.iconst 2, 1) := by decide +kernel
theorem dX5_sum_13 : decode cX5_sum 13 = .ok (.invokevirtual 94, 3) := by decide +kernel
theorem dX5_sum_16 : decode cX5_sum 16 = .ok (.iadd, 1) := by decide +kernel
theorem dX5_sum_17 : decode cX5_sum 17 = .ok (.ireturn, 1) := by decide +kernel
theorem dX5_wither_0 : decode cX5_wither 0 = .ok (.aload_n 0, 1) := by decide +kernel
theorem dX5_wither_1 : decode cX5_wither 1 = .ok (.aload_n 0, 1) := by decide +kernel
theorem dX5_wither_2 : decode cX5_wither 2 = .ok (.invokevirtual 74, 3) := by decide +kernel
theorem dX5_wither_5 : decode cX5_wither 5 = .ok (.aload_n 0, 1) := by decide +kernel
theorem dX5_wither_6 : decode cX5_wither 6 = .ok (.getfield 30, 3) := by decide +kernel
theorem dX5_wither_9 : decode cX5_wither 9 = .ok (.aload_n 0, 1) := by decide +kernel
theorem dX5_wither_10 : decode cX5_wither 10 = .ok (.getfield 30, 3) := by decide +kernel
theorem dX5_wither_13 : decode cX5_wither 13 = .ok (.iload_n 1, 1) := by decide +kernel
theorem dX5_wither_14 : decode cX5_wither 14 = .ok (.imul, 1) := by decide +kernel
theorem dX5_wither_15 : decode cX5_wither 15 = .ok (.bipush 9, 2) := by decide +kernel
theorem dX5_wither_17 : decode cX5_wither 17 = .ok (.iadd, 1) := by decide +kernel
theorem dX5_wither_18 : decode cX5_wither 18 = .ok (.bipush 10, 2) := by decide +kernel
theorem dX5_wither_20 : decode cX5_wither 20 = .ok (.idiv, 1) := by decide +kernel
theorem dX5_wither_21 : decode cX5_wither 21 = .ok (.isub, 1) := by decide +kernel
theorem dX5_wither_22 : decode cX5_wither 22 = .ok (.invokestatic 97, 3) := by decide +kernel
theorem dX5_wither_25 : decode cX5_wither 25 = .ok (.putfield 30, 3) := by decide +kernel
theorem dX5_wither_28 : decode cX5_wither 28 = .ok (.aload_n 0, 1) := by decide +kernel
theorem dX5_wither_29 : decode cX5_wither 29 = .ok (.dup, 1) := by decide +kernel
theorem dX5_wither_30 : decode cX5_wither 30 = .ok (.getfield 33, 3) := by decide +kernel
theorem dX5_wither_33 : decode cX5_wither 33 = .ok (.iconst 1, 1) := by decide +kernel
theorem dX5_wither_34 : decode cX5_wither 34 = .ok (.iadd, 1) := by decide +kernel
theorem dX5_wither_35 : decode cX5_wither 35 = .ok (.putfield 33, 3) := by decide +kernel
theorem dX5_wither_38 : decode cX5_wither 38 = .ok (.return_, 1) := by decide +kernel
theorem dX5_fire_0 : decode cX5_fire 0 = .ok (.aload_n 0, 1) := by decide +kernel
theorem dX5_fire_1 : decode cX5_fire 1 = .ok (.invokevirtual 74, 3) := by decide +kernel
theorem dX5_fire_4 : decode cX5_fire 4 = .ok (.istore_n 2, 1) := by decide +kernel
theorem dX5_fire_5 : decode cX5_fire 5 = .ok (.bipush 20, 2) := by decide +kernel
theorem dX5_fire_7 : decode cX5_fire 7 = .ok (.aload_n 0, 1) := by decide +kernel
theorem dX5_fire_8 : decode cX5_fire 8 = .ok (.getfield 30, 3) := by decide +kernel
theorem dX5_fire_11 : decode cX5_fire 11 = .ok (.imul, 1) := by decide +kernel
theorem dX5_fire_12 : decode cX5_fire 12 = .ok (.iload_n 2, 1) := by decide +kernel
theorem dX5_fire_13 : decode cX5_fire 13 = .ok (.if_icmp .gt 16, 3) := by decide +kernel
theorem dX5_fire_16 : decode cX5_fire 16 = .ok (.aload_n 0, 1) := by decide +kernel
theorem dX5_fire_17 : decode cX5_fire 17 = .ok (.dup, 1) := by decide +kernel
theorem dX5_fire_18 : decode cX5_fire 18 = .ok (.getfield 45, 3) := by decide +kernel
theorem dX5_fire_21 : decode cX5_fire 21 = .ok (.iload_n 1, 1) := by decide +kernel
theorem dX5_fire_22 : decode cX5_fire 22 = .ok (.iadd, 1) := by decide +kernel
theorem dX5_fire_23 : decode cX5_fire 23 = .ok (.putfield 45, 3) := by decide +kernel
theorem dX5_fire_26 : decode cX5_fire 26 = .ok (.goto 26, 3) := by decide +kernel
theorem dX5_fire_29 : decode cX5_fire 29 = .ok (.iload_n 1, 1) := by decide +kernel
theorem dX5_fire_30 : decode cX5_fire 30 = .ok (.iconst 4, 1) := by decide +kernel
theorem dX5_fire_31 : decode cX5_fire 31 = .ok (.if_icmp .lt 21, 3) := by decide +kernel
theorem dX5_fire_34 : decode cX5_fire 34 = .ok (.aload_n 0, 1) := by decide +kernel
theorem dX5_fire_35 : decode cX5_fire 35 = .ok (.getfield 30, 3) := by decide +kernel
theorem dX5_fire_38 : decode cX5_fire 38 = .ok (.iload_n 2, 1) := by decide +kernel
theorem dX5_fire_39 : decode cX5_fire 39 = .ok (.if_icmp .le 13, 3) := by decide +kernel
theorem dX5_fire_42 : decode cX5_fire 42 = .ok (.aload_n 0, 1) := by decide +kernel
theorem dX5_fire_43 : decode cX5_fire 43 = .ok (.dup, 1) := by decide +kernel
theorem dX5_fire_44 : decode cX5_fire 44 = .ok (.getfield 42, 3) := by decide +kernel
theorem dX5_fire_47 : decode cX5_fire 47 = .ok (.iconst 1, 1) := by decide +kernel
theorem dX5_fire_48 : decode cX5_fire 48 = .ok (.iadd, 1) := by decide +kernel
theorem dX5_fire_49 : decode cX5_fire 49 = .ok (.putfield 42, 3) := by decide +kernel
theorem dX5_fire_52 : decode cX5_fire 52 = .ok (.aload_n 0, 1) := by decide +kernel
theorem dX5_fire_53 : decode cX5_fire 53 = .ok (.iconst 0, 1) := by decide +kernel
theorem dX5_fire_54 : decode cX5_fire 54 = .ok (.aload_n 0, 1) := by decide +kernel
theorem dX5_fire_55 : decode cX5_fire 55 = .ok (.getfield 30, 3) := by decide +kernel
theorem dX5_fire_58 : decode cX5_fire 58 = .ok (.iload_n 1, 1) := by decide +kernel
theorem dX5_fire_59 : decode cX5_fire 59 = .ok (.isub, 1) := by decide +kernel
theorem dX5_fire_60 : decode cX5_fire 60 = .ok (.iload_n 2, 1) := by decide +kernel
theorem dX5_fire_61 : decode cX5_fire 61 = .ok (.bipush 20, 2) := by decide +kernel
theorem dX5_fire_63 : decode cX5_fire 63 = .ok (.idiv, 1) := by decide +kernel
theorem dX5_fire_64 : decode cX5_fire 64 = .ok (.isub, 1) := by decide +kernel
theorem dX5_fire_65 : decode cX5_fire 65 = .ok (.invokestatic 97, 3) := by decide +kernel
theorem dX5_fire_68 : decode cX5_fire 68 = .ok (.putfield 30, 3) := by decide +kernel
theorem dX5_fire_71 : decode cX5_fire 71 = .ok (.return_, 1) := by decide +kernel
theorem dX5_settle_0 : decode cX5_settle 0 = .ok (.aload_n 0, 1) := by decide +kernel
theorem dX5_settle_1 : decode cX5_settle 1 = .ok (.aload_n 0, 1) := by decide +kernel
theorem dX5_settle_2 : decode cX5_settle 2 = .ok (.invokevirtual 100, 3) := by decide +kernel
theorem dX5_settle_5 : decode cX5_settle 5 = .ok (.ifCond .eq 7, 3) := by decide +kernel
theorem dX5_settle_8 : decode cX5_settle 8 = .ok (.iconst 2, 1) := by decide +kernel
theorem dX5_settle_9 : decode cX5_settle 9 = .ok (.goto 4, 3) := by decide +kernel
theorem dX5_settle_12 : decode cX5_settle 12 = .ok (.iconst 1, 1) := by decide +kernel
theorem dX5_settle_13 : decode cX5_settle 13 = .ok (.putfield 27, 3) := by decide +kernel
theorem dX5_settle_16 : decode cX5_settle 16 = .ok (.return_, 1) := by decide +kernel
theorem dX6_init_0 : decode cX6_init 0 = .ok (.aload_n 0, 1) := by decide +kernel
theorem dX6_init_1 : decode cX6_init 1 = .ok (.invokespecial 3, 3) := by decide +kernel
theorem dX6_init_4 : decode cX6_init 4 = .ok (.aload_n 0, 1) := by decide +kernel
theorem dX6_init_5 : decode cX6_init 5 = .ok (.iconst 5, 1) := by decide +kernel
theorem dX6_init_6 : decode cX6_init 6 = .ok (.newarray .int, 2) := by decide +kernel
theorem dX6_init_8 : decode cX6_init 8 = .ok (.putfield 9, 3) := by decide +kernel
theorem dX6_init_11 : decode cX6_init 11 = .ok (.aload_n 0, 1) := by decide +kernel
theorem dX6_init_12 : decode cX6_init 12 = .ok (.iload_n 1, 1) := by decide +kernel
theorem dX6_init_13 : decode cX6_init 13 = .ok (.putfield 15, 3) := by decide +kernel
theorem dX6_init_16 : decode cX6_init 16 = .ok (.aload_n 0, 1) := by decide +kernel
theorem dX6_init_17 : decode cX6_init 17 = .ok (.iload_n 2, 1) := by decide +kernel
theorem dX6_init_18 : decode cX6_init 18 = .ok (.putfield 19, 3) := by decide +kernel
theorem dX6_init_21 : decode cX6_init 21 = .ok (.return_, 1) := by decide +kernel
theorem dX6_copy_0 : decode cX6_copy 0 = .ok (.new 10, 3) := by decide +kernel
theorem dX6_copy_3 : decode cX6_copy 3 = .ok (.dup, 1) := by decide +kernel
theorem dX6_copy_4 : decode cX6_copy 4 = .ok (.aload_n 0, 1) := by decide +kernel
theorem dX6_copy_5 : decode cX6_copy 5 = .ok (.getfield 15, 3) := by decide +kernel
theorem dX6_copy_8 : decode cX6_copy 8 = .ok (.aload_n 0, 1) := by decide +kernel
theorem dX6_copy_9 : decode cX6_copy 9 = .ok (.getfield 19, 3) := by decide +kernel
theorem dX6_copy_12 : decode cX6_copy 12 = .ok (.invokespecial 22, 3) := by decide +kernel
theorem dX6_copy_15 : decode cX6_copy 15 = .ok (.astore_n 1, 1) := by decide +kernel
theorem dX6_copy_16 : decode cX6_copy 16 = .ok (.aload_n 1, 1) := by decide +kernel
theorem dX6_copy_17 : decode cX6_copy 17 = .ok (.aload_n 0, 1) := by decide +kernel
theorem dX6_copy_18 : decode cX6_copy 18 = .ok (.getfield 25, 3) := by decide +kernel
theorem dX6_copy_21 : decode cX6_copy 21 = .ok (.putfield 25, 3) := by decide +kernel
theorem dX6_copy_24 : decode cX6_copy 24 = .ok (.aload_n 1, 1) := by decide +kernel
theorem dX6_copy_25 : decode cX6_copy 25 = .ok (.aload_n 0, 1) := by decide +kernel
theorem dX6_copy_26 : decode cX6_copy 26 = .ok (.getfield 28, 3) := by decide +kernel
theorem dX6_copy_29 : decode cX6_copy 29 = .ok (.putfield 28, 3) := by decide +kernel
theorem dX6_copy_32 : decode cX6_copy 32 = .ok (.aload_n 1, 1) := by decide +kernel
theorem dX6_copy_33 : decode cX6_copy 33 = .ok (.aload_n 0, 1) := by decide +kernel
theorem dX6_copy_34 : decode cX6_copy 34 = .ok (.getfield 31, 3) := by decide +kernel
theorem dX6_copy_37 : decode cX6_copy 37 = .ok (.putfield 31, 3) := by decide +kernel
theorem dX6_copy_40 : decode cX6_copy 40 = .ok (.aload_n 1, 1) := by decide +kernel
theorem dX6_copy_41 : decode cX6_copy 41 = .ok (.aload_n 0, 1) := by decide +kernel
theorem dX6_copy_42 : decode cX6_copy 42 = .ok (.getfield 34, 3) := by decide +kernel
theorem dX6_copy_45 : decode cX6_copy 45 = .ok (.putfield 34, 3) := by decide +kernel
theorem dX6_copy_48 : decode cX6_copy 48 = .ok (.aload_n 0, 1) := by decide +kernel
theorem dX6_copy_49 : decode cX6_copy 49 = .ok (.getfield 9, 3) := by decide +kernel
theorem dX6_copy_52 : decode cX6_copy 52 = .ok (.iconst 0, 1) := by decide +kernel
theorem dX6_copy_53 : decode cX6_copy 53 = .ok (.aload_n 1, 1) := by decide +kernel
theorem dX6_copy_54 : decode cX6_copy 54 = .ok (.getfield 9, 3) := by decide +kernel
theorem dX6_copy_57 : decode cX6_copy 57 = .ok (.iconst 0, 1) := by decide +kernel
theorem dX6_copy_58 : decode cX6_copy 58 = .ok (.aload_n 0, 1) := by decide +kernel
theorem dX6_copy_59 : decode cX6_copy 59 = .ok (.getfield 9, 3) := by decide +kernel
theorem dX6_copy_62 : decode cX6_copy 62 = .ok (.arraylength, 1) := by decide +kernel
theorem dX6_copy_63 : decode cX6_copy 63 = .ok (.invokestatic 37, 3) := by decide +kernel
theorem dX6_copy_66 : decode cX6_copy 66 = .ok (.aload_n 1, 1) := by decide +kernel
theorem dX6_copy_67 : decode cX6_copy 67 = .ok (.areturn, 1) := by decide +kernel
theorem dX6_day_0 : decode cX6_day 0 = .ok (.aload_n 0, 1) := by decide +kernel
theorem dX6_day_1 : decode cX6_day 1 = .ok (.getfield 34, 3) := by decide +kernel
theorem dX6_day_4 : decode cX6_day 4 = .ok (.ifCond .le 13, 3) := by decide +kernel
theorem dX6_day_7 : decode cX6_day 7 = .ok (.aload_n 0, 1) := by decide +kernel
theorem dX6_day_8 : decode cX6_day 8 = .ok (.dup, 1) := by decide +kernel
theorem dX6_day_9 : decode cX6_day 9 = .ok (.getfield 34, 3) := by decide +kernel
theorem dX6_day_12 : decode cX6_day 12 = .ok (.iconst 1, 1) := by decide +kernel
theorem dX6_day_13 : decode cX6_day 13 = .ok (.isub, 1) := by decide +kernel
theorem dX6_day_14 : decode cX6_day 14 = .ok (.putfield 34, 3) := by decide +kernel
theorem dX6_day_17 : decode cX6_day 17 = .ok (.aload_n 0, 1) := by decide +kernel
theorem dX6_day_18 : decode cX6_day 18 = .ok (.getfield 28, 3) := by decide +kernel
theorem dX6_day_21 : decode cX6_day 21 = .ok (.ifCond .le 15, 3) := by decide +kernel
theorem dX6_day_24 : decode cX6_day 24 = .ok (.aload_n 0, 1) := by decide +kernel
theorem dX6_day_25 : decode cX6_day 25 = .ok (.dup, 1) := by decide +kernel
theorem dX6_day_26 : decode cX6_day 26 = .ok (.getfield 28, 3) := by decide +kernel
theorem dX6_day_29 : decode cX6_day 29 = .ok (.iconst 1, 1) := by decide +kernel
theorem dX6_day_30 : decode cX6_day 30 = .ok (.isub, 1) := by decide +kernel
theorem dX6_day_31 : decode cX6_day 31 = .ok (.putfield 28, 3) := by decide +kernel
theorem dX6_day_34 : decode cX6_day 34 = .ok (.iconst 0, 1) := by decide +kernel
theorem dX6_day_35 : decode cX6_day 35 = .ok (.ireturn, 1) := by decide +kernel
theorem dX6_day_36 : decode cX6_day 36 = .ok (.aload_n 0, 1) := by decide +kernel
theorem dX6_day_37 : decode cX6_day 37 = .ok (.iload_n 2, 1) := by decide +kernel
theorem dX6_day_38 : decode cX6_day 38 = .ok (.aload_n 0, 1) := by decide +kernel
theorem dX6_day_39 : decode cX6_day 39 = .ok (.getfield 19, 3) := by decide +kernel
theorem dX6_day_42 : decode cX6_day 42 = .ok (.iadd, 1) := by decide +kernel
theorem dX6_day_43 : decode cX6_day 43 = .ok (.iconst 5, 1) := by decide +kernel
theorem dX6_day_44 : decode cX6_day 44 = .ok (.if_icmp .lt 12, 3) := by decide +kernel
theorem dX6_day_47 : decode cX6_day 47 = .ok (.aload_n 0, 1) := by decide +kernel
theorem dX6_day_48 : decode cX6_day 48 = .ok (.getfield 31, 3) := by decide +kernel
theorem dX6_day_51 : decode cX6_day 51 = .ok (.iconst 1, 1) := by decide +kernel
theorem dX6_day_52 : decode cX6_day 52 = .ok (.iadd, 1) := by decide +kernel
theorem dX6_day_53 : decode cX6_day 53 = .ok (.goto 13, 3) := by decide +kernel
theorem dX6_day_56 : decode cX6_day 56 = .ok (.iconst 0, 1) := by decide +kernel
theorem dX6_day_57 : decode cX6_day 57 = .ok (.aload_n 0, 1) := by decide +kernel
theorem dX6_day_58 : decode cX6_day 58 = .ok (.getfield 31, 3) := by decide +kernel
theorem dX6_day_61 : decode cX6_day 61 = .ok (.iconst 1, 1) := by decide +kernel
theorem dX6_day_62 : decode cX6_day 62 = .ok (.isub, 1) := by decide +kernel
theorem dX6_day_63 : decode cX6_day 63 = .ok (.invokestatic 43, 3) := by decide +kernel
theorem dX6_day_66 : decode cX6_day 66 = .ok (.putfield 31, 3) := by decide +kernel
theorem dX6_day_69 : decode cX6_day 69 = .ok (.aload_n 0, 1) := by decide +kernel
theorem dX6_day_70 : decode cX6_day 70 = .ok (.dup, 1) := by decide +kernel
theorem dX6_day_71 : decode cX6_day 71 = .ok (.getfield 25, 3) := by decide +kernel
theorem dX6_day_74 : decode cX6_day 74 = .ok (.iconst 0, 1) := by decide +kernel
theorem dX6_day_75 : decode cX6_day 75 = .ok (.iload_n 1, 1) := by decide +kernel
theorem dX6_day_76 : decode cX6_day 76 = .ok (.aload_n 0, 1) := by decide +kernel
theorem dX6_day_77 : decode cX6_day 77 = .ok (.getfield 19, 3) := by decide +kernel
theorem dX6_day_80 : decode cX6_day 80 = .ok (.isub, 1) := by decide +kernel
theorem dX6_day_81 : decode cX6_day 81 = .ok (.invokestatic 43, 3) := by decide +kernel
theorem dX6_day_84 : decode cX6_day 84 = .ok (.iconst 3, 1) := by decide +kernel
theorem dX6_day_85 : decode cX6_day 85 = .ok (.iload_n 2, 1) := by decide +kernel
theorem dX6_day_86 : decode cX6_day 86 = .ok (.invokestatic 49, 3) := by decide +kernel
theorem dX6_day_89 : decode cX6_day 89 = .ok (.iadd, 1) := by decide +kernel
theorem dX6_day_90 : decode cX6_day 90 = .ok (.iadd, 1) := by decide +kernel
theorem dX6_day_91 : decode cX6_day 91 = .ok (.putfield 25, 3) := by decide +kernel
theorem dX6_day_94 : decode cX6_day 94 = .ok (.iconst 0, 1) := by decide +kernel
theorem dX6_day_95 : decode cX6_day 95 = .ok (.istore_n 3, 1) := by decide +kernel
theorem dX6_day_96 : decode cX6_day 96 = .ok (.aload_n 0, 1) := by decide +kernel
theorem dX6_day_97 : decode cX6_day 97 = .ok (.getfield 25, 3) := by decide +kernel
theorem dX6_day_100 : decode cX6_day 100 = .ok (.iconst 5, 1) := by decide +kernel
theorem dX6_day_101 : decode cX6_day 101 = .ok (.if_icmp .lt 13, 3) := by decide +kernel
theorem dX6_day_104 : decode cX6_day 104 = .ok (.aload_n 0, 1) := by decide +kernel
theorem dX6_day_105 : decode cX6_day 105 = .ok (.invokevirtual 52, 3) := by decide +kernel
theorem dX6_day_108 : decode cX6_day 108 = .ok (.iinc 3 1, 3) := by decide +kernel
theorem dX6_day_111 : decode cX6_day 111 = .ok (.goto (-15), 3) := by decide +kernel
theorem dX6_day_114 : decode cX6_day 114 = .ok (.iload_n 3, 1) := by decide +kernel
theorem dX6_day_115 : decode cX6_day 115 = .ok (.ireturn, 1) := by decide +kernel
theorem dX6_flush_0 : decode cX6_flush 0 = .ok (.aload_n 0, 1) := by decide +kernel
theorem dX6_flush_1 : decode cX6_flush 1 = .ok (.dup, 1) := by decide +kernel
theorem dX6_flush_2 : decode cX6_flush 2 = .ok (.getfield 25, 3) := by decide +kernel
theorem dX6_flush_5 : decode cX6_flush 5 = .ok (.iconst 5, 1) := by decide +kernel
theorem dX6_flush_6 : decode cX6_flush 6 = .ok (.isub, 1) := by decide +kernel
theorem dX6_flush_7 : decode cX6_flush 7 = .ok (.putfield 25, 3) := by decide +kernel
theorem dX6_flush_10 : decode cX6_flush 10 = .ok (.aload_n 0, 1) := by decide +kernel
theorem dX6_flush_11 : decode cX6_flush 11 = .ok (.getfield 9, 3) := by decide +kernel
theorem dX6_flush_14 : decode cX6_flush 14 = .ok (.iconst 4, 1) := by decide +kernel
theorem dX6_flush_15 : decode cX6_flush 15 = .ok (.dup2, 1) := by decide +kernel
theorem dX6_flush_16 : decode cX6_flush 16 = .ok (.iaload, 1) := by decide +kernel
theorem dX6_flush_17 : decode cX6_flush 17 = .ok (.aload_n 0, 1) := by decide +kernel
theorem dX6_flush_18 : decode cX6_flush 18 = .ok (.getfield 9, 3) := by decide +kernel
theorem dX6_flush_21 : decode cX6_flush 21 = .ok (.iconst 3, 1) := by decide +kernel
theorem dX6_flush_22 : decode cX6_flush 22 = .ok (.iaload, 1) := by decide +kernel
theorem dX6_flush_23 : decode cX6_flush 23 = .ok (.iadd, 1) := by decide +kernel
theorem dX6_flush_24 : decode cX6_flush 24 = .ok (.iastore, 1) := by decide +kernel
theorem dX6_flush_25 : decode cX6_flush 25 = .ok (.iconst 3, 1) := by decide +kernel
theorem dX6_flush_26 : decode cX6_flush 26 = .ok (.istore_n 1, 1) := by decide +kernel
theorem dX6_flush_27 : decode cX6_flush 27 = .ok (.iload_n 1, 1) := by decide +kernel
theorem dX6_flush_28 : decode cX6_flush 28 = .ok (.ifCond .le 23, 3) := by decide +kernel
theorem dX6_flush_31 : decode cX6_flush 31 = .ok (.aload_n 0, 1) := by decide +kernel
theorem dX6_flush_32 : decode cX6_flush 32 = .ok (.getfield 9, 3) := by decide +kernel
theorem dX6_flush_35 : decode cX6_flush 35 = .ok (.iload_n 1, 1) := by decide +kernel
theorem dX6_flush_36 : decode cX6_flush 36 = .ok (.aload_n 0, 1) := by decide +kernel
theorem dX6_flush_37 : decode cX6_flush 37 = .ok (.getfield 9, 3) := by decide +kernel
theorem dX6_flush_40 : decode cX6_flush 40 = .ok (.iload_n 1, 1) := by decide +kernel
theorem dX6_flush_41 : decode cX6_flush 41 = .ok (.iconst 1, 1) := by decide +kernel
theorem dX6_flush_42 : decode cX6_flush 42 = .ok (.isub, 1) := by decide +kernel
theorem dX6_flush_43 : decode cX6_flush 43 = .ok (.iaload, 1) := by decide +kernel
theorem dX6_flush_44 : decode cX6_flush 44 = .ok (.iastore, 1) := by decide +kernel
theorem dX6_flush_45 : decode cX6_flush 45 = .ok (.iinc 1 (-1), 3) := by decide +kernel
theorem dX6_flush_48 : decode cX6_flush 48 = .ok (.goto (-21), 3) := by decide +kernel
theorem dX6_flush_51 : decode cX6_flush 51 = .ok (.aload_n 0, 1) := by decide +kernel
theorem dX6_flush_52 : decode cX6_flush 52 = .ok (.getfield 9, 3) := by decide +kernel
theorem dX6_flush_55 : decode cX6_flush 55 = .ok (.iconst 0, 1) := by decide +kernel
theorem dX6_flush_56 : decode cX6_flush 56 = .ok (.aload_n 0, 1) := by decide +kernel
theorem dX6_flush_57 : decode cX6_flush 57 = .ok (.getfield 31, 3) := by decide +kernel
theorem dX6_flush_60 : decode cX6_flush 60 = .ok (.iconst 3, 1) := by decide +kernel
theorem dX6_flush_61 : decode cX6_flush 61 = .ok (.if_icmp .lt 10, 3) := by decide +kernel
theorem dX6_flush_64 : decode cX6_flush 64 = .ok (.aload_n 0, 1) := by decide +kernel
theorem dX6_flush_65 : decode cX6_flush 65 = .ok (.getfield 15, 3) := by decide +kernel
theorem dX6_flush_68 : decode cX6_flush 68 = .ok (.goto 9, 3) := by decide +kernel
theorem dX6_flush_71 : decode cX6_flush 71 = .ok (.iconst 2, 1) := by decide +kernel
theorem dX6_flush_72 : decode cX6_flush 72 = .ok (.aload_n 0, 1) := by decide +kernel
theorem dX6_flush_73 : decode cX6_flush 73 = .ok (.getfield 15, 3) := by decide +kernel
theorem dX6_flush_76 : decode cX6_flush 76 = .ok (.imul, 1) := by decide +kernel
theorem dX6_flush_77 : decode cX6_flush 77 = .ok (.iastore, 1) := by decide +kernel
theorem dX6_flush_78 : decode cX6_flush 78 = .ok (.return_, 1) := by decide +kernel
theorem dX6_prune_0 : decode cX6_prune 0 = .ok (.iconst 0, 1) := by decide +kernel
theorem dX6_prune_1 : decode cX6_prune 1 = .ok (.istore_n 1, 1) := by decide +kernel
theorem dX6_prune_2 : decode cX6_prune 2 = .ok (.iconst 0, 1) := by decide +kernel
theorem dX6_prune_3 : decode cX6_prune 3 = .ok (.istore_n 2, 1) := by decide +kernel
theorem dX6_prune_4 : decode cX6_prune 4 = .ok (.iload_n 2, 1) := by decide +kernel
theorem dX6_prune_5 : decode cX6_prune 5 = .ok (.iconst 4, 1) := by decide +kernel
theorem dX6_prune_6 : decode cX6_prune 6 = .ok (.if_icmp .gt 25, 3) := by decide +kernel
theorem dX6_prune_9 : decode cX6_prune 9 = .ok (.iload_n 1, 1) := by decide +kernel
theorem dX6_prune_10 : decode cX6_prune 10 = .ok (.aload_n 0, 1) := by decide +kernel
theorem dX6_prune_11 : decode cX6_prune 11 = .ok (.getfield 9, 3) := by decide +kernel
theorem dX6_prune_14 : decode cX6_prune 14 = .ok (.iload_n 2, 1) := by decide +kernel
theorem dX6_prune_15 : decode cX6_prune 15 = .ok (.iaload, 1) := by decide +kernel
theorem dX6_prune_16 : decode cX6_prune 16 = .ok (.iadd, 1) := by decide +kernel
theorem dX6_prune_17 : decode cX6_prune 17 = .ok (.istore_n 1, 1) := by decide +kernel
theorem dX6_prune_18 : decode cX6_prune 18 = .ok (.aload_n 0, 1) := by decide +kernel
theorem dX6_prune_19 : decode cX6_prune 19 = .ok (.getfield 9, 3) := by decide +kernel
theorem dX6_prune_22 : decode cX6_prune 22 = .ok (.iload_n 2, 1) := by decide +kernel
theorem dX6_prune_23 : decode cX6_prune 23 = .ok (.iconst 0, 1) := by decide +kernel
theorem dX6_prune_24 : decode cX6_prune 24 = .ok (.iastore, 1) := by decide +kernel
theorem dX6_prune_25 : decode cX6_prune 25 = .ok (.iinc 2 1, 3) := by decide +kernel
theorem dX6_prune_28 : decode cX6_prune 28 = .ok (.goto (-24), 3) := by decide +kernel
theorem dX6_prune_31 : decode cX6_prune 31 = .ok (.aload_n 0, 1) := by decide +kernel
theorem dX6_prune_32 : decode cX6_prune 32 = .ok (.iconst 0, 1) := by decide +kernel
theorem dX6_prune_33 : decode cX6_prune 33 = .ok (.putfield 25, 3) := by decide +kernel
theorem dX6_prune_36 : decode cX6_prune 36 = .ok (.aload_n 0, 1) := by decide +kernel
theorem dX6_prune_37 : decode cX6_prune 37 = .ok (.iconst 0, 1) := by decide +kernel
theorem dX6_prune_38 : decode cX6_prune 38 = .ok (.putfield 31, 3) := by decide +kernel
theorem dX6_prune_41 : decode cX6_prune 41 = .ok (.aload_n 0, 1) := by decide +kernel
theorem dX6_prune_42 : decode cX6_prune 42 = .ok (.iconst 4, 1) := by decide +kernel
theorem dX6_prune_43 : decode cX6_prune 43 = .ok (.putfield 28, 3) := by decide +kernel
theorem dX6_prune_46 : decode cX6_prune 46 = .ok (.iload_n 1, 1) := by decide +kernel
theorem dX6_prune_47 : decode cX6_prune 47 = .ok (.ireturn, 1) := by decide +kernel
theorem dX6_mayTake_0 : decode cX6_mayTake 0 = .ok (.iconst 0, 1) := by decide +kernel
theorem dX6_mayTake_1 : decode cX6_mayTake 1 = .ok (.istore_n 2, 1) := by decide +kernel
theorem dX6_mayTake_2 : decode cX6_mayTake 2 = .ok (.iconst 2, 1) := by decide +kernel
theorem dX6_mayTake_3 : decode cX6_mayTake 3 = .ok (.istore_n 3, 1) := by decide +kernel
theorem dX6_mayTake_4 : decode cX6_mayTake 4 = .ok (.iload_n 3, 1) := by decide +kernel
theorem dX6_mayTake_5 : decode cX6_mayTake 5 = .ok (.iload_n 1, 1) := by decide +kernel
theorem dX6_mayTake_6 : decode cX6_mayTake 6 = .ok (.iconst 1, 1) := by decide +kernel
theorem dX6_mayTake_7 : decode cX6_mayTake 7 = .ok (.iadd, 1) := by decide +kernel
theorem dX6_mayTake_8 : decode cX6_mayTake 8 = .ok (.if_icmp .gt 18, 3) := by decide +kernel
theorem dX6_mayTake_11 : decode cX6_mayTake 11 = .ok (.iload_n 2, 1) := by decide +kernel
theorem dX6_mayTake_12 : decode cX6_mayTake 12 = .ok (.aload_n 0, 1) := by decide +kernel
theorem dX6_mayTake_13 : decode cX6_mayTake 13 = .ok (.getfield 9, 3) := by decide +kernel
theorem dX6_mayTake_16 : decode cX6_mayTake 16 = .ok (.iload_n 3, 1) := by decide +kernel
theorem dX6_mayTake_17 : decode cX6_mayTake 17 = .ok (.iaload, 1) := by decide +kernel
theorem dX6_mayTake_18 : decode cX6_mayTake 18 = .ok (.iadd, 1) := by decide +kernel
theorem dX6_mayTake_19 : decode cX6_mayTake 19 = .ok (.istore_n 2, 1) := by decide +kernel
theorem dX6_mayTake_20 : decode cX6_mayTake 20 = .ok (.iinc 3 1, 3) := by decide +kernel
theorem dX6_mayTake_23 : decode cX6_mayTake 23 = .ok (.goto (-19), 3) := by decide +kernel
theorem dX6_mayTake_26 : decode cX6_mayTake 26 = .ok (.iload_n 2, 1) := by decide +kernel
theorem dX6_mayTake_27 : decode cX6_mayTake 27 = .ok (.ireturn, 1) := by decide +kernel
theorem dX7_init_0 : decode cX7_init 0 = .ok (.aload_n 0, 1) := by decide +kernel
theorem dX7_init_1 : decode cX7_init 1 = .ok (.invokespecial 3, 3) := by decide +kernel
theorem dX7_init_4 : decode cX7_init 4 = .ok (.return_, 1) := by decide +kernel
theorem dX7_tells_0 : decode cX7_tells 0 = .ok (.iload_n 1, 1) := by decide +kernel
theorem dX7_tells_1 : decode cX7_tells 1 = .ok (.aload_n 0, 1) := by decide +kernel
theorem dX7_tells_2 : decode cX7_tells 2 = .ok (.getfield 9, 3) := by decide +kernel
theorem dX7_tells_5 : decode cX7_tells 5 = .ok (.iadd, 1) := by decide +kernel
theorem dX7_tells_6 : decode cX7_tells 6 = .ok (.invokestatic 15, 3) := by decide +kernel
theorem dX7_tells_9 : decode cX7_tells 9 = .ok (.ireturn, 1) := by decide +kernel
theorem dX7_guess_0 : decode cX7_guess 0 = .ok (.iconst 3, 1) := by decide +kernel
theorem dX7_guess_1 : decode cX7_guess 1 = .ok (.aload_n 0, 1) := by decide +kernel
theorem dX7_guess_2 : decode cX7_guess 2 = .ok (.getfield 19, 3) := by decide +kernel
theorem dX7_guess_5 : decode cX7_guess 5 = .ok (.imul, 1) := by decide +kernel
theorem dX7_guess_6 : decode cX7_guess 6 = .ok (.istore_n 1, 1) := by decide +kernel
theorem dX7_guess_7 : decode cX7_guess 7 = .ok (.iload_n 1, 1) := by decide +kernel
theorem dX7_guess_8 : decode cX7_guess 8 = .ok (.ifCond .ne 5, 3) := by decide +kernel
theorem dX7_guess_11 : decode cX7_guess 11 = .ok (.iconst 0, 1) := by decide +kernel
theorem dX7_guess_12 : decode cX7_guess 12 = .ok (.ireturn, 1) := by decide +kernel
theorem dX7_guess_13 : decode cX7_guess 13 = .ok (.iconst 2, 1) := by decide +kernel
theorem dX7_guess_14 : decode cX7_guess 14 = .ok (.aload_n 0, 1) := by decide +kernel
theorem dX7_guess_15 : decode cX7_guess 15 = .ok (.getfield 22, 3) := by decide +kernel
theorem dX7_guess_18 : decode cX7_guess 18 = .ok (.invokestatic 25, 3) := by decide +kernel
theorem dX7_guess_21 : decode cX7_guess 21 = .ok (.imul, 1) := by decide +kernel
theorem dX7_guess_22 : decode cX7_guess 22 = .ok (.iload_n 1, 1) := by decide +kernel
theorem dX7_guess_23 : decode cX7_guess 23 = .ok (.iadd, 1) := by decide +kernel
theorem dX7_guess_24 : decode cX7_guess 24 = .ok (.iconst 2, 1) := by decide +kernel
theorem dX7_guess_25 : decode cX7_guess 25 = .ok (.iload_n 1, 1) := by decide +kernel
theorem dX7_guess_26 : decode cX7_guess 26 = .ok (.imul, 1) := by decide +kernel
theorem dX7_guess_27 : decode cX7_guess 27 = .ok (.idiv, 1) := by decide +kernel
theorem dX7_guess_28 : decode cX7_guess 28 = .ok (.istore_n 2, 1) := by decide +kernel
theorem dX7_guess_29 : decode cX7_guess 29 = .ok (.aload_n 0, 1) := by decide +kernel
theorem dX7_guess_30 : decode cX7_guess 30 = .ok (.getfield 22, 3) := by decide +kernel
theorem dX7_guess_33 : decode cX7_guess 33 = .ok (.ifCond .ge 8, 3) := by decide +kernel
theorem dX7_guess_36 : decode cX7_guess 36 = .ok (.iload_n 2, 1) := by decide +kernel
theorem dX7_guess_37 : decode cX7_guess 37 = .ok (.ineg, 1) := by decide +kernel
theorem dX7_guess_38 : decode cX7_guess 38 = .ok (.goto 4, 3) := by decide +kernel
theorem dX7_guess_41 : decode cX7_guess 41 = .ok (.iload_n 2, 1) := by decide +kernel
theorem dX7_guess_42 : decode cX7_guess 42 = .ok (.ireturn, 1) := by decide +kernel
theorem dX8_isIn_0 : decode cX8_isIn 0 = .ok (.iload_n 0, 1) := by decide +kernel
theorem dX8_isIn_1 : decode cX8_isIn 1 = .ok (.iload_n 1, 1) := by decide +kernel
theorem dX8_isIn_2 : decode cX8_isIn 2 = .ok (.if_icmp .lt 12, 3) := by decide +kernel
theorem dX8_isIn_5 : decode cX8_isIn 5 = .ok (.iload_n 0, 1) := by decide +kernel
theorem dX8_isIn_6 : decode cX8_isIn 6 = .ok (.iload_n 2, 1) := by decide +kernel
theorem dX8_isIn_7 : decode cX8_isIn 7 = .ok (.if_icmp .gt 7, 3) := by decide +kernel
theorem dX8_isIn_10 : decode cX8_isIn 10 = .ok (.iconst 1, 1) := by decide +kernel
theorem dX8_isIn_11 : decode cX8_isIn 11 = .ok (.goto 4, 3) := by decide +kernel
theorem dX8_isIn_14 : decode cX8_isIn 14 = .ok (.iconst 0, 1) := by decide +kernel
theorem dX8_isIn_15 : decode cX8_isIn 15 = .ok (.ireturn, 1) := by decide +kernel
theorem dX8_held_0 : decode cX8_held 0 = .ok (.iconst 0, 1) := by decide +kernel
theorem dX8_held_1 : decode cX8_held 1 = .ok (.bipush 9, 2) := by decide +kernel
theorem dX8_held_3 : decode cX8_held 3 = .ok (.iload_n 0, 1) := by decide +kernel
theorem dX8_held_4 : decode cX8_held 4 = .ok (.invokestatic 3, 3) := by decide +kernel
theorem dX8_held_7 : decode cX8_held 7 = .ok (.invokestatic 9, 3) := by decide +kernel
theorem dX8_held_10 : decode cX8_held 10 = .ok (.ireturn, 1) := by decide +kernel
theorem dX8_init_0 : decode cX8_init 0 = .ok (.aload_n 0, 1) := by decide +kernel
theorem dX8_init_1 : decode cX8_init 1 = .ok (.invokespecial 12, 3) := by decide +kernel
theorem dX8_init_4 : decode cX8_init 4 = .ok (.aload_n 0, 1) := by decide +kernel
theorem dX8_init_5 : decode cX8_init 5 = .ok (.new 18, 3) := by decide +kernel
theorem dX8_init_8 : decode cX8_init 8 = .ok (.dup, 1) := by decide +kernel
theorem dX8_init_9 : decode cX8_init 9 = .ok (.invokespecial 20, 3) := by decide +kernel
theorem dX8_init_12 : decode cX8_init 12 = .ok (.putfield 21, 3) := by decide +kernel
theorem dX8_init_15 : decode cX8_init 15 = .ok (.aload_n 0, 1) := by decide +kernel
theorem dX8_init_16 : decode cX8_init 16 = .ok (.new 18, 3) := by decide +kernel
theorem dX8_init_19 : decode cX8_init 19 = .ok (.dup, 1) := by decide +kernel
theorem dX8_init_20 : decode cX8_init 20 = .ok (.invokespecial 20, 3) := by decide +kernel
theorem dX8_init_23 : decode cX8_init 23 = .ok (.putfield 25, 3) := by decide +kernel
theorem dX8_init_26 : decode cX8_init 26 = .ok (.aload_n 0, 1) := by decide +kernel
theorem dX8_init_27 : decode cX8_init 27 = .ok (.iconst 3, 1) := by decide +kernel
theorem dX8_init_28 : decode cX8_init 28 = .ok (.anewarray 28, 3) := by decide +kernel
theorem dX8_init_31 : decode cX8_init 31 = .ok (.dup, 1) := by decide +kernel
theorem dX8_init_32 : decode cX8_init 32 = .ok (.iconst 0, 1) := by decide +kernel
theorem dX8_init_33 : decode cX8_init 33 = .ok (.new 28, 3) := by decide +kernel
theorem dX8_init_36 : decode cX8_init 36 = .ok (.dup, 1) := by decide +kernel
theorem dX8_init_37 : decode cX8_init 37 = .ok (.invokespecial 30, 3) := by decide +kernel
theorem dX8_init_40 : decode cX8_init 40 = .ok (.aastore, 1) := by decide +kernel
theorem dX8_init_41 : decode cX8_init 41 = .ok (.dup, 1) := by decide +kernel
theorem dX8_init_42 : decode cX8_init 42 = .ok (.iconst 1, 1) := by decide +kernel
theorem dX8_init_43 : decode cX8_init 43 = .ok (.new 28, 3) := by decide +kernel
theorem dX8_init_46 : decode cX8_init 46 = .ok (.dup, 1) := by decide +kernel
theorem dX8_init_47 : decode cX8_init 47 = .ok (.invokespecial 30, 3) := by decide +kernel
theorem dX8_init_50 : decode cX8_init 50 = .ok (.aastore, 1) := by decide +kernel
theorem dX8_init_51 : decode cX8_init 51 = .ok (.dup, 1) := by decide +kernel
theorem dX8_init_52 : decode cX8_init 52 = .ok (.iconst 2, 1) := by decide +kernel
theorem dX8_init_53 : decode cX8_init 53 = .ok (.new 28, 3) := by decide +kernel
theorem dX8_init_56 : decode cX8_init 56 = .ok (.dup, 1) := by decide +kernel
theorem dX8_init_57 : decode cX8_init 57 = .ok (.invokespecial 30, 3) := by decide +kernel
theorem dX8_init_60 : decode cX8_init 60 = .ok (.aastore, 1) := by decide +kernel
theorem dX8_init_61 : decode cX8_init 61 = .ok (.putfield 31, 3) := by decide +kernel
theorem dX8_init_64 : decode cX8_init 64 = .ok (.aload_n 0, 1) := by decide +kernel
theorem dX8_init_65 : decode cX8_init 65 = .ok (.iconst 4, 1) := by decide +kernel
theorem dX8_init_66 : decode cX8_init 66 = .ok (.newarray .int, 2) := by decide +kernel
theorem dX8_init_68 : decode cX8_init 68 = .ok (.putfield 35, 3) := by decide +kernel
theorem dX8_init_71 : decode cX8_init 71 = .ok (.return_, 1) := by decide +kernel
theorem dX8_thrown_0 : decode cX8_thrown 0 = .ok (.aload_n 0, 1) := by decide +kernel
theorem dX8_thrown_1 : decode cX8_thrown 1 = .ok (.getfield 39, 3) := by decide +kernel
theorem dX8_thrown_4 : decode cX8_thrown 4 = .ok (.ireturn, 1) := by decide +kernel
theorem dX8_refuse_0 : decode cX8_refuse 0 = .ok (.iload_n 1, 1) := by decide +kernel
theorem dX8_refuse_1 : decode cX8_refuse 1 = .ok (.ifCond .eq 15, 3) := by decide +kernel
theorem dX8_refuse_4 : decode cX8_refuse 4 = .ok (.aload_n 0, 1) := by decide +kernel
theorem dX8_refuse_5 : decode cX8_refuse 5 = .ok (.getfield 39, 3) := by decide +kernel
theorem dX8_refuse_8 : decode cX8_refuse 8 = .ok (.ifCond .ne 8, 3) := by decide +kernel
theorem dX8_refuse_11 : decode cX8_refuse 11 = .ok (.aload_n 0, 1) := by decide +kernel
theorem dX8_refuse_12 : decode cX8_refuse 12 = .ok (.iload_n 2, 1) := by decide +kernel
theorem dX8_refuse_13 : decode cX8_refuse 13 = .ok (.putfield 39, 3) := by decide +kernel
theorem dX8_refuse_16 : decode cX8_refuse 16 = .ok (.aload_n 0, 1) := by decide +kernel
theorem dX8_refuse_17 : decode cX8_refuse 17 = .ok (.getfield 39, 3) := by decide +kernel
theorem dX8_refuse_20 : decode cX8_refuse 20 = .ok (.ifCond .le 7, 3) := by decide +kernel
theorem dX8_refuse_23 : decode cX8_refuse 23 = .ok (.iconst 1, 1) := by decide +kernel
theorem dX8_refuse_24 : decode cX8_refuse 24 = .ok (.goto 4, 3) := by decide +kernel
theorem dX8_refuse_27 : decode cX8_refuse 27 = .ok (.iconst 0, 1) := by decide +kernel
theorem dX8_refuse_28 : decode cX8_refuse 28 = .ok (.ireturn, 1) := by decide +kernel
theorem dX8_start_0 : decode cX8_start 0 = .ok (.aload_n 0, 1) := by decide +kernel
theorem dX8_start_1 : decode cX8_start 1 = .ok (.iconst 0, 1) := by decide +kernel
theorem dX8_start_2 : decode cX8_start 2 = .ok (.putfield 39, 3) := by decide +kernel
theorem dX8_start_5 : decode cX8_start 5 = .ok (.aload_n 0, 1) := by decide +kernel
theorem dX8_start_6 : decode cX8_start 6 = .ok (.iload_n 1, 1) := by decide +kernel
theorem dX8_start_7 : decode cX8_start 7 = .ok (.iload_n 2, 1) := by decide +kernel
theorem dX8_start_8 : decode cX8_start 8 = .ok (.invokevirtual 43, 3) := by decide +kernel
theorem dX8_start_11 : decode cX8_start 11 = .ok (.ireturn, 1) := by decide +kernel
theorem dX8_isNoSection_0 : decode cX8_isNoSection 0 = .ok (.iload_n 1, 1) := by decide +kernel
theorem dX8_isNoSection_1 : decode cX8_isNoSection 1 = .ok (.iconst 0, 1) := by decide +kernel
theorem dX8_isNoSection_2 : decode cX8_isNoSection 2 = .ok (.aload_n 0, 1) := by decide +kernel
theorem dX8_isNoSection_3 : decode cX8_isNoSection 3 = .ok (.getfield 21, 3) := by decide +kernel
theorem dX8_isNoSection_6 : decode cX8_isNoSection 6 = .ok (.invokevirtual 47, 3) := by decide +kernel
theorem dX8_isNoSection_9 : decode cX8_isNoSection 9 = .ok (.iconst 1, 1) := by decide +kernel
theorem dX8_isNoSection_10 : decode cX8_isNoSection 10 = .ok (.isub, 1) := by decide +kernel
theorem dX8_isNoSection_11 : decode cX8_isNoSection 11 = .ok (.invokestatic 51, 3) := by decide +kernel
theorem dX8_isNoSection_14 : decode cX8_isNoSection 14 = .ok (.ifCond .ne 7, 3) := by decide +kernel
theorem dX8_isNoSection_17 : decode cX8_isNoSection 17 = .ok (.iconst 1, 1) := by decide +kernel
theorem dX8_isNoSection_18 : decode cX8_isNoSection 18 = .ok (.goto 4, 3) := by decide +kernel
theorem dX8_isNoSection_21 : decode cX8_isNoSection 21 = .ok (.iconst 0, 1) := by decide +kernel
theorem dX8_isNoSection_22 : decode cX8_isNoSection 22 = .ok (.ireturn, 1) := by decide +kernel
theorem dX8_isNoLot_0 : decode cX8_isNoLot 0 = .ok (.iload_n 1, 1) := by decide +kernel
theorem dX8_isNoLot_1 : decode cX8_isNoLot 1 = .ok (.iconst 0, 1) := by decide +kernel
theorem dX8_isNoLot_2 : decode cX8_isNoLot 2 = .ok (.aload_n 0, 1) := by decide +kernel
theorem dX8_isNoLot_3 : decode cX8_isNoLot 3 = .ok (.getfield 25, 3) := by decide +kernel
theorem dX8_isNoLot_6 : decode cX8_isNoLot 6 = .ok (.invokevirtual 47, 3) := by decide +kernel
theorem dX8_isNoLot_9 : decode cX8_isNoLot 9 = .ok (.iconst 1, 1) := by decide +kernel
theorem dX8_isNoLot_10 : decode cX8_isNoLot 10 = .ok (.isub, 1) := by decide +kernel
theorem dX8_isNoLot_11 : decode cX8_isNoLot 11 = .ok (.invokestatic 51, 3) := by decide +kernel
theorem dX8_isNoLot_14 : decode cX8_isNoLot 14 = .ok (.ifCond .ne 7, 3) := by decide +kernel
theorem dX8_isNoLot_17 : decode cX8_isNoLot 17 = .ok (.iconst 1, 1) := by decide +kernel
theorem dX8_isNoLot_18 : decode cX8_isNoLot 18 = .ok (.goto 4, 3) := by decide +kernel
theorem dX8_isNoLot_21 : decode cX8_isNoLot 21 = .ok (.iconst 0, 1) := by decide +kernel
theorem dX8_isNoLot_22 : decode cX8_isNoLot 22 = .ok (.ireturn, 1) := by decide +kernel
theorem dX8_isState_0 : decode cX8_isState 0 = .ok (.aload_n 0, 1) := by decide +kernel
theorem dX8_isState_1 : decode cX8_isState 1 = .ok (.getfield 25, 3) := by decide +kernel
theorem dX8_isState_4 : decode cX8_isState 4 = .ok (.iload_n 1, 1) := by decide +kernel
theorem dX8_isState_5 : decode cX8_isState 5 = .ok (.invokevirtual 55, 3) := by decide +kernel
theorem dX8_isState_8 : decode cX8_isState 8 = .ok (.checkcast 59, 3) := by decide +kernel
theorem dX8_isState_11 : decode cX8_isState 11 = .ok (.getfield 61, 3) := by decide +kernel
theorem dX8_isState_14 : decode cX8_isState 14 = .ok (.iload_n 2, 1) := by decide +kernel
theorem dX8_isState_15 : decode cX8_isState 15 = .ok (.if_icmp .ne 7, 3) := by decide +kernel
theorem dX8_isState_18 : decode cX8_isState 18 = .ok (.iconst 1, 1) := by decide +kernel
theorem dX8_isState_19 : decode cX8_isState 19 = .ok (.goto 4, 3) := by decide +kernel
theorem dX8_isState_22 : decode cX8_isState 22 = .ok (.iconst 0, 1) := by decide +kernel
theorem dX8_isState_23 : decode cX8_isState 23 = .ok (.ireturn, 1) := by decide +kernel
theorem dX8_section_0 : decode cX8_section 0 = .ok (.aload_n 0, 1) := by decide +kernel
theorem dX8_section_1 : decode cX8_section 1 = .ok (.iload_n 1, 1) := by decide +kernel
theorem dX8_section_2 : decode cX8_section 2 = .ok (.iconst 1, 1) := by decide +kernel
theorem dX8_section_3 : decode cX8_section 3 = .ok (.bipush 9, 2) := by decide +kernel
theorem dX8_section_5 : decode cX8_section 5 = .ok (.invokestatic 51, 3) := by decide +kernel
theorem dX8_section_8 : decode cX8_section 8 = .ok (.ifCond .eq 12, 3) := by decide +kernel
theorem dX8_section_11 : decode cX8_section 11 = .ok (.iload_n 2, 1) := by decide +kernel
theorem dX8_section_12 : decode cX8_section 12 = .ok (.iconst 0, 1) := by decide +kernel
theorem dX8_section_13 : decode cX8_section 13 = .ok (.iconst 2, 1) := by decide +kernel
theorem dX8_section_14 : decode cX8_section 14 = .ok (.invokestatic 51, 3) := by decide +kernel
theorem dX8_section_17 : decode cX8_section 17 = .ok (.ifCond .ne 7, 3) := by decide +kernel
theorem dX8_section_20 : decode cX8_section 20 = .ok (.iconst 1, 1) := by decide +kernel
theorem dX8_section_21 : decode cX8_section 21 = .ok (.goto 4, 3) := by decide +kernel
theorem dX8_section_24 : decode cX8_section 24 = .ok (.iconst 0, 1) := by decide +kernel
theorem dX8_section_25 : decode cX8_section 25 = .ok (.iconst 1, 1) := by decide +kernel
theorem dX8_section_26 : decode cX8_section 26 = .ok (.invokevirtual 64, 3) := by decide +kernel
theorem dX8_section_29 : decode cX8_section 29 = .ok (.ifCond .ne 27, 3) := by decide +kernel
theorem dX8_section_32 : decode cX8_section 32 = .ok (.aload_n 0, 1) := by decide +kernel
theorem dX8_section_33 : decode cX8_section 33 = .ok (.aload_n 0, 1) := by decide +kernel
theorem dX8_section_34 : decode cX8_section 34 = .ok (.getfield 21, 3) := by decide +kernel
theorem dX8_section_37 : decode cX8_section 37 = .ok (.invokevirtual 47, 3) := by decide +kernel
theorem dX8_section_40 : decode cX8_section 40 = .ok (.iconst 4, 1) := by decide +kernel
theorem dX8_section_41 : decode cX8_section 41 = .ok (.if_icmp .ne 7, 3) := by decide +kernel
theorem dX8_section_44 : decode cX8_section 44 = .ok (.iconst 1, 1) := by decide +kernel
theorem dX8_section_45 : decode cX8_section 45 = .ok (.goto 4, 3) := by decide +kernel
theorem dX8_section_48 : decode cX8_section 48 = .ok (.iconst 0, 1) := by decide +kernel
theorem dX8_section_49 : decode cX8_section 49 = .ok (.iconst 2, 1) := by decide +kernel
theorem dX8_section_50 : decode cX8_section 50 = .ok (.invokevirtual 43, 3) := by decide +kernel
theorem dX8_section_53 : decode cX8_section 53 = .ok (.ifCond .eq 5, 3) := by decide +kernel
theorem dX8_section_56 : decode cX8_section 56 = .ok (.iconst 0, 1) := by decide +kernel
theorem dX8_section_57 : decode cX8_section 57 = .ok (.ireturn, 1) := by decide +kernel
theorem dX8_section_58 : decode cX8_section 58 = .ok (.aload_n 0, 1) := by decide +kernel
theorem dX8_section_59 : decode cX8_section 59 = .ok (.getfield 21, 3) := by decide +kernel
theorem dX8_section_62 : decode cX8_section 62 = .ok (.new 67, 3) := by decide +kernel
theorem dX8_section_65 : decode cX8_section 65 = .ok (.dup, 1) := by decide +kernel
theorem dX8_section_66 : decode cX8_section 66 = .ok (.iload_n 1, 1) := by decide +kernel
theorem dX8_section_67 : decode cX8_section 67 = .ok (.iload_n 2, 1) := by decide +kernel
theorem dX8_section_68 : decode cX8_section 68 = .ok (.invokespecial 69, 3) := by decide +kernel
theorem dX8_section_71 : decode cX8_section 71 = .ok (.invokevirtual 72, 3) := by decide +kernel
theorem dX8_section_74 : decode cX8_section 74 = .ok (.pop, 1) := by decide +kernel
theorem dX8_section_75 : decode cX8_section 75 = .ok (.aload_n 0, 1) := by decide +kernel
theorem dX8_section_76 : decode cX8_section 76 = .ok (.getfield 21, 3) := by decide +kernel
theorem dX8_section_79 : decode cX8_section 79 = .ok (.invokevirtual 47, 3) := by decide +kernel
theorem dX8_section_82 : decode cX8_section 82 = .ok (.iconst 1, 1) := by decide +kernel
theorem dX8_section_83 : decode cX8_section 83 = .ok (.isub, 1) := by decide +kernel
theorem dX8_section_84 : decode cX8_section 84 = .ok (.ireturn, 1) := by decide +kernel
theorem dX8_isNoWeather_0 : decode cX8_isNoWeather 0 = .ok (.iload_n 0, 1) := by decide +kernel
theorem dX8_isNoWeather_1 : decode cX8_isNoWeather 1 = .ok (.iconst 0, 1) := by decide +kernel
theorem dX8_isNoWeather_2 : decode cX8_isNoWeather 2 = .ok (.bipush 6, 2) := by decide +kernel
theorem dX8_isNoWeather_4 : decode cX8_isNoWeather 4 = .ok (.invokestatic 51, 3) := by decide +kernel
theorem dX8_isNoWeather_7 : decode cX8_isNoWeather 7 = .ok (.ifCond .eq 13, 3) := by decide +kernel
theorem dX8_isNoWeather_10 : decode cX8_isNoWeather 10 = .ok (.iload_n 1, 1) := by decide +kernel
theorem dX8_isNoWeather_11 : decode cX8_isNoWeather 11 = .ok (.iconst 0, 1) := by decide +kernel
theorem dX8_isNoWeather_12 : decode cX8_isNoWeather 12 = .ok (.bipush 6, 2) := by decide +kernel
theorem dX8_isNoWeather_14 : decode cX8_isNoWeather 14 = .ok (.invokestatic 51, 3) := by decide +kernel
theorem dX8_isNoWeather_17 : decode cX8_isNoWeather 17 = .ok (.ifCond .ne 7, 3) := by decide +kernel
theorem dX8_isNoWeather_20 : decode cX8_isNoWeather 20 = .ok (.iconst 1, 1) := by decide +kernel
theorem dX8_isNoWeather_21 : decode cX8_isNoWeather 21 = .ok (.goto 4, 3) := by decide +kernel
theorem dX8_isNoWeather_24 : decode cX8_isNoWeather 24 = .ok (.iconst 0, 1) := by decide +kernel
theorem dX8_isNoWeather_25 : decode cX8_isNoWeather 25 = .ok (.ireturn, 1) := by decide +kernel
theorem dX8_pass_0 : decode cX8_pass 0 = .ok (.aload_n 0, 1) := by decide +kernel
theorem dX8_pass_1 : decode cX8_pass 1 = .ok (.iload_n 1, 1) := by decide +kernel
theorem dX8_pass_2 : decode cX8_pass 2 = .ok (.iload_n 2, 1) := by decide +kernel
theorem dX8_pass_3 : decode cX8_pass 3 = .ok (.invokestatic 76, 3) := by decide +kernel
theorem dX8_pass_6 : decode cX8_pass 6 = .ok (.ifCond .ne 13, 3) := by decide +kernel
theorem dX8_pass_9 : decode cX8_pass 9 = .ok (.iload_n 3, 1) := by decide +kernel
theorem dX8_pass_10 : decode cX8_pass 10 = .ok (.iconst 1, 1) := by decide +kernel
theorem dX8_pass_11 : decode cX8_pass 11 = .ok (.bipush 30, 2) := by decide +kernel
theorem dX8_pass_13 : decode cX8_pass 13 = .ok (.invokestatic 51, 3) := by decide +kernel
theorem dX8_pass_16 : decode cX8_pass 16 = .ok (.ifCond .ne 7, 3) := by decide +kernel
theorem dX8_pass_19 : decode cX8_pass 19 = .ok (.iconst 1, 1) := by decide +kernel
theorem dX8_pass_20 : decode cX8_pass 20 = .ok (.goto 4, 3) := by decide +kernel
theorem dX8_pass_23 : decode cX8_pass 23 = .ok (.iconst 0, 1) := by decide +kernel
theorem dX8_pass_24 : decode cX8_pass 24 = .ok (.iconst 1, 1) := by decide +kernel
theorem dX8_pass_25 : decode cX8_pass 25 = .ok (.invokevirtual 64, 3) := by decide +kernel
theorem dX8_pass_28 : decode cX8_pass 28 = .ok (.ifCond .eq 5, 3) := by decide +kernel
theorem dX8_pass_31 : decode cX8_pass 31 = .ok (.iconst 0, 1) := by decide +kernel
theorem dX8_pass_32 : decode cX8_pass 32 = .ok (.ireturn, 1) := by decide +kernel
theorem dX8_pass_33 : decode cX8_pass 33 = .ok (.iconst 0, 1) := by decide +kernel
theorem dX8_pass_34 : decode cX8_pass 34 = .ok (.istore 4, 2) := by decide +kernel
theorem dX8_pass_36 : decode cX8_pass 36 = .ok (.iconst 0, 1) := by decide +kernel
theorem dX8_pass_37 : decode cX8_pass 37 = .ok (.istore 5, 2) := by decide +kernel
theorem dX8_pass_39 : decode cX8_pass 39 = .ok (.iload 5, 2) := by decide +kernel
theorem dX8_pass_41 : decode cX8_pass 41 = .ok (.iload_n 3, 1) := by decide +kernel
theorem dX8_pass_42 : decode cX8_pass 42 = .ok (.if_icmp .ge 55, 3) := by decide +kernel
theorem dX8_pass_45 : decode cX8_pass 45 = .ok (.aload_n 0, 1) := by decide +kernel
theorem dX8_pass_46 : decode cX8_pass 46 = .ok (.getfield 21, 3) := by decide +kernel
theorem dX8_pass_49 : decode cX8_pass 49 = .ok (.invokevirtual 80, 3) := by decide +kernel
theorem dX8_pass_52 : decode cX8_pass 52 = .ok (.astore 6, 2) := by decide +kernel
theorem dX8_pass_54 : decode cX8_pass 54 = .ok (.aload 6, 2) := by decide +kernel
theorem dX8_pass_56 : decode cX8_pass 56 = .ok (.invokeinterface 84 1, 5) := by decide +kernel
theorem dX8_pass_61 : decode cX8_pass 61 = .ok (.ifCond .eq 30, 3) := by decide +kernel
theorem dX8_pass_64 : decode cX8_pass 64 = .ok (.aload 6, 2) := by decide +kernel
theorem dX8_pass_66 : decode cX8_pass 66 = .ok (.invokeinterface 90 1, 5) := by decide +kernel
theorem dX8_pass_71 : decode cX8_pass 71 = .ok (.checkcast 67, 3) := by decide +kernel
theorem dX8_pass_74 : decode cX8_pass 74 = .ok (.astore 7, 2) := by decide +kernel
theorem dX8_pass_76 : decode cX8_pass 76 = .ok (.iload 4, 2) := by decide +kernel
theorem dX8_pass_78 : decode cX8_pass 78 = .ok (.aload 7, 2) := by decide +kernel
theorem dX8_pass_80 : decode cX8_pass 80 = .ok (.iload_n 1, 1) := by decide +kernel
theorem dX8_pass_81 : decode cX8_pass 81 = .ok (.iload_n 2, 1) := by decide +kernel
theorem dX8_pass_82 : decode cX8_pass 82 = .ok (.invokevirtual 94, 3) := by decide +kernel
theorem dX8_pass_85 : decode cX8_pass 85 = .ok (.iadd, 1) := by decide +kernel
theorem dX8_pass_86 : decode cX8_pass 86 = .ok (.istore 4, 2) := by decide +kernel
theorem dX8_pass_88 : decode cX8_pass 88 = .ok (.goto (-34), 3) := by decide +kernel
theorem dX8_pass_91 : decode cX8_pass 91 = .ok (.iinc 5 1, 3) := by decide +kernel
theorem dX8_pass_94 : decode cX8_pass 94 = .ok (.goto (-55), 3) := by decide +kernel
theorem dX8_pass_97 : decode cX8_pass 97 = .ok (.aload_n 0, 1) := by decide +kernel
theorem dX8_pass_98 : decode cX8_pass 98 = .ok (.dup, 1) := by decide +kernel
theorem dX8_pass_99 : decode cX8_pass 99 = .ok (.getfield 97, 3) := by decide +kernel
theorem dX8_pass_102 : decode cX8_pass 102 = .ok (.iload_n 3, 1) := by decide +kernel
theorem dX8_pass_103 : decode cX8_pass 103 = .ok (.iadd, 1) := by decide +kernel
theorem dX8_pass_104 : decode cX8_pass 104 = .ok (.putfield 97, 3) := by decide +kernel
theorem dX8_pass_107 : decode cX8_pass 107 = .ok (.iload 4, 2) := by decide +kernel
theorem dX8_pass_109 : decode cX8_pass 109 = .ok (.ireturn, 1) := by decide +kernel
theorem dX8_prune_0 : decode cX8_prune 0 = .ok (.aload_n 0, 1) := by decide +kernel
theorem dX8_prune_1 : decode cX8_prune 1 = .ok (.aload_n 0, 1) := by decide +kernel
theorem dX8_prune_2 : decode cX8_prune 2 = .ok (.iload_n 1, 1) := by decide +kernel
theorem dX8_prune_3 : decode cX8_prune 3 = .ok (.invokevirtual 100, 3) := by decide +kernel
theorem dX8_prune_6 : decode cX8_prune 6 = .ok (.iconst 1, 1) := by decide +kernel
theorem dX8_prune_7 : decode cX8_prune 7 = .ok (.invokevirtual 64, 3) := by decide +kernel
theorem dX8_prune_10 : decode cX8_prune 10 = .ok (.ifCond .eq 7, 3) := by decide +kernel
theorem dX8_prune_13 : decode cX8_prune 13 = .ok (.iconst 0, 1) := by decide +kernel
theorem dX8_prune_14 : decode cX8_prune 14 = .ok (.goto 17, 3) := by decide +kernel
theorem dX8_prune_17 : decode cX8_prune 17 = .ok (.aload_n 0, 1) := by decide +kernel
theorem dX8_prune_18 : decode cX8_prune 18 = .ok (.getfield 21, 3) := by decide +kernel
theorem dX8_prune_21 : decode cX8_prune 21 = .ok (.iload_n 1, 1) := by decide +kernel
theorem dX8_prune_22 : decode cX8_prune 22 = .ok (.invokevirtual 55, 3) := by decide +kernel
theorem dX8_prune_25 : decode cX8_prune 25 = .ok (.checkcast 67, 3) := by decide +kernel
theorem dX8_prune_28 : decode cX8_prune 28 = .ok (.invokevirtual 104, 3) := by decide +kernel
theorem dX8_prune_31 : decode cX8_prune 31 = .ok (.ireturn, 1) := by decide +kernel
theorem dX8_spray_0 : decode cX8_spray 0 = .ok (.aload_n 0, 1) := by decide +kernel
theorem dX8_spray_1 : decode cX8_spray 1 = .ok (.aload_n 0, 1) := by decide +kernel
theorem dX8_spray_2 : decode cX8_spray 2 = .ok (.iload_n 1, 1) := by decide +kernel
theorem dX8_spray_3 : decode cX8_spray 3 = .ok (.invokevirtual 100, 3) := by decide +kernel
theorem dX8_spray_6 : decode cX8_spray 6 = .ok (.iconst 1, 1) := by decide +kernel
theorem dX8_spray_7 : decode cX8_spray 7 = .ok (.invokevirtual 64, 3) := by decide +kernel
theorem dX8_spray_10 : decode cX8_spray 10 = .ok (.ifCond .eq 5, 3) := by decide +kernel
theorem dX8_spray_13 : decode cX8_spray 13 = .ok (.iconst 0, 1) := by decide +kernel
theorem dX8_spray_14 : decode cX8_spray 14 = .ok (.ireturn, 1) := by decide +kernel
theorem dX8_spray_15 : decode cX8_spray 15 = .ok (.aload_n 0, 1) := by decide +kernel
theorem dX8_spray_16 : decode cX8_spray 16 = .ok (.getfield 21, 3) := by decide +kernel
theorem dX8_spray_19 : decode cX8_spray 19 = .ok (.iload_n 1, 1) := by decide +kernel
theorem dX8_spray_20 : decode cX8_spray 20 = .ok (.invokevirtual 55, 3) := by decide +kernel
theorem dX8_spray_23 : decode cX8_spray 23 = .ok (.checkcast 67, 3) := by decide +kernel
theorem dX8_spray_26 : decode cX8_spray 26 = .ok (.astore_n 2, 1) := by decide +kernel
theorem dX8_spray_27 : decode cX8_spray 27 = .ok (.aload_n 2, 1) := by decide +kernel
theorem dX8_spray_28 : decode cX8_spray 28 = .ok (.getfield 107, 3) := by decide +kernel
theorem dX8_spray_31 : decode cX8_spray 31 = .ok (.istore_n 3, 1) := by decide +kernel
theorem dX8_spray_32 : decode cX8_spray 32 = .ok (.aload_n 2, 1) := by decide +kernel
theorem dX8_spray_33 : decode cX8_spray 33 = .ok (.iconst 0, 1) := by decide +kernel
theorem dX8_spray_34 : decode cX8_spray 34 = .ok (.putfield 107, 3) := by decide +kernel
theorem dX8_spray_37 : decode cX8_spray 37 = .ok (.aload_n 2, 1) := by decide +kernel
theorem dX8_spray_38 : decode cX8_spray 38 = .ok (.iconst 3, 1) := by decide +kernel
theorem dX8_spray_39 : decode cX8_spray 39 = .ok (.putfield 110, 3) := by decide +kernel
theorem dX8_spray_42 : decode cX8_spray 42 = .ok (.iload_n 3, 1) := by decide +kernel
theorem dX8_spray_43 : decode cX8_spray 43 = .ok (.ireturn, 1) := by decide +kernel
theorem dX8_pluck_0 : decode cX8_pluck 0 = .ok (.aload_n 0, 1) := by decide +kernel
theorem dX8_pluck_1 : decode cX8_pluck 1 = .ok (.aload_n 0, 1) := by decide +kernel
theorem dX8_pluck_2 : decode cX8_pluck 2 = .ok (.iload_n 1, 1) := by decide +kernel
theorem dX8_pluck_3 : decode cX8_pluck 3 = .ok (.invokevirtual 100, 3) := by decide +kernel
theorem dX8_pluck_6 : decode cX8_pluck 6 = .ok (.iconst 1, 1) := by decide +kernel
theorem dX8_pluck_7 : decode cX8_pluck 7 = .ok (.invokevirtual 64, 3) := by decide +kernel
theorem dX8_pluck_10 : decode cX8_pluck 10 = .ok (.ifCond .ne 35, 3) := by decide +kernel
theorem dX8_pluck_13 : decode cX8_pluck 13 = .ok (.aload_n 0, 1) := by decide +kernel
theorem dX8_pluck_14 : decode cX8_pluck 14 = .ok (.iload_n 2, 1) := by decide +kernel
theorem dX8_pluck_15 : decode cX8_pluck 15 = .ok (.iconst 1, 1) := by decide +kernel
theorem dX8_pluck_16 : decode cX8_pluck 16 = .ok (.iconst 3, 1) := by decide +kernel
theorem dX8_pluck_17 : decode cX8_pluck 17 = .ok (.invokestatic 51, 3) := by decide +kernel
theorem dX8_pluck_20 : decode cX8_pluck 20 = .ok (.ifCond .eq 13, 3) := by decide +kernel
theorem dX8_pluck_23 : decode cX8_pluck 23 = .ok (.iload_n 3, 1) := by decide +kernel
theorem dX8_pluck_24 : decode cX8_pluck 24 = .ok (.iconst 1, 1) := by decide +kernel
theorem dX8_pluck_25 : decode cX8_pluck 25 = .ok (.bipush 9, 2) := by decide +kernel
theorem dX8_pluck_27 : decode cX8_pluck 27 = .ok (.invokestatic 51, 3) := by decide +kernel
theorem dX8_pluck_30 : decode cX8_pluck 30 = .ok (.ifCond .ne 7, 3) := by decide +kernel
theorem dX8_pluck_33 : decode cX8_pluck 33 = .ok (.iconst 1, 1) := by decide +kernel
theorem dX8_pluck_34 : decode cX8_pluck 34 = .ok (.goto 4, 3) := by decide +kernel
theorem dX8_pluck_37 : decode cX8_pluck 37 = .ok (.iconst 0, 1) := by decide +kernel
theorem dX8_pluck_38 : decode cX8_pluck 38 = .ok (.iconst 2, 1) := by decide +kernel
theorem dX8_pluck_39 : decode cX8_pluck 39 = .ok (.invokevirtual 43, 3) := by decide +kernel
theorem dX8_pluck_42 : decode cX8_pluck 42 = .ok (.ifCond .eq 5, 3) := by decide +kernel
theorem dX8_pluck_45 : decode cX8_pluck 45 = .ok (.iconst 0, 1) := by decide +kernel
theorem dX8_pluck_46 : decode cX8_pluck 46 = .ok (.ireturn, 1) := by decide +kernel
theorem dX8_pluck_47 : decode cX8_pluck 47 = .ok (.aload_n 0, 1) := by decide +kernel
theorem dX8_pluck_48 : decode cX8_pluck 48 = .ok (.getfield 21, 3) := by decide +kernel
theorem dX8_pluck_51 : decode cX8_pluck 51 = .ok (.iload_n 1, 1) := by decide +kernel
theorem dX8_pluck_52 : decode cX8_pluck 52 = .ok (.invokevirtual 55, 3) := by decide +kernel
theorem dX8_pluck_55 : decode cX8_pluck 55 = .ok (.checkcast 67, 3) := by decide +kernel
theorem dX8_pluck_58 : decode cX8_pluck 58 = .ok (.astore 4, 2) := by decide +kernel
theorem dX8_pluck_60 : decode cX8_pluck 60 = .ok (.aload_n 0, 1) := by decide +kernel
theorem dX8_pluck_61 : decode cX8_pluck 61 = .ok (.aload_n 0, 1) := by decide +kernel
theorem dX8_pluck_62 : decode cX8_pluck 62 = .ok (.getfield 25, 3) := by decide +kernel
theorem dX8_pluck_65 : decode cX8_pluck 65 = .ok (.invokevirtual 47, 3) := by decide +kernel
theorem dX8_pluck_68 : decode cX8_pluck 68 = .ok (.bipush 16, 2) := by decide +kernel
theorem dX8_pluck_70 : decode cX8_pluck 70 = .ok (.if_icmp .eq 12, 3) := by decide +kernel
theorem dX8_pluck_73 : decode cX8_pluck 73 = .ok (.aload 4, 2) := by decide +kernel
theorem dX8_pluck_75 : decode cX8_pluck 75 = .ok (.iload_n 2, 1) := by decide +kernel
theorem dX8_pluck_76 : decode cX8_pluck 76 = .ok (.invokevirtual 113, 3) := by decide +kernel
theorem dX8_pluck_79 : decode cX8_pluck 79 = .ok (.ifCond .ne 7, 3) := by decide +kernel
theorem dX8_pluck_82 : decode cX8_pluck 82 = .ok (.iconst 1, 1) := by decide +kernel
theorem dX8_pluck_83 : decode cX8_pluck 83 = .ok (.goto 4, 3) := by decide +kernel
theorem dX8_pluck_86 : decode cX8_pluck 86 = .ok (.iconst 0, 1) := by decide +kernel
theorem dX8_pluck_87 : decode cX8_pluck 87 = .ok (.iconst 3, 1) := by decide +kernel
theorem dX8_pluck_88 : decode cX8_pluck 88 = .ok (.invokevirtual 43, 3) := by decide +kernel
theorem dX8_pluck_91 : decode cX8_pluck 91 = .ok (.ifCond .eq 5, 3) := by decide +kernel
theorem dX8_pluck_94 : decode cX8_pluck 94 = .ok (.iconst 0, 1) := by decide +kernel
theorem dX8_pluck_95 : decode cX8_pluck 95 = .ok (.ireturn, 1) := by decide +kernel
theorem dX8_pluck_96 : decode cX8_pluck 96 = .ok (.new 59, 3) := by decide +kernel
theorem dX8_pluck_99 : decode cX8_pluck 99 = .ok (.dup, 1) := by decide +kernel
theorem dX8_pluck_100 : decode cX8_pluck 100 = .ok (.invokespecial 117, 3) := by decide +kernel
theorem dX8_pluck_103 : decode cX8_pluck 103 = .ok (.astore 5, 2) := by decide +kernel
theorem dX8_pluck_105 : decode cX8_pluck 105 = .ok (.bipush 8, 2) := by decide +kernel
theorem dX8_pluck_107 : decode cX8_pluck 107 = .ok (.iload_n 3, 1) := by decide +kernel
theorem dX8_pluck_108 : decode cX8_pluck 108 = .ok (.imul, 1) := by decide +kernel
theorem dX8_pluck_109 : decode cX8_pluck 109 = .ok (.istore 6, 2) := by decide +kernel
theorem dX8_pluck_111 : decode cX8_pluck 111 = .ok (.iload_n 2, 1) := by decide +kernel
theorem dX8_pluck_112 : decode cX8_pluck 112 = .ok (.iconst 1, 1) := by decide +kernel
theorem dX8_pluck_113 : decode cX8_pluck 113 = .ok (.iadd, 1) := by decide +kernel
theorem dX8_pluck_114 : decode cX8_pluck 114 = .ok (.istore 7, 2) := by decide +kernel
theorem dX8_pluck_116 : decode cX8_pluck 116 = .ok (.iload 7, 2) := by decide +kernel
theorem dX8_pluck_118 : decode cX8_pluck 118 = .ok (.iconst 1, 1) := by decide +kernel
theorem dX8_pluck_119 : decode cX8_pluck 119 = .ok (.if_icmp .le 79, 3) := by decide +kernel
theorem dX8_pluck_122 : decode cX8_pluck 122 = .ok (.iload 6, 2) := by decide +kernel
theorem dX8_pluck_124 : decode cX8_pluck 124 = .ok (.aload 4, 2) := by decide +kernel
theorem dX8_pluck_126 : decode cX8_pluck 126 = .ok (.getfield 118, 3) := by decide +kernel
theorem dX8_pluck_129 : decode cX8_pluck 129 = .ok (.iload 7, 2) := by decide +kernel
theorem dX8_pluck_131 : decode cX8_pluck 131 = .ok (.iaload, 1) := by decide +kernel
theorem dX8_pluck_132 : decode cX8_pluck 132 = .ok (.invokestatic 3, 3) := by decide +kernel
theorem dX8_pluck_135 : decode cX8_pluck 135 = .ok (.istore 8, 2) := by decide +kernel
theorem dX8_pluck_137 : decode cX8_pluck 137 = .ok (.aload 4, 2) := by decide +kernel
theorem dX8_pluck_139 : decode cX8_pluck 139 = .ok (.getfield 118, 3) := by decide +kernel
theorem dX8_pluck_142 : decode cX8_pluck 142 = .ok (.iload 7, 2) := by decide +kernel
theorem dX8_pluck_144 : decode cX8_pluck 144 = .ok (.dup2, 1) := by decide +kernel
theorem dX8_pluck_145 : decode cX8_pluck 145 = .ok (.iaload, 1) := by decide +kernel
theorem dX8_pluck_146 : decode cX8_pluck 146 = .ok (.iload 8, 2) := by decide +kernel
theorem dX8_pluck_148 : decode cX8_pluck 148 = .ok (.isub, 1) := by decide +kernel
theorem dX8_pluck_149 : decode cX8_pluck 149 = .ok (.iastore, 1) := by decide +kernel
theorem dX8_pluck_150 : decode cX8_pluck 150 = .ok (.iload 6, 2) := by decide +kernel
theorem dX8_pluck_152 : decode cX8_pluck 152 = .ok (.iload 8, 2) := by decide +kernel
theorem dX8_pluck_154 : decode cX8_pluck 154 = .ok (.isub, 1) := by decide +kernel
theorem dX8_pluck_155 : decode cX8_pluck 155 = .ok (.istore 6, 2) := by decide +kernel
theorem dX8_pluck_157 : decode cX8_pluck 157 = .ok (.aload 5, 2) := by decide +kernel
theorem dX8_pluck_159 : decode cX8_pluck 159 = .ok (.getfield 121, 3) := by decide +kernel
theorem dX8_pluck_162 : decode cX8_pluck 162 = .ok (.iload_n 1, 1) := by decide +kernel
theorem dX8_pluck_163 : decode cX8_pluck 163 = .ok (.dup2, 1) := by decide +kernel
theorem dX8_pluck_164 : decode cX8_pluck 164 = .ok (.iaload, 1) := by decide +kernel
theorem dX8_pluck_165 : decode cX8_pluck 165 = .ok (.iload 8, 2) := by decide +kernel
theorem dX8_pluck_167 : decode cX8_pluck 167 = .ok (.iload 7, 2) := by decide +kernel
theorem dX8_pluck_169 : decode cX8_pluck 169 = .ok (.iconst 1, 1) := by decide +kernel
theorem dX8_pluck_170 : decode cX8_pluck 170 = .ok (.iadd, 1) := by decide +kernel
theorem dX8_pluck_171 : decode cX8_pluck 171 = .ok (.imul, 1) := by decide +kernel
theorem dX8_pluck_172 : decode cX8_pluck 172 = .ok (.iadd, 1) := by decide +kernel
theorem dX8_pluck_173 : decode cX8_pluck 173 = .ok (.iastore, 1) := by decide +kernel
theorem dX8_pluck_174 : decode cX8_pluck 174 = .ok (.iload 7, 2) := by decide +kernel
theorem dX8_pluck_176 : decode cX8_pluck 176 = .ok (.iconst 2, 1) := by decide +kernel
theorem dX8_pluck_177 : decode cX8_pluck 177 = .ok (.if_icmp .ne 15, 3) := by decide +kernel
theorem dX8_pluck_180 : decode cX8_pluck 180 = .ok (.aload 5, 2) := by decide +kernel
theorem dX8_pluck_182 : decode cX8_pluck 182 = .ok (.iload 8, 2) := by decide +kernel
theorem dX8_pluck_184 : decode cX8_pluck 184 = .ok (.iload 7, 2) := by decide +kernel
theorem dX8_pluck_186 : decode cX8_pluck 186 = .ok (.iconst 1, 1) := by decide +kernel
theorem dX8_pluck_187 : decode cX8_pluck 187 = .ok (.iadd, 1) := by decide +kernel
theorem dX8_pluck_188 : decode cX8_pluck 188 = .ok (.imul, 1) := by decide +kernel
theorem dX8_pluck_189 : decode cX8_pluck 189 = .ok (.putfield 124, 3) := by decide +kernel
theorem dX8_pluck_192 : decode cX8_pluck 192 = .ok (.iinc 7 (-1), 3) := by decide +kernel
theorem dX8_pluck_195 : decode cX8_pluck 195 = .ok (.goto (-79), 3) := by decide +kernel
theorem dX8_pluck_198 : decode cX8_pluck 198 = .ok (.aload 5, 2) := by decide +kernel
theorem dX8_pluck_200 : decode cX8_pluck 200 = .ok (.iconst 3, 1) := by decide +kernel
theorem dX8_pluck_201 : decode cX8_pluck 201 = .ok (.aload 5, 2) := by decide +kernel
theorem dX8_pluck_203 : decode cX8_pluck 203 = .ok (.invokevirtual 127, 3) := by decide +kernel
theorem dX8_pluck_206 : decode cX8_pluck 206 = .ok (.imul, 1) := by decide +kernel
theorem dX8_pluck_207 : decode cX8_pluck 207 = .ok (.putfield 130, 3) := by decide +kernel
theorem dX8_pluck_210 : decode cX8_pluck 210 = .ok (.aload 5, 2) := by decide +kernel
theorem dX8_pluck_212 : decode cX8_pluck 212 = .ok (.aload 4, 2) := by decide +kernel
theorem dX8_pluck_214 : decode cX8_pluck 214 = .ok (.getfield 110, 3) := by decide +kernel
theorem dX8_pluck_217 : decode cX8_pluck 217 = .ok (.ifCond .le 7, 3) := by decide +kernel
theorem dX8_pluck_220 : decode cX8_pluck 220 = .ok (.iconst 1, 1) := by decide +kernel
theorem dX8_pluck_221 : decode cX8_pluck 221 = .ok (.goto 4, 3) := by decide +kernel
theorem dX8_pluck_224 : decode cX8_pluck 224 = .ok (.iconst 0, 1) := by decide +kernel
theorem dX8_pluck_225 : decode cX8_pluck 225 = .ok (.putfield 133, 3) := by decide +kernel
theorem dX8_pluck_228 : decode cX8_pluck 228 = .ok (.aload_n 0, 1) := by decide +kernel
theorem dX8_pluck_229 : decode cX8_pluck 229 = .ok (.dup, 1) := by decide +kernel
theorem dX8_pluck_230 : decode cX8_pluck 230 = .ok (.getfield 137, 3) := by decide +kernel
theorem dX8_pluck_233 : decode cX8_pluck 233 = .ok (.aload 5, 2) := by decide +kernel
theorem dX8_pluck_235 : decode cX8_pluck 235 = .ok (.invokevirtual 127, 3) := by decide +kernel
theorem dX8_pluck_238 : decode cX8_pluck 238 = .ok (.iadd, 1) := by decide +kernel
theorem dX8_pluck_239 : decode cX8_pluck 239 = .ok (.putfield 137, 3) := by decide +kernel
theorem dX8_pluck_242 : decode cX8_pluck 242 = .ok (.aload_n 0, 1) := by decide +kernel
theorem dX8_pluck_243 : decode cX8_pluck 243 = .ok (.dup, 1) := by decide +kernel
theorem dX8_pluck_244 : decode cX8_pluck 244 = .ok (.getfield 140, 3) := by decide +kernel
theorem dX8_pluck_247 : decode cX8_pluck 247 = .ok (.iconst 2, 1) := by decide +kernel
theorem dX8_pluck_248 : decode cX8_pluck 248 = .ok (.iload_n 3, 1) := by decide +kernel
theorem dX8_pluck_249 : decode cX8_pluck 249 = .ok (.imul, 1) := by decide +kernel
theorem dX8_pluck_250 : decode cX8_pluck 250 = .ok (.isub, 1) := by decide +kernel
theorem dX8_pluck_251 : decode cX8_pluck 251 = .ok (.putfield 140, 3) := by decide +kernel
theorem dX8_pluck_254 : decode cX8_pluck 254 = .ok (.aload_n 0, 1) := by decide +kernel
theorem dX8_pluck_255 : decode cX8_pluck 255 = .ok (.getfield 25, 3) := by decide +kernel
theorem dX8_pluck_258 : decode cX8_pluck 258 = .ok (.aload 5, 2) := by decide +kernel
theorem dX8_pluck_260 : decode cX8_pluck 260 = .ok (.invokevirtual 72, 3) := by decide +kernel
theorem dX8_pluck_263 : decode cX8_pluck 263 = .ok (.pop, 1) := by decide +kernel
theorem dX8_pluck_264 : decode cX8_pluck 264 = .ok (.aload_n 0, 1) := by decide +kernel
theorem dX8_pluck_265 : decode cX8_pluck 265 = .ok (.getfield 25, 3) := by decide +kernel
theorem dX8_pluck_268 : decode cX8_pluck 268 = .ok (.invokevirtual 47, 3) := by decide +kernel
theorem dX8_pluck_271 : decode cX8_pluck 271 = .ok (.iconst 1, 1) := by decide +kernel
theorem dX8_pluck_272 : decode cX8_pluck 272 = .ok (.isub, 1) := by decide +kernel
theorem dX8_pluck_273 : decode cX8_pluck 273 = .ok (.ireturn, 1) := by decide +kernel
theorem dX8_join_0 : decode cX8_join 0 = .ok (.aload_n 0, 1) := by decide +kernel
theorem dX8_join_1 : decode cX8_join 1 = .ok (.aload_n 0, 1) := by decide +kernel
theorem dX8_join_2 : decode cX8_join 2 = .ok (.iload_n 1, 1) := by decide +kernel
theorem dX8_join_3 : decode cX8_join 3 = .ok (.invokevirtual 143, 3) := by decide +kernel
theorem dX8_join_6 : decode cX8_join 6 = .ok (.ifCond .ne 11, 3) := by decide +kernel
theorem dX8_join_9 : decode cX8_join 9 = .ok (.aload_n 0, 1) := by decide +kernel
theorem dX8_join_10 : decode cX8_join 10 = .ok (.iload_n 2, 1) := by decide +kernel
theorem dX8_join_11 : decode cX8_join 11 = .ok (.invokevirtual 143, 3) := by decide +kernel
theorem dX8_join_14 : decode cX8_join 14 = .ok (.ifCond .eq 7, 3) := by decide +kernel
theorem dX8_join_17 : decode cX8_join 17 = .ok (.iconst 1, 1) := by decide +kernel
theorem dX8_join_18 : decode cX8_join 18 = .ok (.goto 4, 3) := by decide +kernel
theorem dX8_join_21 : decode cX8_join 21 = .ok (.iconst 0, 1) := by decide +kernel
theorem dX8_join_22 : decode cX8_join 22 = .ok (.iconst 1, 1) := by decide +kernel
theorem dX8_join_23 : decode cX8_join 23 = .ok (.invokevirtual 64, 3) := by decide +kernel
theorem dX8_join_26 : decode cX8_join 26 = .ok (.ifCond .ne 21, 3) := by decide +kernel
theorem dX8_join_29 : decode cX8_join 29 = .ok (.aload_n 0, 1) := by decide +kernel
theorem dX8_join_30 : decode cX8_join 30 = .ok (.iload_n 1, 1) := by decide +kernel
theorem dX8_join_31 : decode cX8_join 31 = .ok (.iload_n 2, 1) := by decide +kernel
theorem dX8_join_32 : decode cX8_join 32 = .ok (.if_icmp .ne 7, 3) := by decide +kernel
theorem dX8_join_35 : decode cX8_join 35 = .ok (.iconst 1, 1) := by decide +kernel
theorem dX8_join_36 : decode cX8_join 36 = .ok (.goto 4, 3) := by decide +kernel
theorem dX8_join_39 : decode cX8_join 39 = .ok (.iconst 0, 1) := by decide +kernel
theorem dX8_join_40 : decode cX8_join 40 = .ok (.iconst 2, 1) := by decide +kernel
theorem dX8_join_41 : decode cX8_join 41 = .ok (.invokevirtual 43, 3) := by decide +kernel
theorem dX8_join_44 : decode cX8_join 44 = .ok (.ifCond .eq 5, 3) := by decide +kernel
theorem dX8_join_47 : decode cX8_join 47 = .ok (.iconst 0, 1) := by decide +kernel
theorem dX8_join_48 : decode cX8_join 48 = .ok (.ireturn, 1) := by decide +kernel
theorem dX8_join_49 : decode cX8_join 49 = .ok (.aload_n 0, 1) := by decide +kernel
theorem dX8_join_50 : decode cX8_join 50 = .ok (.getfield 25, 3) := by decide +kernel
theorem dX8_join_53 : decode cX8_join 53 = .ok (.iload_n 1, 1) := by decide +kernel
theorem dX8_join_54 : decode cX8_join 54 = .ok (.invokevirtual 55, 3) := by decide +kernel
theorem dX8_join_57 : decode cX8_join 57 = .ok (.checkcast 59, 3) := by decide +kernel
theorem dX8_join_60 : decode cX8_join 60 = .ok (.astore_n 3, 1) := by decide +kernel
theorem dX8_join_61 : decode cX8_join 61 = .ok (.aload_n 0, 1) := by decide +kernel
theorem dX8_join_62 : decode cX8_join 62 = .ok (.getfield 25, 3) := by decide +kernel
theorem dX8_join_65 : decode cX8_join 65 = .ok (.iload_n 2, 1) := by decide +kernel
theorem dX8_join_66 : decode cX8_join 66 = .ok (.invokevirtual 55, 3) := by decide +kernel
theorem dX8_join_69 : decode cX8_join 69 = .ok (.checkcast 59, 3) := by decide +kernel
theorem dX8_join_72 : decode cX8_join 72 = .ok (.astore 4, 2) := by decide +kernel
theorem dX8_join_74 : decode cX8_join 74 = .ok (.aload_n 0, 1) := by decide +kernel
theorem dX8_join_75 : decode cX8_join 75 = .ok (.aload_n 3, 1) := by decide +kernel
theorem dX8_join_76 : decode cX8_join 76 = .ok (.getfield 61, 3) := by decide +kernel
theorem dX8_join_79 : decode cX8_join 79 = .ok (.ifCond .ne 35, 3) := by decide +kernel
theorem dX8_join_82 : decode cX8_join 82 = .ok (.aload 4, 2) := by decide +kernel
theorem dX8_join_84 : decode cX8_join 84 = .ok (.getfield 61, 3) := by decide +kernel
theorem dX8_join_87 : decode cX8_join 87 = .ok (.ifCond .ne 27, 3) := by decide +kernel
theorem dX8_join_90 : decode cX8_join 90 = .ok (.aload_n 3, 1) := by decide +kernel
theorem dX8_join_91 : decode cX8_join 91 = .ok (.getfield 146, 3) := by decide +kernel
theorem dX8_join_94 : decode cX8_join 94 = .ok (.aload 4, 2) := by decide +kernel
theorem dX8_join_96 : decode cX8_join 96 = .ok (.getfield 146, 3) := by decide +kernel
theorem dX8_join_99 : decode cX8_join 99 = .ok (.if_icmp .ne 15, 3) := by decide +kernel
theorem dX8_join_102 : decode cX8_join 102 = .ok (.aload_n 3, 1) := by decide +kernel
theorem dX8_join_103 : decode cX8_join 103 = .ok (.getfield 149, 3) := by decide +kernel
theorem dX8_join_106 : decode cX8_join 106 = .ok (.aload 4, 2) := by decide +kernel
theorem dX8_join_108 : decode cX8_join 108 = .ok (.getfield 149, 3) := by decide +kernel
theorem dX8_join_111 : decode cX8_join 111 = .ok (.if_icmp .eq 7, 3) := by decide +kernel
theorem dX8_join_114 : decode cX8_join 114 = .ok (.iconst 1, 1) := by decide +kernel
theorem dX8_join_115 : decode cX8_join 115 = .ok (.goto 4, 3) := by decide +kernel
theorem dX8_join_118 : decode cX8_join 118 = .ok (.iconst 0, 1) := by decide +kernel
theorem dX8_join_119 : decode cX8_join 119 = .ok (.iconst 3, 1) := by decide +kernel
theorem dX8_join_120 : decode cX8_join 120 = .ok (.invokevirtual 43, 3) := by decide +kernel
theorem dX8_join_123 : decode cX8_join 123 = .ok (.ifCond .eq 5, 3) := by decide +kernel
theorem dX8_join_126 : decode cX8_join 126 = .ok (.iconst 0, 1) := by decide +kernel
theorem dX8_join_127 : decode cX8_join 127 = .ok (.ireturn, 1) := by decide +kernel
theorem dX8_join_128 : decode cX8_join 128 = .ok (.iconst 0, 1) := by decide +kernel
theorem dX8_join_129 : decode cX8_join 129 = .ok (.istore 5, 2) := by decide +kernel
theorem dX8_join_131 : decode cX8_join 131 = .ok (.iload 5, 2) := by decide +kernel
theorem dX8_join_133 : decode cX8_join 133 = .ok (.iconst 4, 1) := by decide +kernel
theorem dX8_join_134 : decode cX8_join 134 = .ok (.if_icmp .ge 27, 3) := by decide +kernel
theorem dX8_join_137 : decode cX8_join 137 = .ok (.aload_n 3, 1) := by decide +kernel
theorem dX8_join_138 : decode cX8_join 138 = .ok (.getfield 121, 3) := by decide +kernel
theorem dX8_join_141 : decode cX8_join 141 = .ok (.iload 5, 2) := by decide +kernel
theorem dX8_join_143 : decode cX8_join 143 = .ok (.dup2, 1) := by decide +kernel
theorem dX8_join_144 : decode cX8_join 144 = .ok (.iaload, 1) := by decide +kernel
theorem dX8_join_145 : decode cX8_join 145 = .ok (.aload 4, 2) := by decide +kernel
theorem dX8_join_147 : decode cX8_join 147 = .ok (.getfield 121, 3) := by decide +kernel
theorem dX8_join_150 : decode cX8_join 150 = .ok (.iload 5, 2) := by decide +kernel
theorem dX8_join_152 : decode cX8_join 152 = .ok (.iaload, 1) := by decide +kernel
theorem dX8_join_153 : decode cX8_join 153 = .ok (.iadd, 1) := by decide +kernel
theorem dX8_join_154 : decode cX8_join 154 = .ok (.iastore, 1) := by decide +kernel
theorem dX8_join_155 : decode cX8_join 155 = .ok (.iinc 5 1, 3) := by decide +kernel
theorem dX8_join_158 : decode cX8_join 158 = .ok (.goto (-27), 3) := by decide +kernel
theorem dX8_join_161 : decode cX8_join 161 = .ok (.aload_n 3, 1) := by decide +kernel
theorem dX8_join_162 : decode cX8_join 162 = .ok (.dup, 1) := by decide +kernel
theorem dX8_join_163 : decode cX8_join 163 = .ok (.getfield 124, 3) := by decide +kernel
theorem dX8_join_166 : decode cX8_join 166 = .ok (.aload 4, 2) := by decide +kernel
theorem dX8_join_168 : decode cX8_join 168 = .ok (.getfield 124, 3) := by decide +kernel
theorem dX8_join_171 : decode cX8_join 171 = .ok (.iadd, 1) := by decide +kernel
theorem dX8_join_172 : decode cX8_join 172 = .ok (.putfield 124, 3) := by decide +kernel
theorem dX8_join_175 : decode cX8_join 175 = .ok (.aload_n 3, 1) := by decide +kernel
theorem dX8_join_176 : decode cX8_join 176 = .ok (.dup, 1) := by decide +kernel
theorem dX8_join_177 : decode cX8_join 177 = .ok (.getfield 130, 3) := by decide +kernel
theorem dX8_join_180 : decode cX8_join 180 = .ok (.aload 4, 2) := by decide +kernel
theorem dX8_join_182 : decode cX8_join 182 = .ok (.getfield 130, 3) := by decide +kernel
theorem dX8_join_185 : decode cX8_join 185 = .ok (.iadd, 1) := by decide +kernel
theorem dX8_join_186 : decode cX8_join 186 = .ok (.putfield 130, 3) := by decide +kernel
theorem dX8_join_189 : decode cX8_join 189 = .ok (.aload_n 3, 1) := by decide +kernel
theorem dX8_join_190 : decode cX8_join 190 = .ok (.dup, 1) := by decide +kernel
theorem dX8_join_191 : decode cX8_join 191 = .ok (.getfield 133, 3) := by decide +kernel
theorem dX8_join_194 : decode cX8_join 194 = .ok (.aload 4, 2) := by decide +kernel
theorem dX8_join_196 : decode cX8_join 196 = .ok (.getfield 133, 3) := by decide +kernel
theorem dX8_join_199 : decode cX8_join 199 = .ok (.ior, 1) := by decide +kernel
theorem dX8_join_200 : decode cX8_join 200 = .ok (.putfield 133, 3) := by decide +kernel
theorem dX8_join_203 : decode cX8_join 203 = .ok (.aload 4, 2) := by decide +kernel
theorem dX8_join_205 : decode cX8_join 205 = .ok (.invokevirtual 152, 3) := by decide +kernel
theorem dX8_join_208 : decode cX8_join 208 = .ok (.aload_n 3, 1) := by decide +kernel
theorem dX8_join_209 : decode cX8_join 209 = .ok (.invokevirtual 127, 3) := by decide +kernel
theorem dX8_join_212 : decode cX8_join 212 = .ok (.ireturn, 1) := by decide +kernel
theorem dX8_wither_0 : decode cX8_wither 0 = .ok (.aload_n 0, 1) := by decide +kernel
theorem dX8_wither_1 : decode cX8_wither 1 = .ok (.aload_n 0, 1) := by decide +kernel
theorem dX8_wither_2 : decode cX8_wither 2 = .ok (.iload_n 1, 1) := by decide +kernel
theorem dX8_wither_3 : decode cX8_wither 3 = .ok (.invokevirtual 143, 3) := by decide +kernel
theorem dX8_wither_6 : decode cX8_wither 6 = .ok (.iconst 1, 1) := by decide +kernel
theorem dX8_wither_7 : decode cX8_wither 7 = .ok (.invokevirtual 64, 3) := by decide +kernel
theorem dX8_wither_10 : decode cX8_wither 10 = .ok (.ifCond .ne 74, 3) := by decide +kernel
theorem dX8_wither_13 : decode cX8_wither 13 = .ok (.aload_n 0, 1) := by decide +kernel
theorem dX8_wither_14 : decode cX8_wither 14 = .ok (.iload_n 2, 1) := by decide +kernel
theorem dX8_wither_15 : decode cX8_wither 15 = .ok (.iconst 1, 1) := by decide +kernel
theorem dX8_wither_16 : decode cX8_wither 16 = .ok (.bipush 20, 2) := by decide +kernel
theorem dX8_wither_18 : decode cX8_wither 18 = .ok (.invokestatic 51, 3) := by decide +kernel
theorem dX8_wither_21 : decode cX8_wither 21 = .ok (.ifCond .eq 12, 3) := by decide +kernel
theorem dX8_wither_24 : decode cX8_wither 24 = .ok (.iload_n 3, 1) := by decide +kernel
theorem dX8_wither_25 : decode cX8_wither 25 = .ok (.iconst 1, 1) := by decide +kernel
theorem dX8_wither_26 : decode cX8_wither 26 = .ok (.iconst 3, 1) := by decide +kernel
theorem dX8_wither_27 : decode cX8_wither 27 = .ok (.invokestatic 51, 3) := by decide +kernel
theorem dX8_wither_30 : decode cX8_wither 30 = .ok (.ifCond .ne 7, 3) := by decide +kernel
theorem dX8_wither_33 : decode cX8_wither 33 = .ok (.iconst 1, 1) := by decide +kernel
theorem dX8_wither_34 : decode cX8_wither 34 = .ok (.goto 4, 3) := by decide +kernel
theorem dX8_wither_37 : decode cX8_wither 37 = .ok (.iconst 0, 1) := by decide +kernel
theorem dX8_wither_38 : decode cX8_wither 38 = .ok (.iconst 2, 1) := by decide +kernel
theorem dX8_wither_39 : decode cX8_wither 39 = .ok (.invokevirtual 43, 3) := by decide +kernel
theorem dX8_wither_42 : decode cX8_wither 42 = .ok (.ifCond .ne 42, 3) := by decide +kernel
theorem dX8_wither_45 : decode cX8_wither 45 = .ok (.aload_n 0, 1) := by decide +kernel
theorem dX8_wither_46 : decode cX8_wither 46 = .ok (.aload_n 0, 1) := by decide +kernel
theorem dX8_wither_47 : decode cX8_wither 47 = .ok (.iload_n 1, 1) := by decide +kernel
theorem dX8_wither_48 : decode cX8_wither 48 = .ok (.iconst 0, 1) := by decide +kernel
theorem dX8_wither_49 : decode cX8_wither 49 = .ok (.invokevirtual 155, 3) := by decide +kernel
theorem dX8_wither_52 : decode cX8_wither 52 = .ok (.ifCond .eq 20, 3) := by decide +kernel
theorem dX8_wither_55 : decode cX8_wither 55 = .ok (.aload_n 0, 1) := by decide +kernel
theorem dX8_wither_56 : decode cX8_wither 56 = .ok (.getfield 25, 3) := by decide +kernel
theorem dX8_wither_59 : decode cX8_wither 59 = .ok (.iload_n 1, 1) := by decide +kernel
theorem dX8_wither_60 : decode cX8_wither 60 = .ok (.invokevirtual 55, 3) := by decide +kernel
theorem dX8_wither_63 : decode cX8_wither 63 = .ok (.checkcast 59, 3) := by decide +kernel
theorem dX8_wither_66 : decode cX8_wither 66 = .ok (.getfield 149, 3) := by decide +kernel
theorem dX8_wither_69 : decode cX8_wither 69 = .ok (.ifCond .eq 7, 3) := by decide +kernel
theorem dX8_wither_72 : decode cX8_wither 72 = .ok (.iconst 1, 1) := by decide +kernel
theorem dX8_wither_73 : decode cX8_wither 73 = .ok (.goto 4, 3) := by decide +kernel
theorem dX8_wither_76 : decode cX8_wither 76 = .ok (.iconst 0, 1) := by decide +kernel
theorem dX8_wither_77 : decode cX8_wither 77 = .ok (.iconst 3, 1) := by decide +kernel
theorem dX8_wither_78 : decode cX8_wither 78 = .ok (.invokevirtual 43, 3) := by decide +kernel
theorem dX8_wither_81 : decode cX8_wither 81 = .ok (.ifCond .eq 5, 3) := by decide +kernel
theorem dX8_wither_84 : decode cX8_wither 84 = .ok (.iconst 0, 1) := by decide +kernel
theorem dX8_wither_85 : decode cX8_wither 85 = .ok (.ireturn, 1) := by decide +kernel
theorem dX8_wither_86 : decode cX8_wither 86 = .ok (.iconst 0, 1) := by decide +kernel
theorem dX8_wither_87 : decode cX8_wither 87 = .ok (.istore 4, 2) := by decide +kernel
theorem dX8_wither_89 : decode cX8_wither 89 = .ok (.iload 4, 2) := by decide +kernel
theorem dX8_wither_91 : decode cX8_wither 91 = .ok (.iload_n 2, 1) := by decide +kernel
theorem dX8_wither_92 : decode cX8_wither 92 = .ok (.if_icmp .ge 24, 3) := by decide +kernel
theorem dX8_wither_95 : decode cX8_wither 95 = .ok (.aload_n 0, 1) := by decide +kernel
theorem dX8_wither_96 : decode cX8_wither 96 = .ok (.getfield 25, 3) := by decide +kernel
theorem dX8_wither_99 : decode cX8_wither 99 = .ok (.iload_n 1, 1) := by decide +kernel
theorem dX8_wither_100 : decode cX8_wither 100 = .ok (.invokevirtual 55, 3) := by decide +kernel
theorem dX8_wither_103 : decode cX8_wither 103 = .ok (.checkcast 59, 3) := by decide +kernel
theorem dX8_wither_106 : decode cX8_wither 106 = .ok (.iload_n 3, 1) := by decide +kernel
theorem dX8_wither_107 : decode cX8_wither 107 = .ok (.invokevirtual 158, 3) := by decide +kernel
theorem dX8_wither_110 : decode cX8_wither 110 = .ok (.iinc 4 1, 3) := by decide +kernel
theorem dX8_wither_113 : decode cX8_wither 113 = .ok (.goto (-24), 3) := by decide +kernel
theorem dX8_wither_116 : decode cX8_wither 116 = .ok (.aload_n 0, 1) := by decide +kernel
theorem dX8_wither_117 : decode cX8_wither 117 = .ok (.getfield 25, 3) := by decide +kernel
theorem dX8_wither_120 : decode cX8_wither 120 = .ok (.iload_n 1, 1) := by decide +kernel
theorem dX8_wither_121 : decode cX8_wither 121 = .ok (.invokevirtual 55, 3) := by decide +kernel
theorem dX8_wither_124 : decode cX8_wither 124 = .ok (.checkcast 59, 3) := by decide +kernel
theorem dX8_wither_127 : decode cX8_wither 127 = .ok (.getfield 130, 3) := by decide +kernel
theorem dX8_wither_130 : decode cX8_wither 130 = .ok (.ireturn, 1) := by decide +kernel
theorem dX8_kill_0 : decode cX8_kill 0 = .ok (.aload_n 0, 1) := by decide +kernel
theorem dX8_kill_1 : decode cX8_kill 1 = .ok (.aload_n 0, 1) := by decide +kernel
theorem dX8_kill_2 : decode cX8_kill 2 = .ok (.iload_n 1, 1) := by decide +kernel
theorem dX8_kill_3 : decode cX8_kill 3 = .ok (.invokevirtual 143, 3) := by decide +kernel
theorem dX8_kill_6 : decode cX8_kill 6 = .ok (.iconst 1, 1) := by decide +kernel
theorem dX8_kill_7 : decode cX8_kill 7 = .ok (.invokevirtual 64, 3) := by decide +kernel
theorem dX8_kill_10 : decode cX8_kill 10 = .ok (.ifCond .ne 42, 3) := by decide +kernel
theorem dX8_kill_13 : decode cX8_kill 13 = .ok (.aload_n 0, 1) := by decide +kernel
theorem dX8_kill_14 : decode cX8_kill 14 = .ok (.aload_n 0, 1) := by decide +kernel
theorem dX8_kill_15 : decode cX8_kill 15 = .ok (.iload_n 1, 1) := by decide +kernel
theorem dX8_kill_16 : decode cX8_kill 16 = .ok (.iconst 0, 1) := by decide +kernel
theorem dX8_kill_17 : decode cX8_kill 17 = .ok (.invokevirtual 155, 3) := by decide +kernel
theorem dX8_kill_20 : decode cX8_kill 20 = .ok (.ifCond .eq 20, 3) := by decide +kernel
theorem dX8_kill_23 : decode cX8_kill 23 = .ok (.aload_n 0, 1) := by decide +kernel
theorem dX8_kill_24 : decode cX8_kill 24 = .ok (.getfield 25, 3) := by decide +kernel
theorem dX8_kill_27 : decode cX8_kill 27 = .ok (.iload_n 1, 1) := by decide +kernel
theorem dX8_kill_28 : decode cX8_kill 28 = .ok (.invokevirtual 55, 3) := by decide +kernel
theorem dX8_kill_31 : decode cX8_kill 31 = .ok (.checkcast 59, 3) := by decide +kernel
theorem dX8_kill_34 : decode cX8_kill 34 = .ok (.getfield 149, 3) := by decide +kernel
theorem dX8_kill_37 : decode cX8_kill 37 = .ok (.ifCond .eq 7, 3) := by decide +kernel
theorem dX8_kill_40 : decode cX8_kill 40 = .ok (.iconst 1, 1) := by decide +kernel
theorem dX8_kill_41 : decode cX8_kill 41 = .ok (.goto 4, 3) := by decide +kernel
theorem dX8_kill_44 : decode cX8_kill 44 = .ok (.iconst 0, 1) := by decide +kernel
theorem dX8_kill_45 : decode cX8_kill 45 = .ok (.iconst 2, 1) := by decide +kernel
theorem dX8_kill_46 : decode cX8_kill 46 = .ok (.invokevirtual 43, 3) := by decide +kernel
theorem dX8_kill_49 : decode cX8_kill 49 = .ok (.ifCond .eq 5, 3) := by decide +kernel
theorem dX8_kill_52 : decode cX8_kill 52 = .ok (.iconst 0, 1) := by decide +kernel
theorem dX8_kill_53 : decode cX8_kill 53 = .ok (.ireturn, 1) := by decide +kernel
theorem dX8_kill_54 : decode cX8_kill 54 = .ok (.aload_n 0, 1) := by decide +kernel
theorem dX8_kill_55 : decode cX8_kill 55 = .ok (.getfield 25, 3) := by decide +kernel
theorem dX8_kill_58 : decode cX8_kill 58 = .ok (.iload_n 1, 1) := by decide +kernel
theorem dX8_kill_59 : decode cX8_kill 59 = .ok (.invokevirtual 55, 3) := by decide +kernel
theorem dX8_kill_62 : decode cX8_kill 62 = .ok (.checkcast 59, 3) := by decide +kernel
theorem dX8_kill_65 : decode cX8_kill 65 = .ok (.astore_n 2, 1) := by decide +kernel
theorem dX8_kill_66 : decode cX8_kill 66 = .ok (.aload_n 2, 1) := by decide +kernel
theorem dX8_kill_67 : decode cX8_kill 67 = .ok (.dup, 1) := by decide +kernel
theorem dX8_kill_68 : decode cX8_kill 68 = .ok (.getfield 130, 3) := by decide +kernel
theorem dX8_kill_71 : decode cX8_kill 71 = .ok (.aload_n 2, 1) := by decide +kernel
theorem dX8_kill_72 : decode cX8_kill 72 = .ok (.getfield 130, 3) := by decide +kernel
theorem dX8_kill_75 : decode cX8_kill 75 = .ok (.iconst 5, 1) := by decide +kernel
theorem dX8_kill_76 : decode cX8_kill 76 = .ok (.idiv, 1) := by decide +kernel
theorem dX8_kill_77 : decode cX8_kill 77 = .ok (.isub, 1) := by decide +kernel
theorem dX8_kill_78 : decode cX8_kill 78 = .ok (.putfield 130, 3) := by decide +kernel
theorem dX8_kill_81 : decode cX8_kill 81 = .ok (.aload_n 2, 1) := by decide +kernel
theorem dX8_kill_82 : decode cX8_kill 82 = .ok (.iconst 1, 1) := by decide +kernel
theorem dX8_kill_83 : decode cX8_kill 83 = .ok (.putfield 149, 3) := by decide +kernel
theorem dX8_kill_86 : decode cX8_kill 86 = .ok (.aload_n 2, 1) := by decide +kernel
theorem dX8_kill_87 : decode cX8_kill 87 = .ok (.getfield 130, 3) := by decide +kernel
theorem dX8_kill_90 : decode cX8_kill 90 = .ok (.ireturn, 1) := by decide +kernel
theorem dX8_roll_0 : decode cX8_roll 0 = .ok (.aload_n 0, 1) := by decide +kernel
theorem dX8_roll_1 : decode cX8_roll 1 = .ok (.aload_n 0, 1) := by decide +kernel
theorem dX8_roll_2 : decode cX8_roll 2 = .ok (.iload_n 1, 1) := by decide +kernel
theorem dX8_roll_3 : decode cX8_roll 3 = .ok (.invokevirtual 143, 3) := by decide +kernel
theorem dX8_roll_6 : decode cX8_roll 6 = .ok (.iconst 1, 1) := by decide +kernel
theorem dX8_roll_7 : decode cX8_roll 7 = .ok (.invokevirtual 64, 3) := by decide +kernel
theorem dX8_roll_10 : decode cX8_roll 10 = .ok (.ifCond .ne 25, 3) := by decide +kernel
theorem dX8_roll_13 : decode cX8_roll 13 = .ok (.aload_n 0, 1) := by decide +kernel
theorem dX8_roll_14 : decode cX8_roll 14 = .ok (.iload_n 2, 1) := by decide +kernel
theorem dX8_roll_15 : decode cX8_roll 15 = .ok (.iconst 1, 1) := by decide +kernel
theorem dX8_roll_16 : decode cX8_roll 16 = .ok (.iconst 5, 1) := by decide +kernel
theorem dX8_roll_17 : decode cX8_roll 17 = .ok (.invokestatic 51, 3) := by decide +kernel
theorem dX8_roll_20 : decode cX8_roll 20 = .ok (.ifCond .ne 7, 3) := by decide +kernel
theorem dX8_roll_23 : decode cX8_roll 23 = .ok (.iconst 1, 1) := by decide +kernel
theorem dX8_roll_24 : decode cX8_roll 24 = .ok (.goto 4, 3) := by decide +kernel
theorem dX8_roll_27 : decode cX8_roll 27 = .ok (.iconst 0, 1) := by decide +kernel
theorem dX8_roll_28 : decode cX8_roll 28 = .ok (.iconst 2, 1) := by decide +kernel
theorem dX8_roll_29 : decode cX8_roll 29 = .ok (.invokevirtual 43, 3) := by decide +kernel
theorem dX8_roll_32 : decode cX8_roll 32 = .ok (.ifCond .eq 5, 3) := by decide +kernel
theorem dX8_roll_35 : decode cX8_roll 35 = .ok (.iconst 0, 1) := by decide +kernel
theorem dX8_roll_36 : decode cX8_roll 36 = .ok (.ireturn, 1) := by decide +kernel
theorem dX8_roll_37 : decode cX8_roll 37 = .ok (.aload_n 0, 1) := by decide +kernel
theorem dX8_roll_38 : decode cX8_roll 38 = .ok (.getfield 25, 3) := by decide +kernel
theorem dX8_roll_41 : decode cX8_roll 41 = .ok (.iload_n 1, 1) := by decide +kernel
theorem dX8_roll_42 : decode cX8_roll 42 = .ok (.invokevirtual 55, 3) := by decide +kernel
theorem dX8_roll_45 : decode cX8_roll 45 = .ok (.checkcast 59, 3) := by decide +kernel
theorem dX8_roll_48 : decode cX8_roll 48 = .ok (.astore_n 3, 1) := by decide +kernel
theorem dX8_roll_49 : decode cX8_roll 49 = .ok (.aload_n 0, 1) := by decide +kernel
theorem dX8_roll_50 : decode cX8_roll 50 = .ok (.aload_n 3, 1) := by decide +kernel
theorem dX8_roll_51 : decode cX8_roll 51 = .ok (.getfield 61, 3) := by decide +kernel
theorem dX8_roll_54 : decode cX8_roll 54 = .ok (.iconst 1, 1) := by decide +kernel
theorem dX8_roll_55 : decode cX8_roll 55 = .ok (.if_icmp .gt 16, 3) := by decide +kernel
theorem dX8_roll_58 : decode cX8_roll 58 = .ok (.aload_n 3, 1) := by decide +kernel
theorem dX8_roll_59 : decode cX8_roll 59 = .ok (.getfield 130, 3) := by decide +kernel
theorem dX8_roll_62 : decode cX8_roll 62 = .ok (.iconst 2, 1) := by decide +kernel
theorem dX8_roll_63 : decode cX8_roll 63 = .ok (.aload_n 3, 1) := by decide +kernel
theorem dX8_roll_64 : decode cX8_roll 64 = .ok (.invokevirtual 127, 3) := by decide +kernel
theorem dX8_roll_67 : decode cX8_roll 67 = .ok (.imul, 1) := by decide +kernel
theorem dX8_roll_68 : decode cX8_roll 68 = .ok (.if_icmp .le 7, 3) := by decide +kernel
theorem dX8_roll_71 : decode cX8_roll 71 = .ok (.iconst 1, 1) := by decide +kernel
theorem dX8_roll_72 : decode cX8_roll 72 = .ok (.goto 4, 3) := by decide +kernel
theorem dX8_roll_75 : decode cX8_roll 75 = .ok (.iconst 0, 1) := by decide +kernel
theorem dX8_roll_76 : decode cX8_roll 76 = .ok (.iconst 3, 1) := by decide +kernel
theorem dX8_roll_77 : decode cX8_roll 77 = .ok (.invokevirtual 43, 3) := by decide +kernel
theorem dX8_roll_80 : decode cX8_roll 80 = .ok (.ifCond .eq 5, 3) := by decide +kernel
theorem dX8_roll_83 : decode cX8_roll 83 = .ok (.iconst 0, 1) := by decide +kernel
theorem dX8_roll_84 : decode cX8_roll 84 = .ok (.ireturn, 1) := by decide +kernel
theorem dX8_roll_85 : decode cX8_roll 85 = .ok (.aload_n 3, 1) := by decide +kernel
theorem dX8_roll_86 : decode cX8_roll 86 = .ok (.dup, 1) := by decide +kernel
theorem dX8_roll_87 : decode cX8_roll 87 = .ok (.getfield 162, 3) := by decide +kernel
theorem dX8_roll_90 : decode cX8_roll 90 = .ok (.iload_n 2, 1) := by decide +kernel
theorem dX8_roll_91 : decode cX8_roll 91 = .ok (.iadd, 1) := by decide +kernel
theorem dX8_roll_92 : decode cX8_roll 92 = .ok (.putfield 162, 3) := by decide +kernel
theorem dX8_roll_95 : decode cX8_roll 95 = .ok (.aload_n 3, 1) := by decide +kernel
theorem dX8_roll_96 : decode cX8_roll 96 = .ok (.iconst 1, 1) := by decide +kernel
theorem dX8_roll_97 : decode cX8_roll 97 = .ok (.putfield 61, 3) := by decide +kernel
theorem dX8_roll_100 : decode cX8_roll 100 = .ok (.aload_n 3, 1) := by decide +kernel
theorem dX8_roll_101 : decode cX8_roll 101 = .ok (.getfield 162, 3) := by decide +kernel
theorem dX8_roll_104 : decode cX8_roll 104 = .ok (.ireturn, 1) := by decide +kernel
theorem dX8_rest_0 : decode cX8_rest 0 = .ok (.aload_n 0, 1) := by decide +kernel
theorem dX8_rest_1 : decode cX8_rest 1 = .ok (.aload_n 0, 1) := by decide +kernel
theorem dX8_rest_2 : decode cX8_rest 2 = .ok (.iload_n 1, 1) := by decide +kernel
theorem dX8_rest_3 : decode cX8_rest 3 = .ok (.invokevirtual 143, 3) := by decide +kernel
theorem dX8_rest_6 : decode cX8_rest 6 = .ok (.iconst 1, 1) := by decide +kernel
theorem dX8_rest_7 : decode cX8_rest 7 = .ok (.invokevirtual 64, 3) := by decide +kernel
theorem dX8_rest_10 : decode cX8_rest 10 = .ok (.ifCond .ne 74, 3) := by decide +kernel
theorem dX8_rest_13 : decode cX8_rest 13 = .ok (.aload_n 0, 1) := by decide +kernel
theorem dX8_rest_14 : decode cX8_rest 14 = .ok (.iload_n 2, 1) := by decide +kernel
theorem dX8_rest_15 : decode cX8_rest 15 = .ok (.iconst 1, 1) := by decide +kernel
theorem dX8_rest_16 : decode cX8_rest 16 = .ok (.bipush 20, 2) := by decide +kernel
theorem dX8_rest_18 : decode cX8_rest 18 = .ok (.invokestatic 51, 3) := by decide +kernel
theorem dX8_rest_21 : decode cX8_rest 21 = .ok (.ifCond .eq 12, 3) := by decide +kernel
theorem dX8_rest_24 : decode cX8_rest 24 = .ok (.iload_n 3, 1) := by decide +kernel
theorem dX8_rest_25 : decode cX8_rest 25 = .ok (.iconst 1, 1) := by decide +kernel
theorem dX8_rest_26 : decode cX8_rest 26 = .ok (.iconst 4, 1) := by decide +kernel
theorem dX8_rest_27 : decode cX8_rest 27 = .ok (.invokestatic 51, 3) := by decide +kernel
theorem dX8_rest_30 : decode cX8_rest 30 = .ok (.ifCond .ne 7, 3) := by decide +kernel
theorem dX8_rest_33 : decode cX8_rest 33 = .ok (.iconst 1, 1) := by decide +kernel
theorem dX8_rest_34 : decode cX8_rest 34 = .ok (.goto 4, 3) := by decide +kernel
theorem dX8_rest_37 : decode cX8_rest 37 = .ok (.iconst 0, 1) := by decide +kernel
theorem dX8_rest_38 : decode cX8_rest 38 = .ok (.iconst 2, 1) := by decide +kernel
theorem dX8_rest_39 : decode cX8_rest 39 = .ok (.invokevirtual 43, 3) := by decide +kernel
theorem dX8_rest_42 : decode cX8_rest 42 = .ok (.ifCond .ne 42, 3) := by decide +kernel
theorem dX8_rest_45 : decode cX8_rest 45 = .ok (.aload_n 0, 1) := by decide +kernel
theorem dX8_rest_46 : decode cX8_rest 46 = .ok (.aload_n 0, 1) := by decide +kernel
theorem dX8_rest_47 : decode cX8_rest 47 = .ok (.iload_n 1, 1) := by decide +kernel
theorem dX8_rest_48 : decode cX8_rest 48 = .ok (.iconst 1, 1) := by decide +kernel
theorem dX8_rest_49 : decode cX8_rest 49 = .ok (.invokevirtual 155, 3) := by decide +kernel
theorem dX8_rest_52 : decode cX8_rest 52 = .ok (.ifCond .eq 20, 3) := by decide +kernel
theorem dX8_rest_55 : decode cX8_rest 55 = .ok (.aload_n 0, 1) := by decide +kernel
theorem dX8_rest_56 : decode cX8_rest 56 = .ok (.getfield 25, 3) := by decide +kernel
theorem dX8_rest_59 : decode cX8_rest 59 = .ok (.iload_n 1, 1) := by decide +kernel
theorem dX8_rest_60 : decode cX8_rest 60 = .ok (.invokevirtual 55, 3) := by decide +kernel
theorem dX8_rest_63 : decode cX8_rest 63 = .ok (.checkcast 59, 3) := by decide +kernel
theorem dX8_rest_66 : decode cX8_rest 66 = .ok (.getfield 149, 3) := by decide +kernel
theorem dX8_rest_69 : decode cX8_rest 69 = .ok (.ifCond .eq 7, 3) := by decide +kernel
theorem dX8_rest_72 : decode cX8_rest 72 = .ok (.iconst 1, 1) := by decide +kernel
theorem dX8_rest_73 : decode cX8_rest 73 = .ok (.goto 4, 3) := by decide +kernel
theorem dX8_rest_76 : decode cX8_rest 76 = .ok (.iconst 0, 1) := by decide +kernel
theorem dX8_rest_77 : decode cX8_rest 77 = .ok (.iconst 3, 1) := by decide +kernel
theorem dX8_rest_78 : decode cX8_rest 78 = .ok (.invokevirtual 43, 3) := by decide +kernel
theorem dX8_rest_81 : decode cX8_rest 81 = .ok (.ifCond .eq 5, 3) := by decide +kernel
theorem dX8_rest_84 : decode cX8_rest 84 = .ok (.iconst 0, 1) := by decide +kernel
theorem dX8_rest_85 : decode cX8_rest 85 = .ok (.ireturn, 1) := by decide +kernel
theorem dX8_rest_86 : decode cX8_rest 86 = .ok (.aload_n 0, 1) := by decide +kernel
theorem dX8_rest_87 : decode cX8_rest 87 = .ok (.getfield 25, 3) := by decide +kernel
theorem dX8_rest_90 : decode cX8_rest 90 = .ok (.iload_n 1, 1) := by decide +kernel
theorem dX8_rest_91 : decode cX8_rest 91 = .ok (.invokevirtual 55, 3) := by decide +kernel
theorem dX8_rest_94 : decode cX8_rest 94 = .ok (.checkcast 59, 3) := by decide +kernel
theorem dX8_rest_97 : decode cX8_rest 97 = .ok (.astore 4, 2) := by decide +kernel
theorem dX8_rest_99 : decode cX8_rest 99 = .ok (.aload 4, 2) := by decide +kernel
theorem dX8_rest_101 : decode cX8_rest 101 = .ok (.bipush 60, 2) := by decide +kernel
theorem dX8_rest_103 : decode cX8_rest 103 = .ok (.aload 4, 2) := by decide +kernel
theorem dX8_rest_105 : decode cX8_rest 105 = .ok (.getfield 165, 3) := by decide +kernel
theorem dX8_rest_108 : decode cX8_rest 108 = .ok (.iload_n 2, 1) := by decide +kernel
theorem dX8_rest_109 : decode cX8_rest 109 = .ok (.iload_n 3, 1) := by decide +kernel
theorem dX8_rest_110 : decode cX8_rest 110 = .ok (.imul, 1) := by decide +kernel
theorem dX8_rest_111 : decode cX8_rest 111 = .ok (.iadd, 1) := by decide +kernel
theorem dX8_rest_112 : decode cX8_rest 112 = .ok (.invokestatic 3, 3) := by decide +kernel
theorem dX8_rest_115 : decode cX8_rest 115 = .ok (.putfield 165, 3) := by decide +kernel
theorem dX8_rest_118 : decode cX8_rest 118 = .ok (.aload 4, 2) := by decide +kernel
theorem dX8_rest_120 : decode cX8_rest 120 = .ok (.getfield 165, 3) := by decide +kernel
theorem dX8_rest_123 : decode cX8_rest 123 = .ok (.ireturn, 1) := by decide +kernel
theorem dX8_fire_0 : decode cX8_fire 0 = .ok (.aload_n 0, 1) := by decide +kernel
theorem dX8_fire_1 : decode cX8_fire 1 = .ok (.aload_n 0, 1) := by decide +kernel
theorem dX8_fire_2 : decode cX8_fire 2 = .ok (.iload_n 1, 1) := by decide +kernel
theorem dX8_fire_3 : decode cX8_fire 3 = .ok (.invokevirtual 143, 3) := by decide +kernel
theorem dX8_fire_6 : decode cX8_fire 6 = .ok (.iconst 1, 1) := by decide +kernel
theorem dX8_fire_7 : decode cX8_fire 7 = .ok (.invokevirtual 64, 3) := by decide +kernel
theorem dX8_fire_10 : decode cX8_fire 10 = .ok (.ifCond .ne 57, 3) := by decide +kernel
theorem dX8_fire_13 : decode cX8_fire 13 = .ok (.aload_n 0, 1) := by decide +kernel
theorem dX8_fire_14 : decode cX8_fire 14 = .ok (.iload_n 2, 1) := by decide +kernel
theorem dX8_fire_15 : decode cX8_fire 15 = .ok (.iconst 1, 1) := by decide +kernel
theorem dX8_fire_16 : decode cX8_fire 16 = .ok (.iconst 5, 1) := by decide +kernel
theorem dX8_fire_17 : decode cX8_fire 17 = .ok (.invokestatic 51, 3) := by decide +kernel
theorem dX8_fire_20 : decode cX8_fire 20 = .ok (.ifCond .eq 13, 3) := by decide +kernel
theorem dX8_fire_23 : decode cX8_fire 23 = .ok (.iload_n 3, 1) := by decide +kernel
theorem dX8_fire_24 : decode cX8_fire 24 = .ok (.iconst 1, 1) := by decide +kernel
theorem dX8_fire_25 : decode cX8_fire 25 = .ok (.bipush 30, 2) := by decide +kernel
theorem dX8_fire_27 : decode cX8_fire 27 = .ok (.invokestatic 51, 3) := by decide +kernel
theorem dX8_fire_30 : decode cX8_fire 30 = .ok (.ifCond .ne 7, 3) := by decide +kernel
theorem dX8_fire_33 : decode cX8_fire 33 = .ok (.iconst 1, 1) := by decide +kernel
theorem dX8_fire_34 : decode cX8_fire 34 = .ok (.goto 4, 3) := by decide +kernel
theorem dX8_fire_37 : decode cX8_fire 37 = .ok (.iconst 0, 1) := by decide +kernel
theorem dX8_fire_38 : decode cX8_fire 38 = .ok (.iconst 2, 1) := by decide +kernel
theorem dX8_fire_39 : decode cX8_fire 39 = .ok (.invokevirtual 43, 3) := by decide +kernel
theorem dX8_fire_42 : decode cX8_fire 42 = .ok (.ifCond .ne 25, 3) := by decide +kernel
theorem dX8_fire_45 : decode cX8_fire 45 = .ok (.aload_n 0, 1) := by decide +kernel
theorem dX8_fire_46 : decode cX8_fire 46 = .ok (.aload_n 0, 1) := by decide +kernel
theorem dX8_fire_47 : decode cX8_fire 47 = .ok (.iload_n 1, 1) := by decide +kernel
theorem dX8_fire_48 : decode cX8_fire 48 = .ok (.iconst 1, 1) := by decide +kernel
theorem dX8_fire_49 : decode cX8_fire 49 = .ok (.invokevirtual 155, 3) := by decide +kernel
theorem dX8_fire_52 : decode cX8_fire 52 = .ok (.ifCond .ne 7, 3) := by decide +kernel
theorem dX8_fire_55 : decode cX8_fire 55 = .ok (.iconst 1, 1) := by decide +kernel
theorem dX8_fire_56 : decode cX8_fire 56 = .ok (.goto 4, 3) := by decide +kernel
theorem dX8_fire_59 : decode cX8_fire 59 = .ok (.iconst 0, 1) := by decide +kernel
theorem dX8_fire_60 : decode cX8_fire 60 = .ok (.iconst 3, 1) := by decide +kernel
theorem dX8_fire_61 : decode cX8_fire 61 = .ok (.invokevirtual 43, 3) := by decide +kernel
theorem dX8_fire_64 : decode cX8_fire 64 = .ok (.ifCond .eq 5, 3) := by decide +kernel
theorem dX8_fire_67 : decode cX8_fire 67 = .ok (.iconst 0, 1) := by decide +kernel
theorem dX8_fire_68 : decode cX8_fire 68 = .ok (.ireturn, 1) := by decide +kernel
theorem dX8_fire_69 : decode cX8_fire 69 = .ok (.aload_n 0, 1) := by decide +kernel
theorem dX8_fire_70 : decode cX8_fire 70 = .ok (.getfield 25, 3) := by decide +kernel
theorem dX8_fire_73 : decode cX8_fire 73 = .ok (.iload_n 1, 1) := by decide +kernel
theorem dX8_fire_74 : decode cX8_fire 74 = .ok (.invokevirtual 55, 3) := by decide +kernel
theorem dX8_fire_77 : decode cX8_fire 77 = .ok (.checkcast 59, 3) := by decide +kernel
theorem dX8_fire_80 : decode cX8_fire 80 = .ok (.astore 4, 2) := by decide +kernel
theorem dX8_fire_82 : decode cX8_fire 82 = .ok (.iconst 0, 1) := by decide +kernel
theorem dX8_fire_83 : decode cX8_fire 83 = .ok (.istore 5, 2) := by decide +kernel
theorem dX8_fire_85 : decode cX8_fire 85 = .ok (.iload 5, 2) := by decide +kernel
theorem dX8_fire_87 : decode cX8_fire 87 = .ok (.iload_n 3, 1) := by decide +kernel
theorem dX8_fire_88 : decode cX8_fire 88 = .ok (.if_icmp .ge 15, 3) := by decide +kernel
theorem dX8_fire_91 : decode cX8_fire 91 = .ok (.aload 4, 2) := by decide +kernel
theorem dX8_fire_93 : decode cX8_fire 93 = .ok (.iload_n 2, 1) := by decide +kernel
theorem dX8_fire_94 : decode cX8_fire 94 = .ok (.invokevirtual 168, 3) := by decide +kernel
theorem dX8_fire_97 : decode cX8_fire 97 = .ok (.iinc 5 1, 3) := by decide +kernel
theorem dX8_fire_100 : decode cX8_fire 100 = .ok (.goto (-15), 3) := by decide +kernel
theorem dX8_fire_103 : decode cX8_fire 103 = .ok (.aload 4, 2) := by decide +kernel
theorem dX8_fire_105 : decode cX8_fire 105 = .ok (.invokevirtual 171, 3) := by decide +kernel
theorem dX8_fire_108 : decode cX8_fire 108 = .ok (.aload 4, 2) := by decide +kernel
theorem dX8_fire_110 : decode cX8_fire 110 = .ok (.getfield 130, 3) := by decide +kernel
theorem dX8_fire_113 : decode cX8_fire 113 = .ok (.ireturn, 1) := by decide +kernel
theorem dX8_sort_0 : decode cX8_sort 0 = .ok (.aload_n 0, 1) := by decide +kernel
theorem dX8_sort_1 : decode cX8_sort 1 = .ok (.aload_n 0, 1) := by decide +kernel
theorem dX8_sort_2 : decode cX8_sort 2 = .ok (.iload_n 1, 1) := by decide +kernel
theorem dX8_sort_3 : decode cX8_sort 3 = .ok (.invokevirtual 143, 3) := by decide +kernel
theorem dX8_sort_6 : decode cX8_sort 6 = .ok (.iconst 1, 1) := by decide +kernel
theorem dX8_sort_7 : decode cX8_sort 7 = .ok (.invokevirtual 64, 3) := by decide +kernel
theorem dX8_sort_10 : decode cX8_sort 10 = .ok (.ifCond .eq 5, 3) := by decide +kernel
theorem dX8_sort_13 : decode cX8_sort 13 = .ok (.iconst 0, 1) := by decide +kernel
theorem dX8_sort_14 : decode cX8_sort 14 = .ok (.ireturn, 1) := by decide +kernel
theorem dX8_sort_15 : decode cX8_sort 15 = .ok (.aload_n 0, 1) := by decide +kernel
theorem dX8_sort_16 : decode cX8_sort 16 = .ok (.getfield 25, 3) := by decide +kernel
theorem dX8_sort_19 : decode cX8_sort 19 = .ok (.iload_n 1, 1) := by decide +kernel
theorem dX8_sort_20 : decode cX8_sort 20 = .ok (.invokevirtual 55, 3) := by decide +kernel
theorem dX8_sort_23 : decode cX8_sort 23 = .ok (.checkcast 59, 3) := by decide +kernel
theorem dX8_sort_26 : decode cX8_sort 26 = .ok (.astore_n 2, 1) := by decide +kernel
theorem dX8_sort_27 : decode cX8_sort 27 = .ok (.aload_n 0, 1) := by decide +kernel
theorem dX8_sort_28 : decode cX8_sort 28 = .ok (.aload_n 2, 1) := by decide +kernel
theorem dX8_sort_29 : decode cX8_sort 29 = .ok (.getfield 61, 3) := by decide +kernel
theorem dX8_sort_32 : decode cX8_sort 32 = .ok (.iconst 2, 1) := by decide +kernel
theorem dX8_sort_33 : decode cX8_sort 33 = .ok (.if_icmp .ne 25, 3) := by decide +kernel
theorem dX8_sort_36 : decode cX8_sort 36 = .ok (.aload_n 2, 1) := by decide +kernel
theorem dX8_sort_37 : decode cX8_sort 37 = .ok (.getfield 174, 3) := by decide +kernel
theorem dX8_sort_40 : decode cX8_sort 40 = .ok (.iconst (-1), 1) := by decide +kernel
theorem dX8_sort_41 : decode cX8_sort 41 = .ok (.if_icmp .ne 17, 3) := by decide +kernel
theorem dX8_sort_44 : decode cX8_sort 44 = .ok (.aload_n 2, 1) := by decide +kernel
theorem dX8_sort_45 : decode cX8_sort 45 = .ok (.getfield 177, 3) := by decide +kernel
theorem dX8_sort_48 : decode cX8_sort 48 = .ok (.ifnonnull 10, 3) := by decide +kernel
theorem dX8_sort_51 : decode cX8_sort 51 = .ok (.aload_n 2, 1) := by decide +kernel
theorem dX8_sort_52 : decode cX8_sort 52 = .ok (.invokevirtual 180, 3) := by decide +kernel
theorem dX8_sort_55 : decode cX8_sort 55 = .ok (.ifCond .eq 7, 3) := by decide +kernel
theorem dX8_sort_58 : decode cX8_sort 58 = .ok (.iconst 1, 1) := by decide +kernel
theorem dX8_sort_59 : decode cX8_sort 59 = .ok (.goto 4, 3) := by decide +kernel
theorem dX8_sort_62 : decode cX8_sort 62 = .ok (.iconst 0, 1) := by decide +kernel
theorem dX8_sort_63 : decode cX8_sort 63 = .ok (.iconst 2, 1) := by decide +kernel
theorem dX8_sort_64 : decode cX8_sort 64 = .ok (.invokevirtual 43, 3) := by decide +kernel
theorem dX8_sort_67 : decode cX8_sort 67 = .ok (.ifCond .eq 5, 3) := by decide +kernel
theorem dX8_sort_70 : decode cX8_sort 70 = .ok (.iconst 0, 1) := by decide +kernel
theorem dX8_sort_71 : decode cX8_sort 71 = .ok (.ireturn, 1) := by decide +kernel
theorem dX8_sort_72 : decode cX8_sort 72 = .ok (.aload_n 2, 1) := by decide +kernel
theorem dX8_sort_73 : decode cX8_sort 73 = .ok (.invokestatic 183, 3) := by decide +kernel
theorem dX8_sort_76 : decode cX8_sort 76 = .ok (.astore_n 3, 1) := by decide +kernel
theorem dX8_sort_77 : decode cX8_sort 77 = .ok (.aload_n 0, 1) := by decide +kernel
theorem dX8_sort_78 : decode cX8_sort 78 = .ok (.aload_n 0, 1) := by decide +kernel
theorem dX8_sort_79 : decode cX8_sort 79 = .ok (.getfield 25, 3) := by decide +kernel
theorem dX8_sort_82 : decode cX8_sort 82 = .ok (.invokevirtual 47, 3) := by decide +kernel
theorem dX8_sort_85 : decode cX8_sort 85 = .ok (.aload_n 3, 1) := by decide +kernel
theorem dX8_sort_86 : decode cX8_sort 86 = .ok (.invokevirtual 47, 3) := by decide +kernel
theorem dX8_sort_89 : decode cX8_sort 89 = .ok (.iadd, 1) := by decide +kernel
theorem dX8_sort_90 : decode cX8_sort 90 = .ok (.bipush 16, 2) := by decide +kernel
theorem dX8_sort_92 : decode cX8_sort 92 = .ok (.if_icmp .le 7, 3) := by decide +kernel
theorem dX8_sort_95 : decode cX8_sort 95 = .ok (.iconst 1, 1) := by decide +kernel
theorem dX8_sort_96 : decode cX8_sort 96 = .ok (.goto 4, 3) := by decide +kernel
theorem dX8_sort_99 : decode cX8_sort 99 = .ok (.iconst 0, 1) := by decide +kernel
theorem dX8_sort_100 : decode cX8_sort 100 = .ok (.iconst 2, 1) := by decide +kernel
theorem dX8_sort_101 : decode cX8_sort 101 = .ok (.invokevirtual 43, 3) := by decide +kernel
theorem dX8_sort_104 : decode cX8_sort 104 = .ok (.ifCond .eq 5, 3) := by decide +kernel
theorem dX8_sort_107 : decode cX8_sort 107 = .ok (.iconst 0, 1) := by decide +kernel
theorem dX8_sort_108 : decode cX8_sort 108 = .ok (.ireturn, 1) := by decide +kernel
theorem dX8_sort_109 : decode cX8_sort 109 = .ok (.aload_n 2, 1) := by decide +kernel
theorem dX8_sort_110 : decode cX8_sort 110 = .ok (.invokevirtual 152, 3) := by decide +kernel
theorem dX8_sort_113 : decode cX8_sort 113 = .ok (.aload_n 0, 1) := by decide +kernel
theorem dX8_sort_114 : decode cX8_sort 114 = .ok (.getfield 25, 3) := by decide +kernel
theorem dX8_sort_117 : decode cX8_sort 117 = .ok (.aload_n 3, 1) := by decide +kernel
theorem dX8_sort_118 : decode cX8_sort 118 = .ok (.invokevirtual 187, 3) := by decide +kernel
theorem dX8_sort_121 : decode cX8_sort 121 = .ok (.pop, 1) := by decide +kernel
theorem dX8_sort_122 : decode cX8_sort 122 = .ok (.aload_n 3, 1) := by decide +kernel
theorem dX8_sort_123 : decode cX8_sort 123 = .ok (.invokevirtual 47, 3) := by decide +kernel
theorem dX8_sort_126 : decode cX8_sort 126 = .ok (.ireturn, 1) := by decide +kernel
theorem dX8_part_0 : decode cX8_part 0 = .ok (.iload_n 0, 1) := by decide +kernel
theorem dX8_part_1 : decode cX8_part 1 = .ok (.iload_n 2, 1) := by decide +kernel
theorem dX8_part_2 : decode cX8_part 2 = .ok (.imul, 1) := by decide +kernel
theorem dX8_part_3 : decode cX8_part 3 = .ok (.bipush 40, 2) := by decide +kernel
theorem dX8_part_5 : decode cX8_part 5 = .ok (.idiv, 1) := by decide +kernel
theorem dX8_part_6 : decode cX8_part 6 = .ok (.istore_n 3, 1) := by decide +kernel
theorem dX8_part_7 : decode cX8_part 7 = .ok (.iload_n 0, 1) := by decide +kernel
theorem dX8_part_8 : decode cX8_part 8 = .ok (.iload_n 2, 1) := by decide +kernel
theorem dX8_part_9 : decode cX8_part 9 = .ok (.imul, 1) := by decide +kernel
theorem dX8_part_10 : decode cX8_part 10 = .ok (.bipush 20, 2) := by decide +kernel
theorem dX8_part_12 : decode cX8_part 12 = .ok (.idiv, 1) := by decide +kernel
theorem dX8_part_13 : decode cX8_part 13 = .ok (.istore 4, 2) := by decide +kernel
theorem dX8_part_15 : decode cX8_part 15 = .ok (.iload_n 1, 1) := by decide +kernel
theorem dX8_part_16 : decode cX8_part 16 = .ok (.iconst 2, 1) := by decide +kernel
theorem dX8_part_17 : decode cX8_part 17 = .ok (.if_icmp .ne 7, 3) := by decide +kernel
theorem dX8_part_20 : decode cX8_part 20 = .ok (.iload_n 3, 1) := by decide +kernel
theorem dX8_part_21 : decode cX8_part 21 = .ok (.goto 19, 3) := by decide +kernel
theorem dX8_part_24 : decode cX8_part 24 = .ok (.iload_n 1, 1) := by decide +kernel
theorem dX8_part_25 : decode cX8_part 25 = .ok (.iconst 1, 1) := by decide +kernel
theorem dX8_part_26 : decode cX8_part 26 = .ok (.if_icmp .ne 8, 3) := by decide +kernel
theorem dX8_part_29 : decode cX8_part 29 = .ok (.iload 4, 2) := by decide +kernel
theorem dX8_part_31 : decode cX8_part 31 = .ok (.goto 9, 3) := by decide +kernel
theorem dX8_part_34 : decode cX8_part 34 = .ok (.iload_n 0, 1) := by decide +kernel
theorem dX8_part_35 : decode cX8_part 35 = .ok (.iload_n 3, 1) := by decide +kernel
theorem dX8_part_36 : decode cX8_part 36 = .ok (.isub, 1) := by decide +kernel
theorem dX8_part_37 : decode cX8_part 37 = .ok (.iload 4, 2) := by decide +kernel
theorem dX8_part_39 : decode cX8_part 39 = .ok (.isub, 1) := by decide +kernel
theorem dX8_part_40 : decode cX8_part 40 = .ok (.ireturn, 1) := by decide +kernel
theorem dX8_graded_0 : decode cX8_graded 0 = .ok (.bipush 10, 2) := by decide +kernel
theorem dX8_graded_2 : decode cX8_graded 2 = .ok (.aload_n 0, 1) := by decide +kernel
theorem dX8_graded_3 : decode cX8_graded 3 = .ok (.getfield 162, 3) := by decide +kernel
theorem dX8_graded_6 : decode cX8_graded 6 = .ok (.invokestatic 3, 3) := by decide +kernel
theorem dX8_graded_9 : decode cX8_graded 9 = .ok (.istore_n 1, 1) := by decide +kernel
theorem dX8_graded_10 : decode cX8_graded 10 = .ok (.new 18, 3) := by decide +kernel
theorem dX8_graded_13 : decode cX8_graded 13 = .ok (.dup, 1) := by decide +kernel
theorem dX8_graded_14 : decode cX8_graded 14 = .ok (.invokespecial 20, 3) := by decide +kernel
theorem dX8_graded_17 : decode cX8_graded 17 = .ok (.astore_n 2, 1) := by decide +kernel
theorem dX8_graded_18 : decode cX8_graded 18 = .ok (.iconst 0, 1) := by decide +kernel
theorem dX8_graded_19 : decode cX8_graded 19 = .ok (.istore_n 3, 1) := by decide +kernel
theorem dX8_graded_20 : decode cX8_graded 20 = .ok (.iload_n 3, 1) := by decide +kernel
theorem dX8_graded_21 : decode cX8_graded 21 = .ok (.iconst 3, 1) := by decide +kernel
theorem dX8_graded_22 : decode cX8_graded 22 = .ok (.if_icmp .ge 99, 3) := by decide +kernel
theorem dX8_graded_25 : decode cX8_graded 25 = .ok (.aload_n 0, 1) := by decide +kernel
theorem dX8_graded_26 : decode cX8_graded 26 = .ok (.invokevirtual 191, 3) := by decide +kernel
theorem dX8_graded_29 : decode cX8_graded 29 = .ok (.astore 4, 2) := by decide +kernel
theorem dX8_graded_31 : decode cX8_graded 31 = .ok (.iconst 0, 1) := by decide +kernel
theorem dX8_graded_32 : decode cX8_graded 32 = .ok (.istore 5, 2) := by decide +kernel
theorem dX8_graded_34 : decode cX8_graded 34 = .ok (.iload 5, 2) := by decide +kernel
theorem dX8_graded_36 : decode cX8_graded 36 = .ok (.iconst 4, 1) := by decide +kernel
theorem dX8_graded_37 : decode cX8_graded 37 = .ok (.if_icmp .ge 29, 3) := by decide +kernel
theorem dX8_graded_40 : decode cX8_graded 40 = .ok (.aload 4, 2) := by decide +kernel
theorem dX8_graded_42 : decode cX8_graded 42 = .ok (.getfield 121, 3) := by decide +kernel
theorem dX8_graded_45 : decode cX8_graded 45 = .ok (.iload 5, 2) := by decide +kernel
theorem dX8_graded_47 : decode cX8_graded 47 = .ok (.aload_n 0, 1) := by decide +kernel
theorem dX8_graded_48 : decode cX8_graded 48 = .ok (.getfield 121, 3) := by decide +kernel
theorem dX8_graded_51 : decode cX8_graded 51 = .ok (.iload 5, 2) := by decide +kernel
theorem dX8_graded_53 : decode cX8_graded 53 = .ok (.iaload, 1) := by decide +kernel
theorem dX8_graded_54 : decode cX8_graded 54 = .ok (.iload_n 3, 1) := by decide +kernel
theorem dX8_graded_55 : decode cX8_graded 55 = .ok (.iload_n 1, 1) := by decide +kernel
theorem dX8_graded_56 : decode cX8_graded 56 = .ok (.invokestatic 195, 3) := by decide +kernel
theorem dX8_graded_59 : decode cX8_graded 59 = .ok (.iastore, 1) := by decide +kernel
theorem dX8_graded_60 : decode cX8_graded 60 = .ok (.iinc 5 1, 3) := by decide +kernel
theorem dX8_graded_63 : decode cX8_graded 63 = .ok (.goto (-29), 3) := by decide +kernel
theorem dX8_graded_66 : decode cX8_graded 66 = .ok (.aload 4, 2) := by decide +kernel
theorem dX8_graded_68 : decode cX8_graded 68 = .ok (.aload 4, 2) := by decide +kernel
theorem dX8_graded_70 : decode cX8_graded 70 = .ok (.invokevirtual 127, 3) := by decide +kernel
theorem dX8_graded_73 : decode cX8_graded 73 = .ok (.aload_n 0, 1) := by decide +kernel
theorem dX8_graded_74 : decode cX8_graded 74 = .ok (.getfield 124, 3) := by decide +kernel
theorem dX8_graded_77 : decode cX8_graded 77 = .ok (.iload_n 3, 1) := by decide +kernel
theorem dX8_graded_78 : decode cX8_graded 78 = .ok (.iload_n 1, 1) := by decide +kernel
theorem dX8_graded_79 : decode cX8_graded 79 = .ok (.invokestatic 195, 3) := by decide +kernel
theorem dX8_graded_82 : decode cX8_graded 82 = .ok (.invokestatic 3, 3) := by decide +kernel
theorem dX8_graded_85 : decode cX8_graded 85 = .ok (.putfield 124, 3) := by decide +kernel
theorem dX8_graded_88 : decode cX8_graded 88 = .ok (.aload 4, 2) := by decide +kernel
theorem dX8_graded_90 : decode cX8_graded 90 = .ok (.iload_n 3, 1) := by decide +kernel
theorem dX8_graded_91 : decode cX8_graded 91 = .ok (.putfield 174, 3) := by decide +kernel
theorem dX8_graded_94 : decode cX8_graded 94 = .ok (.aload 4, 2) := by decide +kernel
theorem dX8_graded_96 : decode cX8_graded 96 = .ok (.iconst 0, 1) := by decide +kernel
theorem dX8_graded_97 : decode cX8_graded 97 = .ok (.putfield 130, 3) := by decide +kernel
theorem dX8_graded_100 : decode cX8_graded 100 = .ok (.aload 4, 2) := by decide +kernel
theorem dX8_graded_102 : decode cX8_graded 102 = .ok (.invokevirtual 127, 3) := by decide +kernel
theorem dX8_graded_105 : decode cX8_graded 105 = .ok (.ifCond .le 10, 3) := by decide +kernel
theorem dX8_graded_108 : decode cX8_graded 108 = .ok (.aload_n 2, 1) := by decide +kernel
theorem dX8_graded_109 : decode cX8_graded 109 = .ok (.aload 4, 2) := by decide +kernel
theorem dX8_graded_111 : decode cX8_graded 111 = .ok (.invokevirtual 72, 3) := by decide +kernel
theorem dX8_graded_114 : decode cX8_graded 114 = .ok (.pop, 1) := by decide +kernel
theorem dX8_graded_115 : decode cX8_graded 115 = .ok (.iinc 3 1, 3) := by decide +kernel
theorem dX8_graded_118 : decode cX8_graded 118 = .ok (.goto (-98), 3) := by decide +kernel
theorem dX8_graded_121 : decode cX8_graded 121 = .ok (.aload_n 2, 1) := by decide +kernel
theorem dX8_graded_122 : decode cX8_graded 122 = .ok (.areturn, 1) := by decide +kernel
theorem dX8_canMix_0 : decode cX8_canMix 0 = .ok (.aload_n 0, 1) := by decide +kernel
theorem dX8_canMix_1 : decode cX8_canMix 1 = .ok (.iload_n 1, 1) := by decide +kernel
theorem dX8_canMix_2 : decode cX8_canMix 2 = .ok (.iconst 2, 1) := by decide +kernel
theorem dX8_canMix_3 : decode cX8_canMix 3 = .ok (.invokevirtual 155, 3) := by decide +kernel
theorem dX8_canMix_6 : decode cX8_canMix 6 = .ok (.ifCond .eq 24, 3) := by decide +kernel
theorem dX8_canMix_9 : decode cX8_canMix 9 = .ok (.aload_n 0, 1) := by decide +kernel
theorem dX8_canMix_10 : decode cX8_canMix 10 = .ok (.getfield 25, 3) := by decide +kernel
theorem dX8_canMix_13 : decode cX8_canMix 13 = .ok (.iload_n 1, 1) := by decide +kernel
theorem dX8_canMix_14 : decode cX8_canMix 14 = .ok (.invokevirtual 55, 3) := by decide +kernel
theorem dX8_canMix_17 : decode cX8_canMix 17 = .ok (.checkcast 59, 3) := by decide +kernel
theorem dX8_canMix_20 : decode cX8_canMix 20 = .ok (.invokevirtual 180, 3) := by decide +kernel
theorem dX8_canMix_23 : decode cX8_canMix 23 = .ok (.ifCond .ne 7, 3) := by decide +kernel
theorem dX8_canMix_26 : decode cX8_canMix 26 = .ok (.iconst 1, 1) := by decide +kernel
theorem dX8_canMix_27 : decode cX8_canMix 27 = .ok (.goto 4, 3) := by decide +kernel
theorem dX8_canMix_30 : decode cX8_canMix 30 = .ok (.iconst 0, 1) := by decide +kernel
theorem dX8_canMix_31 : decode cX8_canMix 31 = .ok (.ireturn, 1) := by decide +kernel
theorem dX8_mix_0 : decode cX8_mix 0 = .ok (.aload_n 0, 1) := by decide +kernel
theorem dX8_mix_1 : decode cX8_mix 1 = .ok (.aload_n 0, 1) := by decide +kernel
theorem dX8_mix_2 : decode cX8_mix 2 = .ok (.iload_n 1, 1) := by decide +kernel
theorem dX8_mix_3 : decode cX8_mix 3 = .ok (.invokevirtual 143, 3) := by decide +kernel
theorem dX8_mix_6 : decode cX8_mix 6 = .ok (.ifCond .ne 11, 3) := by decide +kernel
theorem dX8_mix_9 : decode cX8_mix 9 = .ok (.aload_n 0, 1) := by decide +kernel
theorem dX8_mix_10 : decode cX8_mix 10 = .ok (.iload_n 3, 1) := by decide +kernel
theorem dX8_mix_11 : decode cX8_mix 11 = .ok (.invokevirtual 143, 3) := by decide +kernel
theorem dX8_mix_14 : decode cX8_mix 14 = .ok (.ifCond .eq 7, 3) := by decide +kernel
theorem dX8_mix_17 : decode cX8_mix 17 = .ok (.iconst 1, 1) := by decide +kernel
theorem dX8_mix_18 : decode cX8_mix 18 = .ok (.goto 4, 3) := by decide +kernel
theorem dX8_mix_21 : decode cX8_mix 21 = .ok (.iconst 0, 1) := by decide +kernel
theorem dX8_mix_22 : decode cX8_mix 22 = .ok (.iconst 1, 1) := by decide +kernel
theorem dX8_mix_23 : decode cX8_mix 23 = .ok (.invokevirtual 64, 3) := by decide +kernel
theorem dX8_mix_26 : decode cX8_mix 26 = .ok (.ifCond .ne 21, 3) := by decide +kernel
theorem dX8_mix_29 : decode cX8_mix 29 = .ok (.aload_n 0, 1) := by decide +kernel
theorem dX8_mix_30 : decode cX8_mix 30 = .ok (.iload_n 1, 1) := by decide +kernel
theorem dX8_mix_31 : decode cX8_mix 31 = .ok (.iload_n 3, 1) := by decide +kernel
theorem dX8_mix_32 : decode cX8_mix 32 = .ok (.if_icmp .ne 7, 3) := by decide +kernel
theorem dX8_mix_35 : decode cX8_mix 35 = .ok (.iconst 1, 1) := by decide +kernel
theorem dX8_mix_36 : decode cX8_mix 36 = .ok (.goto 4, 3) := by decide +kernel
theorem dX8_mix_39 : decode cX8_mix 39 = .ok (.iconst 0, 1) := by decide +kernel
theorem dX8_mix_40 : decode cX8_mix 40 = .ok (.iconst 2, 1) := by decide +kernel
theorem dX8_mix_41 : decode cX8_mix 41 = .ok (.invokevirtual 43, 3) := by decide +kernel
theorem dX8_mix_44 : decode cX8_mix 44 = .ok (.ifCond .eq 5, 3) := by decide +kernel
theorem dX8_mix_47 : decode cX8_mix 47 = .ok (.iconst 0, 1) := by decide +kernel
theorem dX8_mix_48 : decode cX8_mix 48 = .ok (.ireturn, 1) := by decide +kernel
theorem dX8_mix_49 : decode cX8_mix 49 = .ok (.aload_n 0, 1) := by decide +kernel
theorem dX8_mix_50 : decode cX8_mix 50 = .ok (.getfield 25, 3) := by decide +kernel
theorem dX8_mix_53 : decode cX8_mix 53 = .ok (.iload_n 1, 1) := by decide +kernel
theorem dX8_mix_54 : decode cX8_mix 54 = .ok (.invokevirtual 55, 3) := by decide +kernel
theorem dX8_mix_57 : decode cX8_mix 57 = .ok (.checkcast 59, 3) := by decide +kernel
theorem dX8_mix_60 : decode cX8_mix 60 = .ok (.astore 5, 2) := by decide +kernel
theorem dX8_mix_62 : decode cX8_mix 62 = .ok (.aload_n 0, 1) := by decide +kernel
theorem dX8_mix_63 : decode cX8_mix 63 = .ok (.getfield 25, 3) := by decide +kernel
theorem dX8_mix_66 : decode cX8_mix 66 = .ok (.iload_n 3, 1) := by decide +kernel
theorem dX8_mix_67 : decode cX8_mix 67 = .ok (.invokevirtual 55, 3) := by decide +kernel
theorem dX8_mix_70 : decode cX8_mix 70 = .ok (.checkcast 59, 3) := by decide +kernel
theorem dX8_mix_73 : decode cX8_mix 73 = .ok (.astore 6, 2) := by decide +kernel
theorem dX8_mix_75 : decode cX8_mix 75 = .ok (.aload_n 0, 1) := by decide +kernel
theorem dX8_mix_76 : decode cX8_mix 76 = .ok (.aload_n 0, 1) := by decide +kernel
theorem dX8_mix_77 : decode cX8_mix 77 = .ok (.iload_n 1, 1) := by decide +kernel
theorem dX8_mix_78 : decode cX8_mix 78 = .ok (.invokevirtual 199, 3) := by decide +kernel
theorem dX8_mix_81 : decode cX8_mix 81 = .ok (.ifCond .eq 50, 3) := by decide +kernel
theorem dX8_mix_84 : decode cX8_mix 84 = .ok (.aload_n 0, 1) := by decide +kernel
theorem dX8_mix_85 : decode cX8_mix 85 = .ok (.iload_n 3, 1) := by decide +kernel
theorem dX8_mix_86 : decode cX8_mix 86 = .ok (.invokevirtual 199, 3) := by decide +kernel
theorem dX8_mix_89 : decode cX8_mix 89 = .ok (.ifCond .eq 42, 3) := by decide +kernel
theorem dX8_mix_92 : decode cX8_mix 92 = .ok (.iload_n 2, 1) := by decide +kernel
theorem dX8_mix_93 : decode cX8_mix 93 = .ok (.iconst 1, 1) := by decide +kernel
theorem dX8_mix_94 : decode cX8_mix 94 = .ok (.aload 5, 2) := by decide +kernel
theorem dX8_mix_96 : decode cX8_mix 96 = .ok (.invokevirtual 127, 3) := by decide +kernel
theorem dX8_mix_99 : decode cX8_mix 99 = .ok (.invokestatic 51, 3) := by decide +kernel
theorem dX8_mix_102 : decode cX8_mix 102 = .ok (.ifCond .eq 29, 3) := by decide +kernel
theorem dX8_mix_105 : decode cX8_mix 105 = .ok (.iload 4, 2) := by decide +kernel
theorem dX8_mix_107 : decode cX8_mix 107 = .ok (.iconst 1, 1) := by decide +kernel
theorem dX8_mix_108 : decode cX8_mix 108 = .ok (.aload 6, 2) := by decide +kernel
theorem dX8_mix_110 : decode cX8_mix 110 = .ok (.invokevirtual 127, 3) := by decide +kernel
theorem dX8_mix_113 : decode cX8_mix 113 = .ok (.invokestatic 51, 3) := by decide +kernel
theorem dX8_mix_116 : decode cX8_mix 116 = .ok (.ifCond .eq 15, 3) := by decide +kernel
theorem dX8_mix_119 : decode cX8_mix 119 = .ok (.aload_n 0, 1) := by decide +kernel
theorem dX8_mix_120 : decode cX8_mix 120 = .ok (.getfield 25, 3) := by decide +kernel
theorem dX8_mix_123 : decode cX8_mix 123 = .ok (.invokevirtual 47, 3) := by decide +kernel
theorem dX8_mix_126 : decode cX8_mix 126 = .ok (.bipush 16, 2) := by decide +kernel
theorem dX8_mix_128 : decode cX8_mix 128 = .ok (.if_icmp .ne 7, 3) := by decide +kernel
theorem dX8_mix_131 : decode cX8_mix 131 = .ok (.iconst 1, 1) := by decide +kernel
theorem dX8_mix_132 : decode cX8_mix 132 = .ok (.goto 4, 3) := by decide +kernel
theorem dX8_mix_135 : decode cX8_mix 135 = .ok (.iconst 0, 1) := by decide +kernel
theorem dX8_mix_136 : decode cX8_mix 136 = .ok (.iconst 3, 1) := by decide +kernel
theorem dX8_mix_137 : decode cX8_mix 137 = .ok (.invokevirtual 43, 3) := by decide +kernel
theorem dX8_mix_140 : decode cX8_mix 140 = .ok (.ifCond .eq 5, 3) := by decide +kernel
theorem dX8_mix_143 : decode cX8_mix 143 = .ok (.iconst 0, 1) := by decide +kernel
theorem dX8_mix_144 : decode cX8_mix 144 = .ok (.ireturn, 1) := by decide +kernel
theorem dX8_mix_145 : decode cX8_mix 145 = .ok (.new 59, 3) := by decide +kernel
theorem dX8_mix_148 : decode cX8_mix 148 = .ok (.dup, 1) := by decide +kernel
theorem dX8_mix_149 : decode cX8_mix 149 = .ok (.invokespecial 117, 3) := by decide +kernel
theorem dX8_mix_152 : decode cX8_mix 152 = .ok (.astore 7, 2) := by decide +kernel
theorem dX8_mix_154 : decode cX8_mix 154 = .ok (.aload 7, 2) := by decide +kernel
theorem dX8_mix_156 : decode cX8_mix 156 = .ok (.iconst 2, 1) := by decide +kernel
theorem dX8_mix_157 : decode cX8_mix 157 = .ok (.putfield 61, 3) := by decide +kernel
theorem dX8_mix_160 : decode cX8_mix 160 = .ok (.aload 7, 2) := by decide +kernel
theorem dX8_mix_162 : decode cX8_mix 162 = .ok (.aload 5, 2) := by decide +kernel
theorem dX8_mix_164 : decode cX8_mix 164 = .ok (.getfield 133, 3) := by decide +kernel
theorem dX8_mix_167 : decode cX8_mix 167 = .ok (.ifCond .ne 11, 3) := by decide +kernel
theorem dX8_mix_170 : decode cX8_mix 170 = .ok (.aload 6, 2) := by decide +kernel
theorem dX8_mix_172 : decode cX8_mix 172 = .ok (.getfield 133, 3) := by decide +kernel
theorem dX8_mix_175 : decode cX8_mix 175 = .ok (.ifCond .eq 7, 3) := by decide +kernel
theorem dX8_mix_178 : decode cX8_mix 178 = .ok (.iconst 1, 1) := by decide +kernel
theorem dX8_mix_179 : decode cX8_mix 179 = .ok (.goto 4, 3) := by decide +kernel
theorem dX8_mix_182 : decode cX8_mix 182 = .ok (.iconst 0, 1) := by decide +kernel
theorem dX8_mix_183 : decode cX8_mix 183 = .ok (.putfield 133, 3) := by decide +kernel
theorem dX8_mix_186 : decode cX8_mix 186 = .ok (.aload 7, 2) := by decide +kernel
theorem dX8_mix_188 : decode cX8_mix 188 = .ok (.iconst 3, 1) := by decide +kernel
theorem dX8_mix_189 : decode cX8_mix 189 = .ok (.newarray .int, 2) := by decide +kernel
theorem dX8_mix_191 : decode cX8_mix 191 = .ok (.putfield 177, 3) := by decide +kernel
theorem dX8_mix_194 : decode cX8_mix 194 = .ok (.iconst 0, 1) := by decide +kernel
theorem dX8_mix_195 : decode cX8_mix 195 = .ok (.istore 8, 2) := by decide +kernel
theorem dX8_mix_197 : decode cX8_mix 197 = .ok (.iload 8, 2) := by decide +kernel
theorem dX8_mix_199 : decode cX8_mix 199 = .ok (.iconst 3, 1) := by decide +kernel
theorem dX8_mix_200 : decode cX8_mix 200 = .ok (.if_icmp .ge 42, 3) := by decide +kernel
theorem dX8_mix_203 : decode cX8_mix 203 = .ok (.aload 7, 2) := by decide +kernel
theorem dX8_mix_205 : decode cX8_mix 205 = .ok (.getfield 177, 3) := by decide +kernel
theorem dX8_mix_208 : decode cX8_mix 208 = .ok (.iload 8, 2) := by decide +kernel
theorem dX8_mix_210 : decode cX8_mix 210 = .ok (.aload 5, 2) := by decide +kernel
theorem dX8_mix_212 : decode cX8_mix 212 = .ok (.iload 8, 2) := by decide +kernel
theorem dX8_mix_214 : decode cX8_mix 214 = .ok (.invokevirtual 202, 3) := by decide +kernel
theorem dX8_mix_217 : decode cX8_mix 217 = .ok (.iload_n 2, 1) := by decide +kernel
theorem dX8_mix_218 : decode cX8_mix 218 = .ok (.imul, 1) := by decide +kernel
theorem dX8_mix_219 : decode cX8_mix 219 = .ok (.aload 6, 2) := by decide +kernel
theorem dX8_mix_221 : decode cX8_mix 221 = .ok (.iload 8, 2) := by decide +kernel
theorem dX8_mix_223 : decode cX8_mix 223 = .ok (.invokevirtual 202, 3) := by decide +kernel
theorem dX8_mix_226 : decode cX8_mix 226 = .ok (.iload 4, 2) := by decide +kernel
theorem dX8_mix_228 : decode cX8_mix 228 = .ok (.imul, 1) := by decide +kernel
theorem dX8_mix_229 : decode cX8_mix 229 = .ok (.iadd, 1) := by decide +kernel
theorem dX8_mix_230 : decode cX8_mix 230 = .ok (.iload_n 2, 1) := by decide +kernel
theorem dX8_mix_231 : decode cX8_mix 231 = .ok (.iload 4, 2) := by decide +kernel
theorem dX8_mix_233 : decode cX8_mix 233 = .ok (.iadd, 1) := by decide +kernel
theorem dX8_mix_234 : decode cX8_mix 234 = .ok (.idiv, 1) := by decide +kernel
theorem dX8_mix_235 : decode cX8_mix 235 = .ok (.iastore, 1) := by decide +kernel
theorem dX8_mix_236 : decode cX8_mix 236 = .ok (.iinc 8 1, 3) := by decide +kernel
theorem dX8_mix_239 : decode cX8_mix 239 = .ok (.goto (-42), 3) := by decide +kernel
theorem dX8_mix_242 : decode cX8_mix 242 = .ok (.aload 5, 2) := by decide +kernel
theorem dX8_mix_244 : decode cX8_mix 244 = .ok (.iload_n 2, 1) := by decide +kernel
theorem dX8_mix_245 : decode cX8_mix 245 = .ok (.aload 7, 2) := by decide +kernel
theorem dX8_mix_247 : decode cX8_mix 247 = .ok (.invokestatic 205, 3) := by decide +kernel
theorem dX8_mix_250 : decode cX8_mix 250 = .ok (.aload 6, 2) := by decide +kernel
theorem dX8_mix_252 : decode cX8_mix 252 = .ok (.iload 4, 2) := by decide +kernel
theorem dX8_mix_254 : decode cX8_mix 254 = .ok (.aload 7, 2) := by decide +kernel
theorem dX8_mix_256 : decode cX8_mix 256 = .ok (.invokestatic 205, 3) := by decide +kernel
theorem dX8_mix_259 : decode cX8_mix 259 = .ok (.aload_n 0, 1) := by decide +kernel
theorem dX8_mix_260 : decode cX8_mix 260 = .ok (.getfield 25, 3) := by decide +kernel
theorem dX8_mix_263 : decode cX8_mix 263 = .ok (.aload 7, 2) := by decide +kernel
theorem dX8_mix_265 : decode cX8_mix 265 = .ok (.invokevirtual 72, 3) := by decide +kernel
theorem dX8_mix_268 : decode cX8_mix 268 = .ok (.pop, 1) := by decide +kernel
theorem dX8_mix_269 : decode cX8_mix 269 = .ok (.aload_n 0, 1) := by decide +kernel
theorem dX8_mix_270 : decode cX8_mix 270 = .ok (.getfield 25, 3) := by decide +kernel
theorem dX8_mix_273 : decode cX8_mix 273 = .ok (.invokevirtual 47, 3) := by decide +kernel
theorem dX8_mix_276 : decode cX8_mix 276 = .ok (.iconst 1, 1) := by decide +kernel
theorem dX8_mix_277 : decode cX8_mix 277 = .ok (.isub, 1) := by decide +kernel
theorem dX8_mix_278 : decode cX8_mix 278 = .ok (.ireturn, 1) := by decide +kernel
theorem dX8_take_0 : decode cX8_take 0 = .ok (.iload_n 1, 1) := by decide +kernel
theorem dX8_take_1 : decode cX8_take 1 = .ok (.istore_n 3, 1) := by decide +kernel
theorem dX8_take_2 : decode cX8_take 2 = .ok (.iconst 0, 1) := by decide +kernel
theorem dX8_take_3 : decode cX8_take 3 = .ok (.istore 4, 2) := by decide +kernel
theorem dX8_take_5 : decode cX8_take 5 = .ok (.iload 4, 2) := by decide +kernel
theorem dX8_take_7 : decode cX8_take 7 = .ok (.iconst 4, 1) := by decide +kernel
theorem dX8_take_8 : decode cX8_take 8 = .ok (.if_icmp .ge 51, 3) := by decide +kernel
theorem dX8_take_11 : decode cX8_take 11 = .ok (.iload_n 3, 1) := by decide +kernel
theorem dX8_take_12 : decode cX8_take 12 = .ok (.aload_n 0, 1) := by decide +kernel
theorem dX8_take_13 : decode cX8_take 13 = .ok (.getfield 121, 3) := by decide +kernel
theorem dX8_take_16 : decode cX8_take 16 = .ok (.iload 4, 2) := by decide +kernel
theorem dX8_take_18 : decode cX8_take 18 = .ok (.iaload, 1) := by decide +kernel
theorem dX8_take_19 : decode cX8_take 19 = .ok (.invokestatic 3, 3) := by decide +kernel
theorem dX8_take_22 : decode cX8_take 22 = .ok (.istore 5, 2) := by decide +kernel
theorem dX8_take_24 : decode cX8_take 24 = .ok (.aload_n 0, 1) := by decide +kernel
theorem dX8_take_25 : decode cX8_take 25 = .ok (.getfield 121, 3) := by decide +kernel
theorem dX8_take_28 : decode cX8_take 28 = .ok (.iload 4, 2) := by decide +kernel
theorem dX8_take_30 : decode cX8_take 30 = .ok (.dup2, 1) := by decide +kernel
theorem dX8_take_31 : decode cX8_take 31 = .ok (.iaload, 1) := by decide +kernel
theorem dX8_take_32 : decode cX8_take 32 = .ok (.iload 5, 2) := by decide +kernel
theorem dX8_take_34 : decode cX8_take 34 = .ok (.isub, 1) := by decide +kernel
theorem dX8_take_35 : decode cX8_take 35 = .ok (.iastore, 1) := by decide +kernel
theorem dX8_take_36 : decode cX8_take 36 = .ok (.aload_n 2, 1) := by decide +kernel
theorem dX8_take_37 : decode cX8_take 37 = .ok (.getfield 121, 3) := by decide +kernel
theorem dX8_take_40 : decode cX8_take 40 = .ok (.iload 4, 2) := by decide +kernel
theorem dX8_take_42 : decode cX8_take 42 = .ok (.dup2, 1) := by decide +kernel
theorem dX8_take_43 : decode cX8_take 43 = .ok (.iaload, 1) := by decide +kernel
theorem dX8_take_44 : decode cX8_take 44 = .ok (.iload 5, 2) := by decide +kernel
theorem dX8_take_46 : decode cX8_take 46 = .ok (.iadd, 1) := by decide +kernel
theorem dX8_take_47 : decode cX8_take 47 = .ok (.iastore, 1) := by decide +kernel
theorem dX8_take_48 : decode cX8_take 48 = .ok (.iload_n 3, 1) := by decide +kernel
theorem dX8_take_49 : decode cX8_take 49 = .ok (.iload 5, 2) := by decide +kernel
theorem dX8_take_51 : decode cX8_take 51 = .ok (.isub, 1) := by decide +kernel
theorem dX8_take_52 : decode cX8_take 52 = .ok (.istore_n 3, 1) := by decide +kernel
theorem dX8_take_53 : decode cX8_take 53 = .ok (.iinc 4 1, 3) := by decide +kernel
theorem dX8_take_56 : decode cX8_take 56 = .ok (.goto (-51), 3) := by decide +kernel
theorem dX8_take_59 : decode cX8_take 59 = .ok (.aload_n 0, 1) := by decide +kernel
theorem dX8_take_60 : decode cX8_take 60 = .ok (.aload_n 0, 1) := by decide +kernel
theorem dX8_take_61 : decode cX8_take 61 = .ok (.getfield 124, 3) := by decide +kernel
theorem dX8_take_64 : decode cX8_take 64 = .ok (.aload_n 0, 1) := by decide +kernel
theorem dX8_take_65 : decode cX8_take 65 = .ok (.invokevirtual 127, 3) := by decide +kernel
theorem dX8_take_68 : decode cX8_take 68 = .ok (.invokestatic 3, 3) := by decide +kernel
theorem dX8_take_71 : decode cX8_take 71 = .ok (.putfield 124, 3) := by decide +kernel
theorem dX8_take_74 : decode cX8_take 74 = .ok (.aload_n 0, 1) := by decide +kernel
theorem dX8_take_75 : decode cX8_take 75 = .ok (.invokevirtual 127, 3) := by decide +kernel
theorem dX8_take_78 : decode cX8_take 78 = .ok (.ifCond .ne 7, 3) := by decide +kernel
theorem dX8_take_81 : decode cX8_take 81 = .ok (.aload_n 0, 1) := by decide +kernel
theorem dX8_take_82 : decode cX8_take 82 = .ok (.invokevirtual 152, 3) := by decide +kernel
theorem dX8_take_85 : decode cX8_take 85 = .ok (.return_, 1) := by decide +kernel
theorem dX8_isNoTaster_0 : decode cX8_isNoTaster 0 = .ok (.iload_n 0, 1) := by decide +kernel
theorem dX8_isNoTaster_1 : decode cX8_isNoTaster 1 = .ok (.iconst 0, 1) := by decide +kernel
theorem dX8_isNoTaster_2 : decode cX8_isNoTaster 2 = .ok (.iconst 2, 1) := by decide +kernel
theorem dX8_isNoTaster_3 : decode cX8_isNoTaster 3 = .ok (.invokestatic 51, 3) := by decide +kernel
theorem dX8_isNoTaster_6 : decode cX8_isNoTaster 6 = .ok (.ifCond .ne 7, 3) := by decide +kernel
theorem dX8_isNoTaster_9 : decode cX8_isNoTaster 9 = .ok (.iconst 1, 1) := by decide +kernel
theorem dX8_isNoTaster_10 : decode cX8_isNoTaster 10 = .ok (.goto 4, 3) := by decide +kernel
theorem dX8_isNoTaster_13 : decode cX8_isNoTaster 13 = .ok (.iconst 0, 1) := by decide +kernel
theorem dX8_isNoTaster_14 : decode cX8_isNoTaster 14 = .ok (.ireturn, 1) := by decide +kernel
theorem dX8_isNoBuyer_0 : decode cX8_isNoBuyer 0 = .ok (.iload_n 0, 1) := by decide +kernel
theorem dX8_isNoBuyer_1 : decode cX8_isNoBuyer 1 = .ok (.iconst 0, 1) := by decide +kernel
theorem dX8_isNoBuyer_2 : decode cX8_isNoBuyer 2 = .ok (.iconst 3, 1) := by decide +kernel
theorem dX8_isNoBuyer_3 : decode cX8_isNoBuyer 3 = .ok (.invokestatic 51, 3) := by decide +kernel
theorem dX8_isNoBuyer_6 : decode cX8_isNoBuyer 6 = .ok (.ifCond .ne 7, 3) := by decide +kernel
theorem dX8_isNoBuyer_9 : decode cX8_isNoBuyer 9 = .ok (.iconst 1, 1) := by decide +kernel
theorem dX8_isNoBuyer_10 : decode cX8_isNoBuyer 10 = .ok (.goto 4, 3) := by decide +kernel
theorem dX8_isNoBuyer_13 : decode cX8_isNoBuyer 13 = .ok (.iconst 0, 1) := by decide +kernel
theorem dX8_isNoBuyer_14 : decode cX8_isNoBuyer 14 = .ok (.ireturn, 1) := by decide +kernel
theorem dX8_lean_0 : decode cX8_lean 0 = .ok (.aload_n 0, 1) := by decide +kernel
theorem dX8_lean_1 : decode cX8_lean 1 = .ok (.iload_n 1, 1) := by decide +kernel
theorem dX8_lean_2 : decode cX8_lean 2 = .ok (.invokestatic 209, 3) := by decide +kernel
theorem dX8_lean_5 : decode cX8_lean 5 = .ok (.iconst 1, 1) := by decide +kernel
theorem dX8_lean_6 : decode cX8_lean 6 = .ok (.invokevirtual 64, 3) := by decide +kernel
theorem dX8_lean_9 : decode cX8_lean 9 = .ok (.ifCond .ne 26, 3) := by decide +kernel
theorem dX8_lean_12 : decode cX8_lean 12 = .ok (.aload_n 0, 1) := by decide +kernel
theorem dX8_lean_13 : decode cX8_lean 13 = .ok (.iload_n 2, 1) := by decide +kernel
theorem dX8_lean_14 : decode cX8_lean 14 = .ok (.bipush (-2), 2) := by decide +kernel
theorem dX8_lean_16 : decode cX8_lean 16 = .ok (.iconst 2, 1) := by decide +kernel
theorem dX8_lean_17 : decode cX8_lean 17 = .ok (.invokestatic 51, 3) := by decide +kernel
theorem dX8_lean_20 : decode cX8_lean 20 = .ok (.ifCond .ne 7, 3) := by decide +kernel
theorem dX8_lean_23 : decode cX8_lean 23 = .ok (.iconst 1, 1) := by decide +kernel
theorem dX8_lean_24 : decode cX8_lean 24 = .ok (.goto 4, 3) := by decide +kernel
theorem dX8_lean_27 : decode cX8_lean 27 = .ok (.iconst 0, 1) := by decide +kernel
theorem dX8_lean_28 : decode cX8_lean 28 = .ok (.iconst 2, 1) := by decide +kernel
theorem dX8_lean_29 : decode cX8_lean 29 = .ok (.invokevirtual 43, 3) := by decide +kernel
theorem dX8_lean_32 : decode cX8_lean 32 = .ok (.ifCond .eq 5, 3) := by decide +kernel
theorem dX8_lean_35 : decode cX8_lean 35 = .ok (.iconst 0, 1) := by decide +kernel
theorem dX8_lean_36 : decode cX8_lean 36 = .ok (.ireturn, 1) := by decide +kernel
theorem dX8_lean_37 : decode cX8_lean 37 = .ok (.aload_n 0, 1) := by decide +kernel
theorem dX8_lean_38 : decode cX8_lean 38 = .ok (.getfield 31, 3) := by decide +kernel
theorem dX8_lean_41 : decode cX8_lean 41 = .ok (.iload_n 1, 1) := by decide +kernel
theorem dX8_lean_42 : decode cX8_lean 42 = .ok (.aaload, 1) := by decide +kernel
theorem dX8_lean_43 : decode cX8_lean 43 = .ok (.getfield 212, 3) := by decide +kernel
theorem dX8_lean_46 : decode cX8_lean 46 = .ok (.istore_n 3, 1) := by decide +kernel
theorem dX8_lean_47 : decode cX8_lean 47 = .ok (.aload_n 0, 1) := by decide +kernel
theorem dX8_lean_48 : decode cX8_lean 48 = .ok (.getfield 31, 3) := by decide +kernel
theorem dX8_lean_51 : decode cX8_lean 51 = .ok (.iload_n 1, 1) := by decide +kernel
theorem dX8_lean_52 : decode cX8_lean 52 = .ok (.aaload, 1) := by decide +kernel
theorem dX8_lean_53 : decode cX8_lean 53 = .ok (.iload_n 2, 1) := by decide +kernel
theorem dX8_lean_54 : decode cX8_lean 54 = .ok (.putfield 212, 3) := by decide +kernel
theorem dX8_lean_57 : decode cX8_lean 57 = .ok (.iload_n 3, 1) := by decide +kernel
theorem dX8_lean_58 : decode cX8_lean 58 = .ok (.ireturn, 1) := by decide +kernel
theorem dX8_repeat_0 : decode cX8_repeat 0 = .ok (.aload_n 0, 1) := by decide +kernel
theorem dX8_repeat_1 : decode cX8_repeat 1 = .ok (.iload_n 1, 1) := by decide +kernel
theorem dX8_repeat_2 : decode cX8_repeat 2 = .ok (.invokestatic 209, 3) := by decide +kernel
theorem dX8_repeat_5 : decode cX8_repeat 5 = .ok (.ifCond .ne 11, 3) := by decide +kernel
theorem dX8_repeat_8 : decode cX8_repeat 8 = .ok (.aload_n 0, 1) := by decide +kernel
theorem dX8_repeat_9 : decode cX8_repeat 9 = .ok (.iload_n 2, 1) := by decide +kernel
theorem dX8_repeat_10 : decode cX8_repeat 10 = .ok (.invokevirtual 143, 3) := by decide +kernel
theorem dX8_repeat_13 : decode cX8_repeat 13 = .ok (.ifCond .eq 7, 3) := by decide +kernel
theorem dX8_repeat_16 : decode cX8_repeat 16 = .ok (.iconst 1, 1) := by decide +kernel
theorem dX8_repeat_17 : decode cX8_repeat 17 = .ok (.goto 4, 3) := by decide +kernel
theorem dX8_repeat_20 : decode cX8_repeat 20 = .ok (.iconst 0, 1) := by decide +kernel
theorem dX8_repeat_21 : decode cX8_repeat 21 = .ok (.iconst 1, 1) := by decide +kernel
theorem dX8_repeat_22 : decode cX8_repeat 22 = .ok (.invokevirtual 64, 3) := by decide +kernel
theorem dX8_repeat_25 : decode cX8_repeat 25 = .ok (.ifCond .ne 25, 3) := by decide +kernel
theorem dX8_repeat_28 : decode cX8_repeat 28 = .ok (.aload_n 0, 1) := by decide +kernel
theorem dX8_repeat_29 : decode cX8_repeat 29 = .ok (.aload_n 0, 1) := by decide +kernel
theorem dX8_repeat_30 : decode cX8_repeat 30 = .ok (.iload_n 2, 1) := by decide +kernel
theorem dX8_repeat_31 : decode cX8_repeat 31 = .ok (.iconst 2, 1) := by decide +kernel
theorem dX8_repeat_32 : decode cX8_repeat 32 = .ok (.invokevirtual 155, 3) := by decide +kernel
theorem dX8_repeat_35 : decode cX8_repeat 35 = .ok (.ifCond .ne 7, 3) := by decide +kernel
theorem dX8_repeat_38 : decode cX8_repeat 38 = .ok (.iconst 1, 1) := by decide +kernel
theorem dX8_repeat_39 : decode cX8_repeat 39 = .ok (.goto 4, 3) := by decide +kernel
theorem dX8_repeat_42 : decode cX8_repeat 42 = .ok (.iconst 0, 1) := by decide +kernel
theorem dX8_repeat_43 : decode cX8_repeat 43 = .ok (.iconst 2, 1) := by decide +kernel
theorem dX8_repeat_44 : decode cX8_repeat 44 = .ok (.invokevirtual 43, 3) := by decide +kernel
theorem dX8_repeat_47 : decode cX8_repeat 47 = .ok (.ifCond .eq 5, 3) := by decide +kernel
theorem dX8_repeat_50 : decode cX8_repeat 50 = .ok (.iconst 0, 1) := by decide +kernel
theorem dX8_repeat_51 : decode cX8_repeat 51 = .ok (.ireturn, 1) := by decide +kernel
theorem dX8_repeat_52 : decode cX8_repeat 52 = .ok (.aload_n 0, 1) := by decide +kernel
theorem dX8_repeat_53 : decode cX8_repeat 53 = .ok (.getfield 31, 3) := by decide +kernel
theorem dX8_repeat_56 : decode cX8_repeat 56 = .ok (.iload_n 1, 1) := by decide +kernel
theorem dX8_repeat_57 : decode cX8_repeat 57 = .ok (.aaload, 1) := by decide +kernel
theorem dX8_repeat_58 : decode cX8_repeat 58 = .ok (.astore_n 3, 1) := by decide +kernel
theorem dX8_repeat_59 : decode cX8_repeat 59 = .ok (.iconst 0, 1) := by decide +kernel
theorem dX8_repeat_60 : decode cX8_repeat 60 = .ok (.istore 4, 2) := by decide +kernel
theorem dX8_repeat_62 : decode cX8_repeat 62 = .ok (.iload 4, 2) := by decide +kernel
theorem dX8_repeat_64 : decode cX8_repeat 64 = .ok (.iconst 3, 1) := by decide +kernel
theorem dX8_repeat_65 : decode cX8_repeat 65 = .ok (.if_icmp .ge 55, 3) := by decide +kernel
theorem dX8_repeat_68 : decode cX8_repeat 68 = .ok (.aload_n 3, 1) := by decide +kernel
theorem dX8_repeat_69 : decode cX8_repeat 69 = .ok (.dup, 1) := by decide +kernel
theorem dX8_repeat_70 : decode cX8_repeat 70 = .ok (.getfield 215, 3) := by decide +kernel
theorem dX8_repeat_73 : decode cX8_repeat 73 = .ok (.aload_n 3, 1) := by decide +kernel
theorem dX8_repeat_74 : decode cX8_repeat 74 = .ok (.aload_n 0, 1) := by decide +kernel
theorem dX8_repeat_75 : decode cX8_repeat 75 = .ok (.getfield 25, 3) := by decide +kernel
theorem dX8_repeat_78 : decode cX8_repeat 78 = .ok (.iload_n 2, 1) := by decide +kernel
theorem dX8_repeat_79 : decode cX8_repeat 79 = .ok (.invokevirtual 55, 3) := by decide +kernel
theorem dX8_repeat_82 : decode cX8_repeat 82 = .ok (.checkcast 59, 3) := by decide +kernel
theorem dX8_repeat_85 : decode cX8_repeat 85 = .ok (.iload 4, 2) := by decide +kernel
theorem dX8_repeat_87 : decode cX8_repeat 87 = .ok (.invokevirtual 202, 3) := by decide +kernel
theorem dX8_repeat_90 : decode cX8_repeat 90 = .ok (.invokevirtual 218, 3) := by decide +kernel
theorem dX8_repeat_93 : decode cX8_repeat 93 = .ok (.aload_n 0, 1) := by decide +kernel
theorem dX8_repeat_94 : decode cX8_repeat 94 = .ok (.getfield 25, 3) := by decide +kernel
theorem dX8_repeat_97 : decode cX8_repeat 97 = .ok (.iload_n 2, 1) := by decide +kernel
theorem dX8_repeat_98 : decode cX8_repeat 98 = .ok (.invokevirtual 55, 3) := by decide +kernel
theorem dX8_repeat_101 : decode cX8_repeat 101 = .ok (.checkcast 59, 3) := by decide +kernel
theorem dX8_repeat_104 : decode cX8_repeat 104 = .ok (.iload 4, 2) := by decide +kernel
theorem dX8_repeat_106 : decode cX8_repeat 106 = .ok (.invokevirtual 202, 3) := by decide +kernel
theorem dX8_repeat_109 : decode cX8_repeat 109 = .ok (.isub, 1) := by decide +kernel
theorem dX8_repeat_110 : decode cX8_repeat 110 = .ok (.iadd, 1) := by decide +kernel
theorem dX8_repeat_111 : decode cX8_repeat 111 = .ok (.putfield 215, 3) := by decide +kernel
theorem dX8_repeat_114 : decode cX8_repeat 114 = .ok (.iinc 4 1, 3) := by decide +kernel
theorem dX8_repeat_117 : decode cX8_repeat 117 = .ok (.goto (-55), 3) := by decide +kernel
theorem dX8_repeat_120 : decode cX8_repeat 120 = .ok (.aload_n 3, 1) := by decide +kernel
theorem dX8_repeat_121 : decode cX8_repeat 121 = .ok (.dup, 1) := by decide +kernel
theorem dX8_repeat_122 : decode cX8_repeat 122 = .ok (.getfield 221, 3) := by decide +kernel
theorem dX8_repeat_125 : decode cX8_repeat 125 = .ok (.iconst 1, 1) := by decide +kernel
theorem dX8_repeat_126 : decode cX8_repeat 126 = .ok (.iadd, 1) := by decide +kernel
theorem dX8_repeat_127 : decode cX8_repeat 127 = .ok (.putfield 221, 3) := by decide +kernel
theorem dX8_repeat_130 : decode cX8_repeat 130 = .ok (.aload_n 3, 1) := by decide +kernel
theorem dX8_repeat_131 : decode cX8_repeat 131 = .ok (.invokevirtual 224, 3) := by decide +kernel
theorem dX8_repeat_134 : decode cX8_repeat 134 = .ok (.ireturn, 1) := by decide +kernel
theorem dX8_purse_0 : decode cX8_purse 0 = .ok (.aload_n 0, 1) := by decide +kernel
theorem dX8_purse_1 : decode cX8_purse 1 = .ok (.iload_n 1, 1) := by decide +kernel
theorem dX8_purse_2 : decode cX8_purse 2 = .ok (.invokestatic 227, 3) := by decide +kernel
theorem dX8_purse_5 : decode cX8_purse 5 = .ok (.iconst 1, 1) := by decide +kernel
theorem dX8_purse_6 : decode cX8_purse 6 = .ok (.invokevirtual 64, 3) := by decide +kernel
theorem dX8_purse_9 : decode cX8_purse 9 = .ok (.ifCond .ne 27, 3) := by decide +kernel
theorem dX8_purse_12 : decode cX8_purse 12 = .ok (.aload_n 0, 1) := by decide +kernel
theorem dX8_purse_13 : decode cX8_purse 13 = .ok (.iload_n 2, 1) := by decide +kernel
theorem dX8_purse_14 : decode cX8_purse 14 = .ok (.iconst 1, 1) := by decide +kernel
theorem dX8_purse_15 : decode cX8_purse 15 = .ok (.sipush 9999, 3) := by decide +kernel
theorem dX8_purse_18 : decode cX8_purse 18 = .ok (.invokestatic 51, 3) := by decide +kernel
theorem dX8_purse_21 : decode cX8_purse 21 = .ok (.ifCond .ne 7, 3) := by decide +kernel
theorem dX8_purse_24 : decode cX8_purse 24 = .ok (.iconst 1, 1) := by decide +kernel
theorem dX8_purse_25 : decode cX8_purse 25 = .ok (.goto 4, 3) := by decide +kernel
theorem dX8_purse_28 : decode cX8_purse 28 = .ok (.iconst 0, 1) := by decide +kernel
theorem dX8_purse_29 : decode cX8_purse 29 = .ok (.iconst 2, 1) := by decide +kernel
theorem dX8_purse_30 : decode cX8_purse 30 = .ok (.invokevirtual 43, 3) := by decide +kernel
theorem dX8_purse_33 : decode cX8_purse 33 = .ok (.ifCond .eq 5, 3) := by decide +kernel
theorem dX8_purse_36 : decode cX8_purse 36 = .ok (.iconst 0, 1) := by decide +kernel
theorem dX8_purse_37 : decode cX8_purse 37 = .ok (.ireturn, 1) := by decide +kernel
theorem dX8_purse_38 : decode cX8_purse 38 = .ok (.aload_n 0, 1) := by decide +kernel
theorem dX8_purse_39 : decode cX8_purse 39 = .ok (.getfield 35, 3) := by decide +kernel
theorem dX8_purse_42 : decode cX8_purse 42 = .ok (.iload_n 1, 1) := by decide +kernel
theorem dX8_purse_43 : decode cX8_purse 43 = .ok (.dup2, 1) := by decide +kernel
theorem dX8_purse_44 : decode cX8_purse 44 = .ok (.iaload, 1) := by decide +kernel
theorem dX8_purse_45 : decode cX8_purse 45 = .ok (.iload_n 2, 1) := by decide +kernel
theorem dX8_purse_46 : decode cX8_purse 46 = .ok (.iadd, 1) := by decide +kernel
theorem dX8_purse_47 : decode cX8_purse 47 = .ok (.iastore, 1) := by decide +kernel
theorem dX8_purse_48 : decode cX8_purse 48 = .ok (.aload_n 0, 1) := by decide +kernel
theorem dX8_purse_49 : decode cX8_purse 49 = .ok (.getfield 35, 3) := by decide +kernel
theorem dX8_purse_52 : decode cX8_purse 52 = .ok (.iload_n 1, 1) := by decide +kernel
theorem dX8_purse_53 : decode cX8_purse 53 = .ok (.iaload, 1) := by decide +kernel
theorem dX8_purse_54 : decode cX8_purse 54 = .ok (.ireturn, 1) := by decide +kernel
theorem dX8_offer_0 : decode cX8_offer 0 = .ok (.aload_n 0, 1) := by decide +kernel
theorem dX8_offer_1 : decode cX8_offer 1 = .ok (.aload_n 0, 1) := by decide +kernel
theorem dX8_offer_2 : decode cX8_offer 2 = .ok (.iload_n 1, 1) := by decide +kernel
theorem dX8_offer_3 : decode cX8_offer 3 = .ok (.invokevirtual 143, 3) := by decide +kernel
theorem dX8_offer_6 : decode cX8_offer 6 = .ok (.iconst 1, 1) := by decide +kernel
theorem dX8_offer_7 : decode cX8_offer 7 = .ok (.invokevirtual 64, 3) := by decide +kernel
theorem dX8_offer_10 : decode cX8_offer 10 = .ok (.ifCond .ne 48, 3) := by decide +kernel
theorem dX8_offer_13 : decode cX8_offer 13 = .ok (.aload_n 0, 1) := by decide +kernel
theorem dX8_offer_14 : decode cX8_offer 14 = .ok (.iload_n 2, 1) := by decide +kernel
theorem dX8_offer_15 : decode cX8_offer 15 = .ok (.iconst 1, 1) := by decide +kernel
theorem dX8_offer_16 : decode cX8_offer 16 = .ok (.bipush 99, 2) := by decide +kernel
theorem dX8_offer_18 : decode cX8_offer 18 = .ok (.invokestatic 51, 3) := by decide +kernel
theorem dX8_offer_21 : decode cX8_offer 21 = .ok (.ifCond .ne 7, 3) := by decide +kernel
theorem dX8_offer_24 : decode cX8_offer 24 = .ok (.iconst 1, 1) := by decide +kernel
theorem dX8_offer_25 : decode cX8_offer 25 = .ok (.goto 4, 3) := by decide +kernel
theorem dX8_offer_28 : decode cX8_offer 28 = .ok (.iconst 0, 1) := by decide +kernel
theorem dX8_offer_29 : decode cX8_offer 29 = .ok (.iconst 2, 1) := by decide +kernel
theorem dX8_offer_30 : decode cX8_offer 30 = .ok (.invokevirtual 43, 3) := by decide +kernel
theorem dX8_offer_33 : decode cX8_offer 33 = .ok (.ifCond .ne 25, 3) := by decide +kernel
theorem dX8_offer_36 : decode cX8_offer 36 = .ok (.aload_n 0, 1) := by decide +kernel
theorem dX8_offer_37 : decode cX8_offer 37 = .ok (.aload_n 0, 1) := by decide +kernel
theorem dX8_offer_38 : decode cX8_offer 38 = .ok (.iload_n 1, 1) := by decide +kernel
theorem dX8_offer_39 : decode cX8_offer 39 = .ok (.iconst 2, 1) := by decide +kernel
theorem dX8_offer_40 : decode cX8_offer 40 = .ok (.invokevirtual 155, 3) := by decide +kernel
theorem dX8_offer_43 : decode cX8_offer 43 = .ok (.ifCond .ne 7, 3) := by decide +kernel
theorem dX8_offer_46 : decode cX8_offer 46 = .ok (.iconst 1, 1) := by decide +kernel
theorem dX8_offer_47 : decode cX8_offer 47 = .ok (.goto 4, 3) := by decide +kernel
theorem dX8_offer_50 : decode cX8_offer 50 = .ok (.iconst 0, 1) := by decide +kernel
theorem dX8_offer_51 : decode cX8_offer 51 = .ok (.iconst 3, 1) := by decide +kernel
theorem dX8_offer_52 : decode cX8_offer 52 = .ok (.invokevirtual 43, 3) := by decide +kernel
theorem dX8_offer_55 : decode cX8_offer 55 = .ok (.ifCond .eq 5, 3) := by decide +kernel
theorem dX8_offer_58 : decode cX8_offer 58 = .ok (.iconst 0, 1) := by decide +kernel
theorem dX8_offer_59 : decode cX8_offer 59 = .ok (.ireturn, 1) := by decide +kernel
theorem dX8_offer_60 : decode cX8_offer 60 = .ok (.aload_n 0, 1) := by decide +kernel
theorem dX8_offer_61 : decode cX8_offer 61 = .ok (.getfield 25, 3) := by decide +kernel
theorem dX8_offer_64 : decode cX8_offer 64 = .ok (.iload_n 1, 1) := by decide +kernel
theorem dX8_offer_65 : decode cX8_offer 65 = .ok (.invokevirtual 55, 3) := by decide +kernel
theorem dX8_offer_68 : decode cX8_offer 68 = .ok (.checkcast 59, 3) := by decide +kernel
theorem dX8_offer_71 : decode cX8_offer 71 = .ok (.iload_n 2, 1) := by decide +kernel
theorem dX8_offer_72 : decode cX8_offer 72 = .ok (.putfield 230, 3) := by decide +kernel
theorem dX8_offer_75 : decode cX8_offer 75 = .ok (.iconst 0, 1) := by decide +kernel
theorem dX8_offer_76 : decode cX8_offer 76 = .ok (.istore_n 3, 1) := by decide +kernel
theorem dX8_offer_77 : decode cX8_offer 77 = .ok (.aload_n 0, 1) := by decide +kernel
theorem dX8_offer_78 : decode cX8_offer 78 = .ok (.getfield 25, 3) := by decide +kernel
theorem dX8_offer_81 : decode cX8_offer 81 = .ok (.invokevirtual 80, 3) := by decide +kernel
theorem dX8_offer_84 : decode cX8_offer 84 = .ok (.astore 4, 2) := by decide +kernel
theorem dX8_offer_86 : decode cX8_offer 86 = .ok (.aload 4, 2) := by decide +kernel
theorem dX8_offer_88 : decode cX8_offer 88 = .ok (.invokeinterface 84 1, 5) := by decide +kernel
theorem dX8_offer_93 : decode cX8_offer 93 = .ok (.ifCond .eq 34, 3) := by decide +kernel
theorem dX8_offer_96 : decode cX8_offer 96 = .ok (.aload 4, 2) := by decide +kernel
theorem dX8_offer_98 : decode cX8_offer 98 = .ok (.invokeinterface 90 1, 5) := by decide +kernel
theorem dX8_offer_103 : decode cX8_offer 103 = .ok (.checkcast 59, 3) := by decide +kernel
theorem dX8_offer_106 : decode cX8_offer 106 = .ok (.astore 5, 2) := by decide +kernel
theorem dX8_offer_108 : decode cX8_offer 108 = .ok (.iload_n 3, 1) := by decide +kernel
theorem dX8_offer_109 : decode cX8_offer 109 = .ok (.aload 5, 2) := by decide +kernel
theorem dX8_offer_111 : decode cX8_offer 111 = .ok (.invokevirtual 180, 3) := by decide +kernel
theorem dX8_offer_114 : decode cX8_offer 114 = .ok (.ifCond .eq 7, 3) := by decide +kernel
theorem dX8_offer_117 : decode cX8_offer 117 = .ok (.iconst 1, 1) := by decide +kernel
theorem dX8_offer_118 : decode cX8_offer 118 = .ok (.goto 4, 3) := by decide +kernel
theorem dX8_offer_121 : decode cX8_offer 121 = .ok (.iconst 0, 1) := by decide +kernel
theorem dX8_offer_122 : decode cX8_offer 122 = .ok (.iadd, 1) := by decide +kernel
theorem dX8_offer_123 : decode cX8_offer 123 = .ok (.istore_n 3, 1) := by decide +kernel
theorem dX8_offer_124 : decode cX8_offer 124 = .ok (.goto (-38), 3) := by decide +kernel
theorem dX8_offer_127 : decode cX8_offer 127 = .ok (.iload_n 3, 1) := by decide +kernel
theorem dX8_offer_128 : decode cX8_offer 128 = .ok (.ireturn, 1) := by decide +kernel
theorem dX8_bid_0 : decode cX8_bid 0 = .ok (.aload_n 0, 1) := by decide +kernel
theorem dX8_bid_1 : decode cX8_bid 1 = .ok (.iload_n 1, 1) := by decide +kernel
theorem dX8_bid_2 : decode cX8_bid 2 = .ok (.invokestatic 227, 3) := by decide +kernel
theorem dX8_bid_5 : decode cX8_bid 5 = .ok (.ifCond .ne 11, 3) := by decide +kernel
theorem dX8_bid_8 : decode cX8_bid 8 = .ok (.aload_n 0, 1) := by decide +kernel
theorem dX8_bid_9 : decode cX8_bid 9 = .ok (.iload_n 2, 1) := by decide +kernel
theorem dX8_bid_10 : decode cX8_bid 10 = .ok (.invokevirtual 143, 3) := by decide +kernel
theorem dX8_bid_13 : decode cX8_bid 13 = .ok (.ifCond .eq 7, 3) := by decide +kernel
theorem dX8_bid_16 : decode cX8_bid 16 = .ok (.iconst 1, 1) := by decide +kernel
theorem dX8_bid_17 : decode cX8_bid 17 = .ok (.goto 4, 3) := by decide +kernel
theorem dX8_bid_20 : decode cX8_bid 20 = .ok (.iconst 0, 1) := by decide +kernel
theorem dX8_bid_21 : decode cX8_bid 21 = .ok (.iconst 1, 1) := by decide +kernel
theorem dX8_bid_22 : decode cX8_bid 22 = .ok (.invokevirtual 64, 3) := by decide +kernel
theorem dX8_bid_25 : decode cX8_bid 25 = .ok (.ifCond .ne 56, 3) := by decide +kernel
theorem dX8_bid_28 : decode cX8_bid 28 = .ok (.aload_n 0, 1) := by decide +kernel
theorem dX8_bid_29 : decode cX8_bid 29 = .ok (.iload_n 3, 1) := by decide +kernel
theorem dX8_bid_30 : decode cX8_bid 30 = .ok (.iconst 1, 1) := by decide +kernel
theorem dX8_bid_31 : decode cX8_bid 31 = .ok (.bipush 99, 2) := by decide +kernel
theorem dX8_bid_33 : decode cX8_bid 33 = .ok (.invokestatic 51, 3) := by decide +kernel
theorem dX8_bid_36 : decode cX8_bid 36 = .ok (.ifCond .ne 7, 3) := by decide +kernel
theorem dX8_bid_39 : decode cX8_bid 39 = .ok (.iconst 1, 1) := by decide +kernel
theorem dX8_bid_40 : decode cX8_bid 40 = .ok (.goto 4, 3) := by decide +kernel
theorem dX8_bid_43 : decode cX8_bid 43 = .ok (.iconst 0, 1) := by decide +kernel
theorem dX8_bid_44 : decode cX8_bid 44 = .ok (.iconst 2, 1) := by decide +kernel
theorem dX8_bid_45 : decode cX8_bid 45 = .ok (.invokevirtual 43, 3) := by decide +kernel
theorem dX8_bid_48 : decode cX8_bid 48 = .ok (.ifCond .ne 33, 3) := by decide +kernel
theorem dX8_bid_51 : decode cX8_bid 51 = .ok (.aload_n 0, 1) := by decide +kernel
theorem dX8_bid_52 : decode cX8_bid 52 = .ok (.aload_n 0, 1) := by decide +kernel
theorem dX8_bid_53 : decode cX8_bid 53 = .ok (.getfield 25, 3) := by decide +kernel
theorem dX8_bid_56 : decode cX8_bid 56 = .ok (.iload_n 2, 1) := by decide +kernel
theorem dX8_bid_57 : decode cX8_bid 57 = .ok (.invokevirtual 55, 3) := by decide +kernel
theorem dX8_bid_60 : decode cX8_bid 60 = .ok (.checkcast 59, 3) := by decide +kernel
theorem dX8_bid_63 : decode cX8_bid 63 = .ok (.invokevirtual 180, 3) := by decide +kernel
theorem dX8_bid_66 : decode cX8_bid 66 = .ok (.ifCond .ne 7, 3) := by decide +kernel
theorem dX8_bid_69 : decode cX8_bid 69 = .ok (.iconst 1, 1) := by decide +kernel
theorem dX8_bid_70 : decode cX8_bid 70 = .ok (.goto 4, 3) := by decide +kernel
theorem dX8_bid_73 : decode cX8_bid 73 = .ok (.iconst 0, 1) := by decide +kernel
theorem dX8_bid_74 : decode cX8_bid 74 = .ok (.iconst 3, 1) := by decide +kernel
theorem dX8_bid_75 : decode cX8_bid 75 = .ok (.invokevirtual 43, 3) := by decide +kernel
theorem dX8_bid_78 : decode cX8_bid 78 = .ok (.ifCond .eq 5, 3) := by decide +kernel
theorem dX8_bid_81 : decode cX8_bid 81 = .ok (.iconst 0, 1) := by decide +kernel
theorem dX8_bid_82 : decode cX8_bid 82 = .ok (.ireturn, 1) := by decide +kernel
theorem dX8_bid_83 : decode cX8_bid 83 = .ok (.aload_n 0, 1) := by decide +kernel
theorem dX8_bid_84 : decode cX8_bid 84 = .ok (.getfield 25, 3) := by decide +kernel
theorem dX8_bid_87 : decode cX8_bid 87 = .ok (.iload_n 2, 1) := by decide +kernel
theorem dX8_bid_88 : decode cX8_bid 88 = .ok (.invokevirtual 55, 3) := by decide +kernel
theorem dX8_bid_91 : decode cX8_bid 91 = .ok (.checkcast 59, 3) := by decide +kernel
theorem dX8_bid_94 : decode cX8_bid 94 = .ok (.getfield 233, 3) := by decide +kernel
theorem dX8_bid_97 : decode cX8_bid 97 = .ok (.astore 4, 2) := by decide +kernel
theorem dX8_bid_99 : decode cX8_bid 99 = .ok (.aload 4, 2) := by decide +kernel
theorem dX8_bid_101 : decode cX8_bid 101 = .ok (.invokevirtual 47, 3) := by decide +kernel
theorem dX8_bid_104 : decode cX8_bid 104 = .ok (.iconst 1, 1) := by decide +kernel
theorem dX8_bid_105 : decode cX8_bid 105 = .ok (.isub, 1) := by decide +kernel
theorem dX8_bid_106 : decode cX8_bid 106 = .ok (.istore 5, 2) := by decide +kernel
theorem dX8_bid_108 : decode cX8_bid 108 = .ok (.iload 5, 2) := by decide +kernel
theorem dX8_bid_110 : decode cX8_bid 110 = .ok (.ifCond .lt 33, 3) := by decide +kernel
theorem dX8_bid_113 : decode cX8_bid 113 = .ok (.aload 4, 2) := by decide +kernel
theorem dX8_bid_115 : decode cX8_bid 115 = .ok (.iload 5, 2) := by decide +kernel
theorem dX8_bid_117 : decode cX8_bid 117 = .ok (.invokevirtual 55, 3) := by decide +kernel
theorem dX8_bid_120 : decode cX8_bid 120 = .ok (.checkcast 236, 3) := by decide +kernel
theorem dX8_bid_123 : decode cX8_bid 123 = .ok (.iconst 0, 1) := by decide +kernel
theorem dX8_bid_124 : decode cX8_bid 124 = .ok (.iaload, 1) := by decide +kernel
theorem dX8_bid_125 : decode cX8_bid 125 = .ok (.iload_n 1, 1) := by decide +kernel
theorem dX8_bid_126 : decode cX8_bid 126 = .ok (.if_icmp .ne 11, 3) := by decide +kernel
theorem dX8_bid_129 : decode cX8_bid 129 = .ok (.aload 4, 2) := by decide +kernel
theorem dX8_bid_131 : decode cX8_bid 131 = .ok (.iload 5, 2) := by decide +kernel
theorem dX8_bid_133 : decode cX8_bid 133 = .ok (.invokevirtual 237, 3) := by decide +kernel
theorem dX8_bid_136 : decode cX8_bid 136 = .ok (.pop, 1) := by decide +kernel
theorem dX8_bid_137 : decode cX8_bid 137 = .ok (.iinc 5 (-1), 3) := by decide +kernel
theorem dX8_bid_140 : decode cX8_bid 140 = .ok (.goto (-32), 3) := by decide +kernel
theorem dX8_bid_143 : decode cX8_bid 143 = .ok (.aload 4, 2) := by decide +kernel
theorem dX8_bid_145 : decode cX8_bid 145 = .ok (.iconst 2, 1) := by decide +kernel
theorem dX8_bid_146 : decode cX8_bid 146 = .ok (.newarray .int, 2) := by decide +kernel
theorem dX8_bid_148 : decode cX8_bid 148 = .ok (.dup, 1) := by decide +kernel
theorem dX8_bid_149 : decode cX8_bid 149 = .ok (.iconst 0, 1) := by decide +kernel
theorem dX8_bid_150 : decode cX8_bid 150 = .ok (.iload_n 1, 1) := by decide +kernel
theorem dX8_bid_151 : decode cX8_bid 151 = .ok (.iastore, 1) := by decide +kernel
theorem dX8_bid_152 : decode cX8_bid 152 = .ok (.dup, 1) := by decide +kernel
theorem dX8_bid_153 : decode cX8_bid 153 = .ok (.iconst 1, 1) := by decide +kernel
theorem dX8_bid_154 : decode cX8_bid 154 = .ok (.iload_n 3, 1) := by decide +kernel
theorem dX8_bid_155 : decode cX8_bid 155 = .ok (.iastore, 1) := by decide +kernel
theorem dX8_bid_156 : decode cX8_bid 156 = .ok (.invokevirtual 72, 3) := by decide +kernel
theorem dX8_bid_159 : decode cX8_bid 159 = .ok (.pop, 1) := by decide +kernel
theorem dX8_bid_160 : decode cX8_bid 160 = .ok (.aload 4, 2) := by decide +kernel
theorem dX8_bid_162 : decode cX8_bid 162 = .ok (.invokevirtual 47, 3) := by decide +kernel
theorem dX8_bid_165 : decode cX8_bid 165 = .ok (.ireturn, 1) := by decide +kernel
theorem dX8_able_0 : decode cX8_able 0 = .ok (.new 18, 3) := by decide +kernel
theorem dX8_able_3 : decode cX8_able 3 = .ok (.dup, 1) := by decide +kernel
theorem dX8_able_4 : decode cX8_able 4 = .ok (.invokespecial 20, 3) := by decide +kernel
theorem dX8_able_7 : decode cX8_able 7 = .ok (.astore_n 2, 1) := by decide +kernel
theorem dX8_able_8 : decode cX8_able 8 = .ok (.aload_n 1, 1) := by decide +kernel
theorem dX8_able_9 : decode cX8_able 9 = .ok (.getfield 233, 3) := by decide +kernel
theorem dX8_able_12 : decode cX8_able 12 = .ok (.invokevirtual 80, 3) := by decide +kernel
theorem dX8_able_15 : decode cX8_able 15 = .ok (.astore_n 3, 1) := by decide +kernel
theorem dX8_able_16 : decode cX8_able 16 = .ok (.aload_n 3, 1) := by decide +kernel
theorem dX8_able_17 : decode cX8_able 17 = .ok (.invokeinterface 84 1, 5) := by decide +kernel
theorem dX8_able_22 : decode cX8_able 22 = .ok (.ifCond .eq 59, 3) := by decide +kernel
theorem dX8_able_25 : decode cX8_able 25 = .ok (.aload_n 3, 1) := by decide +kernel
theorem dX8_able_26 : decode cX8_able 26 = .ok (.invokeinterface 90 1, 5) := by decide +kernel
theorem dX8_able_31 : decode cX8_able 31 = .ok (.checkcast 236, 3) := by decide +kernel
theorem dX8_able_34 : decode cX8_able 34 = .ok (.astore 4, 2) := by decide +kernel
theorem dX8_able_36 : decode cX8_able 36 = .ok (.aload 4, 2) := by decide +kernel
theorem dX8_able_38 : decode cX8_able 38 = .ok (.iconst 1, 1) := by decide +kernel
theorem dX8_able_39 : decode cX8_able 39 = .ok (.iaload, 1) := by decide +kernel
theorem dX8_able_40 : decode cX8_able 40 = .ok (.aload_n 1, 1) := by decide +kernel
theorem dX8_able_41 : decode cX8_able 41 = .ok (.getfield 230, 3) := by decide +kernel
theorem dX8_able_44 : decode cX8_able 44 = .ok (.if_icmp .lt 34, 3) := by decide +kernel
theorem dX8_able_47 : decode cX8_able 47 = .ok (.aload_n 0, 1) := by decide +kernel
theorem dX8_able_48 : decode cX8_able 48 = .ok (.getfield 35, 3) := by decide +kernel
theorem dX8_able_51 : decode cX8_able 51 = .ok (.aload 4, 2) := by decide +kernel
theorem dX8_able_53 : decode cX8_able 53 = .ok (.iconst 0, 1) := by decide +kernel
theorem dX8_able_54 : decode cX8_able 54 = .ok (.iaload, 1) := by decide +kernel
theorem dX8_able_55 : decode cX8_able 55 = .ok (.iaload, 1) := by decide +kernel
theorem dX8_able_56 : decode cX8_able 56 = .ok (.aload 4, 2) := by decide +kernel
theorem dX8_able_58 : decode cX8_able 58 = .ok (.iconst 1, 1) := by decide +kernel
theorem dX8_able_59 : decode cX8_able 59 = .ok (.iaload, 1) := by decide +kernel
theorem dX8_able_60 : decode cX8_able 60 = .ok (.aload_n 1, 1) := by decide +kernel
theorem dX8_able_61 : decode cX8_able 61 = .ok (.invokevirtual 127, 3) := by decide +kernel
theorem dX8_able_64 : decode cX8_able 64 = .ok (.imul, 1) := by decide +kernel
theorem dX8_able_65 : decode cX8_able 65 = .ok (.bipush 10, 2) := by decide +kernel
theorem dX8_able_67 : decode cX8_able 67 = .ok (.idiv, 1) := by decide +kernel
theorem dX8_able_68 : decode cX8_able 68 = .ok (.if_icmp .lt 10, 3) := by decide +kernel
theorem dX8_able_71 : decode cX8_able 71 = .ok (.aload_n 2, 1) := by decide +kernel
theorem dX8_able_72 : decode cX8_able 72 = .ok (.aload 4, 2) := by decide +kernel
theorem dX8_able_74 : decode cX8_able 74 = .ok (.invokevirtual 72, 3) := by decide +kernel
theorem dX8_able_77 : decode cX8_able 77 = .ok (.pop, 1) := by decide +kernel
theorem dX8_able_78 : decode cX8_able 78 = .ok (.goto (-62), 3) := by decide +kernel
theorem dX8_able_81 : decode cX8_able 81 = .ok (.aload_n 2, 1) := by decide +kernel
theorem dX8_able_82 : decode cX8_able 82 = .ok (.areturn, 1) := by decide +kernel
theorem dX8_outcome_0 : decode cX8_outcome 0 = .ok (.aconst_null, 1) := by decide +kernel
theorem dX8_outcome_1 : decode cX8_outcome 1 = .ok (.astore_n 2, 1) := by decide +kernel
theorem dX8_outcome_2 : decode cX8_outcome 2 = .ok (.iconst 0, 1) := by decide +kernel
theorem dX8_outcome_3 : decode cX8_outcome 3 = .ok (.istore_n 3, 1) := by decide +kernel
theorem dX8_outcome_4 : decode cX8_outcome 4 = .ok (.aload_n 0, 1) := by decide +kernel
theorem dX8_outcome_5 : decode cX8_outcome 5 = .ok (.aload_n 1, 1) := by decide +kernel
theorem dX8_outcome_6 : decode cX8_outcome 6 = .ok (.invokevirtual 240, 3) := by decide +kernel
theorem dX8_outcome_9 : decode cX8_outcome 9 = .ok (.invokevirtual 80, 3) := by decide +kernel
theorem dX8_outcome_12 : decode cX8_outcome 12 = .ok (.astore 4, 2) := by decide +kernel
theorem dX8_outcome_14 : decode cX8_outcome 14 = .ok (.aload 4, 2) := by decide +kernel
theorem dX8_outcome_16 : decode cX8_outcome 16 = .ok (.invokeinterface 84 1, 5) := by decide +kernel
theorem dX8_outcome_21 : decode cX8_outcome 21 = .ok (.ifCond .eq 59, 3) := by decide +kernel
theorem dX8_outcome_24 : decode cX8_outcome 24 = .ok (.aload 4, 2) := by decide +kernel
theorem dX8_outcome_26 : decode cX8_outcome 26 = .ok (.invokeinterface 90 1, 5) := by decide +kernel
theorem dX8_outcome_31 : decode cX8_outcome 31 = .ok (.checkcast 236, 3) := by decide +kernel
theorem dX8_outcome_34 : decode cX8_outcome 34 = .ok (.astore 5, 2) := by decide +kernel
theorem dX8_outcome_36 : decode cX8_outcome 36 = .ok (.aload_n 2, 1) := by decide +kernel
theorem dX8_outcome_37 : decode cX8_outcome 37 = .ok (.ifnull 13, 3) := by decide +kernel
theorem dX8_outcome_40 : decode cX8_outcome 40 = .ok (.aload 5, 2) := by decide +kernel
theorem dX8_outcome_42 : decode cX8_outcome 42 = .ok (.iconst 1, 1) := by decide +kernel
theorem dX8_outcome_43 : decode cX8_outcome 43 = .ok (.iaload, 1) := by decide +kernel
theorem dX8_outcome_44 : decode cX8_outcome 44 = .ok (.aload_n 2, 1) := by decide +kernel
theorem dX8_outcome_45 : decode cX8_outcome 45 = .ok (.iconst 1, 1) := by decide +kernel
theorem dX8_outcome_46 : decode cX8_outcome 46 = .ok (.iaload, 1) := by decide +kernel
theorem dX8_outcome_47 : decode cX8_outcome 47 = .ok (.if_icmp .le 21, 3) := by decide +kernel
theorem dX8_outcome_50 : decode cX8_outcome 50 = .ok (.aload_n 2, 1) := by decide +kernel
theorem dX8_outcome_51 : decode cX8_outcome 51 = .ok (.ifnonnull 7, 3) := by decide +kernel
theorem dX8_outcome_54 : decode cX8_outcome 54 = .ok (.iconst 0, 1) := by decide +kernel
theorem dX8_outcome_55 : decode cX8_outcome 55 = .ok (.goto 6, 3) := by decide +kernel
theorem dX8_outcome_58 : decode cX8_outcome 58 = .ok (.aload_n 2, 1) := by decide +kernel
theorem dX8_outcome_59 : decode cX8_outcome 59 = .ok (.iconst 1, 1) := by decide +kernel
theorem dX8_outcome_60 : decode cX8_outcome 60 = .ok (.iaload, 1) := by decide +kernel
theorem dX8_outcome_61 : decode cX8_outcome 61 = .ok (.istore_n 3, 1) := by decide +kernel
theorem dX8_outcome_62 : decode cX8_outcome 62 = .ok (.aload 5, 2) := by decide +kernel
theorem dX8_outcome_64 : decode cX8_outcome 64 = .ok (.astore_n 2, 1) := by decide +kernel
theorem dX8_outcome_65 : decode cX8_outcome 65 = .ok (.goto 12, 3) := by decide +kernel
theorem dX8_outcome_68 : decode cX8_outcome 68 = .ok (.iload_n 3, 1) := by decide +kernel
theorem dX8_outcome_69 : decode cX8_outcome 69 = .ok (.aload 5, 2) := by decide +kernel
theorem dX8_outcome_71 : decode cX8_outcome 71 = .ok (.iconst 1, 1) := by decide +kernel
theorem dX8_outcome_72 : decode cX8_outcome 72 = .ok (.iaload, 1) := by decide +kernel
theorem dX8_outcome_73 : decode cX8_outcome 73 = .ok (.invokestatic 9, 3) := by decide +kernel
theorem dX8_outcome_76 : decode cX8_outcome 76 = .ok (.istore_n 3, 1) := by decide +kernel
theorem dX8_outcome_77 : decode cX8_outcome 77 = .ok (.goto (-63), 3) := by decide +kernel
theorem dX8_outcome_80 : decode cX8_outcome 80 = .ok (.aload_n 2, 1) := by decide +kernel
theorem dX8_outcome_81 : decode cX8_outcome 81 = .ok (.ifnonnull 5, 3) := by decide +kernel
theorem dX8_outcome_84 : decode cX8_outcome 84 = .ok (.aconst_null, 1) := by decide +kernel
theorem dX8_outcome_85 : decode cX8_outcome 85 = .ok (.areturn, 1) := by decide +kernel
theorem dX8_outcome_86 : decode cX8_outcome 86 = .ok (.iconst 2, 1) := by decide +kernel
theorem dX8_outcome_87 : decode cX8_outcome 87 = .ok (.newarray .int, 2) := by decide +kernel
theorem dX8_outcome_89 : decode cX8_outcome 89 = .ok (.dup, 1) := by decide +kernel
theorem dX8_outcome_90 : decode cX8_outcome 90 = .ok (.iconst 0, 1) := by decide +kernel
theorem dX8_outcome_91 : decode cX8_outcome 91 = .ok (.aload_n 2, 1) := by decide +kernel
theorem dX8_outcome_92 : decode cX8_outcome 92 = .ok (.iconst 0, 1) := by decide +kernel
theorem dX8_outcome_93 : decode cX8_outcome 93 = .ok (.iaload, 1) := by decide +kernel
theorem dX8_outcome_94 : decode cX8_outcome 94 = .ok (.iastore, 1) := by decide +kernel
theorem dX8_outcome_95 : decode cX8_outcome 95 = .ok (.dup, 1) := by decide +kernel
theorem dX8_outcome_96 : decode cX8_outcome 96 = .ok (.iconst 1, 1) := by decide +kernel
theorem dX8_outcome_97 : decode cX8_outcome 97 = .ok (.iload_n 3, 1) := by decide +kernel
theorem dX8_outcome_98 : decode cX8_outcome 98 = .ok (.ifCond .ne 10, 3) := by decide +kernel
theorem dX8_outcome_101 : decode cX8_outcome 101 = .ok (.aload_n 1, 1) := by decide +kernel
theorem dX8_outcome_102 : decode cX8_outcome 102 = .ok (.getfield 230, 3) := by decide +kernel
theorem dX8_outcome_105 : decode cX8_outcome 105 = .ok (.goto 12, 3) := by decide +kernel
theorem dX8_outcome_108 : decode cX8_outcome 108 = .ok (.aload_n 2, 1) := by decide +kernel
theorem dX8_outcome_109 : decode cX8_outcome 109 = .ok (.iconst 1, 1) := by decide +kernel
theorem dX8_outcome_110 : decode cX8_outcome 110 = .ok (.iaload, 1) := by decide +kernel
theorem dX8_outcome_111 : decode cX8_outcome 111 = .ok (.iload_n 3, 1) := by decide +kernel
theorem dX8_outcome_112 : decode cX8_outcome 112 = .ok (.iconst 1, 1) := by decide +kernel
theorem dX8_outcome_113 : decode cX8_outcome 113 = .ok (.iadd, 1) := by decide +kernel
theorem dX8_outcome_114 : decode cX8_outcome 114 = .ok (.invokestatic 3, 3) := by decide +kernel
theorem dX8_outcome_117 : decode cX8_outcome 117 = .ok (.iastore, 1) := by decide +kernel
theorem dX8_outcome_118 : decode cX8_outcome 118 = .ok (.areturn, 1) := by decide +kernel
theorem dX8_knock_0 : decode cX8_knock 0 = .ok (.aload_n 0, 1) := by decide +kernel
theorem dX8_knock_1 : decode cX8_knock 1 = .ok (.aload_n 0, 1) := by decide +kernel
theorem dX8_knock_2 : decode cX8_knock 2 = .ok (.iload_n 1, 1) := by decide +kernel
theorem dX8_knock_3 : decode cX8_knock 3 = .ok (.invokevirtual 143, 3) := by decide +kernel
theorem dX8_knock_6 : decode cX8_knock 6 = .ok (.iconst 1, 1) := by decide +kernel
theorem dX8_knock_7 : decode cX8_knock 7 = .ok (.invokevirtual 64, 3) := by decide +kernel
theorem dX8_knock_10 : decode cX8_knock 10 = .ok (.ifCond .ne 33, 3) := by decide +kernel
theorem dX8_knock_13 : decode cX8_knock 13 = .ok (.aload_n 0, 1) := by decide +kernel
theorem dX8_knock_14 : decode cX8_knock 14 = .ok (.aload_n 0, 1) := by decide +kernel
theorem dX8_knock_15 : decode cX8_knock 15 = .ok (.getfield 25, 3) := by decide +kernel
theorem dX8_knock_18 : decode cX8_knock 18 = .ok (.iload_n 1, 1) := by decide +kernel
theorem dX8_knock_19 : decode cX8_knock 19 = .ok (.invokevirtual 55, 3) := by decide +kernel
theorem dX8_knock_22 : decode cX8_knock 22 = .ok (.checkcast 59, 3) := by decide +kernel
theorem dX8_knock_25 : decode cX8_knock 25 = .ok (.invokevirtual 180, 3) := by decide +kernel
theorem dX8_knock_28 : decode cX8_knock 28 = .ok (.ifCond .ne 7, 3) := by decide +kernel
theorem dX8_knock_31 : decode cX8_knock 31 = .ok (.iconst 1, 1) := by decide +kernel
theorem dX8_knock_32 : decode cX8_knock 32 = .ok (.goto 4, 3) := by decide +kernel
theorem dX8_knock_35 : decode cX8_knock 35 = .ok (.iconst 0, 1) := by decide +kernel
theorem dX8_knock_36 : decode cX8_knock 36 = .ok (.iconst 2, 1) := by decide +kernel
theorem dX8_knock_37 : decode cX8_knock 37 = .ok (.invokevirtual 43, 3) := by decide +kernel
theorem dX8_knock_40 : decode cX8_knock 40 = .ok (.ifCond .eq 5, 3) := by decide +kernel
theorem dX8_knock_43 : decode cX8_knock 43 = .ok (.iconst 0, 1) := by decide +kernel
theorem dX8_knock_44 : decode cX8_knock 44 = .ok (.ireturn, 1) := by decide +kernel
theorem dX8_knock_45 : decode cX8_knock 45 = .ok (.aload_n 0, 1) := by decide +kernel
theorem dX8_knock_46 : decode cX8_knock 46 = .ok (.getfield 25, 3) := by decide +kernel
theorem dX8_knock_49 : decode cX8_knock 49 = .ok (.iload_n 1, 1) := by decide +kernel
theorem dX8_knock_50 : decode cX8_knock 50 = .ok (.invokevirtual 55, 3) := by decide +kernel
theorem dX8_knock_53 : decode cX8_knock 53 = .ok (.checkcast 59, 3) := by decide +kernel
theorem dX8_knock_56 : decode cX8_knock 56 = .ok (.astore_n 2, 1) := by decide +kernel
theorem dX8_knock_57 : decode cX8_knock 57 = .ok (.aload_n 0, 1) := by decide +kernel
theorem dX8_knock_58 : decode cX8_knock 58 = .ok (.aload_n 2, 1) := by decide +kernel
theorem dX8_knock_59 : decode cX8_knock 59 = .ok (.invokevirtual 243, 3) := by decide +kernel
theorem dX8_knock_62 : decode cX8_knock 62 = .ok (.astore_n 3, 1) := by decide +kernel
theorem dX8_knock_63 : decode cX8_knock 63 = .ok (.aload_n 3, 1) := by decide +kernel
theorem dX8_knock_64 : decode cX8_knock 64 = .ok (.ifnonnull 17, 3) := by decide +kernel
theorem dX8_knock_67 : decode cX8_knock 67 = .ok (.aload_n 2, 1) := by decide +kernel
theorem dX8_knock_68 : decode cX8_knock 68 = .ok (.iconst 0, 1) := by decide +kernel
theorem dX8_knock_69 : decode cX8_knock 69 = .ok (.putfield 230, 3) := by decide +kernel
theorem dX8_knock_72 : decode cX8_knock 72 = .ok (.aload_n 2, 1) := by decide +kernel
theorem dX8_knock_73 : decode cX8_knock 73 = .ok (.getfield 233, 3) := by decide +kernel
theorem dX8_knock_76 : decode cX8_knock 76 = .ok (.invokevirtual 247, 3) := by decide +kernel
theorem dX8_knock_79 : decode cX8_knock 79 = .ok (.iconst (-1), 1) := by decide +kernel
theorem dX8_knock_80 : decode cX8_knock 80 = .ok (.ireturn, 1) := by decide +kernel
theorem dX8_knock_81 : decode cX8_knock 81 = .ok (.aload_n 3, 1) := by decide +kernel
theorem dX8_knock_82 : decode cX8_knock 82 = .ok (.iconst 1, 1) := by decide +kernel
theorem dX8_knock_83 : decode cX8_knock 83 = .ok (.iaload, 1) := by decide +kernel
theorem dX8_knock_84 : decode cX8_knock 84 = .ok (.aload_n 2, 1) := by decide +kernel
theorem dX8_knock_85 : decode cX8_knock 85 = .ok (.invokevirtual 127, 3) := by decide +kernel
theorem dX8_knock_88 : decode cX8_knock 88 = .ok (.imul, 1) := by decide +kernel
theorem dX8_knock_89 : decode cX8_knock 89 = .ok (.bipush 10, 2) := by decide +kernel
theorem dX8_knock_91 : decode cX8_knock 91 = .ok (.idiv, 1) := by decide +kernel
theorem dX8_knock_92 : decode cX8_knock 92 = .ok (.istore 4, 2) := by decide +kernel
theorem dX8_knock_94 : decode cX8_knock 94 = .ok (.aload_n 0, 1) := by decide +kernel
theorem dX8_knock_95 : decode cX8_knock 95 = .ok (.getfield 35, 3) := by decide +kernel
theorem dX8_knock_98 : decode cX8_knock 98 = .ok (.aload_n 3, 1) := by decide +kernel
theorem dX8_knock_99 : decode cX8_knock 99 = .ok (.iconst 0, 1) := by decide +kernel
theorem dX8_knock_100 : decode cX8_knock 100 = .ok (.iaload, 1) := by decide +kernel
theorem dX8_knock_101 : decode cX8_knock 101 = .ok (.dup2, 1) := by decide +kernel
theorem dX8_knock_102 : decode cX8_knock 102 = .ok (.iaload, 1) := by decide +kernel
theorem dX8_knock_103 : decode cX8_knock 103 = .ok (.iload 4, 2) := by decide +kernel
theorem dX8_knock_105 : decode cX8_knock 105 = .ok (.isub, 1) := by decide +kernel
theorem dX8_knock_106 : decode cX8_knock 106 = .ok (.iastore, 1) := by decide +kernel
theorem dX8_knock_107 : decode cX8_knock 107 = .ok (.aload_n 0, 1) := by decide +kernel
theorem dX8_knock_108 : decode cX8_knock 108 = .ok (.dup, 1) := by decide +kernel
theorem dX8_knock_109 : decode cX8_knock 109 = .ok (.getfield 140, 3) := by decide +kernel
theorem dX8_knock_112 : decode cX8_knock 112 = .ok (.iload 4, 2) := by decide +kernel
theorem dX8_knock_114 : decode cX8_knock 114 = .ok (.iadd, 1) := by decide +kernel
theorem dX8_knock_115 : decode cX8_knock 115 = .ok (.putfield 140, 3) := by decide +kernel
theorem dX8_knock_118 : decode cX8_knock 118 = .ok (.aload_n 0, 1) := by decide +kernel
theorem dX8_knock_119 : decode cX8_knock 119 = .ok (.dup, 1) := by decide +kernel
theorem dX8_knock_120 : decode cX8_knock 120 = .ok (.getfield 250, 3) := by decide +kernel
theorem dX8_knock_123 : decode cX8_knock 123 = .ok (.aload_n 2, 1) := by decide +kernel
theorem dX8_knock_124 : decode cX8_knock 124 = .ok (.invokevirtual 127, 3) := by decide +kernel
theorem dX8_knock_127 : decode cX8_knock 127 = .ok (.iadd, 1) := by decide +kernel
theorem dX8_knock_128 : decode cX8_knock 128 = .ok (.putfield 250, 3) := by decide +kernel
theorem dX8_knock_131 : decode cX8_knock 131 = .ok (.aload_n 0, 1) := by decide +kernel
theorem dX8_knock_132 : decode cX8_knock 132 = .ok (.dup, 1) := by decide +kernel
theorem dX8_knock_133 : decode cX8_knock 133 = .ok (.getfield 253, 3) := by decide +kernel
theorem dX8_knock_136 : decode cX8_knock 136 = .ok (.iconst 1, 1) := by decide +kernel
theorem dX8_knock_137 : decode cX8_knock 137 = .ok (.iadd, 1) := by decide +kernel
theorem dX8_knock_138 : decode cX8_knock 138 = .ok (.putfield 253, 3) := by decide +kernel
theorem dX8_knock_141 : decode cX8_knock 141 = .ok (.aload_n 2, 1) := by decide +kernel
theorem dX8_knock_142 : decode cX8_knock 142 = .ok (.invokevirtual 152, 3) := by decide +kernel
theorem dX8_knock_145 : decode cX8_knock 145 = .ok (.aload_n 3, 1) := by decide +kernel
theorem dX8_knock_146 : decode cX8_knock 146 = .ok (.iconst 0, 1) := by decide +kernel
theorem dX8_knock_147 : decode cX8_knock 147 = .ok (.iaload, 1) := by decide +kernel
theorem dX8_knock_148 : decode cX8_knock 148 = .ok (.ireturn, 1) := by decide +kernel
theorem dX8_ofSectionNow_0 : decode cX8_ofSectionNow 0 = .ok (.aload_n 0, 1) := by decide +kernel
theorem dX8_ofSectionNow_1 : decode cX8_ofSectionNow 1 = .ok (.getfield 21, 3) := by decide +kernel
theorem dX8_ofSectionNow_4 : decode cX8_ofSectionNow 4 = .ok (.iload_n 1, 1) := by decide +kernel
theorem dX8_ofSectionNow_5 : decode cX8_ofSectionNow 5 = .ok (.invokevirtual 55, 3) := by decide +kernel
theorem dX8_ofSectionNow_8 : decode cX8_ofSectionNow 8 = .ok (.checkcast 67, 3) := by decide +kernel
theorem dX8_ofSectionNow_11 : decode cX8_ofSectionNow 11 = .ok (.astore_n 3, 1) := by decide +kernel
theorem dX8_ofSectionNow_12 : decode cX8_ofSectionNow 12 = .ok (.bipush 6, 2) := by decide +kernel
theorem dX8_ofSectionNow_14 : decode cX8_ofSectionNow 14 = .ok (.newarray .int, 2) := by decide +kernel
theorem dX8_ofSectionNow_16 : decode cX8_ofSectionNow 16 = .ok (.dup, 1) := by decide +kernel
theorem dX8_ofSectionNow_17 : decode cX8_ofSectionNow 17 = .ok (.iconst 0, 1) := by decide +kernel
theorem dX8_ofSectionNow_18 : decode cX8_ofSectionNow 18 = .ok (.aload_n 3, 1) := by decide +kernel
theorem dX8_ofSectionNow_19 : decode cX8_ofSectionNow 19 = .ok (.getfield 256, 3) := by decide +kernel
theorem dX8_ofSectionNow_22 : decode cX8_ofSectionNow 22 = .ok (.iastore, 1) := by decide +kernel
theorem dX8_ofSectionNow_23 : decode cX8_ofSectionNow 23 = .ok (.dup, 1) := by decide +kernel
theorem dX8_ofSectionNow_24 : decode cX8_ofSectionNow 24 = .ok (.iconst 1, 1) := by decide +kernel
theorem dX8_ofSectionNow_25 : decode cX8_ofSectionNow 25 = .ok (.aload_n 3, 1) := by decide +kernel
theorem dX8_ofSectionNow_26 : decode cX8_ofSectionNow 26 = .ok (.getfield 259, 3) := by decide +kernel
theorem dX8_ofSectionNow_29 : decode cX8_ofSectionNow 29 = .ok (.iastore, 1) := by decide +kernel
theorem dX8_ofSectionNow_30 : decode cX8_ofSectionNow 30 = .ok (.dup, 1) := by decide +kernel
theorem dX8_ofSectionNow_31 : decode cX8_ofSectionNow 31 = .ok (.iconst 2, 1) := by decide +kernel
theorem dX8_ofSectionNow_32 : decode cX8_ofSectionNow 32 = .ok (.aload_n 3, 1) := by decide +kernel
theorem dX8_ofSectionNow_33 : decode cX8_ofSectionNow 33 = .ok (.getfield 262, 3) := by decide +kernel
theorem dX8_ofSectionNow_36 : decode cX8_ofSectionNow 36 = .ok (.iastore, 1) := by decide +kernel
theorem dX8_ofSectionNow_37 : decode cX8_ofSectionNow 37 = .ok (.dup, 1) := by decide +kernel
theorem dX8_ofSectionNow_38 : decode cX8_ofSectionNow 38 = .ok (.iconst 3, 1) := by decide +kernel
theorem dX8_ofSectionNow_39 : decode cX8_ofSectionNow 39 = .ok (.aload_n 3, 1) := by decide +kernel
theorem dX8_ofSectionNow_40 : decode cX8_ofSectionNow 40 = .ok (.getfield 265, 3) := by decide +kernel
theorem dX8_ofSectionNow_43 : decode cX8_ofSectionNow 43 = .ok (.iastore, 1) := by decide +kernel
theorem dX8_ofSectionNow_44 : decode cX8_ofSectionNow 44 = .ok (.dup, 1) := by decide +kernel
theorem dX8_ofSectionNow_45 : decode cX8_ofSectionNow 45 = .ok (.iconst 4, 1) := by decide +kernel
theorem dX8_ofSectionNow_46 : decode cX8_ofSectionNow 46 = .ok (.aload_n 3, 1) := by decide +kernel
theorem dX8_ofSectionNow_47 : decode cX8_ofSectionNow 47 = .ok (.getfield 107, 3) := by decide +kernel
theorem dX8_ofSectionNow_50 : decode cX8_ofSectionNow 50 = .ok (.iastore, 1) := by decide +kernel
theorem dX8_ofSectionNow_51 : decode cX8_ofSectionNow 51 = .ok (.dup, 1) := by decide +kernel
theorem dX8_ofSectionNow_52 : decode cX8_ofSectionNow 52 = .ok (.iconst 5, 1) := by decide +kernel
theorem dX8_ofSectionNow_53 : decode cX8_ofSectionNow 53 = .ok (.aload_n 3, 1) := by decide +kernel
theorem dX8_ofSectionNow_54 : decode cX8_ofSectionNow 54 = .ok (.getfield 110, 3) := by decide +kernel
theorem dX8_ofSectionNow_57 : decode cX8_ofSectionNow 57 = .ok (.iastore, 1) := by decide +kernel
theorem dX8_ofSectionNow_58 : decode cX8_ofSectionNow 58 = .ok (.astore 4, 2) := by decide +kernel
theorem dX8_ofSectionNow_60 : decode cX8_ofSectionNow 60 = .ok (.iload_n 2, 1) := by decide +kernel
theorem dX8_ofSectionNow_61 : decode cX8_ofSectionNow 61 = .ok (.bipush 6, 2) := by decide +kernel
theorem dX8_ofSectionNow_63 : decode cX8_ofSectionNow 63 = .ok (.if_icmp .ge 10, 3) := by decide +kernel
theorem dX8_ofSectionNow_66 : decode cX8_ofSectionNow 66 = .ok (.aload 4, 2) := by decide +kernel
theorem dX8_ofSectionNow_68 : decode cX8_ofSectionNow 68 = .ok (.iload_n 2, 1) := by decide +kernel
theorem dX8_ofSectionNow_69 : decode cX8_ofSectionNow 69 = .ok (.iaload, 1) := by decide +kernel
theorem dX8_ofSectionNow_70 : decode cX8_ofSectionNow 70 = .ok (.goto 12, 3) := by decide +kernel
theorem dX8_ofSectionNow_73 : decode cX8_ofSectionNow 73 = .ok (.aload_n 3, 1) := by decide +kernel
theorem dX8_ofSectionNow_74 : decode cX8_ofSectionNow 74 = .ok (.getfield 118, 3) := by decide +kernel
theorem dX8_ofSectionNow_77 : decode cX8_ofSectionNow 77 = .ok (.iload_n 2, 1) := by decide +kernel
theorem dX8_ofSectionNow_78 : decode cX8_ofSectionNow 78 = .ok (.bipush 6, 2) := by decide +kernel
theorem dX8_ofSectionNow_80 : decode cX8_ofSectionNow 80 = .ok (.isub, 1) := by decide +kernel
theorem dX8_ofSectionNow_81 : decode cX8_ofSectionNow 81 = .ok (.iaload, 1) := by decide +kernel
theorem dX8_ofSectionNow_82 : decode cX8_ofSectionNow 82 = .ok (.ireturn, 1) := by decide +kernel
theorem dX8_ofSection_0 : decode cX8_ofSection 0 = .ok (.aload_n 0, 1) := by decide +kernel
theorem dX8_ofSection_1 : decode cX8_ofSection 1 = .ok (.aload_n 0, 1) := by decide +kernel
theorem dX8_ofSection_2 : decode cX8_ofSection 2 = .ok (.iload_n 1, 1) := by decide +kernel
theorem dX8_ofSection_3 : decode cX8_ofSection 3 = .ok (.invokevirtual 100, 3) := by decide +kernel
theorem dX8_ofSection_6 : decode cX8_ofSection 6 = .ok (.iconst 1, 1) := by decide +kernel
theorem dX8_ofSection_7 : decode cX8_ofSection 7 = .ok (.invokevirtual 64, 3) := by decide +kernel
theorem dX8_ofSection_10 : decode cX8_ofSection 10 = .ok (.ifCond .ne 26, 3) := by decide +kernel
theorem dX8_ofSection_13 : decode cX8_ofSection 13 = .ok (.aload_n 0, 1) := by decide +kernel
theorem dX8_ofSection_14 : decode cX8_ofSection 14 = .ok (.iload_n 2, 1) := by decide +kernel
theorem dX8_ofSection_15 : decode cX8_ofSection 15 = .ok (.iconst 0, 1) := by decide +kernel
theorem dX8_ofSection_16 : decode cX8_ofSection 16 = .ok (.bipush 10, 2) := by decide +kernel
theorem dX8_ofSection_18 : decode cX8_ofSection 18 = .ok (.invokestatic 51, 3) := by decide +kernel
theorem dX8_ofSection_21 : decode cX8_ofSection 21 = .ok (.ifCond .ne 7, 3) := by decide +kernel
theorem dX8_ofSection_24 : decode cX8_ofSection 24 = .ok (.iconst 1, 1) := by decide +kernel
theorem dX8_ofSection_25 : decode cX8_ofSection 25 = .ok (.goto 4, 3) := by decide +kernel
theorem dX8_ofSection_28 : decode cX8_ofSection 28 = .ok (.iconst 0, 1) := by decide +kernel
theorem dX8_ofSection_29 : decode cX8_ofSection 29 = .ok (.iconst 2, 1) := by decide +kernel
theorem dX8_ofSection_30 : decode cX8_ofSection 30 = .ok (.invokevirtual 43, 3) := by decide +kernel
theorem dX8_ofSection_33 : decode cX8_ofSection 33 = .ok (.ifCond .eq 7, 3) := by decide +kernel
theorem dX8_ofSection_36 : decode cX8_ofSection 36 = .ok (.iconst 0, 1) := by decide +kernel
theorem dX8_ofSection_37 : decode cX8_ofSection 37 = .ok (.goto 9, 3) := by decide +kernel
theorem dX8_ofSection_40 : decode cX8_ofSection 40 = .ok (.aload_n 0, 1) := by decide +kernel
theorem dX8_ofSection_41 : decode cX8_ofSection 41 = .ok (.iload_n 1, 1) := by decide +kernel
theorem dX8_ofSection_42 : decode cX8_ofSection 42 = .ok (.iload_n 2, 1) := by decide +kernel
theorem dX8_ofSection_43 : decode cX8_ofSection 43 = .ok (.invokevirtual 268, 3) := by decide +kernel
theorem dX8_ofSection_46 : decode cX8_ofSection 46 = .ok (.ireturn, 1) := by decide +kernel
theorem dX8_ofLotNow_0 : decode cX8_ofLotNow 0 = .ok (.aload_n 0, 1) := by decide +kernel
theorem dX8_ofLotNow_1 : decode cX8_ofLotNow 1 = .ok (.getfield 25, 3) := by decide +kernel
theorem dX8_ofLotNow_4 : decode cX8_ofLotNow 4 = .ok (.iload_n 1, 1) := by decide +kernel
theorem dX8_ofLotNow_5 : decode cX8_ofLotNow 5 = .ok (.invokevirtual 55, 3) := by decide +kernel
theorem dX8_ofLotNow_8 : decode cX8_ofLotNow 8 = .ok (.checkcast 59, 3) := by decide +kernel
theorem dX8_ofLotNow_11 : decode cX8_ofLotNow 11 = .ok (.astore_n 3, 1) := by decide +kernel
theorem dX8_ofLotNow_12 : decode cX8_ofLotNow 12 = .ok (.bipush 14, 2) := by decide +kernel
theorem dX8_ofLotNow_14 : decode cX8_ofLotNow 14 = .ok (.newarray .int, 2) := by decide +kernel
theorem dX8_ofLotNow_16 : decode cX8_ofLotNow 16 = .ok (.dup, 1) := by decide +kernel
theorem dX8_ofLotNow_17 : decode cX8_ofLotNow 17 = .ok (.iconst 0, 1) := by decide +kernel
theorem dX8_ofLotNow_18 : decode cX8_ofLotNow 18 = .ok (.aload_n 3, 1) := by decide +kernel
theorem dX8_ofLotNow_19 : decode cX8_ofLotNow 19 = .ok (.getfield 61, 3) := by decide +kernel
theorem dX8_ofLotNow_22 : decode cX8_ofLotNow 22 = .ok (.iastore, 1) := by decide +kernel
theorem dX8_ofLotNow_23 : decode cX8_ofLotNow 23 = .ok (.dup, 1) := by decide +kernel
theorem dX8_ofLotNow_24 : decode cX8_ofLotNow 24 = .ok (.iconst 1, 1) := by decide +kernel
theorem dX8_ofLotNow_25 : decode cX8_ofLotNow 25 = .ok (.aload_n 3, 1) := by decide +kernel
theorem dX8_ofLotNow_26 : decode cX8_ofLotNow 26 = .ok (.invokevirtual 127, 3) := by decide +kernel
theorem dX8_ofLotNow_29 : decode cX8_ofLotNow 29 = .ok (.iastore, 1) := by decide +kernel
theorem dX8_ofLotNow_30 : decode cX8_ofLotNow 30 = .ok (.dup, 1) := by decide +kernel
theorem dX8_ofLotNow_31 : decode cX8_ofLotNow 31 = .ok (.iconst 2, 1) := by decide +kernel
theorem dX8_ofLotNow_32 : decode cX8_ofLotNow 32 = .ok (.aload_n 3, 1) := by decide +kernel
theorem dX8_ofLotNow_33 : decode cX8_ofLotNow 33 = .ok (.getfield 124, 3) := by decide +kernel
theorem dX8_ofLotNow_36 : decode cX8_ofLotNow 36 = .ok (.iastore, 1) := by decide +kernel
theorem dX8_ofLotNow_37 : decode cX8_ofLotNow 37 = .ok (.dup, 1) := by decide +kernel
theorem dX8_ofLotNow_38 : decode cX8_ofLotNow 38 = .ok (.iconst 3, 1) := by decide +kernel
theorem dX8_ofLotNow_39 : decode cX8_ofLotNow 39 = .ok (.aload_n 3, 1) := by decide +kernel
theorem dX8_ofLotNow_40 : decode cX8_ofLotNow 40 = .ok (.getfield 130, 3) := by decide +kernel
theorem dX8_ofLotNow_43 : decode cX8_ofLotNow 43 = .ok (.iastore, 1) := by decide +kernel
theorem dX8_ofLotNow_44 : decode cX8_ofLotNow 44 = .ok (.dup, 1) := by decide +kernel
theorem dX8_ofLotNow_45 : decode cX8_ofLotNow 45 = .ok (.iconst 4, 1) := by decide +kernel
theorem dX8_ofLotNow_46 : decode cX8_ofLotNow 46 = .ok (.aload_n 3, 1) := by decide +kernel
theorem dX8_ofLotNow_47 : decode cX8_ofLotNow 47 = .ok (.getfield 146, 3) := by decide +kernel
theorem dX8_ofLotNow_50 : decode cX8_ofLotNow 50 = .ok (.iastore, 1) := by decide +kernel
theorem dX8_ofLotNow_51 : decode cX8_ofLotNow 51 = .ok (.dup, 1) := by decide +kernel
theorem dX8_ofLotNow_52 : decode cX8_ofLotNow 52 = .ok (.iconst 5, 1) := by decide +kernel
theorem dX8_ofLotNow_53 : decode cX8_ofLotNow 53 = .ok (.aload_n 3, 1) := by decide +kernel
theorem dX8_ofLotNow_54 : decode cX8_ofLotNow 54 = .ok (.getfield 162, 3) := by decide +kernel
theorem dX8_ofLotNow_57 : decode cX8_ofLotNow 57 = .ok (.iastore, 1) := by decide +kernel
theorem dX8_ofLotNow_58 : decode cX8_ofLotNow 58 = .ok (.dup, 1) := by decide +kernel
theorem dX8_ofLotNow_59 : decode cX8_ofLotNow 59 = .ok (.bipush 6, 2) := by decide +kernel
theorem dX8_ofLotNow_61 : decode cX8_ofLotNow 61 = .ok (.aload_n 3, 1) := by decide +kernel
theorem dX8_ofLotNow_62 : decode cX8_ofLotNow 62 = .ok (.getfield 165, 3) := by decide +kernel
theorem dX8_ofLotNow_65 : decode cX8_ofLotNow 65 = .ok (.iastore, 1) := by decide +kernel
theorem dX8_ofLotNow_66 : decode cX8_ofLotNow 66 = .ok (.dup, 1) := by decide +kernel
theorem dX8_ofLotNow_67 : decode cX8_ofLotNow 67 = .ok (.bipush 7, 2) := by decide +kernel
theorem dX8_ofLotNow_69 : decode cX8_ofLotNow 69 = .ok (.aload_n 3, 1) := by decide +kernel
theorem dX8_ofLotNow_70 : decode cX8_ofLotNow 70 = .ok (.getfield 271, 3) := by decide +kernel
theorem dX8_ofLotNow_73 : decode cX8_ofLotNow 73 = .ok (.iastore, 1) := by decide +kernel
theorem dX8_ofLotNow_74 : decode cX8_ofLotNow 74 = .ok (.dup, 1) := by decide +kernel
theorem dX8_ofLotNow_75 : decode cX8_ofLotNow 75 = .ok (.bipush 8, 2) := by decide +kernel
theorem dX8_ofLotNow_77 : decode cX8_ofLotNow 77 = .ok (.aload_n 3, 1) := by decide +kernel
theorem dX8_ofLotNow_78 : decode cX8_ofLotNow 78 = .ok (.getfield 274, 3) := by decide +kernel
theorem dX8_ofLotNow_81 : decode cX8_ofLotNow 81 = .ok (.iastore, 1) := by decide +kernel
theorem dX8_ofLotNow_82 : decode cX8_ofLotNow 82 = .ok (.dup, 1) := by decide +kernel
theorem dX8_ofLotNow_83 : decode cX8_ofLotNow 83 = .ok (.bipush 9, 2) := by decide +kernel
theorem dX8_ofLotNow_85 : decode cX8_ofLotNow 85 = .ok (.aload_n 3, 1) := by decide +kernel
theorem dX8_ofLotNow_86 : decode cX8_ofLotNow 86 = .ok (.getfield 174, 3) := by decide +kernel
theorem dX8_ofLotNow_89 : decode cX8_ofLotNow 89 = .ok (.iastore, 1) := by decide +kernel
theorem dX8_ofLotNow_90 : decode cX8_ofLotNow 90 = .ok (.dup, 1) := by decide +kernel
theorem dX8_ofLotNow_91 : decode cX8_ofLotNow 91 = .ok (.bipush 10, 2) := by decide +kernel
theorem dX8_ofLotNow_93 : decode cX8_ofLotNow 93 = .ok (.aload_n 3, 1) := by decide +kernel
theorem dX8_ofLotNow_94 : decode cX8_ofLotNow 94 = .ok (.getfield 149, 3) := by decide +kernel
theorem dX8_ofLotNow_97 : decode cX8_ofLotNow 97 = .ok (.ifCond .eq 7, 3) := by decide +kernel
theorem dX8_ofLotNow_100 : decode cX8_ofLotNow 100 = .ok (.iconst 1, 1) := by decide +kernel
theorem dX8_ofLotNow_101 : decode cX8_ofLotNow 101 = .ok (.goto 4, 3) := by decide +kernel
theorem dX8_ofLotNow_104 : decode cX8_ofLotNow 104 = .ok (.iconst 0, 1) := by decide +kernel
theorem dX8_ofLotNow_105 : decode cX8_ofLotNow 105 = .ok (.iastore, 1) := by decide +kernel
theorem dX8_ofLotNow_106 : decode cX8_ofLotNow 106 = .ok (.dup, 1) := by decide +kernel
theorem dX8_ofLotNow_107 : decode cX8_ofLotNow 107 = .ok (.bipush 11, 2) := by decide +kernel
theorem dX8_ofLotNow_109 : decode cX8_ofLotNow 109 = .ok (.aload_n 3, 1) := by decide +kernel
theorem dX8_ofLotNow_110 : decode cX8_ofLotNow 110 = .ok (.getfield 133, 3) := by decide +kernel
theorem dX8_ofLotNow_113 : decode cX8_ofLotNow 113 = .ok (.ifCond .eq 7, 3) := by decide +kernel
theorem dX8_ofLotNow_116 : decode cX8_ofLotNow 116 = .ok (.iconst 1, 1) := by decide +kernel
theorem dX8_ofLotNow_117 : decode cX8_ofLotNow 117 = .ok (.goto 4, 3) := by decide +kernel
theorem dX8_ofLotNow_120 : decode cX8_ofLotNow 120 = .ok (.iconst 0, 1) := by decide +kernel
theorem dX8_ofLotNow_121 : decode cX8_ofLotNow 121 = .ok (.iastore, 1) := by decide +kernel
theorem dX8_ofLotNow_122 : decode cX8_ofLotNow 122 = .ok (.dup, 1) := by decide +kernel
theorem dX8_ofLotNow_123 : decode cX8_ofLotNow 123 = .ok (.bipush 12, 2) := by decide +kernel
theorem dX8_ofLotNow_125 : decode cX8_ofLotNow 125 = .ok (.aload_n 3, 1) := by decide +kernel
theorem dX8_ofLotNow_126 : decode cX8_ofLotNow 126 = .ok (.getfield 177, 3) := by decide +kernel
theorem dX8_ofLotNow_129 : decode cX8_ofLotNow 129 = .ok (.ifnull 7, 3) := by decide +kernel
theorem dX8_ofLotNow_132 : decode cX8_ofLotNow 132 = .ok (.iconst 1, 1) := by decide +kernel
theorem dX8_ofLotNow_133 : decode cX8_ofLotNow 133 = .ok (.goto 4, 3) := by decide +kernel
theorem dX8_ofLotNow_136 : decode cX8_ofLotNow 136 = .ok (.iconst 0, 1) := by decide +kernel
theorem dX8_ofLotNow_137 : decode cX8_ofLotNow 137 = .ok (.iastore, 1) := by decide +kernel
theorem dX8_ofLotNow_138 : decode cX8_ofLotNow 138 = .ok (.dup, 1) := by decide +kernel
theorem dX8_ofLotNow_139 : decode cX8_ofLotNow 139 = .ok (.bipush 13, 2) := by decide +kernel
theorem dX8_ofLotNow_141 : decode cX8_ofLotNow 141 = .ok (.aload_n 3, 1) := by decide +kernel
theorem dX8_ofLotNow_142 : decode cX8_ofLotNow 142 = .ok (.getfield 230, 3) := by decide +kernel
theorem dX8_ofLotNow_145 : decode cX8_ofLotNow 145 = .ok (.iastore, 1) := by decide +kernel
theorem dX8_ofLotNow_146 : decode cX8_ofLotNow 146 = .ok (.astore 4, 2) := by decide +kernel
theorem dX8_ofLotNow_148 : decode cX8_ofLotNow 148 = .ok (.iload_n 2, 1) := by decide +kernel
theorem dX8_ofLotNow_149 : decode cX8_ofLotNow 149 = .ok (.bipush 14, 2) := by decide +kernel
theorem dX8_ofLotNow_151 : decode cX8_ofLotNow 151 = .ok (.if_icmp .ge 10, 3) := by decide +kernel
theorem dX8_ofLotNow_154 : decode cX8_ofLotNow 154 = .ok (.aload 4, 2) := by decide +kernel
theorem dX8_ofLotNow_156 : decode cX8_ofLotNow 156 = .ok (.iload_n 2, 1) := by decide +kernel
theorem dX8_ofLotNow_157 : decode cX8_ofLotNow 157 = .ok (.iaload, 1) := by decide +kernel
theorem dX8_ofLotNow_158 : decode cX8_ofLotNow 158 = .ok (.goto 12, 3) := by decide +kernel
theorem dX8_ofLotNow_161 : decode cX8_ofLotNow 161 = .ok (.aload_n 3, 1) := by decide +kernel
theorem dX8_ofLotNow_162 : decode cX8_ofLotNow 162 = .ok (.getfield 121, 3) := by decide +kernel
theorem dX8_ofLotNow_165 : decode cX8_ofLotNow 165 = .ok (.iload_n 2, 1) := by decide +kernel
theorem dX8_ofLotNow_166 : decode cX8_ofLotNow 166 = .ok (.bipush 14, 2) := by decide +kernel
theorem dX8_ofLotNow_168 : decode cX8_ofLotNow 168 = .ok (.isub, 1) := by decide +kernel
theorem dX8_ofLotNow_169 : decode cX8_ofLotNow 169 = .ok (.iaload, 1) := by decide +kernel
theorem dX8_ofLotNow_170 : decode cX8_ofLotNow 170 = .ok (.ireturn, 1) := by decide +kernel
theorem dX8_ofLot_0 : decode cX8_ofLot 0 = .ok (.aload_n 0, 1) := by decide +kernel
theorem dX8_ofLot_1 : decode cX8_ofLot 1 = .ok (.aload_n 0, 1) := by decide +kernel
theorem dX8_ofLot_2 : decode cX8_ofLot 2 = .ok (.iload_n 1, 1) := by decide +kernel
theorem dX8_ofLot_3 : decode cX8_ofLot 3 = .ok (.invokevirtual 143, 3) := by decide +kernel
theorem dX8_ofLot_6 : decode cX8_ofLot 6 = .ok (.iconst 1, 1) := by decide +kernel
theorem dX8_ofLot_7 : decode cX8_ofLot 7 = .ok (.invokevirtual 64, 3) := by decide +kernel
theorem dX8_ofLot_10 : decode cX8_ofLot 10 = .ok (.ifCond .ne 26, 3) := by decide +kernel
theorem dX8_ofLot_13 : decode cX8_ofLot 13 = .ok (.aload_n 0, 1) := by decide +kernel
theorem dX8_ofLot_14 : decode cX8_ofLot 14 = .ok (.iload_n 2, 1) := by decide +kernel
theorem dX8_ofLot_15 : decode cX8_ofLot 15 = .ok (.iconst 0, 1) := by decide +kernel
theorem dX8_ofLot_16 : decode cX8_ofLot 16 = .ok (.bipush 17, 2) := by decide +kernel
theorem dX8_ofLot_18 : decode cX8_ofLot 18 = .ok (.invokestatic 51, 3) := by decide +kernel
theorem dX8_ofLot_21 : decode cX8_ofLot 21 = .ok (.ifCond .ne 7, 3) := by decide +kernel
theorem dX8_ofLot_24 : decode cX8_ofLot 24 = .ok (.iconst 1, 1) := by decide +kernel
theorem dX8_ofLot_25 : decode cX8_ofLot 25 = .ok (.goto 4, 3) := by decide +kernel
theorem dX8_ofLot_28 : decode cX8_ofLot 28 = .ok (.iconst 0, 1) := by decide +kernel
theorem dX8_ofLot_29 : decode cX8_ofLot 29 = .ok (.iconst 2, 1) := by decide +kernel
theorem dX8_ofLot_30 : decode cX8_ofLot 30 = .ok (.invokevirtual 43, 3) := by decide +kernel
theorem dX8_ofLot_33 : decode cX8_ofLot 33 = .ok (.ifCond .eq 7, 3) := by decide +kernel
theorem dX8_ofLot_36 : decode cX8_ofLot 36 = .ok (.iconst 0, 1) := by decide +kernel
theorem dX8_ofLot_37 : decode cX8_ofLot 37 = .ok (.goto 9, 3) := by decide +kernel
theorem dX8_ofLot_40 : decode cX8_ofLot 40 = .ok (.aload_n 0, 1) := by decide +kernel
theorem dX8_ofLot_41 : decode cX8_ofLot 41 = .ok (.iload_n 1, 1) := by decide +kernel
theorem dX8_ofLot_42 : decode cX8_ofLot 42 = .ok (.iload_n 2, 1) := by decide +kernel
theorem dX8_ofLot_43 : decode cX8_ofLot 43 = .ok (.invokevirtual 277, 3) := by decide +kernel
theorem dX8_ofLot_46 : decode cX8_ofLot 46 = .ok (.ireturn, 1) := by decide +kernel
theorem dX8_isNote_0 : decode cX8_isNote 0 = .ok (.aload_n 0, 1) := by decide +kernel
theorem dX8_isNote_1 : decode cX8_isNote 1 = .ok (.aload_n 0, 1) := by decide +kernel
theorem dX8_isNote_2 : decode cX8_isNote 2 = .ok (.iload_n 1, 1) := by decide +kernel
theorem dX8_isNote_3 : decode cX8_isNote 3 = .ok (.invokevirtual 143, 3) := by decide +kernel
theorem dX8_isNote_6 : decode cX8_isNote 6 = .ok (.iconst 1, 1) := by decide +kernel
theorem dX8_isNote_7 : decode cX8_isNote 7 = .ok (.invokevirtual 64, 3) := by decide +kernel
theorem dX8_isNote_10 : decode cX8_isNote 10 = .ok (.ifCond .ne 51, 3) := by decide +kernel
theorem dX8_isNote_13 : decode cX8_isNote 13 = .ok (.aload_n 0, 1) := by decide +kernel
theorem dX8_isNote_14 : decode cX8_isNote 14 = .ok (.iload_n 2, 1) := by decide +kernel
theorem dX8_isNote_15 : decode cX8_isNote 15 = .ok (.iconst 0, 1) := by decide +kernel
theorem dX8_isNote_16 : decode cX8_isNote 16 = .ok (.iconst 2, 1) := by decide +kernel
theorem dX8_isNote_17 : decode cX8_isNote 17 = .ok (.invokestatic 51, 3) := by decide +kernel
theorem dX8_isNote_20 : decode cX8_isNote 20 = .ok (.ifCond .ne 7, 3) := by decide +kernel
theorem dX8_isNote_23 : decode cX8_isNote 23 = .ok (.iconst 1, 1) := by decide +kernel
theorem dX8_isNote_24 : decode cX8_isNote 24 = .ok (.goto 4, 3) := by decide +kernel
theorem dX8_isNote_27 : decode cX8_isNote 27 = .ok (.iconst 0, 1) := by decide +kernel
theorem dX8_isNote_28 : decode cX8_isNote 28 = .ok (.iconst 2, 1) := by decide +kernel
theorem dX8_isNote_29 : decode cX8_isNote 29 = .ok (.invokevirtual 43, 3) := by decide +kernel
theorem dX8_isNote_32 : decode cX8_isNote 32 = .ok (.ifCond .ne 29, 3) := by decide +kernel
theorem dX8_isNote_35 : decode cX8_isNote 35 = .ok (.aload_n 0, 1) := by decide +kernel
theorem dX8_isNote_36 : decode cX8_isNote 36 = .ok (.aload_n 0, 1) := by decide +kernel
theorem dX8_isNote_37 : decode cX8_isNote 37 = .ok (.iload_n 1, 1) := by decide +kernel
theorem dX8_isNote_38 : decode cX8_isNote 38 = .ok (.iconst 2, 1) := by decide +kernel
theorem dX8_isNote_39 : decode cX8_isNote 39 = .ok (.invokevirtual 155, 3) := by decide +kernel
theorem dX8_isNote_42 : decode cX8_isNote 42 = .ok (.ifCond .ne 7, 3) := by decide +kernel
theorem dX8_isNote_45 : decode cX8_isNote 45 = .ok (.iconst 1, 1) := by decide +kernel
theorem dX8_isNote_46 : decode cX8_isNote 46 = .ok (.goto 4, 3) := by decide +kernel
theorem dX8_isNote_49 : decode cX8_isNote 49 = .ok (.iconst 0, 1) := by decide +kernel
theorem dX8_isNote_50 : decode cX8_isNote 50 = .ok (.iconst 3, 1) := by decide +kernel
theorem dX8_isNote_51 : decode cX8_isNote 51 = .ok (.invokevirtual 43, 3) := by decide +kernel
theorem dX8_isNote_54 : decode cX8_isNote 54 = .ok (.ifCond .ne 7, 3) := by decide +kernel
theorem dX8_isNote_57 : decode cX8_isNote 57 = .ok (.iconst 1, 1) := by decide +kernel
theorem dX8_isNote_58 : decode cX8_isNote 58 = .ok (.goto 4, 3) := by decide +kernel
theorem dX8_isNote_61 : decode cX8_isNote 61 = .ok (.iconst 0, 1) := by decide +kernel
theorem dX8_isNote_62 : decode cX8_isNote 62 = .ok (.ireturn, 1) := by decide +kernel
theorem dX8_note_0 : decode cX8_note 0 = .ok (.aload_n 0, 1) := by decide +kernel
theorem dX8_note_1 : decode cX8_note 1 = .ok (.iload_n 1, 1) := by decide +kernel
theorem dX8_note_2 : decode cX8_note 2 = .ok (.iload_n 2, 1) := by decide +kernel
theorem dX8_note_3 : decode cX8_note 3 = .ok (.invokevirtual 280, 3) := by decide +kernel
theorem dX8_note_6 : decode cX8_note 6 = .ok (.ifCond .eq 21, 3) := by decide +kernel
theorem dX8_note_9 : decode cX8_note 9 = .ok (.aload_n 0, 1) := by decide +kernel
theorem dX8_note_10 : decode cX8_note 10 = .ok (.getfield 25, 3) := by decide +kernel
theorem dX8_note_13 : decode cX8_note 13 = .ok (.iload_n 1, 1) := by decide +kernel
theorem dX8_note_14 : decode cX8_note 14 = .ok (.invokevirtual 55, 3) := by decide +kernel
theorem dX8_note_17 : decode cX8_note 17 = .ok (.checkcast 59, 3) := by decide +kernel
theorem dX8_note_20 : decode cX8_note 20 = .ok (.iload_n 2, 1) := by decide +kernel
theorem dX8_note_21 : decode cX8_note 21 = .ok (.invokevirtual 202, 3) := by decide +kernel
theorem dX8_note_24 : decode cX8_note 24 = .ok (.goto 4, 3) := by decide +kernel
theorem dX8_note_27 : decode cX8_note 27 = .ok (.iconst 0, 1) := by decide +kernel
theorem dX8_note_28 : decode cX8_note 28 = .ok (.ireturn, 1) := by decide +kernel
theorem dX8_tasteNow_0 : decode cX8_tasteNow 0 = .ok (.iconst 0, 1) := by decide +kernel
theorem dX8_tasteNow_1 : decode cX8_tasteNow 1 = .ok (.istore_n 3, 1) := by decide +kernel
theorem dX8_tasteNow_2 : decode cX8_tasteNow 2 = .ok (.aload_n 0, 1) := by decide +kernel
theorem dX8_tasteNow_3 : decode cX8_tasteNow 3 = .ok (.getfield 31, 3) := by decide +kernel
theorem dX8_tasteNow_6 : decode cX8_tasteNow 6 = .ok (.astore 4, 2) := by decide +kernel
theorem dX8_tasteNow_8 : decode cX8_tasteNow 8 = .ok (.aload 4, 2) := by decide +kernel
theorem dX8_tasteNow_10 : decode cX8_tasteNow 10 = .ok (.arraylength, 1) := by decide +kernel
theorem dX8_tasteNow_11 : decode cX8_tasteNow 11 = .ok (.istore 5, 2) := by decide +kernel
theorem dX8_tasteNow_13 : decode cX8_tasteNow 13 = .ok (.iconst 0, 1) := by decide +kernel
theorem dX8_tasteNow_14 : decode cX8_tasteNow 14 = .ok (.istore 6, 2) := by decide +kernel
theorem dX8_tasteNow_16 : decode cX8_tasteNow 16 = .ok (.iload 6, 2) := by decide +kernel
theorem dX8_tasteNow_18 : decode cX8_tasteNow 18 = .ok (.iload 5, 2) := by decide +kernel
theorem dX8_tasteNow_20 : decode cX8_tasteNow 20 = .ok (.if_icmp .ge 45, 3) := by decide +kernel
theorem dX8_tasteNow_23 : decode cX8_tasteNow 23 = .ok (.aload 4, 2) := by decide +kernel
theorem dX8_tasteNow_25 : decode cX8_tasteNow 25 = .ok (.iload 6, 2) := by decide +kernel
theorem dX8_tasteNow_27 : decode cX8_tasteNow 27 = .ok (.aaload, 1) := by decide +kernel
theorem dX8_tasteNow_28 : decode cX8_tasteNow 28 = .ok (.astore 7, 2) := by decide +kernel
theorem dX8_tasteNow_30 : decode cX8_tasteNow 30 = .ok (.iload_n 3, 1) := by decide +kernel
theorem dX8_tasteNow_31 : decode cX8_tasteNow 31 = .ok (.aload 7, 2) := by decide +kernel
theorem dX8_tasteNow_33 : decode cX8_tasteNow 33 = .ok (.aload_n 0, 1) := by decide +kernel
theorem dX8_tasteNow_34 : decode cX8_tasteNow 34 = .ok (.getfield 25, 3) := by decide +kernel
theorem dX8_tasteNow_37 : decode cX8_tasteNow 37 = .ok (.iload_n 1, 1) := by decide +kernel
theorem dX8_tasteNow_38 : decode cX8_tasteNow 38 = .ok (.invokevirtual 55, 3) := by decide +kernel
theorem dX8_tasteNow_41 : decode cX8_tasteNow 41 = .ok (.checkcast 59, 3) := by decide +kernel
theorem dX8_tasteNow_44 : decode cX8_tasteNow 44 = .ok (.iload_n 2, 1) := by decide +kernel
theorem dX8_tasteNow_45 : decode cX8_tasteNow 45 = .ok (.invokevirtual 202, 3) := by decide +kernel
theorem dX8_tasteNow_48 : decode cX8_tasteNow 48 = .ok (.invokevirtual 218, 3) := by decide +kernel
theorem dX8_tasteNow_51 : decode cX8_tasteNow 51 = .ok (.aload 7, 2) := by decide +kernel
theorem dX8_tasteNow_53 : decode cX8_tasteNow 53 = .ok (.invokevirtual 224, 3) := by decide +kernel
theorem dX8_tasteNow_56 : decode cX8_tasteNow 56 = .ok (.isub, 1) := by decide +kernel
theorem dX8_tasteNow_57 : decode cX8_tasteNow 57 = .ok (.iadd, 1) := by decide +kernel
theorem dX8_tasteNow_58 : decode cX8_tasteNow 58 = .ok (.istore_n 3, 1) := by decide +kernel
theorem dX8_tasteNow_59 : decode cX8_tasteNow 59 = .ok (.iinc 6 1, 3) := by decide +kernel
theorem dX8_tasteNow_62 : decode cX8_tasteNow 62 = .ok (.goto (-46), 3) := by decide +kernel
theorem dX8_tasteNow_65 : decode cX8_tasteNow 65 = .ok (.iload_n 3, 1) := by decide +kernel
theorem dX8_tasteNow_66 : decode cX8_tasteNow 66 = .ok (.iconst 3, 1) := by decide +kernel
theorem dX8_tasteNow_67 : decode cX8_tasteNow 67 = .ok (.idiv, 1) := by decide +kernel
theorem dX8_tasteNow_68 : decode cX8_tasteNow 68 = .ok (.invokestatic 283, 3) := by decide +kernel
theorem dX8_tasteNow_71 : decode cX8_tasteNow 71 = .ok (.ireturn, 1) := by decide +kernel
theorem dX8_taste_0 : decode cX8_taste 0 = .ok (.aload_n 0, 1) := by decide +kernel
theorem dX8_taste_1 : decode cX8_taste 1 = .ok (.iload_n 1, 1) := by decide +kernel
theorem dX8_taste_2 : decode cX8_taste 2 = .ok (.iload_n 2, 1) := by decide +kernel
theorem dX8_taste_3 : decode cX8_taste 3 = .ok (.invokevirtual 280, 3) := by decide +kernel
theorem dX8_taste_6 : decode cX8_taste 6 = .ok (.ifCond .eq 12, 3) := by decide +kernel
theorem dX8_taste_9 : decode cX8_taste 9 = .ok (.aload_n 0, 1) := by decide +kernel
theorem dX8_taste_10 : decode cX8_taste 10 = .ok (.iload_n 1, 1) := by decide +kernel
theorem dX8_taste_11 : decode cX8_taste 11 = .ok (.iload_n 2, 1) := by decide +kernel
theorem dX8_taste_12 : decode cX8_taste 12 = .ok (.invokevirtual 286, 3) := by decide +kernel
theorem dX8_taste_15 : decode cX8_taste 15 = .ok (.goto 4, 3) := by decide +kernel
theorem dX8_taste_18 : decode cX8_taste 18 = .ok (.iconst 0, 1) := by decide +kernel
theorem dX8_taste_19 : decode cX8_taste 19 = .ok (.ireturn, 1) := by decide +kernel
theorem dX8_ofTasterNow_0 : decode cX8_ofTasterNow 0 = .ok (.iload_n 2, 1) := by decide +kernel
theorem dX8_ofTasterNow_1 : decode cX8_ofTasterNow 1 = .ok (.ifCond .ne 15, 3) := by decide +kernel
theorem dX8_ofTasterNow_4 : decode cX8_ofTasterNow 4 = .ok (.aload_n 0, 1) := by decide +kernel
theorem dX8_ofTasterNow_5 : decode cX8_ofTasterNow 5 = .ok (.getfield 31, 3) := by decide +kernel
theorem dX8_ofTasterNow_8 : decode cX8_ofTasterNow 8 = .ok (.iload_n 1, 1) := by decide +kernel
theorem dX8_ofTasterNow_9 : decode cX8_ofTasterNow 9 = .ok (.aaload, 1) := by decide +kernel
theorem dX8_ofTasterNow_10 : decode cX8_ofTasterNow 10 = .ok (.invokevirtual 224, 3) := by decide +kernel
theorem dX8_ofTasterNow_13 : decode cX8_ofTasterNow 13 = .ok (.goto 12, 3) := by decide +kernel
theorem dX8_ofTasterNow_16 : decode cX8_ofTasterNow 16 = .ok (.aload_n 0, 1) := by decide +kernel
theorem dX8_ofTasterNow_17 : decode cX8_ofTasterNow 17 = .ok (.getfield 31, 3) := by decide +kernel
theorem dX8_ofTasterNow_20 : decode cX8_ofTasterNow 20 = .ok (.iload_n 1, 1) := by decide +kernel
theorem dX8_ofTasterNow_21 : decode cX8_ofTasterNow 21 = .ok (.aaload, 1) := by decide +kernel
theorem dX8_ofTasterNow_22 : decode cX8_ofTasterNow 22 = .ok (.getfield 221, 3) := by decide +kernel
theorem dX8_ofTasterNow_25 : decode cX8_ofTasterNow 25 = .ok (.ireturn, 1) := by decide +kernel
theorem dX8_ofTaster_0 : decode cX8_ofTaster 0 = .ok (.aload_n 0, 1) := by decide +kernel
theorem dX8_ofTaster_1 : decode cX8_ofTaster 1 = .ok (.iload_n 1, 1) := by decide +kernel
theorem dX8_ofTaster_2 : decode cX8_ofTaster 2 = .ok (.invokestatic 209, 3) := by decide +kernel
theorem dX8_ofTaster_5 : decode cX8_ofTaster 5 = .ok (.iconst 1, 1) := by decide +kernel
theorem dX8_ofTaster_6 : decode cX8_ofTaster 6 = .ok (.invokevirtual 64, 3) := by decide +kernel
theorem dX8_ofTaster_9 : decode cX8_ofTaster 9 = .ok (.ifCond .ne 25, 3) := by decide +kernel
theorem dX8_ofTaster_12 : decode cX8_ofTaster 12 = .ok (.aload_n 0, 1) := by decide +kernel
theorem dX8_ofTaster_13 : decode cX8_ofTaster 13 = .ok (.iload_n 2, 1) := by decide +kernel
theorem dX8_ofTaster_14 : decode cX8_ofTaster 14 = .ok (.iconst 0, 1) := by decide +kernel
theorem dX8_ofTaster_15 : decode cX8_ofTaster 15 = .ok (.iconst 1, 1) := by decide +kernel
theorem dX8_ofTaster_16 : decode cX8_ofTaster 16 = .ok (.invokestatic 51, 3) := by decide +kernel
theorem dX8_ofTaster_19 : decode cX8_ofTaster 19 = .ok (.ifCond .ne 7, 3) := by decide +kernel
theorem dX8_ofTaster_22 : decode cX8_ofTaster 22 = .ok (.iconst 1, 1) := by decide +kernel
theorem dX8_ofTaster_23 : decode cX8_ofTaster 23 = .ok (.goto 4, 3) := by decide +kernel
theorem dX8_ofTaster_26 : decode cX8_ofTaster 26 = .ok (.iconst 0, 1) := by decide +kernel
theorem dX8_ofTaster_27 : decode cX8_ofTaster 27 = .ok (.iconst 2, 1) := by decide +kernel
theorem dX8_ofTaster_28 : decode cX8_ofTaster 28 = .ok (.invokevirtual 43, 3) := by decide +kernel
theorem dX8_ofTaster_31 : decode cX8_ofTaster 31 = .ok (.ifCond .eq 7, 3) := by decide +kernel
theorem dX8_ofTaster_34 : decode cX8_ofTaster 34 = .ok (.iconst 0, 1) := by decide +kernel
theorem dX8_ofTaster_35 : decode cX8_ofTaster 35 = .ok (.goto 9, 3) := by decide +kernel
theorem dX8_ofTaster_38 : decode cX8_ofTaster 38 = .ok (.aload_n 0, 1) := by decide +kernel
theorem dX8_ofTaster_39 : decode cX8_ofTaster 39 = .ok (.iload_n 1, 1) := by decide +kernel
theorem dX8_ofTaster_40 : decode cX8_ofTaster 40 = .ok (.iload_n 2, 1) := by decide +kernel
theorem dX8_ofTaster_41 : decode cX8_ofTaster 41 = .ok (.invokevirtual 289, 3) := by decide +kernel
theorem dX8_ofTaster_44 : decode cX8_ofTaster 44 = .ok (.ireturn, 1) := by decide +kernel
theorem dX8_bidOfNow_0 : decode cX8_bidOfNow 0 = .ok (.aload_n 0, 1) := by decide +kernel
theorem dX8_bidOfNow_1 : decode cX8_bidOfNow 1 = .ok (.getfield 25, 3) := by decide +kernel
theorem dX8_bidOfNow_4 : decode cX8_bidOfNow 4 = .ok (.iload_n 2, 1) := by decide +kernel
theorem dX8_bidOfNow_5 : decode cX8_bidOfNow 5 = .ok (.invokevirtual 55, 3) := by decide +kernel
theorem dX8_bidOfNow_8 : decode cX8_bidOfNow 8 = .ok (.checkcast 59, 3) := by decide +kernel
theorem dX8_bidOfNow_11 : decode cX8_bidOfNow 11 = .ok (.getfield 233, 3) := by decide +kernel
theorem dX8_bidOfNow_14 : decode cX8_bidOfNow 14 = .ok (.invokevirtual 80, 3) := by decide +kernel
theorem dX8_bidOfNow_17 : decode cX8_bidOfNow 17 = .ok (.astore_n 3, 1) := by decide +kernel
theorem dX8_bidOfNow_18 : decode cX8_bidOfNow 18 = .ok (.aload_n 3, 1) := by decide +kernel
theorem dX8_bidOfNow_19 : decode cX8_bidOfNow 19 = .ok (.invokeinterface 84 1, 5) := by decide +kernel
theorem dX8_bidOfNow_24 : decode cX8_bidOfNow 24 = .ok (.ifCond .eq 30, 3) := by decide +kernel
theorem dX8_bidOfNow_27 : decode cX8_bidOfNow 27 = .ok (.aload_n 3, 1) := by decide +kernel
theorem dX8_bidOfNow_28 : decode cX8_bidOfNow 28 = .ok (.invokeinterface 90 1, 5) := by decide +kernel
theorem dX8_bidOfNow_33 : decode cX8_bidOfNow 33 = .ok (.checkcast 236, 3) := by decide +kernel
theorem dX8_bidOfNow_36 : decode cX8_bidOfNow 36 = .ok (.astore 4, 2) := by decide +kernel
theorem dX8_bidOfNow_38 : decode cX8_bidOfNow 38 = .ok (.aload 4, 2) := by decide +kernel
theorem dX8_bidOfNow_40 : decode cX8_bidOfNow 40 = .ok (.iconst 0, 1) := by decide +kernel
theorem dX8_bidOfNow_41 : decode cX8_bidOfNow 41 = .ok (.iaload, 1) := by decide +kernel
theorem dX8_bidOfNow_42 : decode cX8_bidOfNow 42 = .ok (.iload_n 1, 1) := by decide +kernel
theorem dX8_bidOfNow_43 : decode cX8_bidOfNow 43 = .ok (.if_icmp .ne 8, 3) := by decide +kernel
theorem dX8_bidOfNow_46 : decode cX8_bidOfNow 46 = .ok (.aload 4, 2) := by decide +kernel
theorem dX8_bidOfNow_48 : decode cX8_bidOfNow 48 = .ok (.iconst 1, 1) := by decide +kernel
theorem dX8_bidOfNow_49 : decode cX8_bidOfNow 49 = .ok (.iaload, 1) := by decide +kernel
theorem dX8_bidOfNow_50 : decode cX8_bidOfNow 50 = .ok (.ireturn, 1) := by decide +kernel
theorem dX8_bidOfNow_51 : decode cX8_bidOfNow 51 = .ok (.goto (-33), 3) := by decide +kernel
theorem dX8_bidOfNow_54 : decode cX8_bidOfNow 54 = .ok (.iconst (-1), 1) := by decide +kernel
theorem dX8_bidOfNow_55 : decode cX8_bidOfNow 55 = .ok (.ireturn, 1) := by decide +kernel
theorem dX8_bidOf_0 : decode cX8_bidOf 0 = .ok (.aload_n 0, 1) := by decide +kernel
theorem dX8_bidOf_1 : decode cX8_bidOf 1 = .ok (.iload_n 1, 1) := by decide +kernel
theorem dX8_bidOf_2 : decode cX8_bidOf 2 = .ok (.invokestatic 227, 3) := by decide +kernel
theorem dX8_bidOf_5 : decode cX8_bidOf 5 = .ok (.ifCond .ne 11, 3) := by decide +kernel
theorem dX8_bidOf_8 : decode cX8_bidOf 8 = .ok (.aload_n 0, 1) := by decide +kernel
theorem dX8_bidOf_9 : decode cX8_bidOf 9 = .ok (.iload_n 2, 1) := by decide +kernel
theorem dX8_bidOf_10 : decode cX8_bidOf 10 = .ok (.invokevirtual 143, 3) := by decide +kernel
theorem dX8_bidOf_13 : decode cX8_bidOf 13 = .ok (.ifCond .eq 7, 3) := by decide +kernel
theorem dX8_bidOf_16 : decode cX8_bidOf 16 = .ok (.iconst 1, 1) := by decide +kernel
theorem dX8_bidOf_17 : decode cX8_bidOf 17 = .ok (.goto 4, 3) := by decide +kernel
theorem dX8_bidOf_20 : decode cX8_bidOf 20 = .ok (.iconst 0, 1) := by decide +kernel
theorem dX8_bidOf_21 : decode cX8_bidOf 21 = .ok (.iconst 1, 1) := by decide +kernel
theorem dX8_bidOf_22 : decode cX8_bidOf 22 = .ok (.invokevirtual 64, 3) := by decide +kernel
theorem dX8_bidOf_25 : decode cX8_bidOf 25 = .ok (.ifCond .eq 7, 3) := by decide +kernel
theorem dX8_bidOf_28 : decode cX8_bidOf 28 = .ok (.iconst 0, 1) := by decide +kernel
theorem dX8_bidOf_29 : decode cX8_bidOf 29 = .ok (.goto 9, 3) := by decide +kernel
theorem dX8_bidOf_32 : decode cX8_bidOf 32 = .ok (.aload_n 0, 1) := by decide +kernel
theorem dX8_bidOf_33 : decode cX8_bidOf 33 = .ok (.iload_n 1, 1) := by decide +kernel
theorem dX8_bidOf_34 : decode cX8_bidOf 34 = .ok (.iload_n 2, 1) := by decide +kernel
theorem dX8_bidOf_35 : decode cX8_bidOf 35 = .ok (.invokevirtual 292, 3) := by decide +kernel
theorem dX8_bidOf_38 : decode cX8_bidOf 38 = .ok (.ireturn, 1) := by decide +kernel
theorem dX8_count_0 : decode cX8_count 0 = .ok (.iconst 0, 1) := by decide +kernel
theorem dX8_count_1 : decode cX8_count 1 = .ok (.istore_n 2, 1) := by decide +kernel
theorem dX8_count_2 : decode cX8_count 2 = .ok (.aload_n 0, 1) := by decide +kernel
theorem dX8_count_3 : decode cX8_count 3 = .ok (.getfield 25, 3) := by decide +kernel
theorem dX8_count_6 : decode cX8_count 6 = .ok (.invokevirtual 80, 3) := by decide +kernel
theorem dX8_count_9 : decode cX8_count 9 = .ok (.astore_n 3, 1) := by decide +kernel
theorem dX8_count_10 : decode cX8_count 10 = .ok (.aload_n 3, 1) := by decide +kernel
theorem dX8_count_11 : decode cX8_count 11 = .ok (.invokeinterface 84 1, 5) := by decide +kernel
theorem dX8_count_16 : decode cX8_count 16 = .ok (.ifCond .eq 34, 3) := by decide +kernel
theorem dX8_count_19 : decode cX8_count 19 = .ok (.aload_n 3, 1) := by decide +kernel
theorem dX8_count_20 : decode cX8_count 20 = .ok (.invokeinterface 90 1, 5) := by decide +kernel
theorem dX8_count_25 : decode cX8_count 25 = .ok (.checkcast 59, 3) := by decide +kernel
theorem dX8_count_28 : decode cX8_count 28 = .ok (.astore 4, 2) := by decide +kernel
theorem dX8_count_30 : decode cX8_count 30 = .ok (.iload_n 2, 1) := by decide +kernel
theorem dX8_count_31 : decode cX8_count 31 = .ok (.aload 4, 2) := by decide +kernel
theorem dX8_count_33 : decode cX8_count 33 = .ok (.getfield 61, 3) := by decide +kernel
theorem dX8_count_36 : decode cX8_count 36 = .ok (.iload_n 1, 1) := by decide +kernel
theorem dX8_count_37 : decode cX8_count 37 = .ok (.if_icmp .ne 7, 3) := by decide +kernel
theorem dX8_count_40 : decode cX8_count 40 = .ok (.iconst 1, 1) := by decide +kernel
theorem dX8_count_41 : decode cX8_count 41 = .ok (.goto 4, 3) := by decide +kernel
theorem dX8_count_44 : decode cX8_count 44 = .ok (.iconst 0, 1) := by decide +kernel
theorem dX8_count_45 : decode cX8_count 45 = .ok (.iadd, 1) := by decide +kernel
theorem dX8_count_46 : decode cX8_count 46 = .ok (.istore_n 2, 1) := by decide +kernel
theorem dX8_count_47 : decode cX8_count 47 = .ok (.goto (-37), 3) := by decide +kernel
theorem dX8_count_50 : decode cX8_count 50 = .ok (.iload_n 2, 1) := by decide +kernel
theorem dX8_count_51 : decode cX8_count 51 = .ok (.ireturn, 1) := by decide +kernel
theorem dX8_manyNow_0 : decode cX8_manyNow 0 = .ok (.iload_n 1, 1) := by decide +kernel
theorem dX8_manyNow_1 : decode cX8_manyNow 1 = .ok (.bipush 10, 2) := by decide +kernel
theorem dX8_manyNow_3 : decode cX8_manyNow 3 = .ok (.if_icmp .le 13, 3) := by decide +kernel
theorem dX8_manyNow_6 : decode cX8_manyNow 6 = .ok (.aload_n 0, 1) := by decide +kernel
theorem dX8_manyNow_7 : decode cX8_manyNow 7 = .ok (.getfield 35, 3) := by decide +kernel
theorem dX8_manyNow_10 : decode cX8_manyNow 10 = .ok (.iload_n 1, 1) := by decide +kernel
theorem dX8_manyNow_11 : decode cX8_manyNow 11 = .ok (.bipush 11, 2) := by decide +kernel
theorem dX8_manyNow_13 : decode cX8_manyNow 13 = .ok (.isub, 1) := by decide +kernel
theorem dX8_manyNow_14 : decode cX8_manyNow 14 = .ok (.iaload, 1) := by decide +kernel
theorem dX8_manyNow_15 : decode cX8_manyNow 15 = .ok (.ireturn, 1) := by decide +kernel
theorem dX8_manyNow_16 : decode cX8_manyNow 16 = .ok (.iconst 0, 1) := by decide +kernel
theorem dX8_manyNow_17 : decode cX8_manyNow 17 = .ok (.istore_n 2, 1) := by decide +kernel
theorem dX8_manyNow_18 : decode cX8_manyNow 18 = .ok (.aload_n 0, 1) := by decide +kernel
theorem dX8_manyNow_19 : decode cX8_manyNow 19 = .ok (.getfield 25, 3) := by decide +kernel
theorem dX8_manyNow_22 : decode cX8_manyNow 22 = .ok (.invokevirtual 80, 3) := by decide +kernel
theorem dX8_manyNow_25 : decode cX8_manyNow 25 = .ok (.astore_n 3, 1) := by decide +kernel
theorem dX8_manyNow_26 : decode cX8_manyNow 26 = .ok (.aload_n 3, 1) := by decide +kernel
theorem dX8_manyNow_27 : decode cX8_manyNow 27 = .ok (.invokeinterface 84 1, 5) := by decide +kernel
theorem dX8_manyNow_32 : decode cX8_manyNow 32 = .ok (.ifCond .eq 25, 3) := by decide +kernel
theorem dX8_manyNow_35 : decode cX8_manyNow 35 = .ok (.aload_n 3, 1) := by decide +kernel
theorem dX8_manyNow_36 : decode cX8_manyNow 36 = .ok (.invokeinterface 90 1, 5) := by decide +kernel
theorem dX8_manyNow_41 : decode cX8_manyNow 41 = .ok (.checkcast 59, 3) := by decide +kernel
theorem dX8_manyNow_44 : decode cX8_manyNow 44 = .ok (.astore 4, 2) := by decide +kernel
theorem dX8_manyNow_46 : decode cX8_manyNow 46 = .ok (.iload_n 2, 1) := by decide +kernel
theorem dX8_manyNow_47 : decode cX8_manyNow 47 = .ok (.aload 4, 2) := by decide +kernel
theorem dX8_manyNow_49 : decode cX8_manyNow 49 = .ok (.invokevirtual 127, 3) := by decide +kernel
theorem dX8_manyNow_52 : decode cX8_manyNow 52 = .ok (.iadd, 1) := by decide +kernel
theorem dX8_manyNow_53 : decode cX8_manyNow 53 = .ok (.istore_n 2, 1) := by decide +kernel
theorem dX8_manyNow_54 : decode cX8_manyNow 54 = .ok (.goto (-28), 3) := by decide +kernel
theorem dX8_manyNow_57 : decode cX8_manyNow 57 = .ok (.bipush 11, 2) := by decide +kernel
theorem dX8_manyNow_59 : decode cX8_manyNow 59 = .ok (.newarray .int, 2) := by decide +kernel
theorem dX8_manyNow_61 : decode cX8_manyNow 61 = .ok (.dup, 1) := by decide +kernel
theorem dX8_manyNow_62 : decode cX8_manyNow 62 = .ok (.iconst 0, 1) := by decide +kernel
theorem dX8_manyNow_63 : decode cX8_manyNow 63 = .ok (.aload_n 0, 1) := by decide +kernel
theorem dX8_manyNow_64 : decode cX8_manyNow 64 = .ok (.getfield 21, 3) := by decide +kernel
theorem dX8_manyNow_67 : decode cX8_manyNow 67 = .ok (.invokevirtual 47, 3) := by decide +kernel
theorem dX8_manyNow_70 : decode cX8_manyNow 70 = .ok (.iastore, 1) := by decide +kernel
theorem dX8_manyNow_71 : decode cX8_manyNow 71 = .ok (.dup, 1) := by decide +kernel
theorem dX8_manyNow_72 : decode cX8_manyNow 72 = .ok (.iconst 1, 1) := by decide +kernel
theorem dX8_manyNow_73 : decode cX8_manyNow 73 = .ok (.aload_n 0, 1) := by decide +kernel
theorem dX8_manyNow_74 : decode cX8_manyNow 74 = .ok (.getfield 97, 3) := by decide +kernel
theorem dX8_manyNow_77 : decode cX8_manyNow 77 = .ok (.iastore, 1) := by decide +kernel
theorem dX8_manyNow_78 : decode cX8_manyNow 78 = .ok (.dup, 1) := by decide +kernel
theorem dX8_manyNow_79 : decode cX8_manyNow 79 = .ok (.iconst 2, 1) := by decide +kernel
theorem dX8_manyNow_80 : decode cX8_manyNow 80 = .ok (.aload_n 0, 1) := by decide +kernel
theorem dX8_manyNow_81 : decode cX8_manyNow 81 = .ok (.getfield 25, 3) := by decide +kernel
theorem dX8_manyNow_84 : decode cX8_manyNow 84 = .ok (.invokevirtual 47, 3) := by decide +kernel
theorem dX8_manyNow_87 : decode cX8_manyNow 87 = .ok (.iastore, 1) := by decide +kernel
theorem dX8_manyNow_88 : decode cX8_manyNow 88 = .ok (.dup, 1) := by decide +kernel
theorem dX8_manyNow_89 : decode cX8_manyNow 89 = .ok (.iconst 3, 1) := by decide +kernel
theorem dX8_manyNow_90 : decode cX8_manyNow 90 = .ok (.aload_n 0, 1) := by decide +kernel
theorem dX8_manyNow_91 : decode cX8_manyNow 91 = .ok (.iconst 0, 1) := by decide +kernel
theorem dX8_manyNow_92 : decode cX8_manyNow 92 = .ok (.invokevirtual 295, 3) := by decide +kernel
theorem dX8_manyNow_95 : decode cX8_manyNow 95 = .ok (.iastore, 1) := by decide +kernel
theorem dX8_manyNow_96 : decode cX8_manyNow 96 = .ok (.dup, 1) := by decide +kernel
theorem dX8_manyNow_97 : decode cX8_manyNow 97 = .ok (.iconst 4, 1) := by decide +kernel
theorem dX8_manyNow_98 : decode cX8_manyNow 98 = .ok (.aload_n 0, 1) := by decide +kernel
theorem dX8_manyNow_99 : decode cX8_manyNow 99 = .ok (.iconst 1, 1) := by decide +kernel
theorem dX8_manyNow_100 : decode cX8_manyNow 100 = .ok (.invokevirtual 295, 3) := by decide +kernel
theorem dX8_manyNow_103 : decode cX8_manyNow 103 = .ok (.iastore, 1) := by decide +kernel
theorem dX8_manyNow_104 : decode cX8_manyNow 104 = .ok (.dup, 1) := by decide +kernel
theorem dX8_manyNow_105 : decode cX8_manyNow 105 = .ok (.iconst 5, 1) := by decide +kernel
theorem dX8_manyNow_106 : decode cX8_manyNow 106 = .ok (.aload_n 0, 1) := by decide +kernel
theorem dX8_manyNow_107 : decode cX8_manyNow 107 = .ok (.iconst 2, 1) := by decide +kernel
theorem dX8_manyNow_108 : decode cX8_manyNow 108 = .ok (.invokevirtual 295, 3) := by decide +kernel
theorem dX8_manyNow_111 : decode cX8_manyNow 111 = .ok (.iastore, 1) := by decide +kernel
theorem dX8_manyNow_112 : decode cX8_manyNow 112 = .ok (.dup, 1) := by decide +kernel
theorem dX8_manyNow_113 : decode cX8_manyNow 113 = .ok (.bipush 6, 2) := by decide +kernel
theorem dX8_manyNow_115 : decode cX8_manyNow 115 = .ok (.aload_n 0, 1) := by decide +kernel
theorem dX8_manyNow_116 : decode cX8_manyNow 116 = .ok (.getfield 140, 3) := by decide +kernel
theorem dX8_manyNow_119 : decode cX8_manyNow 119 = .ok (.iastore, 1) := by decide +kernel
theorem dX8_manyNow_120 : decode cX8_manyNow 120 = .ok (.dup, 1) := by decide +kernel
theorem dX8_manyNow_121 : decode cX8_manyNow 121 = .ok (.bipush 7, 2) := by decide +kernel
theorem dX8_manyNow_123 : decode cX8_manyNow 123 = .ok (.aload_n 0, 1) := by decide +kernel
theorem dX8_manyNow_124 : decode cX8_manyNow 124 = .ok (.getfield 253, 3) := by decide +kernel
theorem dX8_manyNow_127 : decode cX8_manyNow 127 = .ok (.iastore, 1) := by decide +kernel
theorem dX8_manyNow_128 : decode cX8_manyNow 128 = .ok (.dup, 1) := by decide +kernel
theorem dX8_manyNow_129 : decode cX8_manyNow 129 = .ok (.bipush 8, 2) := by decide +kernel
theorem dX8_manyNow_131 : decode cX8_manyNow 131 = .ok (.iload_n 2, 1) := by decide +kernel
theorem dX8_manyNow_132 : decode cX8_manyNow 132 = .ok (.iastore, 1) := by decide +kernel
theorem dX8_manyNow_133 : decode cX8_manyNow 133 = .ok (.dup, 1) := by decide +kernel
theorem dX8_manyNow_134 : decode cX8_manyNow 134 = .ok (.bipush 9, 2) := by decide +kernel
theorem dX8_manyNow_136 : decode cX8_manyNow 136 = .ok (.aload_n 0, 1) := by decide +kernel
theorem dX8_manyNow_137 : decode cX8_manyNow 137 = .ok (.getfield 137, 3) := by decide +kernel
theorem dX8_manyNow_140 : decode cX8_manyNow 140 = .ok (.iastore, 1) := by decide +kernel
theorem dX8_manyNow_141 : decode cX8_manyNow 141 = .ok (.dup, 1) := by decide +kernel
theorem dX8_manyNow_142 : decode cX8_manyNow 142 = .ok (.bipush 10, 2) := by decide +kernel
theorem dX8_manyNow_144 : decode cX8_manyNow 144 = .ok (.aload_n 0, 1) := by decide +kernel
theorem dX8_manyNow_145 : decode cX8_manyNow 145 = .ok (.getfield 250, 3) := by decide +kernel
theorem dX8_manyNow_148 : decode cX8_manyNow 148 = .ok (.iastore, 1) := by decide +kernel
theorem dX8_manyNow_149 : decode cX8_manyNow 149 = .ok (.astore_n 3, 1) := by decide +kernel
theorem dX8_manyNow_150 : decode cX8_manyNow 150 = .ok (.aload_n 3, 1) := by decide +kernel
theorem dX8_manyNow_151 : decode cX8_manyNow 151 = .ok (.iload_n 1, 1) := by decide +kernel
theorem dX8_manyNow_152 : decode cX8_manyNow 152 = .ok (.iaload, 1) := by decide +kernel
theorem dX8_manyNow_153 : decode cX8_manyNow 153 = .ok (.ireturn, 1) := by decide +kernel
theorem dX8_many_0 : decode cX8_many 0 = .ok (.aload_n 0, 1) := by decide +kernel
theorem dX8_many_1 : decode cX8_many 1 = .ok (.iload_n 1, 1) := by decide +kernel
theorem dX8_many_2 : decode cX8_many 2 = .ok (.iconst 0, 1) := by decide +kernel
theorem dX8_many_3 : decode cX8_many 3 = .ok (.bipush 14, 2) := by decide +kernel
theorem dX8_many_5 : decode cX8_many 5 = .ok (.invokestatic 51, 3) := by decide +kernel
theorem dX8_many_8 : decode cX8_many 8 = .ok (.ifCond .ne 7, 3) := by decide +kernel
theorem dX8_many_11 : decode cX8_many 11 = .ok (.iconst 1, 1) := by decide +kernel
theorem dX8_many_12 : decode cX8_many 12 = .ok (.goto 4, 3) := by decide +kernel
theorem dX8_many_15 : decode cX8_many 15 = .ok (.iconst 0, 1) := by decide +kernel
theorem dX8_many_16 : decode cX8_many 16 = .ok (.iconst 1, 1) := by decide +kernel
theorem dX8_many_17 : decode cX8_many 17 = .ok (.invokevirtual 64, 3) := by decide +kernel
theorem dX8_many_20 : decode cX8_many 20 = .ok (.ifCond .eq 7, 3) := by decide +kernel
theorem dX8_many_23 : decode cX8_many 23 = .ok (.iconst 0, 1) := by decide +kernel
theorem dX8_many_24 : decode cX8_many 24 = .ok (.goto 8, 3) := by decide +kernel
theorem dX8_many_27 : decode cX8_many 27 = .ok (.aload_n 0, 1) := by decide +kernel
theorem dX8_many_28 : decode cX8_many 28 = .ok (.iload_n 1, 1) := by decide +kernel
theorem dX8_many_29 : decode cX8_many 29 = .ok (.invokevirtual 298, 3) := by decide +kernel
theorem dX8_many_32 : decode cX8_many 32 = .ok (.ireturn, 1) := by decide +kernel
theorem dX8_meanNotes_0 : decode cX8_meanNotes 0 = .ok (.aload_n 0, 1) := by decide +kernel
theorem dX8_meanNotes_1 : decode cX8_meanNotes 1 = .ok (.iconst 0, 1) := by decide +kernel
theorem dX8_meanNotes_2 : decode cX8_meanNotes 2 = .ok (.putfield 39, 3) := by decide +kernel
theorem dX8_meanNotes_5 : decode cX8_meanNotes 5 = .ok (.iconst 0, 1) := by decide +kernel
theorem dX8_meanNotes_6 : decode cX8_meanNotes 6 = .ok (.istore_n 1, 1) := by decide +kernel
theorem dX8_meanNotes_7 : decode cX8_meanNotes 7 = .ok (.iconst 0, 1) := by decide +kernel
theorem dX8_meanNotes_8 : decode cX8_meanNotes 8 = .ok (.istore_n 2, 1) := by decide +kernel
theorem dX8_meanNotes_9 : decode cX8_meanNotes 9 = .ok (.aload_n 0, 1) := by decide +kernel
theorem dX8_meanNotes_10 : decode cX8_meanNotes 10 = .ok (.getfield 25, 3) := by decide +kernel
theorem dX8_meanNotes_13 : decode cX8_meanNotes 13 = .ok (.invokevirtual 80, 3) := by decide +kernel
theorem dX8_meanNotes_16 : decode cX8_meanNotes 16 = .ok (.astore_n 3, 1) := by decide +kernel
theorem dX8_meanNotes_17 : decode cX8_meanNotes 17 = .ok (.aload_n 3, 1) := by decide +kernel
theorem dX8_meanNotes_18 : decode cX8_meanNotes 18 = .ok (.invokeinterface 84 1, 5) := by decide +kernel
theorem dX8_meanNotes_23 : decode cX8_meanNotes 23 = .ok (.ifCond .eq 51, 3) := by decide +kernel
theorem dX8_meanNotes_26 : decode cX8_meanNotes 26 = .ok (.aload_n 3, 1) := by decide +kernel
theorem dX8_meanNotes_27 : decode cX8_meanNotes 27 = .ok (.invokeinterface 90 1, 5) := by decide +kernel
theorem dX8_meanNotes_32 : decode cX8_meanNotes 32 = .ok (.checkcast 59, 3) := by decide +kernel
theorem dX8_meanNotes_35 : decode cX8_meanNotes 35 = .ok (.astore 4, 2) := by decide +kernel
theorem dX8_meanNotes_37 : decode cX8_meanNotes 37 = .ok (.aload 4, 2) := by decide +kernel
theorem dX8_meanNotes_39 : decode cX8_meanNotes 39 = .ok (.getfield 61, 3) := by decide +kernel
theorem dX8_meanNotes_42 : decode cX8_meanNotes 42 = .ok (.iconst 2, 1) := by decide +kernel
theorem dX8_meanNotes_43 : decode cX8_meanNotes 43 = .ok (.if_icmp .eq 6, 3) := by decide +kernel
theorem dX8_meanNotes_46 : decode cX8_meanNotes 46 = .ok (.goto (-29), 3) := by decide +kernel
theorem dX8_meanNotes_49 : decode cX8_meanNotes 49 = .ok (.iload_n 1, 1) := by decide +kernel
theorem dX8_meanNotes_50 : decode cX8_meanNotes 50 = .ok (.aload 4, 2) := by decide +kernel
theorem dX8_meanNotes_52 : decode cX8_meanNotes 52 = .ok (.invokevirtual 301, 3) := by decide +kernel
theorem dX8_meanNotes_55 : decode cX8_meanNotes 55 = .ok (.aload 4, 2) := by decide +kernel
theorem dX8_meanNotes_57 : decode cX8_meanNotes 57 = .ok (.invokevirtual 127, 3) := by decide +kernel
theorem dX8_meanNotes_60 : decode cX8_meanNotes 60 = .ok (.imul, 1) := by decide +kernel
theorem dX8_meanNotes_61 : decode cX8_meanNotes 61 = .ok (.iadd, 1) := by decide +kernel
theorem dX8_meanNotes_62 : decode cX8_meanNotes 62 = .ok (.istore_n 1, 1) := by decide +kernel
theorem dX8_meanNotes_63 : decode cX8_meanNotes 63 = .ok (.iload_n 2, 1) := by decide +kernel
theorem dX8_meanNotes_64 : decode cX8_meanNotes 64 = .ok (.aload 4, 2) := by decide +kernel
theorem dX8_meanNotes_66 : decode cX8_meanNotes 66 = .ok (.invokevirtual 127, 3) := by decide +kernel
theorem dX8_meanNotes_69 : decode cX8_meanNotes 69 = .ok (.iadd, 1) := by decide +kernel
theorem dX8_meanNotes_70 : decode cX8_meanNotes 70 = .ok (.istore_n 2, 1) := by decide +kernel
theorem dX8_meanNotes_71 : decode cX8_meanNotes 71 = .ok (.goto (-54), 3) := by decide +kernel
theorem dX8_meanNotes_74 : decode cX8_meanNotes 74 = .ok (.iload_n 2, 1) := by decide +kernel
theorem dX8_meanNotes_75 : decode cX8_meanNotes 75 = .ok (.ifCond .ne 7, 3) := by decide +kernel
theorem dX8_meanNotes_78 : decode cX8_meanNotes 78 = .ok (.dconst 0, 1) := by decide +kernel
theorem dX8_meanNotes_79 : decode cX8_meanNotes 79 = .ok (.goto 8, 3) := by decide +kernel
theorem dX8_meanNotes_82 : decode cX8_meanNotes 82 = .ok (.iload_n 1, 1) := by decide +kernel
theorem dX8_meanNotes_83 : decode cX8_meanNotes 83 = .ok (.i2d, 1) := by decide +kernel
theorem dX8_meanNotes_84 : decode cX8_meanNotes 84 = .ok (.iload_n 2, 1) := by decide +kernel
theorem dX8_meanNotes_85 : decode cX8_meanNotes 85 = .ok (.i2d, 1) := by decide +kernel
theorem dX8_meanNotes_86 : decode cX8_meanNotes 86 = .ok (.ddiv, 1) := by decide +kernel
theorem dX8_meanNotes_87 : decode cX8_meanNotes 87 = .ok (.dreturn, 1) := by decide +kernel
theorem dX8_flushInNow_0 : decode cX8_flushInNow 0 = .ok (.aload_n 0, 1) := by decide +kernel
theorem dX8_flushInNow_1 : decode cX8_flushInNow 1 = .ok (.getfield 21, 3) := by decide +kernel
theorem dX8_flushInNow_4 : decode cX8_flushInNow 4 = .ok (.iload_n 1, 1) := by decide +kernel
theorem dX8_flushInNow_5 : decode cX8_flushInNow 5 = .ok (.invokevirtual 55, 3) := by decide +kernel
theorem dX8_flushInNow_8 : decode cX8_flushInNow 8 = .ok (.checkcast 67, 3) := by decide +kernel
theorem dX8_flushInNow_11 : decode cX8_flushInNow 11 = .ok (.invokevirtual 303, 3) := by decide +kernel
theorem dX8_flushInNow_14 : decode cX8_flushInNow 14 = .ok (.astore 4, 2) := by decide +kernel
theorem dX8_flushInNow_16 : decode cX8_flushInNow 16 = .ok (.iconst 1, 1) := by decide +kernel
theorem dX8_flushInNow_17 : decode cX8_flushInNow 17 = .ok (.istore 5, 2) := by decide +kernel
theorem dX8_flushInNow_19 : decode cX8_flushInNow 19 = .ok (.iload 5, 2) := by decide +kernel
theorem dX8_flushInNow_21 : decode cX8_flushInNow 21 = .ok (.bipush 30, 2) := by decide +kernel
theorem dX8_flushInNow_23 : decode cX8_flushInNow 23 = .ok (.if_icmp .gt 22, 3) := by decide +kernel
theorem dX8_flushInNow_26 : decode cX8_flushInNow 26 = .ok (.aload 4, 2) := by decide +kernel
theorem dX8_flushInNow_28 : decode cX8_flushInNow 28 = .ok (.iload_n 2, 1) := by decide +kernel
theorem dX8_flushInNow_29 : decode cX8_flushInNow 29 = .ok (.iload_n 3, 1) := by decide +kernel
theorem dX8_flushInNow_30 : decode cX8_flushInNow 30 = .ok (.invokevirtual 94, 3) := by decide +kernel
theorem dX8_flushInNow_33 : decode cX8_flushInNow 33 = .ok (.ifCond .le 6, 3) := by decide +kernel
theorem dX8_flushInNow_36 : decode cX8_flushInNow 36 = .ok (.iload 5, 2) := by decide +kernel
theorem dX8_flushInNow_38 : decode cX8_flushInNow 38 = .ok (.ireturn, 1) := by decide +kernel
theorem dX8_flushInNow_39 : decode cX8_flushInNow 39 = .ok (.iinc 5 1, 3) := by decide +kernel
theorem dX8_flushInNow_42 : decode cX8_flushInNow 42 = .ok (.goto (-23), 3) := by decide +kernel
theorem dX8_flushInNow_45 : decode cX8_flushInNow 45 = .ok (.iconst (-1), 1) := by decide +kernel
theorem dX8_flushInNow_46 : decode cX8_flushInNow 46 = .ok (.ireturn, 1) := by decide +kernel
theorem dX8_flushIn_0 : decode cX8_flushIn 0 = .ok (.aload_n 0, 1) := by decide +kernel
theorem dX8_flushIn_1 : decode cX8_flushIn 1 = .ok (.aload_n 0, 1) := by decide +kernel
theorem dX8_flushIn_2 : decode cX8_flushIn 2 = .ok (.iload_n 1, 1) := by decide +kernel
theorem dX8_flushIn_3 : decode cX8_flushIn 3 = .ok (.invokevirtual 100, 3) := by decide +kernel
theorem dX8_flushIn_6 : decode cX8_flushIn 6 = .ok (.iconst 1, 1) := by decide +kernel
theorem dX8_flushIn_7 : decode cX8_flushIn 7 = .ok (.invokevirtual 64, 3) := by decide +kernel
theorem dX8_flushIn_10 : decode cX8_flushIn 10 = .ok (.ifCond .ne 16, 3) := by decide +kernel
theorem dX8_flushIn_13 : decode cX8_flushIn 13 = .ok (.aload_n 0, 1) := by decide +kernel
theorem dX8_flushIn_14 : decode cX8_flushIn 14 = .ok (.iload_n 2, 1) := by decide +kernel
theorem dX8_flushIn_15 : decode cX8_flushIn 15 = .ok (.iload_n 3, 1) := by decide +kernel
theorem dX8_flushIn_16 : decode cX8_flushIn 16 = .ok (.invokestatic 76, 3) := by decide +kernel
theorem dX8_flushIn_19 : decode cX8_flushIn 19 = .ok (.iconst 2, 1) := by decide +kernel
theorem dX8_flushIn_20 : decode cX8_flushIn 20 = .ok (.invokevirtual 43, 3) := by decide +kernel
theorem dX8_flushIn_23 : decode cX8_flushIn 23 = .ok (.ifCond .eq 7, 3) := by decide +kernel
theorem dX8_flushIn_26 : decode cX8_flushIn 26 = .ok (.iconst 0, 1) := by decide +kernel
theorem dX8_flushIn_27 : decode cX8_flushIn 27 = .ok (.goto 10, 3) := by decide +kernel
theorem dX8_flushIn_30 : decode cX8_flushIn 30 = .ok (.aload_n 0, 1) := by decide +kernel
theorem dX8_flushIn_31 : decode cX8_flushIn 31 = .ok (.iload_n 1, 1) := by decide +kernel
theorem dX8_flushIn_32 : decode cX8_flushIn 32 = .ok (.iload_n 2, 1) := by decide +kernel
theorem dX8_flushIn_33 : decode cX8_flushIn 33 = .ok (.iload_n 3, 1) := by decide +kernel
theorem dX8_flushIn_34 : decode cX8_flushIn 34 = .ok (.invokevirtual 307, 3) := by decide +kernel
theorem dX8_flushIn_37 : decode cX8_flushIn 37 = .ok (.ireturn, 1) := by decide +kernel
theorem dX8_bestFireNow_0 : decode cX8_bestFireNow 0 = .ok (.iconst (-1), 1) := by decide +kernel
theorem dX8_bestFireNow_1 : decode cX8_bestFireNow 1 = .ok (.istore_n 2, 1) := by decide +kernel
theorem dX8_bestFireNow_2 : decode cX8_bestFireNow 2 = .ok (.iconst (-1), 1) := by decide +kernel
theorem dX8_bestFireNow_3 : decode cX8_bestFireNow 3 = .ok (.istore_n 3, 1) := by decide +kernel
theorem dX8_bestFireNow_4 : decode cX8_bestFireNow 4 = .ok (.iconst 1, 1) := by decide +kernel
theorem dX8_bestFireNow_5 : decode cX8_bestFireNow 5 = .ok (.istore 4, 2) := by decide +kernel
theorem dX8_bestFireNow_7 : decode cX8_bestFireNow 7 = .ok (.iload 4, 2) := by decide +kernel
theorem dX8_bestFireNow_9 : decode cX8_bestFireNow 9 = .ok (.iconst 5, 1) := by decide +kernel
theorem dX8_bestFireNow_10 : decode cX8_bestFireNow 10 = .ok (.if_icmp .gt 83, 3) := by decide +kernel
theorem dX8_bestFireNow_13 : decode cX8_bestFireNow 13 = .ok (.aload_n 0, 1) := by decide +kernel
theorem dX8_bestFireNow_14 : decode cX8_bestFireNow 14 = .ok (.getfield 25, 3) := by decide +kernel
theorem dX8_bestFireNow_17 : decode cX8_bestFireNow 17 = .ok (.iload_n 1, 1) := by decide +kernel
theorem dX8_bestFireNow_18 : decode cX8_bestFireNow 18 = .ok (.invokevirtual 55, 3) := by decide +kernel
theorem dX8_bestFireNow_21 : decode cX8_bestFireNow 21 = .ok (.checkcast 59, 3) := by decide +kernel
theorem dX8_bestFireNow_24 : decode cX8_bestFireNow 24 = .ok (.invokevirtual 310, 3) := by decide +kernel
theorem dX8_bestFireNow_27 : decode cX8_bestFireNow 27 = .ok (.astore 5, 2) := by decide +kernel
theorem dX8_bestFireNow_29 : decode cX8_bestFireNow 29 = .ok (.iconst 1, 1) := by decide +kernel
theorem dX8_bestFireNow_30 : decode cX8_bestFireNow 30 = .ok (.istore 6, 2) := by decide +kernel
theorem dX8_bestFireNow_32 : decode cX8_bestFireNow 32 = .ok (.iload 6, 2) := by decide +kernel
theorem dX8_bestFireNow_34 : decode cX8_bestFireNow 34 = .ok (.bipush 30, 2) := by decide +kernel
theorem dX8_bestFireNow_36 : decode cX8_bestFireNow 36 = .ok (.if_icmp .gt 51, 3) := by decide +kernel
theorem dX8_bestFireNow_39 : decode cX8_bestFireNow 39 = .ok (.aload 5, 2) := by decide +kernel
theorem dX8_bestFireNow_41 : decode cX8_bestFireNow 41 = .ok (.iload 4, 2) := by decide +kernel
theorem dX8_bestFireNow_43 : decode cX8_bestFireNow 43 = .ok (.invokevirtual 168, 3) := by decide +kernel
theorem dX8_bestFireNow_46 : decode cX8_bestFireNow 46 = .ok (.aload 5, 2) := by decide +kernel
theorem dX8_bestFireNow_48 : decode cX8_bestFireNow 48 = .ok (.invokevirtual 312, 3) := by decide +kernel
theorem dX8_bestFireNow_51 : decode cX8_bestFireNow 51 = .ok (.ifCond .eq 30, 3) := by decide +kernel
theorem dX8_bestFireNow_54 : decode cX8_bestFireNow 54 = .ok (.aload 5, 2) := by decide +kernel
theorem dX8_bestFireNow_56 : decode cX8_bestFireNow 56 = .ok (.invokevirtual 301, 3) := by decide +kernel
theorem dX8_bestFireNow_59 : decode cX8_bestFireNow 59 = .ok (.iload_n 3, 1) := by decide +kernel
theorem dX8_bestFireNow_60 : decode cX8_bestFireNow 60 = .ok (.if_icmp .gt 6, 3) := by decide +kernel
theorem dX8_bestFireNow_63 : decode cX8_bestFireNow 63 = .ok (.goto 18, 3) := by decide +kernel
theorem dX8_bestFireNow_66 : decode cX8_bestFireNow 66 = .ok (.aload 5, 2) := by decide +kernel
theorem dX8_bestFireNow_68 : decode cX8_bestFireNow 68 = .ok (.invokevirtual 301, 3) := by decide +kernel
theorem dX8_bestFireNow_71 : decode cX8_bestFireNow 71 = .ok (.istore_n 3, 1) := by decide +kernel
theorem dX8_bestFireNow_72 : decode cX8_bestFireNow 72 = .ok (.bipush 100, 2) := by decide +kernel
theorem dX8_bestFireNow_74 : decode cX8_bestFireNow 74 = .ok (.iload 4, 2) := by decide +kernel
theorem dX8_bestFireNow_76 : decode cX8_bestFireNow 76 = .ok (.imul, 1) := by decide +kernel
theorem dX8_bestFireNow_77 : decode cX8_bestFireNow 77 = .ok (.iload 6, 2) := by decide +kernel
theorem dX8_bestFireNow_79 : decode cX8_bestFireNow 79 = .ok (.iadd, 1) := by decide +kernel
theorem dX8_bestFireNow_80 : decode cX8_bestFireNow 80 = .ok (.istore_n 2, 1) := by decide +kernel
theorem dX8_bestFireNow_81 : decode cX8_bestFireNow 81 = .ok (.iinc 6 1, 3) := by decide +kernel
theorem dX8_bestFireNow_84 : decode cX8_bestFireNow 84 = .ok (.goto (-52), 3) := by decide +kernel
theorem dX8_bestFireNow_87 : decode cX8_bestFireNow 87 = .ok (.iinc 4 1, 3) := by decide +kernel
theorem dX8_bestFireNow_90 : decode cX8_bestFireNow 90 = .ok (.goto (-83), 3) := by decide +kernel
theorem dX8_bestFireNow_93 : decode cX8_bestFireNow 93 = .ok (.iload_n 2, 1) := by decide +kernel
theorem dX8_bestFireNow_94 : decode cX8_bestFireNow 94 = .ok (.ireturn, 1) := by decide +kernel
theorem dX8_bestFire_0 : decode cX8_bestFire 0 = .ok (.aload_n 0, 1) := by decide +kernel
theorem dX8_bestFire_1 : decode cX8_bestFire 1 = .ok (.aload_n 0, 1) := by decide +kernel
theorem dX8_bestFire_2 : decode cX8_bestFire 2 = .ok (.iload_n 1, 1) := by decide +kernel
theorem dX8_bestFire_3 : decode cX8_bestFire 3 = .ok (.invokevirtual 143, 3) := by decide +kernel
theorem dX8_bestFire_6 : decode cX8_bestFire 6 = .ok (.iconst 1, 1) := by decide +kernel
theorem dX8_bestFire_7 : decode cX8_bestFire 7 = .ok (.invokevirtual 64, 3) := by decide +kernel
theorem dX8_bestFire_10 : decode cX8_bestFire 10 = .ok (.ifCond .ne 25, 3) := by decide +kernel
theorem dX8_bestFire_13 : decode cX8_bestFire 13 = .ok (.aload_n 0, 1) := by decide +kernel
theorem dX8_bestFire_14 : decode cX8_bestFire 14 = .ok (.aload_n 0, 1) := by decide +kernel
theorem dX8_bestFire_15 : decode cX8_bestFire 15 = .ok (.iload_n 1, 1) := by decide +kernel
theorem dX8_bestFire_16 : decode cX8_bestFire 16 = .ok (.iconst 1, 1) := by decide +kernel
theorem dX8_bestFire_17 : decode cX8_bestFire 17 = .ok (.invokevirtual 155, 3) := by decide +kernel
theorem dX8_bestFire_20 : decode cX8_bestFire 20 = .ok (.ifCond .ne 7, 3) := by decide +kernel
theorem dX8_bestFire_23 : decode cX8_bestFire 23 = .ok (.iconst 1, 1) := by decide +kernel
theorem dX8_bestFire_24 : decode cX8_bestFire 24 = .ok (.goto 4, 3) := by decide +kernel
theorem dX8_bestFire_27 : decode cX8_bestFire 27 = .ok (.iconst 0, 1) := by decide +kernel
theorem dX8_bestFire_28 : decode cX8_bestFire 28 = .ok (.iconst 2, 1) := by decide +kernel
theorem dX8_bestFire_29 : decode cX8_bestFire 29 = .ok (.invokevirtual 43, 3) := by decide +kernel
theorem dX8_bestFire_32 : decode cX8_bestFire 32 = .ok (.ifCond .eq 7, 3) := by decide +kernel
theorem dX8_bestFire_35 : decode cX8_bestFire 35 = .ok (.iconst 0, 1) := by decide +kernel
theorem dX8_bestFire_36 : decode cX8_bestFire 36 = .ok (.goto 8, 3) := by decide +kernel
theorem dX8_bestFire_39 : decode cX8_bestFire 39 = .ok (.aload_n 0, 1) := by decide +kernel
theorem dX8_bestFire_40 : decode cX8_bestFire 40 = .ok (.iload_n 1, 1) := by decide +kernel
theorem dX8_bestFire_41 : decode cX8_bestFire 41 = .ok (.invokevirtual 315, 3) := by decide +kernel
theorem dX8_bestFire_44 : decode cX8_bestFire 44 = .ok (.ireturn, 1) := by decide +kernel
theorem dX8_bestMixNow_0 : decode cX8_bestMixNow 0 = .ok (.iconst (-1), 1) := by decide +kernel
theorem dX8_bestMixNow_1 : decode cX8_bestMixNow 1 = .ok (.istore_n 2, 1) := by decide +kernel
theorem dX8_bestMixNow_2 : decode cX8_bestMixNow 2 = .ok (.iconst 0, 1) := by decide +kernel
theorem dX8_bestMixNow_3 : decode cX8_bestMixNow 3 = .ok (.istore_n 3, 1) := by decide +kernel
theorem dX8_bestMixNow_4 : decode cX8_bestMixNow 4 = .ok (.iconst 0, 1) := by decide +kernel
theorem dX8_bestMixNow_5 : decode cX8_bestMixNow 5 = .ok (.istore 4, 2) := by decide +kernel
theorem dX8_bestMixNow_7 : decode cX8_bestMixNow 7 = .ok (.iload 4, 2) := by decide +kernel
theorem dX8_bestMixNow_9 : decode cX8_bestMixNow 9 = .ok (.aload_n 0, 1) := by decide +kernel
theorem dX8_bestMixNow_10 : decode cX8_bestMixNow 10 = .ok (.getfield 25, 3) := by decide +kernel
theorem dX8_bestMixNow_13 : decode cX8_bestMixNow 13 = .ok (.invokevirtual 47, 3) := by decide +kernel
theorem dX8_bestMixNow_16 : decode cX8_bestMixNow 16 = .ok (.if_icmp .ge 201, 3) := by decide +kernel
theorem dX8_bestMixNow_19 : decode cX8_bestMixNow 19 = .ok (.iload 4, 2) := by decide +kernel
theorem dX8_bestMixNow_21 : decode cX8_bestMixNow 21 = .ok (.iconst 1, 1) := by decide +kernel
theorem dX8_bestMixNow_22 : decode cX8_bestMixNow 22 = .ok (.iadd, 1) := by decide +kernel
theorem dX8_bestMixNow_23 : decode cX8_bestMixNow 23 = .ok (.istore 5, 2) := by decide +kernel
theorem dX8_bestMixNow_25 : decode cX8_bestMixNow 25 = .ok (.iload 5, 2) := by decide +kernel
theorem dX8_bestMixNow_27 : decode cX8_bestMixNow 27 = .ok (.aload_n 0, 1) := by decide +kernel
theorem dX8_bestMixNow_28 : decode cX8_bestMixNow 28 = .ok (.getfield 25, 3) := by decide +kernel
theorem dX8_bestMixNow_31 : decode cX8_bestMixNow 31 = .ok (.invokevirtual 47, 3) := by decide +kernel
theorem dX8_bestMixNow_34 : decode cX8_bestMixNow 34 = .ok (.if_icmp .ge 177, 3) := by decide +kernel
theorem dX8_bestMixNow_37 : decode cX8_bestMixNow 37 = .ok (.aload_n 0, 1) := by decide +kernel
theorem dX8_bestMixNow_38 : decode cX8_bestMixNow 38 = .ok (.iload 4, 2) := by decide +kernel
theorem dX8_bestMixNow_40 : decode cX8_bestMixNow 40 = .ok (.invokevirtual 199, 3) := by decide +kernel
theorem dX8_bestMixNow_43 : decode cX8_bestMixNow 43 = .ok (.ifCond .eq 168, 3) := by decide +kernel
theorem dX8_bestMixNow_46 : decode cX8_bestMixNow 46 = .ok (.iconst 1, 1) := by decide +kernel
theorem dX8_bestMixNow_47 : decode cX8_bestMixNow 47 = .ok (.istore 6, 2) := by decide +kernel
theorem dX8_bestMixNow_49 : decode cX8_bestMixNow 49 = .ok (.iload 6, 2) := by decide +kernel
theorem dX8_bestMixNow_51 : decode cX8_bestMixNow 51 = .ok (.bipush 10, 2) := by decide +kernel
theorem dX8_bestMixNow_53 : decode cX8_bestMixNow 53 = .ok (.if_icmp .ge 152, 3) := by decide +kernel
theorem dX8_bestMixNow_56 : decode cX8_bestMixNow 56 = .ok (.aload_n 0, 1) := by decide +kernel
theorem dX8_bestMixNow_57 : decode cX8_bestMixNow 57 = .ok (.iload 5, 2) := by decide +kernel
theorem dX8_bestMixNow_59 : decode cX8_bestMixNow 59 = .ok (.invokevirtual 199, 3) := by decide +kernel
theorem dX8_bestMixNow_62 : decode cX8_bestMixNow 62 = .ok (.ifCond .eq 143, 3) := by decide +kernel
theorem dX8_bestMixNow_65 : decode cX8_bestMixNow 65 = .ok (.iconst 0, 1) := by decide +kernel
theorem dX8_bestMixNow_66 : decode cX8_bestMixNow 66 = .ok (.istore 7, 2) := by decide +kernel
theorem dX8_bestMixNow_68 : decode cX8_bestMixNow 68 = .ok (.iconst 1, 1) := by decide +kernel
theorem dX8_bestMixNow_69 : decode cX8_bestMixNow 69 = .ok (.istore 8, 2) := by decide +kernel
theorem dX8_bestMixNow_71 : decode cX8_bestMixNow 71 = .ok (.iconst 0, 1) := by decide +kernel
theorem dX8_bestMixNow_72 : decode cX8_bestMixNow 72 = .ok (.istore 9, 2) := by decide +kernel
theorem dX8_bestMixNow_74 : decode cX8_bestMixNow 74 = .ok (.iload 9, 2) := by decide +kernel
theorem dX8_bestMixNow_76 : decode cX8_bestMixNow 76 = .ok (.iconst 3, 1) := by decide +kernel
theorem dX8_bestMixNow_77 : decode cX8_bestMixNow 77 = .ok (.if_icmp .ge 84, 3) := by decide +kernel
theorem dX8_bestMixNow_80 : decode cX8_bestMixNow 80 = .ok (.iload 6, 2) := by decide +kernel
theorem dX8_bestMixNow_82 : decode cX8_bestMixNow 82 = .ok (.aload_n 0, 1) := by decide +kernel
theorem dX8_bestMixNow_83 : decode cX8_bestMixNow 83 = .ok (.getfield 25, 3) := by decide +kernel
theorem dX8_bestMixNow_86 : decode cX8_bestMixNow 86 = .ok (.iload 4, 2) := by decide +kernel
theorem dX8_bestMixNow_88 : decode cX8_bestMixNow 88 = .ok (.invokevirtual 55, 3) := by decide +kernel
theorem dX8_bestMixNow_91 : decode cX8_bestMixNow 91 = .ok (.checkcast 59, 3) := by decide +kernel
theorem dX8_bestMixNow_94 : decode cX8_bestMixNow 94 = .ok (.iload 9, 2) := by decide +kernel
theorem dX8_bestMixNow_96 : decode cX8_bestMixNow 96 = .ok (.invokevirtual 202, 3) := by decide +kernel
theorem dX8_bestMixNow_99 : decode cX8_bestMixNow 99 = .ok (.imul, 1) := by decide +kernel
theorem dX8_bestMixNow_100 : decode cX8_bestMixNow 100 = .ok (.bipush 10, 2) := by decide +kernel
theorem dX8_bestMixNow_102 : decode cX8_bestMixNow 102 = .ok (.iload 6, 2) := by decide +kernel
theorem dX8_bestMixNow_104 : decode cX8_bestMixNow 104 = .ok (.isub, 1) := by decide +kernel
theorem dX8_bestMixNow_105 : decode cX8_bestMixNow 105 = .ok (.aload_n 0, 1) := by decide +kernel
theorem dX8_bestMixNow_106 : decode cX8_bestMixNow 106 = .ok (.getfield 25, 3) := by decide +kernel
theorem dX8_bestMixNow_109 : decode cX8_bestMixNow 109 = .ok (.iload 5, 2) := by decide +kernel
theorem dX8_bestMixNow_111 : decode cX8_bestMixNow 111 = .ok (.invokevirtual 55, 3) := by decide +kernel
theorem dX8_bestMixNow_114 : decode cX8_bestMixNow 114 = .ok (.checkcast 59, 3) := by decide +kernel
theorem dX8_bestMixNow_117 : decode cX8_bestMixNow 117 = .ok (.iload 9, 2) := by decide +kernel
theorem dX8_bestMixNow_119 : decode cX8_bestMixNow 119 = .ok (.invokevirtual 202, 3) := by decide +kernel
theorem dX8_bestMixNow_122 : decode cX8_bestMixNow 122 = .ok (.imul, 1) := by decide +kernel
theorem dX8_bestMixNow_123 : decode cX8_bestMixNow 123 = .ok (.iadd, 1) := by decide +kernel
theorem dX8_bestMixNow_124 : decode cX8_bestMixNow 124 = .ok (.istore 10, 2) := by decide +kernel
theorem dX8_bestMixNow_126 : decode cX8_bestMixNow 126 = .ok (.iload 7, 2) := by decide +kernel
theorem dX8_bestMixNow_128 : decode cX8_bestMixNow 128 = .ok (.iload 10, 2) := by decide +kernel
theorem dX8_bestMixNow_130 : decode cX8_bestMixNow 130 = .ok (.iadd, 1) := by decide +kernel
theorem dX8_bestMixNow_131 : decode cX8_bestMixNow 131 = .ok (.istore 7, 2) := by decide +kernel
theorem dX8_bestMixNow_133 : decode cX8_bestMixNow 133 = .ok (.iload 8, 2) := by decide +kernel
theorem dX8_bestMixNow_135 : decode cX8_bestMixNow 135 = .ok (.iload 10, 2) := by decide +kernel
theorem dX8_bestMixNow_137 : decode cX8_bestMixNow 137 = .ok (.bipush 10, 2) := by decide +kernel
theorem dX8_bestMixNow_139 : decode cX8_bestMixNow 139 = .ok (.idiv, 1) := by decide +kernel
theorem dX8_bestMixNow_140 : decode cX8_bestMixNow 140 = .ok (.aload_n 1, 1) := by decide +kernel
theorem dX8_bestMixNow_141 : decode cX8_bestMixNow 141 = .ok (.iload 9, 2) := by decide +kernel
theorem dX8_bestMixNow_143 : decode cX8_bestMixNow 143 = .ok (.iaload, 1) := by decide +kernel
theorem dX8_bestMixNow_144 : decode cX8_bestMixNow 144 = .ok (.if_icmp .lt 7, 3) := by decide +kernel
theorem dX8_bestMixNow_147 : decode cX8_bestMixNow 147 = .ok (.iconst 1, 1) := by decide +kernel
theorem dX8_bestMixNow_148 : decode cX8_bestMixNow 148 = .ok (.goto 4, 3) := by decide +kernel
theorem dX8_bestMixNow_151 : decode cX8_bestMixNow 151 = .ok (.iconst 0, 1) := by decide +kernel
theorem dX8_bestMixNow_152 : decode cX8_bestMixNow 152 = .ok (.iand, 1) := by decide +kernel
theorem dX8_bestMixNow_153 : decode cX8_bestMixNow 153 = .ok (.istore 8, 2) := by decide +kernel
theorem dX8_bestMixNow_155 : decode cX8_bestMixNow 155 = .ok (.iinc 9 1, 3) := by decide +kernel
theorem dX8_bestMixNow_158 : decode cX8_bestMixNow 158 = .ok (.goto (-84), 3) := by decide +kernel
theorem dX8_bestMixNow_161 : decode cX8_bestMixNow 161 = .ok (.iload 8, 2) := by decide +kernel
theorem dX8_bestMixNow_163 : decode cX8_bestMixNow 163 = .ok (.ifCond .eq 36, 3) := by decide +kernel
theorem dX8_bestMixNow_166 : decode cX8_bestMixNow 166 = .ok (.iload_n 2, 1) := by decide +kernel
theorem dX8_bestMixNow_167 : decode cX8_bestMixNow 167 = .ok (.iconst (-1), 1) := by decide +kernel
theorem dX8_bestMixNow_168 : decode cX8_bestMixNow 168 = .ok (.if_icmp .eq 12, 3) := by decide +kernel
theorem dX8_bestMixNow_171 : decode cX8_bestMixNow 171 = .ok (.iload 7, 2) := by decide +kernel
theorem dX8_bestMixNow_173 : decode cX8_bestMixNow 173 = .ok (.iload_n 3, 1) := by decide +kernel
theorem dX8_bestMixNow_174 : decode cX8_bestMixNow 174 = .ok (.if_icmp .lt 6, 3) := by decide +kernel
theorem dX8_bestMixNow_177 : decode cX8_bestMixNow 177 = .ok (.goto 22, 3) := by decide +kernel
theorem dX8_bestMixNow_180 : decode cX8_bestMixNow 180 = .ok (.sipush 1000, 3) := by decide +kernel
theorem dX8_bestMixNow_183 : decode cX8_bestMixNow 183 = .ok (.iload 4, 2) := by decide +kernel
theorem dX8_bestMixNow_185 : decode cX8_bestMixNow 185 = .ok (.imul, 1) := by decide +kernel
theorem dX8_bestMixNow_186 : decode cX8_bestMixNow 186 = .ok (.bipush 10, 2) := by decide +kernel
theorem dX8_bestMixNow_188 : decode cX8_bestMixNow 188 = .ok (.iload 5, 2) := by decide +kernel
theorem dX8_bestMixNow_190 : decode cX8_bestMixNow 190 = .ok (.imul, 1) := by decide +kernel
theorem dX8_bestMixNow_191 : decode cX8_bestMixNow 191 = .ok (.iadd, 1) := by decide +kernel
theorem dX8_bestMixNow_192 : decode cX8_bestMixNow 192 = .ok (.iload 6, 2) := by decide +kernel
theorem dX8_bestMixNow_194 : decode cX8_bestMixNow 194 = .ok (.iadd, 1) := by decide +kernel
theorem dX8_bestMixNow_195 : decode cX8_bestMixNow 195 = .ok (.istore_n 2, 1) := by decide +kernel
theorem dX8_bestMixNow_196 : decode cX8_bestMixNow 196 = .ok (.iload 7, 2) := by decide +kernel
theorem dX8_bestMixNow_198 : decode cX8_bestMixNow 198 = .ok (.istore_n 3, 1) := by decide +kernel
theorem dX8_bestMixNow_199 : decode cX8_bestMixNow 199 = .ok (.iinc 6 1, 3) := by decide +kernel
theorem dX8_bestMixNow_202 : decode cX8_bestMixNow 202 = .ok (.goto (-153), 3) := by decide +kernel
theorem dX8_bestMixNow_205 : decode cX8_bestMixNow 205 = .ok (.iinc 5 1, 3) := by decide +kernel
theorem dX8_bestMixNow_208 : decode cX8_bestMixNow 208 = .ok (.goto (-183), 3) := by decide +kernel
theorem dX8_bestMixNow_211 : decode cX8_bestMixNow 211 = .ok (.iinc 4 1, 3) := by decide +kernel
theorem dX8_bestMixNow_214 : decode cX8_bestMixNow 214 = .ok (.goto (-207), 3) := by decide +kernel
theorem dX8_bestMixNow_217 : decode cX8_bestMixNow 217 = .ok (.iload_n 2, 1) := by decide +kernel
theorem dX8_bestMixNow_218 : decode cX8_bestMixNow 218 = .ok (.ireturn, 1) := by decide +kernel
theorem dX8_isNoNote_0 : decode cX8_isNoNote 0 = .ok (.iload_n 0, 1) := by decide +kernel
theorem dX8_isNoNote_1 : decode cX8_isNoNote 1 = .ok (.iconst 0, 1) := by decide +kernel
theorem dX8_isNoNote_2 : decode cX8_isNoNote 2 = .ok (.bipush 9, 2) := by decide +kernel
theorem dX8_isNoNote_4 : decode cX8_isNoNote 4 = .ok (.invokestatic 51, 3) := by decide +kernel
theorem dX8_isNoNote_7 : decode cX8_isNoNote 7 = .ok (.ifCond .ne 7, 3) := by decide +kernel
theorem dX8_isNoNote_10 : decode cX8_isNoNote 10 = .ok (.iconst 1, 1) := by decide +kernel
theorem dX8_isNoNote_11 : decode cX8_isNoNote 11 = .ok (.goto 4, 3) := by decide +kernel
theorem dX8_isNoNote_14 : decode cX8_isNoNote 14 = .ok (.iconst 0, 1) := by decide +kernel
theorem dX8_isNoNote_15 : decode cX8_isNoNote 15 = .ok (.ireturn, 1) := by decide +kernel
theorem dX8_bestMix_0 : decode cX8_bestMix 0 = .ok (.aload_n 0, 1) := by decide +kernel
theorem dX8_bestMix_1 : decode cX8_bestMix 1 = .ok (.iload_n 1, 1) := by decide +kernel
theorem dX8_bestMix_2 : decode cX8_bestMix 2 = .ok (.invokestatic 318, 3) := by decide +kernel
theorem dX8_bestMix_5 : decode cX8_bestMix 5 = .ok (.ifCond .ne 17, 3) := by decide +kernel
theorem dX8_bestMix_8 : decode cX8_bestMix 8 = .ok (.iload_n 2, 1) := by decide +kernel
theorem dX8_bestMix_9 : decode cX8_bestMix 9 = .ok (.invokestatic 318, 3) := by decide +kernel
theorem dX8_bestMix_12 : decode cX8_bestMix 12 = .ok (.ifCond .ne 10, 3) := by decide +kernel
theorem dX8_bestMix_15 : decode cX8_bestMix 15 = .ok (.iload_n 3, 1) := by decide +kernel
theorem dX8_bestMix_16 : decode cX8_bestMix 16 = .ok (.invokestatic 318, 3) := by decide +kernel
theorem dX8_bestMix_19 : decode cX8_bestMix 19 = .ok (.ifCond .eq 7, 3) := by decide +kernel
theorem dX8_bestMix_22 : decode cX8_bestMix 22 = .ok (.iconst 1, 1) := by decide +kernel
theorem dX8_bestMix_23 : decode cX8_bestMix 23 = .ok (.goto 4, 3) := by decide +kernel
theorem dX8_bestMix_26 : decode cX8_bestMix 26 = .ok (.iconst 0, 1) := by decide +kernel
theorem dX8_bestMix_27 : decode cX8_bestMix 27 = .ok (.iconst 1, 1) := by decide +kernel
theorem dX8_bestMix_28 : decode cX8_bestMix 28 = .ok (.invokevirtual 64, 3) := by decide +kernel
theorem dX8_bestMix_31 : decode cX8_bestMix 31 = .ok (.ifCond .eq 7, 3) := by decide +kernel
theorem dX8_bestMix_34 : decode cX8_bestMix 34 = .ok (.iconst 0, 1) := by decide +kernel
theorem dX8_bestMix_35 : decode cX8_bestMix 35 = .ok (.goto 22, 3) := by decide +kernel
theorem dX8_bestMix_38 : decode cX8_bestMix 38 = .ok (.aload_n 0, 1) := by decide +kernel
theorem dX8_bestMix_39 : decode cX8_bestMix 39 = .ok (.iconst 3, 1) := by decide +kernel
theorem dX8_bestMix_40 : decode cX8_bestMix 40 = .ok (.newarray .int, 2) := by decide +kernel
theorem dX8_bestMix_42 : decode cX8_bestMix 42 = .ok (.dup, 1) := by decide +kernel
theorem dX8_bestMix_43 : decode cX8_bestMix 43 = .ok (.iconst 0, 1) := by decide +kernel
theorem dX8_bestMix_44 : decode cX8_bestMix 44 = .ok (.iload_n 1, 1) := by decide +kernel
theorem dX8_bestMix_45 : decode cX8_bestMix 45 = .ok (.iastore, 1) := by decide +kernel
theorem dX8_bestMix_46 : decode cX8_bestMix 46 = .ok (.dup, 1) := by decide +kernel
theorem dX8_bestMix_47 : decode cX8_bestMix 47 = .ok (.iconst 1, 1) := by decide +kernel
theorem dX8_bestMix_48 : decode cX8_bestMix 48 = .ok (.iload_n 2, 1) := by decide +kernel
theorem dX8_bestMix_49 : decode cX8_bestMix 49 = .ok (.iastore, 1) := by decide +kernel
theorem dX8_bestMix_50 : decode cX8_bestMix 50 = .ok (.dup, 1) := by decide +kernel
theorem dX8_bestMix_51 : decode cX8_bestMix 51 = .ok (.iconst 2, 1) := by decide +kernel
theorem dX8_bestMix_52 : decode cX8_bestMix 52 = .ok (.iload_n 3, 1) := by decide +kernel
theorem dX8_bestMix_53 : decode cX8_bestMix 53 = .ok (.iastore, 1) := by decide +kernel
theorem dX8_bestMix_54 : decode cX8_bestMix 54 = .ok (.invokevirtual 321, 3) := by decide +kernel
theorem dX8_bestMix_57 : decode cX8_bestMix 57 = .ok (.ireturn, 1) := by decide +kernel
theorem dX8_wouldPayNow_0 : decode cX8_wouldPayNow 0 = .ok (.aload_n 0, 1) := by decide +kernel
theorem dX8_wouldPayNow_1 : decode cX8_wouldPayNow 1 = .ok (.aload_n 0, 1) := by decide +kernel
theorem dX8_wouldPayNow_2 : decode cX8_wouldPayNow 2 = .ok (.getfield 25, 3) := by decide +kernel
theorem dX8_wouldPayNow_5 : decode cX8_wouldPayNow 5 = .ok (.iload_n 1, 1) := by decide +kernel
theorem dX8_wouldPayNow_6 : decode cX8_wouldPayNow 6 = .ok (.invokevirtual 55, 3) := by decide +kernel
theorem dX8_wouldPayNow_9 : decode cX8_wouldPayNow 9 = .ok (.checkcast 59, 3) := by decide +kernel
theorem dX8_wouldPayNow_12 : decode cX8_wouldPayNow 12 = .ok (.invokevirtual 243, 3) := by decide +kernel
theorem dX8_wouldPayNow_15 : decode cX8_wouldPayNow 15 = .ok (.astore_n 2, 1) := by decide +kernel
theorem dX8_wouldPayNow_16 : decode cX8_wouldPayNow 16 = .ok (.aload_n 2, 1) := by decide +kernel
theorem dX8_wouldPayNow_17 : decode cX8_wouldPayNow 17 = .ok (.ifnonnull 7, 3) := by decide +kernel
theorem dX8_wouldPayNow_20 : decode cX8_wouldPayNow 20 = .ok (.iconst 0, 1) := by decide +kernel
theorem dX8_wouldPayNow_21 : decode cX8_wouldPayNow 21 = .ok (.goto 24, 3) := by decide +kernel
theorem dX8_wouldPayNow_24 : decode cX8_wouldPayNow 24 = .ok (.aload_n 2, 1) := by decide +kernel
theorem dX8_wouldPayNow_25 : decode cX8_wouldPayNow 25 = .ok (.iconst 1, 1) := by decide +kernel
theorem dX8_wouldPayNow_26 : decode cX8_wouldPayNow 26 = .ok (.iaload, 1) := by decide +kernel
theorem dX8_wouldPayNow_27 : decode cX8_wouldPayNow 27 = .ok (.aload_n 0, 1) := by decide +kernel
theorem dX8_wouldPayNow_28 : decode cX8_wouldPayNow 28 = .ok (.getfield 25, 3) := by decide +kernel
theorem dX8_wouldPayNow_31 : decode cX8_wouldPayNow 31 = .ok (.iload_n 1, 1) := by decide +kernel
theorem dX8_wouldPayNow_32 : decode cX8_wouldPayNow 32 = .ok (.invokevirtual 55, 3) := by decide +kernel
theorem dX8_wouldPayNow_35 : decode cX8_wouldPayNow 35 = .ok (.checkcast 59, 3) := by decide +kernel
theorem dX8_wouldPayNow_38 : decode cX8_wouldPayNow 38 = .ok (.invokevirtual 127, 3) := by decide +kernel
theorem dX8_wouldPayNow_41 : decode cX8_wouldPayNow 41 = .ok (.imul, 1) := by decide +kernel
theorem dX8_wouldPayNow_42 : decode cX8_wouldPayNow 42 = .ok (.bipush 10, 2) := by decide +kernel
theorem dX8_wouldPayNow_44 : decode cX8_wouldPayNow 44 = .ok (.idiv, 1) := by decide +kernel
theorem dX8_wouldPayNow_45 : decode cX8_wouldPayNow 45 = .ok (.ireturn, 1) := by decide +kernel
theorem dX8_wouldPay_0 : decode cX8_wouldPay 0 = .ok (.aload_n 0, 1) := by decide +kernel
theorem dX8_wouldPay_1 : decode cX8_wouldPay 1 = .ok (.aload_n 0, 1) := by decide +kernel
theorem dX8_wouldPay_2 : decode cX8_wouldPay 2 = .ok (.iload_n 1, 1) := by decide +kernel
theorem dX8_wouldPay_3 : decode cX8_wouldPay 3 = .ok (.invokevirtual 143, 3) := by decide +kernel
theorem dX8_wouldPay_6 : decode cX8_wouldPay 6 = .ok (.iconst 1, 1) := by decide +kernel
theorem dX8_wouldPay_7 : decode cX8_wouldPay 7 = .ok (.invokevirtual 64, 3) := by decide +kernel
theorem dX8_wouldPay_10 : decode cX8_wouldPay 10 = .ok (.ifCond .ne 33, 3) := by decide +kernel
theorem dX8_wouldPay_13 : decode cX8_wouldPay 13 = .ok (.aload_n 0, 1) := by decide +kernel
theorem dX8_wouldPay_14 : decode cX8_wouldPay 14 = .ok (.aload_n 0, 1) := by decide +kernel
theorem dX8_wouldPay_15 : decode cX8_wouldPay 15 = .ok (.getfield 25, 3) := by decide +kernel
theorem dX8_wouldPay_18 : decode cX8_wouldPay 18 = .ok (.iload_n 1, 1) := by decide +kernel
theorem dX8_wouldPay_19 : decode cX8_wouldPay 19 = .ok (.invokevirtual 55, 3) := by decide +kernel
theorem dX8_wouldPay_22 : decode cX8_wouldPay 22 = .ok (.checkcast 59, 3) := by decide +kernel
theorem dX8_wouldPay_25 : decode cX8_wouldPay 25 = .ok (.invokevirtual 180, 3) := by decide +kernel
theorem dX8_wouldPay_28 : decode cX8_wouldPay 28 = .ok (.ifCond .ne 7, 3) := by decide +kernel
theorem dX8_wouldPay_31 : decode cX8_wouldPay 31 = .ok (.iconst 1, 1) := by decide +kernel
theorem dX8_wouldPay_32 : decode cX8_wouldPay 32 = .ok (.goto 4, 3) := by decide +kernel
theorem dX8_wouldPay_35 : decode cX8_wouldPay 35 = .ok (.iconst 0, 1) := by decide +kernel
theorem dX8_wouldPay_36 : decode cX8_wouldPay 36 = .ok (.iconst 2, 1) := by decide +kernel
theorem dX8_wouldPay_37 : decode cX8_wouldPay 37 = .ok (.invokevirtual 43, 3) := by decide +kernel
theorem dX8_wouldPay_40 : decode cX8_wouldPay 40 = .ok (.ifCond .eq 7, 3) := by decide +kernel
theorem dX8_wouldPay_43 : decode cX8_wouldPay 43 = .ok (.iconst 0, 1) := by decide +kernel
theorem dX8_wouldPay_44 : decode cX8_wouldPay 44 = .ok (.goto 8, 3) := by decide +kernel
theorem dX8_wouldPay_47 : decode cX8_wouldPay 47 = .ok (.aload_n 0, 1) := by decide +kernel
theorem dX8_wouldPay_48 : decode cX8_wouldPay 48 = .ok (.iload_n 1, 1) := by decide +kernel
theorem dX8_wouldPay_49 : decode cX8_wouldPay 49 = .ok (.invokevirtual 325, 3) := by decide +kernel
theorem dX8_wouldPay_52 : decode cX8_wouldPay 52 = .ok (.ireturn, 1) := by decide +kernel
theorem dX8_add_0 : decode cX8_add 0 = .ok (.lload_n 0, 1) := by decide +kernel
theorem dX8_add_1 : decode cX8_add 1 = .ok (.ldc2_w 328, 3) := by decide +kernel
theorem dX8_add_4 : decode cX8_add 4 = .ok (.lmul, 1) := by decide +kernel
theorem dX8_add_5 : decode cX8_add 5 = .ok (.lload_n 2, 1) := by decide +kernel
theorem dX8_add_6 : decode cX8_add 6 = .ok (.ladd, 1) := by decide +kernel
theorem dX8_add_7 : decode cX8_add 7 = .ok (.lreturn, 1) := by decide +kernel
theorem dX8_digest_0 : decode cX8_digest 0 = .ok (.aload_n 0, 1) := by decide +kernel
theorem dX8_digest_1 : decode cX8_digest 1 = .ok (.iconst 0, 1) := by decide +kernel
theorem dX8_digest_2 : decode cX8_digest 2 = .ok (.putfield 39, 3) := by decide +kernel
theorem dX8_digest_5 : decode cX8_digest 5 = .ok (.ldc2_w 330, 3) := by decide +kernel
theorem dX8_digest_8 : decode cX8_digest 8 = .ok (.lstore_n 1, 1) := by decide +kernel
theorem dX8_digest_9 : decode cX8_digest 9 = .ok (.iconst 0, 1) := by decide +kernel
theorem dX8_digest_10 : decode cX8_digest 10 = .ok (.istore_n 3, 1) := by decide +kernel
theorem dX8_digest_11 : decode cX8_digest 11 = .ok (.iload_n 3, 1) := by decide +kernel
theorem dX8_digest_12 : decode cX8_digest 12 = .ok (.bipush 15, 2) := by decide +kernel
theorem dX8_digest_14 : decode cX8_digest 14 = .ok (.if_icmp .ge 20, 3) := by decide +kernel
theorem dX8_digest_17 : decode cX8_digest 17 = .ok (.lload_n 1, 1) := by decide +kernel
theorem dX8_digest_18 : decode cX8_digest 18 = .ok (.aload_n 0, 1) := by decide +kernel
theorem dX8_digest_19 : decode cX8_digest 19 = .ok (.iload_n 3, 1) := by decide +kernel
theorem dX8_digest_20 : decode cX8_digest 20 = .ok (.invokevirtual 298, 3) := by decide +kernel
theorem dX8_digest_23 : decode cX8_digest 23 = .ok (.i2l, 1) := by decide +kernel
theorem dX8_digest_24 : decode cX8_digest 24 = .ok (.invokestatic 332, 3) := by decide +kernel
theorem dX8_digest_27 : decode cX8_digest 27 = .ok (.lstore_n 1, 1) := by decide +kernel
theorem dX8_digest_28 : decode cX8_digest 28 = .ok (.iinc 3 1, 3) := by decide +kernel
theorem dX8_digest_31 : decode cX8_digest 31 = .ok (.goto (-20), 3) := by decide +kernel
theorem dX8_digest_34 : decode cX8_digest 34 = .ok (.iconst 0, 1) := by decide +kernel
theorem dX8_digest_35 : decode cX8_digest 35 = .ok (.istore_n 3, 1) := by decide +kernel
theorem dX8_digest_36 : decode cX8_digest 36 = .ok (.iload_n 3, 1) := by decide +kernel
theorem dX8_digest_37 : decode cX8_digest 37 = .ok (.aload_n 0, 1) := by decide +kernel
theorem dX8_digest_38 : decode cX8_digest 38 = .ok (.getfield 21, 3) := by decide +kernel
theorem dX8_digest_41 : decode cX8_digest 41 = .ok (.invokevirtual 47, 3) := by decide +kernel
theorem dX8_digest_44 : decode cX8_digest 44 = .ok (.if_icmp .ge 51, 3) := by decide +kernel
theorem dX8_digest_47 : decode cX8_digest 47 = .ok (.iconst 0, 1) := by decide +kernel
theorem dX8_digest_48 : decode cX8_digest 48 = .ok (.istore 4, 2) := by decide +kernel
theorem dX8_digest_50 : decode cX8_digest 50 = .ok (.iload 4, 2) := by decide +kernel
theorem dX8_digest_52 : decode cX8_digest 52 = .ok (.bipush 11, 2) := by decide +kernel
theorem dX8_digest_54 : decode cX8_digest 54 = .ok (.if_icmp .ge 22, 3) := by decide +kernel
theorem dX8_digest_57 : decode cX8_digest 57 = .ok (.lload_n 1, 1) := by decide +kernel
theorem dX8_digest_58 : decode cX8_digest 58 = .ok (.aload_n 0, 1) := by decide +kernel
theorem dX8_digest_59 : decode cX8_digest 59 = .ok (.iload_n 3, 1) := by decide +kernel
theorem dX8_digest_60 : decode cX8_digest 60 = .ok (.iload 4, 2) := by decide +kernel
theorem dX8_digest_62 : decode cX8_digest 62 = .ok (.invokevirtual 268, 3) := by decide +kernel
theorem dX8_digest_65 : decode cX8_digest 65 = .ok (.i2l, 1) := by decide +kernel
theorem dX8_digest_66 : decode cX8_digest 66 = .ok (.invokestatic 332, 3) := by decide +kernel
theorem dX8_digest_69 : decode cX8_digest 69 = .ok (.lstore_n 1, 1) := by decide +kernel
theorem dX8_digest_70 : decode cX8_digest 70 = .ok (.iinc 4 1, 3) := by decide +kernel
theorem dX8_digest_73 : decode cX8_digest 73 = .ok (.goto (-23), 3) := by decide +kernel
theorem dX8_digest_76 : decode cX8_digest 76 = .ok (.lload_n 1, 1) := by decide +kernel
theorem dX8_digest_77 : decode cX8_digest 77 = .ok (.aload_n 0, 1) := by decide +kernel
theorem dX8_digest_78 : decode cX8_digest 78 = .ok (.iload_n 3, 1) := by decide +kernel
theorem dX8_digest_79 : decode cX8_digest 79 = .ok (.iconst 3, 1) := by decide +kernel
theorem dX8_digest_80 : decode cX8_digest 80 = .ok (.iconst 2, 1) := by decide +kernel
theorem dX8_digest_81 : decode cX8_digest 81 = .ok (.invokevirtual 307, 3) := by decide +kernel
theorem dX8_digest_84 : decode cX8_digest 84 = .ok (.i2l, 1) := by decide +kernel
theorem dX8_digest_85 : decode cX8_digest 85 = .ok (.invokestatic 332, 3) := by decide +kernel
theorem dX8_digest_88 : decode cX8_digest 88 = .ok (.lstore_n 1, 1) := by decide +kernel
theorem dX8_digest_89 : decode cX8_digest 89 = .ok (.iinc 3 1, 3) := by decide +kernel
theorem dX8_digest_92 : decode cX8_digest 92 = .ok (.goto (-56), 3) := by decide +kernel
theorem dX8_digest_95 : decode cX8_digest 95 = .ok (.iconst 0, 1) := by decide +kernel
theorem dX8_digest_96 : decode cX8_digest 96 = .ok (.istore_n 3, 1) := by decide +kernel
theorem dX8_digest_97 : decode cX8_digest 97 = .ok (.iload_n 3, 1) := by decide +kernel
theorem dX8_digest_98 : decode cX8_digest 98 = .ok (.aload_n 0, 1) := by decide +kernel
theorem dX8_digest_99 : decode cX8_digest 99 = .ok (.getfield 25, 3) := by decide +kernel
theorem dX8_digest_102 : decode cX8_digest 102 = .ok (.invokevirtual 47, 3) := by decide +kernel
theorem dX8_digest_105 : decode cX8_digest 105 = .ok (.if_icmp .ge 16, 3) := by decide +kernel
theorem dX8_digest_108 : decode cX8_digest 108 = .ok (.aload_n 0, 1) := by decide +kernel
theorem dX8_digest_109 : decode cX8_digest 109 = .ok (.lload_n 1, 1) := by decide +kernel
theorem dX8_digest_110 : decode cX8_digest 110 = .ok (.iload_n 3, 1) := by decide +kernel
theorem dX8_digest_111 : decode cX8_digest 111 = .ok (.invokevirtual 335, 3) := by decide +kernel
theorem dX8_digest_114 : decode cX8_digest 114 = .ok (.lstore_n 1, 1) := by decide +kernel
theorem dX8_digest_115 : decode cX8_digest 115 = .ok (.iinc 3 1, 3) := by decide +kernel
theorem dX8_digest_118 : decode cX8_digest 118 = .ok (.goto (-21), 3) := by decide +kernel
theorem dX8_digest_121 : decode cX8_digest 121 = .ok (.iconst 0, 1) := by decide +kernel
theorem dX8_digest_122 : decode cX8_digest 122 = .ok (.istore_n 3, 1) := by decide +kernel
theorem dX8_digest_123 : decode cX8_digest 123 = .ok (.iload_n 3, 1) := by decide +kernel
theorem dX8_digest_124 : decode cX8_digest 124 = .ok (.iconst 3, 1) := by decide +kernel
theorem dX8_digest_125 : decode cX8_digest 125 = .ok (.if_icmp .ge 31, 3) := by decide +kernel
theorem dX8_digest_128 : decode cX8_digest 128 = .ok (.lload_n 1, 1) := by decide +kernel
theorem dX8_digest_129 : decode cX8_digest 129 = .ok (.aload_n 0, 1) := by decide +kernel
theorem dX8_digest_130 : decode cX8_digest 130 = .ok (.iload_n 3, 1) := by decide +kernel
theorem dX8_digest_131 : decode cX8_digest 131 = .ok (.iconst 0, 1) := by decide +kernel
theorem dX8_digest_132 : decode cX8_digest 132 = .ok (.invokevirtual 289, 3) := by decide +kernel
theorem dX8_digest_135 : decode cX8_digest 135 = .ok (.i2l, 1) := by decide +kernel
theorem dX8_digest_136 : decode cX8_digest 136 = .ok (.invokestatic 332, 3) := by decide +kernel
theorem dX8_digest_139 : decode cX8_digest 139 = .ok (.aload_n 0, 1) := by decide +kernel
theorem dX8_digest_140 : decode cX8_digest 140 = .ok (.iload_n 3, 1) := by decide +kernel
theorem dX8_digest_141 : decode cX8_digest 141 = .ok (.iconst 1, 1) := by decide +kernel
theorem dX8_digest_142 : decode cX8_digest 142 = .ok (.invokevirtual 289, 3) := by decide +kernel
theorem dX8_digest_145 : decode cX8_digest 145 = .ok (.i2l, 1) := by decide +kernel
theorem dX8_digest_146 : decode cX8_digest 146 = .ok (.invokestatic 332, 3) := by decide +kernel
theorem dX8_digest_149 : decode cX8_digest 149 = .ok (.lstore_n 1, 1) := by decide +kernel
theorem dX8_digest_150 : decode cX8_digest 150 = .ok (.iinc 3 1, 3) := by decide +kernel
theorem dX8_digest_153 : decode cX8_digest 153 = .ok (.goto (-30), 3) := by decide +kernel
theorem dX8_digest_156 : decode cX8_digest 156 = .ok (.lload_n 1, 1) := by decide +kernel
theorem dX8_digest_157 : decode cX8_digest 157 = .ok (.aload_n 0, 1) := by decide +kernel
theorem dX8_digest_158 : decode cX8_digest 158 = .ok (.iconst 3, 1) := by decide +kernel
theorem dX8_digest_159 : decode cX8_digest 159 = .ok (.newarray .int, 2) := by decide +kernel
theorem dX8_digest_161 : decode cX8_digest 161 = .ok (.dup, 1) := by decide +kernel
theorem dX8_digest_162 : decode cX8_digest 162 = .ok (.iconst 0, 1) := by decide +kernel
theorem dX8_digest_163 : decode cX8_digest 163 = .ok (.iconst 3, 1) := by decide +kernel
theorem dX8_digest_164 : decode cX8_digest 164 = .ok (.iastore, 1) := by decide +kernel
theorem dX8_digest_165 : decode cX8_digest 165 = .ok (.dup, 1) := by decide +kernel
theorem dX8_digest_166 : decode cX8_digest 166 = .ok (.iconst 1, 1) := by decide +kernel
theorem dX8_digest_167 : decode cX8_digest 167 = .ok (.iconst 3, 1) := by decide +kernel
theorem dX8_digest_168 : decode cX8_digest 168 = .ok (.iastore, 1) := by decide +kernel
theorem dX8_digest_169 : decode cX8_digest 169 = .ok (.dup, 1) := by decide +kernel
theorem dX8_digest_170 : decode cX8_digest 170 = .ok (.iconst 2, 1) := by decide +kernel
theorem dX8_digest_171 : decode cX8_digest 171 = .ok (.iconst 3, 1) := by decide +kernel
theorem dX8_digest_172 : decode cX8_digest 172 = .ok (.iastore, 1) := by decide +kernel
theorem dX8_digest_173 : decode cX8_digest 173 = .ok (.invokevirtual 321, 3) := by decide +kernel
theorem dX8_digest_176 : decode cX8_digest 176 = .ok (.i2l, 1) := by decide +kernel
theorem dX8_digest_177 : decode cX8_digest 177 = .ok (.invokestatic 332, 3) := by decide +kernel
theorem dX8_digest_180 : decode cX8_digest 180 = .ok (.lreturn, 1) := by decide +kernel
theorem dX8_addLot_0 : decode cX8_addLot 0 = .ok (.lload_n 1, 1) := by decide +kernel
theorem dX8_addLot_1 : decode cX8_addLot 1 = .ok (.lstore 4, 2) := by decide +kernel
theorem dX8_addLot_3 : decode cX8_addLot 3 = .ok (.aload_n 0, 1) := by decide +kernel
theorem dX8_addLot_4 : decode cX8_addLot 4 = .ok (.getfield 25, 3) := by decide +kernel
theorem dX8_addLot_7 : decode cX8_addLot 7 = .ok (.iload_n 3, 1) := by decide +kernel
theorem dX8_addLot_8 : decode cX8_addLot 8 = .ok (.invokevirtual 55, 3) := by decide +kernel
theorem dX8_addLot_11 : decode cX8_addLot 11 = .ok (.checkcast 59, 3) := by decide +kernel
theorem dX8_addLot_14 : decode cX8_addLot 14 = .ok (.astore 6, 2) := by decide +kernel
theorem dX8_addLot_16 : decode cX8_addLot 16 = .ok (.iconst 0, 1) := by decide +kernel
theorem dX8_addLot_17 : decode cX8_addLot 17 = .ok (.istore 7, 2) := by decide +kernel
theorem dX8_addLot_19 : decode cX8_addLot 19 = .ok (.iload 7, 2) := by decide +kernel
theorem dX8_addLot_21 : decode cX8_addLot 21 = .ok (.bipush 18, 2) := by decide +kernel
theorem dX8_addLot_23 : decode cX8_addLot 23 = .ok (.if_icmp .ge 24, 3) := by decide +kernel
theorem dX8_addLot_26 : decode cX8_addLot 26 = .ok (.lload 4, 2) := by decide +kernel
theorem dX8_addLot_28 : decode cX8_addLot 28 = .ok (.aload_n 0, 1) := by decide +kernel
theorem dX8_addLot_29 : decode cX8_addLot 29 = .ok (.iload_n 3, 1) := by decide +kernel
theorem dX8_addLot_30 : decode cX8_addLot 30 = .ok (.iload 7, 2) := by decide +kernel
theorem dX8_addLot_32 : decode cX8_addLot 32 = .ok (.invokevirtual 277, 3) := by decide +kernel
theorem dX8_addLot_35 : decode cX8_addLot 35 = .ok (.i2l, 1) := by decide +kernel
theorem dX8_addLot_36 : decode cX8_addLot 36 = .ok (.invokestatic 332, 3) := by decide +kernel
theorem dX8_addLot_39 : decode cX8_addLot 39 = .ok (.lstore 4, 2) := by decide +kernel
theorem dX8_addLot_41 : decode cX8_addLot 41 = .ok (.iinc 7 1, 3) := by decide +kernel
theorem dX8_addLot_44 : decode cX8_addLot 44 = .ok (.goto (-25), 3) := by decide +kernel
theorem dX8_addLot_47 : decode cX8_addLot 47 = .ok (.iconst 0, 1) := by decide +kernel
theorem dX8_addLot_48 : decode cX8_addLot 48 = .ok (.istore 7, 2) := by decide +kernel
theorem dX8_addLot_50 : decode cX8_addLot 50 = .ok (.iload 7, 2) := by decide +kernel
theorem dX8_addLot_52 : decode cX8_addLot 52 = .ok (.iconst 3, 1) := by decide +kernel
theorem dX8_addLot_53 : decode cX8_addLot 53 = .ok (.if_icmp .ge 33, 3) := by decide +kernel
theorem dX8_addLot_56 : decode cX8_addLot 56 = .ok (.aload 6, 2) := by decide +kernel
theorem dX8_addLot_58 : decode cX8_addLot 58 = .ok (.getfield 61, 3) := by decide +kernel
theorem dX8_addLot_61 : decode cX8_addLot 61 = .ok (.iconst 2, 1) := by decide +kernel
theorem dX8_addLot_62 : decode cX8_addLot 62 = .ok (.if_icmp .ne 24, 3) := by decide +kernel
theorem dX8_addLot_65 : decode cX8_addLot 65 = .ok (.lload 4, 2) := by decide +kernel
theorem dX8_addLot_67 : decode cX8_addLot 67 = .ok (.aload 6, 2) := by decide +kernel
theorem dX8_addLot_69 : decode cX8_addLot 69 = .ok (.iload 7, 2) := by decide +kernel
theorem dX8_addLot_71 : decode cX8_addLot 71 = .ok (.invokevirtual 202, 3) := by decide +kernel
theorem dX8_addLot_74 : decode cX8_addLot 74 = .ok (.i2l, 1) := by decide +kernel
theorem dX8_addLot_75 : decode cX8_addLot 75 = .ok (.invokestatic 332, 3) := by decide +kernel
theorem dX8_addLot_78 : decode cX8_addLot 78 = .ok (.lstore 4, 2) := by decide +kernel
theorem dX8_addLot_80 : decode cX8_addLot 80 = .ok (.iinc 7 1, 3) := by decide +kernel
theorem dX8_addLot_83 : decode cX8_addLot 83 = .ok (.goto (-33), 3) := by decide +kernel
theorem dX8_addLot_86 : decode cX8_addLot 86 = .ok (.iconst 0, 1) := by decide +kernel
theorem dX8_addLot_87 : decode cX8_addLot 87 = .ok (.istore 7, 2) := by decide +kernel
theorem dX8_addLot_89 : decode cX8_addLot 89 = .ok (.iload 7, 2) := by decide +kernel
theorem dX8_addLot_91 : decode cX8_addLot 91 = .ok (.iconst 3, 1) := by decide +kernel
theorem dX8_addLot_92 : decode cX8_addLot 92 = .ok (.if_icmp .ge 33, 3) := by decide +kernel
theorem dX8_addLot_95 : decode cX8_addLot 95 = .ok (.aload 6, 2) := by decide +kernel
theorem dX8_addLot_97 : decode cX8_addLot 97 = .ok (.getfield 61, 3) := by decide +kernel
theorem dX8_addLot_100 : decode cX8_addLot 100 = .ok (.iconst 2, 1) := by decide +kernel
theorem dX8_addLot_101 : decode cX8_addLot 101 = .ok (.if_icmp .ne 24, 3) := by decide +kernel
theorem dX8_addLot_104 : decode cX8_addLot 104 = .ok (.lload 4, 2) := by decide +kernel
theorem dX8_addLot_106 : decode cX8_addLot 106 = .ok (.aload_n 0, 1) := by decide +kernel
theorem dX8_addLot_107 : decode cX8_addLot 107 = .ok (.iload_n 3, 1) := by decide +kernel
theorem dX8_addLot_108 : decode cX8_addLot 108 = .ok (.iload 7, 2) := by decide +kernel
theorem dX8_addLot_110 : decode cX8_addLot 110 = .ok (.invokevirtual 286, 3) := by decide +kernel
theorem dX8_addLot_113 : decode cX8_addLot 113 = .ok (.i2l, 1) := by decide +kernel
theorem dX8_addLot_114 : decode cX8_addLot 114 = .ok (.invokestatic 332, 3) := by decide +kernel
theorem dX8_addLot_117 : decode cX8_addLot 117 = .ok (.lstore 4, 2) := by decide +kernel
theorem dX8_addLot_119 : decode cX8_addLot 119 = .ok (.iinc 7 1, 3) := by decide +kernel
theorem dX8_addLot_122 : decode cX8_addLot 122 = .ok (.goto (-33), 3) := by decide +kernel
theorem dX8_addLot_125 : decode cX8_addLot 125 = .ok (.aload 6, 2) := by decide +kernel
theorem dX8_addLot_127 : decode cX8_addLot 127 = .ok (.getfield 61, 3) := by decide +kernel
theorem dX8_addLot_130 : decode cX8_addLot 130 = .ok (.iconst 1, 1) := by decide +kernel
theorem dX8_addLot_131 : decode cX8_addLot 131 = .ok (.if_icmp .ne 16, 3) := by decide +kernel
theorem dX8_addLot_134 : decode cX8_addLot 134 = .ok (.lload 4, 2) := by decide +kernel
theorem dX8_addLot_136 : decode cX8_addLot 136 = .ok (.aload_n 0, 1) := by decide +kernel
theorem dX8_addLot_137 : decode cX8_addLot 137 = .ok (.iload_n 3, 1) := by decide +kernel
theorem dX8_addLot_138 : decode cX8_addLot 138 = .ok (.invokevirtual 315, 3) := by decide +kernel
theorem dX8_addLot_141 : decode cX8_addLot 141 = .ok (.i2l, 1) := by decide +kernel
theorem dX8_addLot_142 : decode cX8_addLot 142 = .ok (.invokestatic 332, 3) := by decide +kernel
theorem dX8_addLot_145 : decode cX8_addLot 145 = .ok (.lstore 4, 2) := by decide +kernel
theorem dX8_addLot_147 : decode cX8_addLot 147 = .ok (.aload 6, 2) := by decide +kernel
theorem dX8_addLot_149 : decode cX8_addLot 149 = .ok (.invokevirtual 180, 3) := by decide +kernel
theorem dX8_addLot_152 : decode cX8_addLot 152 = .ok (.ifCond .ne 6, 3) := by decide +kernel
theorem dX8_addLot_155 : decode cX8_addLot 155 = .ok (.lload 4, 2) := by decide +kernel
theorem dX8_addLot_157 : decode cX8_addLot 157 = .ok (.lreturn, 1) := by decide +kernel
theorem dX8_addLot_158 : decode cX8_addLot 158 = .ok (.lload 4, 2) := by decide +kernel
theorem dX8_addLot_160 : decode cX8_addLot 160 = .ok (.aload_n 0, 1) := by decide +kernel
theorem dX8_addLot_161 : decode cX8_addLot 161 = .ok (.iload_n 3, 1) := by decide +kernel
theorem dX8_addLot_162 : decode cX8_addLot 162 = .ok (.invokevirtual 325, 3) := by decide +kernel
theorem dX8_addLot_165 : decode cX8_addLot 165 = .ok (.i2l, 1) := by decide +kernel
theorem dX8_addLot_166 : decode cX8_addLot 166 = .ok (.invokestatic 332, 3) := by decide +kernel
theorem dX8_addLot_169 : decode cX8_addLot 169 = .ok (.lstore 4, 2) := by decide +kernel
theorem dX8_addLot_171 : decode cX8_addLot 171 = .ok (.iconst 0, 1) := by decide +kernel
theorem dX8_addLot_172 : decode cX8_addLot 172 = .ok (.istore 7, 2) := by decide +kernel
theorem dX8_addLot_174 : decode cX8_addLot 174 = .ok (.iload 7, 2) := by decide +kernel
theorem dX8_addLot_176 : decode cX8_addLot 176 = .ok (.iconst 4, 1) := by decide +kernel
theorem dX8_addLot_177 : decode cX8_addLot 177 = .ok (.if_icmp .ge 24, 3) := by decide +kernel
theorem dX8_addLot_180 : decode cX8_addLot 180 = .ok (.lload 4, 2) := by decide +kernel
theorem dX8_addLot_182 : decode cX8_addLot 182 = .ok (.aload_n 0, 1) := by decide +kernel
theorem dX8_addLot_183 : decode cX8_addLot 183 = .ok (.iload 7, 2) := by decide +kernel
theorem dX8_addLot_185 : decode cX8_addLot 185 = .ok (.iload_n 3, 1) := by decide +kernel
theorem dX8_addLot_186 : decode cX8_addLot 186 = .ok (.invokevirtual 292, 3) := by decide +kernel
theorem dX8_addLot_189 : decode cX8_addLot 189 = .ok (.i2l, 1) := by decide +kernel
theorem dX8_addLot_190 : decode cX8_addLot 190 = .ok (.invokestatic 332, 3) := by decide +kernel
theorem dX8_addLot_193 : decode cX8_addLot 193 = .ok (.lstore 4, 2) := by decide +kernel
theorem dX8_addLot_195 : decode cX8_addLot 195 = .ok (.iinc 7 1, 3) := by decide +kernel
theorem dX8_addLot_198 : decode cX8_addLot 198 = .ok (.goto (-24), 3) := by decide +kernel
theorem dX8_addLot_201 : decode cX8_addLot 201 = .ok (.lload 4, 2) := by decide +kernel
theorem dX8_addLot_203 : decode cX8_addLot 203 = .ok (.lreturn, 1) := by decide +kernel
theorem dJ9_abs_0f7a4_0 : decode cJ9_abs_0f7a4 0 = .ok (.iload_n 0, 1) := by decide +kernel
theorem dJ9_abs_0f7a4_1 : decode cJ9_abs_0f7a4 1 = .ok (.ifCond .ge 8, 3) := by decide +kernel
theorem dJ9_abs_0f7a4_4 : decode cJ9_abs_0f7a4 4 = .ok (.iload_n 0, 1) := by decide +kernel
theorem dJ9_abs_0f7a4_5 : decode cJ9_abs_0f7a4 5 = .ok (.ineg, 1) := by decide +kernel
theorem dJ9_abs_0f7a4_6 : decode cJ9_abs_0f7a4 6 = .ok (.goto 4, 3) := by decide +kernel
theorem dJ9_abs_0f7a4_9 : decode cJ9_abs_0f7a4 9 = .ok (.iload_n 0, 1) := by decide +kernel
theorem dJ9_abs_0f7a4_10 : decode cJ9_abs_0f7a4 10 = .ok (.ireturn, 1) := by decide +kernel
theorem dJ9_max_7cf53_0 : decode cJ9_max_7cf53 0 = .ok (.iload_n 0, 1) := by decide +kernel
theorem dJ9_max_7cf53_1 : decode cJ9_max_7cf53 1 = .ok (.iload_n 1, 1) := by decide +kernel
theorem dJ9_max_7cf53_2 : decode cJ9_max_7cf53 2 = .ok (.if_icmp .lt 7, 3) := by decide +kernel
theorem dJ9_max_7cf53_5 : decode cJ9_max_7cf53 5 = .ok (.iload_n 0, 1) := by decide +kernel
theorem dJ9_max_7cf53_6 : decode cJ9_max_7cf53 6 = .ok (.goto 4, 3) := by decide +kernel
theorem dJ9_max_7cf53_9 : decode cJ9_max_7cf53 9 = .ok (.iload_n 1, 1) := by decide +kernel
theorem dJ9_max_7cf53_10 : decode cJ9_max_7cf53 10 = .ok (.ireturn, 1) := by decide +kernel
theorem dJ9_min_7cf53_0 : decode cJ9_min_7cf53 0 = .ok (.iload_n 0, 1) := by decide +kernel
theorem dJ9_min_7cf53_1 : decode cJ9_min_7cf53 1 = .ok (.iload_n 1, 1) := by decide +kernel
theorem dJ9_min_7cf53_2 : decode cJ9_min_7cf53 2 = .ok (.if_icmp .gt 7, 3) := by decide +kernel
theorem dJ9_min_7cf53_5 : decode cJ9_min_7cf53 5 = .ok (.iload_n 0, 1) := by decide +kernel
theorem dJ9_min_7cf53_6 : decode cJ9_min_7cf53 6 = .ok (.goto 4, 3) := by decide +kernel
theorem dJ9_min_7cf53_9 : decode cJ9_min_7cf53 9 = .ok (.iload_n 1, 1) := by decide +kernel
theorem dJ9_min_7cf53_10 : decode cJ9_min_7cf53 10 = .ok (.ireturn, 1) := by decide +kernel
theorem dJxa1e45_init_da8c8_0 : decode cJxa1e45_init_da8c8 0 = .ok (.aload_n 0, 1) := by decide +kernel
theorem dJxa1e45_init_da8c8_1 : decode cJxa1e45_init_da8c8 1 = .ok (.invokespecial 1, 3) := by decide +kernel
theorem dJxa1e45_init_da8c8_4 : decode cJxa1e45_init_da8c8 4 = .ok (.return_, 1) := by decide +kernel
theorem dJxc12de_init_da8c8_0 : decode cJxc12de_init_da8c8 0 = .ok (.aload_n 0, 1) := by decide +kernel
theorem dJxc12de_init_da8c8_1 : decode cJxc12de_init_da8c8 1 = .ok (.invokespecial 1, 3) := by decide +kernel
theorem dJxc12de_init_da8c8_4 : decode cJxc12de_init_da8c8 4 = .ok (.aload_n 0, 1) := by decide +kernel
theorem dJxc12de_init_da8c8_5 : decode cJxc12de_init_da8c8 5 = .ok (.iconst 0, 1) := by decide +kernel
theorem dJxc12de_init_da8c8_6 : decode cJxc12de_init_da8c8 6 = .ok (.putfield 7, 3) := by decide +kernel
theorem dJxc12de_init_da8c8_9 : decode cJxc12de_init_da8c8 9 = .ok (.return_, 1) := by decide +kernel
theorem dJx35411_init_45d68_0 : decode cJx35411_init_45d68 0 = .ok (.aload_n 0, 1) := by decide +kernel
theorem dJx35411_init_45d68_1 : decode cJx35411_init_45d68 1 = .ok (.aload_n 1, 1) := by decide +kernel
theorem dJx35411_init_45d68_2 : decode cJx35411_init_45d68 2 = .ok (.putfield 1, 3) := by decide +kernel
theorem dJx35411_init_45d68_5 : decode cJx35411_init_45d68 5 = .ok (.aload_n 0, 1) := by decide +kernel
theorem dJx35411_init_45d68_6 : decode cJx35411_init_45d68 6 = .ok (.invokespecial 7, 3) := by decide +kernel
theorem dJx35411_init_45d68_9 : decode cJx35411_init_45d68 9 = .ok (.aload_n 0, 1) := by decide +kernel
theorem dJx35411_init_45d68_10 : decode cJx35411_init_45d68 10 = .ok (.iconst (-1), 1) := by decide +kernel
theorem dJx35411_init_45d68_11 : decode cJx35411_init_45d68 11 = .ok (.putfield 13, 3) := by decide +kernel
theorem dJx35411_init_45d68_14 : decode cJx35411_init_45d68 14 = .ok (.aload_n 0, 1) := by decide +kernel
theorem dJx35411_init_45d68_15 : decode cJx35411_init_45d68 15 = .ok (.aload_n 0, 1) := by decide +kernel
theorem dJx35411_init_45d68_16 : decode cJx35411_init_45d68 16 = .ok (.getfield 1, 3) := by decide +kernel
theorem dJx35411_init_45d68_19 : decode cJx35411_init_45d68 19 = .ok (.getfield 17, 3) := by decide +kernel
theorem dJx35411_init_45d68_22 : decode cJx35411_init_45d68 22 = .ok (.putfield 22, 3) := by decide +kernel
theorem dJx35411_init_45d68_25 : decode cJx35411_init_45d68 25 = .ok (.return_, 1) := by decide +kernel
theorem dJx35411_hasNext_aae02_0 : decode cJx35411_hasNext_aae02 0 = .ok (.aload_n 0, 1) := by decide +kernel
theorem dJx35411_hasNext_aae02_1 : decode cJx35411_hasNext_aae02 1 = .ok (.getfield 25, 3) := by decide +kernel
theorem dJx35411_hasNext_aae02_4 : decode cJx35411_hasNext_aae02 4 = .ok (.aload_n 0, 1) := by decide +kernel
theorem dJx35411_hasNext_aae02_5 : decode cJx35411_hasNext_aae02 5 = .ok (.getfield 1, 3) := by decide +kernel
theorem dJx35411_hasNext_aae02_8 : decode cJx35411_hasNext_aae02 8 = .ok (.getfield 28, 3) := by decide +kernel
theorem dJx35411_hasNext_aae02_11 : decode cJx35411_hasNext_aae02 11 = .ok (.if_icmp .eq 7, 3) := by decide +kernel
theorem dJx35411_hasNext_aae02_14 : decode cJx35411_hasNext_aae02 14 = .ok (.iconst 1, 1) := by decide +kernel
theorem dJx35411_hasNext_aae02_15 : decode cJx35411_hasNext_aae02 15 = .ok (.goto 4, 3) := by decide +kernel
theorem dJx35411_hasNext_aae02_18 : decode cJx35411_hasNext_aae02 18 = .ok (.iconst 0, 1) := by decide +kernel
theorem dJx35411_hasNext_aae02_19 : decode cJx35411_hasNext_aae02 19 = .ok (.ireturn, 1) := by decide +kernel
theorem dJx35411_next_0502b_0 : decode cJx35411_next_0502b 0 = .ok (.aload_n 0, 1) := by decide +kernel
theorem dJx35411_next_0502b_1 : decode cJx35411_next_0502b 1 = .ok (.invokevirtual 31, 3) := by decide +kernel
theorem dJx35411_next_0502b_4 : decode cJx35411_next_0502b 4 = .ok (.aload_n 0, 1) := by decide +kernel
theorem dJx35411_next_0502b_5 : decode cJx35411_next_0502b 5 = .ok (.getfield 25, 3) := by decide +kernel
theorem dJx35411_next_0502b_8 : decode cJx35411_next_0502b 8 = .ok (.istore_n 1, 1) := by decide +kernel
theorem dJx35411_next_0502b_9 : decode cJx35411_next_0502b 9 = .ok (.iload_n 1, 1) := by decide +kernel
theorem dJx35411_next_0502b_10 : decode cJx35411_next_0502b 10 = .ok (.aload_n 0, 1) := by decide +kernel
theorem dJx35411_next_0502b_11 : decode cJx35411_next_0502b 11 = .ok (.getfield 1, 3) := by decide +kernel
theorem dJx35411_next_0502b_14 : decode cJx35411_next_0502b 14 = .ok (.getfield 28, 3) := by decide +kernel
theorem dJx35411_next_0502b_17 : decode cJx35411_next_0502b 17 = .ok (.if_icmp .lt 11, 3) := by decide +kernel
theorem dJx35411_next_0502b_20 : decode cJx35411_next_0502b 20 = .ok (.new 34, 3) := by decide +kernel
theorem dJx35411_next_0502b_23 : decode cJx35411_next_0502b 23 = .ok (.dup, 1) := by decide +kernel
theorem dJx35411_next_0502b_24 : decode cJx35411_next_0502b 24 = .ok (.invokespecial 36, 3) := by decide +kernel
theorem dJx35411_next_0502b_27 : decode cJx35411_next_0502b 27 = .ok (.athrow, 1) := by decide +kernel
theorem dJx35411_next_0502b_28 : decode cJx35411_next_0502b 28 = .ok (.aload_n 0, 1) := by decide +kernel
theorem dJx35411_next_0502b_29 : decode cJx35411_next_0502b 29 = .ok (.getfield 1, 3) := by decide +kernel
theorem dJx35411_next_0502b_32 : decode cJx35411_next_0502b 32 = .ok (.getfield 37, 3) := by decide +kernel
theorem dJx35411_next_0502b_35 : decode cJx35411_next_0502b 35 = .ok (.astore_n 2, 1) := by decide +kernel
theorem dJx35411_next_0502b_36 : decode cJx35411_next_0502b 36 = .ok (.iload_n 1, 1) := by decide +kernel
theorem dJx35411_next_0502b_37 : decode cJx35411_next_0502b 37 = .ok (.aload_n 2, 1) := by decide +kernel
theorem dJx35411_next_0502b_38 : decode cJx35411_next_0502b 38 = .ok (.arraylength, 1) := by decide +kernel
theorem dJx35411_next_0502b_39 : decode cJx35411_next_0502b 39 = .ok (.if_icmp .lt 11, 3) := by decide +kernel
theorem dJx35411_next_0502b_42 : decode cJx35411_next_0502b 42 = .ok (.new 41, 3) := by decide +kernel
theorem dJx35411_next_0502b_45 : decode cJx35411_next_0502b 45 = .ok (.dup, 1) := by decide +kernel
theorem dJx35411_next_0502b_46 : decode cJx35411_next_0502b 46 = .ok (.invokespecial 43, 3) := by decide +kernel
theorem dJx35411_next_0502b_49 : decode cJx35411_next_0502b 49 = .ok (.athrow, 1) := by decide +kernel
theorem dJx35411_next_0502b_50 : decode cJx35411_next_0502b 50 = .ok (.aload_n 0, 1) := by decide +kernel
theorem dJx35411_next_0502b_51 : decode cJx35411_next_0502b 51 = .ok (.iload_n 1, 1) := by decide +kernel
theorem dJx35411_next_0502b_52 : decode cJx35411_next_0502b 52 = .ok (.iconst 1, 1) := by decide +kernel
theorem dJx35411_next_0502b_53 : decode cJx35411_next_0502b 53 = .ok (.iadd, 1) := by decide +kernel
theorem dJx35411_next_0502b_54 : decode cJx35411_next_0502b 54 = .ok (.putfield 25, 3) := by decide +kernel
theorem dJx35411_next_0502b_57 : decode cJx35411_next_0502b 57 = .ok (.aload_n 2, 1) := by decide +kernel
theorem dJx35411_next_0502b_58 : decode cJx35411_next_0502b 58 = .ok (.aload_n 0, 1) := by decide +kernel
theorem dJx35411_next_0502b_59 : decode cJx35411_next_0502b 59 = .ok (.iload_n 1, 1) := by decide +kernel
theorem dJx35411_next_0502b_60 : decode cJx35411_next_0502b 60 = .ok (.dup_x1, 1) := by decide +kernel
theorem dJx35411_next_0502b_61 : decode cJx35411_next_0502b 61 = .ok (.putfield 13, 3) := by decide +kernel
theorem dJx35411_next_0502b_64 : decode cJx35411_next_0502b 64 = .ok (.aaload, 1) := by decide +kernel
theorem dJx35411_next_0502b_65 : decode cJx35411_next_0502b 65 = .ok (.areturn, 1) := by decide +kernel
theorem dJx35411_checkForComodification_da8c8_0 : decode cJx35411_checkForComodification_da8c8 0 = .ok (.aload_n 0, 1) := by decide +kernel
theorem dJx35411_checkForComodification_da8c8_1 : decode cJx35411_checkForComodification_da8c8 1 = .ok (.getfield 1, 3) := by decide +kernel
theorem dJx35411_checkForComodification_da8c8_4 : decode cJx35411_checkForComodification_da8c8 4 = .ok (.getfield 17, 3) := by decide +kernel
theorem dJx35411_checkForComodification_da8c8_7 : decode cJx35411_checkForComodification_da8c8 7 = .ok (.aload_n 0, 1) := by decide +kernel
theorem dJx35411_checkForComodification_da8c8_8 : decode cJx35411_checkForComodification_da8c8 8 = .ok (.getfield 22, 3) := by decide +kernel
theorem dJx35411_checkForComodification_da8c8_11 : decode cJx35411_checkForComodification_da8c8 11 = .ok (.if_icmp .eq 11, 3) := by decide +kernel
theorem dJx35411_checkForComodification_da8c8_14 : decode cJx35411_checkForComodification_da8c8 14 = .ok (.new 41, 3) := by decide +kernel
theorem dJx35411_checkForComodification_da8c8_17 : decode cJx35411_checkForComodification_da8c8 17 = .ok (.dup, 1) := by decide +kernel
theorem dJx35411_checkForComodification_da8c8_18 : decode cJx35411_checkForComodification_da8c8 18 = .ok (.invokespecial 43, 3) := by decide +kernel
theorem dJx35411_checkForComodification_da8c8_21 : decode cJx35411_checkForComodification_da8c8 21 = .ok (.athrow, 1) := by decide +kernel
theorem dJx35411_checkForComodification_da8c8_22 : decode cJx35411_checkForComodification_da8c8 22 = .ok (.return_, 1) := by decide +kernel
theorem dJx4a65c_init_da8c8_0 : decode cJx4a65c_init_da8c8 0 = .ok (.aload_n 0, 1) := by decide +kernel
theorem dJx4a65c_init_da8c8_1 : decode cJx4a65c_init_da8c8 1 = .ok (.invokespecial 1, 3) := by decide +kernel
theorem dJx4a65c_init_da8c8_4 : decode cJx4a65c_init_da8c8 4 = .ok (.aload_n 0, 1) := by decide +kernel
theorem dJx4a65c_init_da8c8_5 : decode cJx4a65c_init_da8c8 5 = .ok (.getstatic 39, 3) := by decide +kernel
theorem dJx4a65c_init_da8c8_8 : decode cJx4a65c_init_da8c8 8 = .ok (.putfield 9, 3) := by decide +kernel
theorem dJx4a65c_init_da8c8_11 : decode cJx4a65c_init_da8c8 11 = .ok (.return_, 1) := by decide +kernel
theorem dJx4a65c_grow_92f84_0 : decode cJx4a65c_grow_92f84 0 = .ok (.aload_n 0, 1) := by decide +kernel
theorem dJx4a65c_grow_92f84_1 : decode cJx4a65c_grow_92f84 1 = .ok (.getfield 9, 3) := by decide +kernel
theorem dJx4a65c_grow_92f84_4 : decode cJx4a65c_grow_92f84 4 = .ok (.arraylength, 1) := by decide +kernel
theorem dJx4a65c_grow_92f84_5 : decode cJx4a65c_grow_92f84 5 = .ok (.istore_n 2, 1) := by decide +kernel
theorem dJx4a65c_grow_92f84_6 : decode cJx4a65c_grow_92f84 6 = .ok (.iload_n 2, 1) := by decide +kernel
theorem dJx4a65c_grow_92f84_7 : decode cJx4a65c_grow_92f84 7 = .ok (.ifCond .gt 13, 3) := by decide +kernel
theorem dJx4a65c_grow_92f84_10 : decode cJx4a65c_grow_92f84 10 = .ok (.aload_n 0, 1) := by decide +kernel
theorem dJx4a65c_grow_92f84_11 : decode cJx4a65c_grow_92f84 11 = .ok (.getfield 9, 3) := by decide +kernel
theorem dJx4a65c_grow_92f84_14 : decode cJx4a65c_grow_92f84 14 = .ok (.getstatic 39, 3) := by decide +kernel
theorem dJx4a65c_grow_92f84_17 : decode cJx4a65c_grow_92f84 17 = .ok (.if_acmp .eq 28, 3) := by decide +kernel
theorem dJx4a65c_grow_92f84_20 : decode cJx4a65c_grow_92f84 20 = .ok (.iload_n 2, 1) := by decide +kernel
theorem dJx4a65c_grow_92f84_21 : decode cJx4a65c_grow_92f84 21 = .ok (.iload_n 1, 1) := by decide +kernel
theorem dJx4a65c_grow_92f84_22 : decode cJx4a65c_grow_92f84 22 = .ok (.iload_n 2, 1) := by decide +kernel
theorem dJx4a65c_grow_92f84_23 : decode cJx4a65c_grow_92f84 23 = .ok (.isub, 1) := by decide +kernel
theorem dJx4a65c_grow_92f84_24 : decode cJx4a65c_grow_92f84 24 = .ok (.iload_n 2, 1) := by decide +kernel
theorem dJx4a65c_grow_92f84_25 : decode cJx4a65c_grow_92f84 25 = .ok (.iconst 1, 1) := by decide +kernel
theorem dJx4a65c_grow_92f84_26 : decode cJx4a65c_grow_92f84 26 = .ok (.ishr, 1) := by decide +kernel
theorem dJx4a65c_grow_92f84_27 : decode cJx4a65c_grow_92f84 27 = .ok (.invokestatic 73, 3) := by decide +kernel
theorem dJx4a65c_grow_92f84_30 : decode cJx4a65c_grow_92f84 30 = .ok (.istore_n 3, 1) := by decide +kernel
theorem dJx4a65c_grow_92f84_31 : decode cJx4a65c_grow_92f84 31 = .ok (.aload_n 0, 1) := by decide +kernel
theorem dJx4a65c_grow_92f84_32 : decode cJx4a65c_grow_92f84 32 = .ok (.aload_n 0, 1) := by decide +kernel
theorem dJx4a65c_grow_92f84_33 : decode cJx4a65c_grow_92f84 33 = .ok (.getfield 9, 3) := by decide +kernel
theorem dJx4a65c_grow_92f84_36 : decode cJx4a65c_grow_92f84 36 = .ok (.iload_n 3, 1) := by decide +kernel
theorem dJx4a65c_grow_92f84_37 : decode cJx4a65c_grow_92f84 37 = .ok (.invokestatic 66, 3) := by decide +kernel
theorem dJx4a65c_grow_92f84_40 : decode cJx4a65c_grow_92f84 40 = .ok (.dup_x1, 1) := by decide +kernel
theorem dJx4a65c_grow_92f84_41 : decode cJx4a65c_grow_92f84 41 = .ok (.putfield 9, 3) := by decide +kernel
theorem dJx4a65c_grow_92f84_44 : decode cJx4a65c_grow_92f84 44 = .ok (.areturn, 1) := by decide +kernel
theorem dJx4a65c_grow_92f84_45 : decode cJx4a65c_grow_92f84 45 = .ok (.aload_n 0, 1) := by decide +kernel
theorem dJx4a65c_grow_92f84_46 : decode cJx4a65c_grow_92f84 46 = .ok (.bipush 10, 2) := by decide +kernel
theorem dJx4a65c_grow_92f84_48 : decode cJx4a65c_grow_92f84 48 = .ok (.iload_n 1, 1) := by decide +kernel
theorem dJx4a65c_grow_92f84_49 : decode cJx4a65c_grow_92f84 49 = .ok (.invokestatic 79, 3) := by decide +kernel
theorem dJx4a65c_grow_92f84_52 : decode cJx4a65c_grow_92f84 52 = .ok (.anewarray 7, 3) := by decide +kernel
theorem dJx4a65c_grow_92f84_55 : decode cJx4a65c_grow_92f84 55 = .ok (.dup_x1, 1) := by decide +kernel
theorem dJx4a65c_grow_92f84_56 : decode cJx4a65c_grow_92f84 56 = .ok (.putfield 9, 3) := by decide +kernel
theorem dJx4a65c_grow_92f84_59 : decode cJx4a65c_grow_92f84 59 = .ok (.areturn, 1) := by decide +kernel
theorem dJx4a65c_grow_d5877_0 : decode cJx4a65c_grow_d5877 0 = .ok (.aload_n 0, 1) := by decide +kernel
theorem dJx4a65c_grow_d5877_1 : decode cJx4a65c_grow_d5877 1 = .ok (.aload_n 0, 1) := by decide +kernel
theorem dJx4a65c_grow_d5877_2 : decode cJx4a65c_grow_d5877 2 = .ok (.getfield 48, 3) := by decide +kernel
theorem dJx4a65c_grow_d5877_5 : decode cJx4a65c_grow_d5877 5 = .ok (.iconst 1, 1) := by decide +kernel
theorem dJx4a65c_grow_d5877_6 : decode cJx4a65c_grow_d5877 6 = .ok (.iadd, 1) := by decide +kernel
theorem dJx4a65c_grow_d5877_7 : decode cJx4a65c_grow_d5877 7 = .ok (.invokevirtual 69, 3) := by decide +kernel
theorem dJx4a65c_grow_d5877_10 : decode cJx4a65c_grow_d5877 10 = .ok (.areturn, 1) := by decide +kernel
theorem dJx4a65c_size_8abf5_0 : decode cJx4a65c_size_8abf5 0 = .ok (.aload_n 0, 1) := by decide +kernel
theorem dJx4a65c_size_8abf5_1 : decode cJx4a65c_size_8abf5 1 = .ok (.getfield 48, 3) := by decide +kernel
theorem dJx4a65c_size_8abf5_4 : decode cJx4a65c_size_8abf5 4 = .ok (.ireturn, 1) := by decide +kernel
theorem dJx4a65c_toArray_d5877_0 : decode cJx4a65c_toArray_d5877 0 = .ok (.aload_n 0, 1) := by decide +kernel
theorem dJx4a65c_toArray_d5877_1 : decode cJx4a65c_toArray_d5877 1 = .ok (.getfield 9, 3) := by decide +kernel
theorem dJx4a65c_toArray_d5877_4 : decode cJx4a65c_toArray_d5877 4 = .ok (.aload_n 0, 1) := by decide +kernel
theorem dJx4a65c_toArray_d5877_5 : decode cJx4a65c_toArray_d5877 5 = .ok (.getfield 48, 3) := by decide +kernel
theorem dJx4a65c_toArray_d5877_8 : decode cJx4a65c_toArray_d5877 8 = .ok (.invokestatic 66, 3) := by decide +kernel
theorem dJx4a65c_toArray_d5877_11 : decode cJx4a65c_toArray_d5877 11 = .ok (.areturn, 1) := by decide +kernel
theorem dJx4a65c_elementData_915e3_0 : decode cJx4a65c_elementData_915e3 0 = .ok (.aload_n 0, 1) := by decide +kernel
theorem dJx4a65c_elementData_915e3_1 : decode cJx4a65c_elementData_915e3 1 = .ok (.getfield 9, 3) := by decide +kernel
theorem dJx4a65c_elementData_915e3_4 : decode cJx4a65c_elementData_915e3 4 = .ok (.iload_n 1, 1) := by decide +kernel
theorem dJx4a65c_elementData_915e3_5 : decode cJx4a65c_elementData_915e3 5 = .ok (.aaload, 1) := by decide +kernel
theorem dJx4a65c_elementData_915e3_6 : decode cJx4a65c_elementData_915e3 6 = .ok (.areturn, 1) := by decide +kernel
theorem dJx4a65c_get_915e3_0 : decode cJx4a65c_get_915e3 0 = .ok (.iload_n 1, 1) := by decide +kernel
theorem dJx4a65c_get_915e3_1 : decode cJx4a65c_get_915e3 1 = .ok (.aload_n 0, 1) := by decide +kernel
theorem dJx4a65c_get_915e3_2 : decode cJx4a65c_get_915e3 2 = .ok (.getfield 48, 3) := by decide +kernel
theorem dJx4a65c_get_915e3_5 : decode cJx4a65c_get_915e3 5 = .ok (.invokestatic 118, 3) := by decide +kernel
theorem dJx4a65c_get_915e3_8 : decode cJx4a65c_get_915e3 8 = .ok (.pop, 1) := by decide +kernel
theorem dJx4a65c_get_915e3_9 : decode cJx4a65c_get_915e3 9 = .ok (.aload_n 0, 1) := by decide +kernel
theorem dJx4a65c_get_915e3_10 : decode cJx4a65c_get_915e3 10 = .ok (.iload_n 1, 1) := by decide +kernel
theorem dJx4a65c_get_915e3_11 : decode cJx4a65c_get_915e3 11 = .ok (.invokevirtual 123, 3) := by decide +kernel
theorem dJx4a65c_get_915e3_14 : decode cJx4a65c_get_915e3 14 = .ok (.areturn, 1) := by decide +kernel
theorem dJx4a65c_add_72be8_0 : decode cJx4a65c_add_72be8 0 = .ok (.iload_n 3, 1) := by decide +kernel
theorem dJx4a65c_add_72be8_1 : decode cJx4a65c_add_72be8 1 = .ok (.aload_n 2, 1) := by decide +kernel
theorem dJx4a65c_add_72be8_2 : decode cJx4a65c_add_72be8 2 = .ok (.arraylength, 1) := by decide +kernel
theorem dJx4a65c_add_72be8_3 : decode cJx4a65c_add_72be8 3 = .ok (.if_icmp .ne 8, 3) := by decide +kernel
theorem dJx4a65c_add_72be8_6 : decode cJx4a65c_add_72be8 6 = .ok (.aload_n 0, 1) := by decide +kernel
theorem dJx4a65c_add_72be8_7 : decode cJx4a65c_add_72be8 7 = .ok (.invokevirtual 129, 3) := by decide +kernel
theorem dJx4a65c_add_72be8_10 : decode cJx4a65c_add_72be8 10 = .ok (.astore_n 2, 1) := by decide +kernel
theorem dJx4a65c_add_72be8_11 : decode cJx4a65c_add_72be8 11 = .ok (.aload_n 2, 1) := by decide +kernel
theorem dJx4a65c_add_72be8_12 : decode cJx4a65c_add_72be8 12 = .ok (.iload_n 3, 1) := by decide +kernel
theorem dJx4a65c_add_72be8_13 : decode cJx4a65c_add_72be8 13 = .ok (.aload_n 1, 1) := by decide +kernel
theorem dJx4a65c_add_72be8_14 : decode cJx4a65c_add_72be8 14 = .ok (.aastore, 1) := by decide +kernel
theorem dJx4a65c_add_72be8_15 : decode cJx4a65c_add_72be8 15 = .ok (.aload_n 0, 1) := by decide +kernel
theorem dJx4a65c_add_72be8_16 : decode cJx4a65c_add_72be8 16 = .ok (.iload_n 3, 1) := by decide +kernel
theorem dJx4a65c_add_72be8_17 : decode cJx4a65c_add_72be8 17 = .ok (.iconst 1, 1) := by decide +kernel
theorem dJx4a65c_add_72be8_18 : decode cJx4a65c_add_72be8 18 = .ok (.iadd, 1) := by decide +kernel
theorem dJx4a65c_add_72be8_19 : decode cJx4a65c_add_72be8 19 = .ok (.putfield 48, 3) := by decide +kernel
theorem dJx4a65c_add_72be8_22 : decode cJx4a65c_add_72be8 22 = .ok (.return_, 1) := by decide +kernel
theorem dJx4a65c_add_9ea2d_0 : decode cJx4a65c_add_9ea2d 0 = .ok (.aload_n 0, 1) := by decide +kernel
theorem dJx4a65c_add_9ea2d_1 : decode cJx4a65c_add_9ea2d 1 = .ok (.dup, 1) := by decide +kernel
theorem dJx4a65c_add_9ea2d_2 : decode cJx4a65c_add_9ea2d 2 = .ok (.getfield 63, 3) := by decide +kernel
theorem dJx4a65c_add_9ea2d_5 : decode cJx4a65c_add_9ea2d 5 = .ok (.iconst 1, 1) := by decide +kernel
theorem dJx4a65c_add_9ea2d_6 : decode cJx4a65c_add_9ea2d 6 = .ok (.iadd, 1) := by decide +kernel
theorem dJx4a65c_add_9ea2d_7 : decode cJx4a65c_add_9ea2d 7 = .ok (.putfield 63, 3) := by decide +kernel
theorem dJx4a65c_add_9ea2d_10 : decode cJx4a65c_add_9ea2d 10 = .ok (.aload_n 0, 1) := by decide +kernel
theorem dJx4a65c_add_9ea2d_11 : decode cJx4a65c_add_9ea2d 11 = .ok (.aload_n 1, 1) := by decide +kernel
theorem dJx4a65c_add_9ea2d_12 : decode cJx4a65c_add_9ea2d 12 = .ok (.aload_n 0, 1) := by decide +kernel
theorem dJx4a65c_add_9ea2d_13 : decode cJx4a65c_add_9ea2d 13 = .ok (.getfield 9, 3) := by decide +kernel
theorem dJx4a65c_add_9ea2d_16 : decode cJx4a65c_add_9ea2d 16 = .ok (.aload_n 0, 1) := by decide +kernel
theorem dJx4a65c_add_9ea2d_17 : decode cJx4a65c_add_9ea2d 17 = .ok (.getfield 48, 3) := by decide +kernel
theorem dJx4a65c_add_9ea2d_20 : decode cJx4a65c_add_9ea2d 20 = .ok (.invokevirtual 131, 3) := by decide +kernel
theorem dJx4a65c_add_9ea2d_23 : decode cJx4a65c_add_9ea2d 23 = .ok (.iconst 1, 1) := by decide +kernel
theorem dJx4a65c_add_9ea2d_24 : decode cJx4a65c_add_9ea2d 24 = .ok (.ireturn, 1) := by decide +kernel
theorem dJx4a65c_remove_915e3_0 : decode cJx4a65c_remove_915e3 0 = .ok (.iload_n 1, 1) := by decide +kernel
theorem dJx4a65c_remove_915e3_1 : decode cJx4a65c_remove_915e3 1 = .ok (.aload_n 0, 1) := by decide +kernel
theorem dJx4a65c_remove_915e3_2 : decode cJx4a65c_remove_915e3 2 = .ok (.getfield 48, 3) := by decide +kernel
theorem dJx4a65c_remove_915e3_5 : decode cJx4a65c_remove_915e3 5 = .ok (.invokestatic 118, 3) := by decide +kernel
theorem dJx4a65c_remove_915e3_8 : decode cJx4a65c_remove_915e3 8 = .ok (.pop, 1) := by decide +kernel
theorem dJx4a65c_remove_915e3_9 : decode cJx4a65c_remove_915e3 9 = .ok (.aload_n 0, 1) := by decide +kernel
theorem dJx4a65c_remove_915e3_10 : decode cJx4a65c_remove_915e3 10 = .ok (.getfield 9, 3) := by decide +kernel
theorem dJx4a65c_remove_915e3_13 : decode cJx4a65c_remove_915e3 13 = .ok (.astore_n 2, 1) := by decide +kernel
theorem dJx4a65c_remove_915e3_14 : decode cJx4a65c_remove_915e3 14 = .ok (.aload_n 2, 1) := by decide +kernel
theorem dJx4a65c_remove_915e3_15 : decode cJx4a65c_remove_915e3 15 = .ok (.iload_n 1, 1) := by decide +kernel
theorem dJx4a65c_remove_915e3_16 : decode cJx4a65c_remove_915e3 16 = .ok (.aaload, 1) := by decide +kernel
theorem dJx4a65c_remove_915e3_17 : decode cJx4a65c_remove_915e3 17 = .ok (.astore_n 3, 1) := by decide +kernel
theorem dJx4a65c_remove_915e3_18 : decode cJx4a65c_remove_915e3 18 = .ok (.aload_n 0, 1) := by decide +kernel
theorem dJx4a65c_remove_915e3_19 : decode cJx4a65c_remove_915e3 19 = .ok (.aload_n 2, 1) := by decide +kernel
theorem dJx4a65c_remove_915e3_20 : decode cJx4a65c_remove_915e3 20 = .ok (.iload_n 1, 1) := by decide +kernel
theorem dJx4a65c_remove_915e3_21 : decode cJx4a65c_remove_915e3 21 = .ok (.invokevirtual 144, 3) := by decide +kernel
theorem dJx4a65c_remove_915e3_24 : decode cJx4a65c_remove_915e3 24 = .ok (.aload_n 3, 1) := by decide +kernel
theorem dJx4a65c_remove_915e3_25 : decode cJx4a65c_remove_915e3 25 = .ok (.areturn, 1) := by decide +kernel
theorem dJx4a65c_fastRemove_b59b0_0 : decode cJx4a65c_fastRemove_b59b0 0 = .ok (.aload_n 0, 1) := by decide +kernel
theorem dJx4a65c_fastRemove_b59b0_1 : decode cJx4a65c_fastRemove_b59b0 1 = .ok (.dup, 1) := by decide +kernel
theorem dJx4a65c_fastRemove_b59b0_2 : decode cJx4a65c_fastRemove_b59b0 2 = .ok (.getfield 63, 3) := by decide +kernel
theorem dJx4a65c_fastRemove_b59b0_5 : decode cJx4a65c_fastRemove_b59b0 5 = .ok (.iconst 1, 1) := by decide +kernel
theorem dJx4a65c_fastRemove_b59b0_6 : decode cJx4a65c_fastRemove_b59b0 6 = .ok (.iadd, 1) := by decide +kernel
theorem dJx4a65c_fastRemove_b59b0_7 : decode cJx4a65c_fastRemove_b59b0 7 = .ok (.putfield 63, 3) := by decide +kernel
theorem dJx4a65c_fastRemove_b59b0_10 : decode cJx4a65c_fastRemove_b59b0 10 = .ok (.aload_n 0, 1) := by decide +kernel
theorem dJx4a65c_fastRemove_b59b0_11 : decode cJx4a65c_fastRemove_b59b0 11 = .ok (.getfield 48, 3) := by decide +kernel
theorem dJx4a65c_fastRemove_b59b0_14 : decode cJx4a65c_fastRemove_b59b0 14 = .ok (.iconst 1, 1) := by decide +kernel
theorem dJx4a65c_fastRemove_b59b0_15 : decode cJx4a65c_fastRemove_b59b0 15 = .ok (.isub, 1) := by decide +kernel
theorem dJx4a65c_fastRemove_b59b0_16 : decode cJx4a65c_fastRemove_b59b0 16 = .ok (.dup, 1) := by decide +kernel
theorem dJx4a65c_fastRemove_b59b0_17 : decode cJx4a65c_fastRemove_b59b0 17 = .ok (.istore_n 3, 1) := by decide +kernel
theorem dJx4a65c_fastRemove_b59b0_18 : decode cJx4a65c_fastRemove_b59b0 18 = .ok (.iload_n 2, 1) := by decide +kernel
theorem dJx4a65c_fastRemove_b59b0_19 : decode cJx4a65c_fastRemove_b59b0 19 = .ok (.if_icmp .le 15, 3) := by decide +kernel
theorem dJx4a65c_fastRemove_b59b0_22 : decode cJx4a65c_fastRemove_b59b0 22 = .ok (.aload_n 1, 1) := by decide +kernel
theorem dJx4a65c_fastRemove_b59b0_23 : decode cJx4a65c_fastRemove_b59b0 23 = .ok (.iload_n 2, 1) := by decide +kernel
theorem dJx4a65c_fastRemove_b59b0_24 : decode cJx4a65c_fastRemove_b59b0 24 = .ok (.iconst 1, 1) := by decide +kernel
theorem dJx4a65c_fastRemove_b59b0_25 : decode cJx4a65c_fastRemove_b59b0 25 = .ok (.iadd, 1) := by decide +kernel
theorem dJx4a65c_fastRemove_b59b0_26 : decode cJx4a65c_fastRemove_b59b0 26 = .ok (.aload_n 1, 1) := by decide +kernel
theorem dJx4a65c_fastRemove_b59b0_27 : decode cJx4a65c_fastRemove_b59b0 27 = .ok (.iload_n 2, 1) := by decide +kernel
theorem dJx4a65c_fastRemove_b59b0_28 : decode cJx4a65c_fastRemove_b59b0 28 = .ok (.iload_n 3, 1) := by decide +kernel
theorem dJx4a65c_fastRemove_b59b0_29 : decode cJx4a65c_fastRemove_b59b0 29 = .ok (.iload_n 2, 1) := by decide +kernel
theorem dJx4a65c_fastRemove_b59b0_30 : decode cJx4a65c_fastRemove_b59b0 30 = .ok (.isub, 1) := by decide +kernel
theorem dJx4a65c_fastRemove_b59b0_31 : decode cJx4a65c_fastRemove_b59b0 31 = .ok (.invokestatic 112, 3) := by decide +kernel
theorem dJx4a65c_fastRemove_b59b0_34 : decode cJx4a65c_fastRemove_b59b0 34 = .ok (.aload_n 1, 1) := by decide +kernel
theorem dJx4a65c_fastRemove_b59b0_35 : decode cJx4a65c_fastRemove_b59b0 35 = .ok (.aload_n 0, 1) := by decide +kernel
theorem dJx4a65c_fastRemove_b59b0_36 : decode cJx4a65c_fastRemove_b59b0 36 = .ok (.iload_n 3, 1) := by decide +kernel
theorem dJx4a65c_fastRemove_b59b0_37 : decode cJx4a65c_fastRemove_b59b0 37 = .ok (.dup_x1, 1) := by decide +kernel
theorem dJx4a65c_fastRemove_b59b0_38 : decode cJx4a65c_fastRemove_b59b0 38 = .ok (.putfield 48, 3) := by decide +kernel
theorem dJx4a65c_fastRemove_b59b0_41 : decode cJx4a65c_fastRemove_b59b0 41 = .ok (.aconst_null, 1) := by decide +kernel
theorem dJx4a65c_fastRemove_b59b0_42 : decode cJx4a65c_fastRemove_b59b0 42 = .ok (.aastore, 1) := by decide +kernel
theorem dJx4a65c_fastRemove_b59b0_43 : decode cJx4a65c_fastRemove_b59b0 43 = .ok (.return_, 1) := by decide +kernel
theorem dJx4a65c_clear_da8c8_0 : decode cJx4a65c_clear_da8c8 0 = .ok (.aload_n 0, 1) := by decide +kernel
theorem dJx4a65c_clear_da8c8_1 : decode cJx4a65c_clear_da8c8 1 = .ok (.dup, 1) := by decide +kernel
theorem dJx4a65c_clear_da8c8_2 : decode cJx4a65c_clear_da8c8 2 = .ok (.getfield 63, 3) := by decide +kernel
theorem dJx4a65c_clear_da8c8_5 : decode cJx4a65c_clear_da8c8 5 = .ok (.iconst 1, 1) := by decide +kernel
theorem dJx4a65c_clear_da8c8_6 : decode cJx4a65c_clear_da8c8 6 = .ok (.iadd, 1) := by decide +kernel
theorem dJx4a65c_clear_da8c8_7 : decode cJx4a65c_clear_da8c8 7 = .ok (.putfield 63, 3) := by decide +kernel
theorem dJx4a65c_clear_da8c8_10 : decode cJx4a65c_clear_da8c8 10 = .ok (.aload_n 0, 1) := by decide +kernel
theorem dJx4a65c_clear_da8c8_11 : decode cJx4a65c_clear_da8c8 11 = .ok (.getfield 9, 3) := by decide +kernel
theorem dJx4a65c_clear_da8c8_14 : decode cJx4a65c_clear_da8c8 14 = .ok (.astore_n 1, 1) := by decide +kernel
theorem dJx4a65c_clear_da8c8_15 : decode cJx4a65c_clear_da8c8 15 = .ok (.aload_n 0, 1) := by decide +kernel
theorem dJx4a65c_clear_da8c8_16 : decode cJx4a65c_clear_da8c8 16 = .ok (.getfield 48, 3) := by decide +kernel
theorem dJx4a65c_clear_da8c8_19 : decode cJx4a65c_clear_da8c8 19 = .ok (.istore_n 2, 1) := by decide +kernel
theorem dJx4a65c_clear_da8c8_20 : decode cJx4a65c_clear_da8c8 20 = .ok (.aload_n 0, 1) := by decide +kernel
theorem dJx4a65c_clear_da8c8_21 : decode cJx4a65c_clear_da8c8 21 = .ok (.iconst 0, 1) := by decide +kernel
theorem dJx4a65c_clear_da8c8_22 : decode cJx4a65c_clear_da8c8 22 = .ok (.dup_x1, 1) := by decide +kernel
theorem dJx4a65c_clear_da8c8_23 : decode cJx4a65c_clear_da8c8 23 = .ok (.putfield 48, 3) := by decide +kernel
theorem dJx4a65c_clear_da8c8_26 : decode cJx4a65c_clear_da8c8 26 = .ok (.istore_n 3, 1) := by decide +kernel
theorem dJx4a65c_clear_da8c8_27 : decode cJx4a65c_clear_da8c8 27 = .ok (.iload_n 3, 1) := by decide +kernel
theorem dJx4a65c_clear_da8c8_28 : decode cJx4a65c_clear_da8c8 28 = .ok (.iload_n 2, 1) := by decide +kernel
theorem dJx4a65c_clear_da8c8_29 : decode cJx4a65c_clear_da8c8 29 = .ok (.if_icmp .ge 13, 3) := by decide +kernel
theorem dJx4a65c_clear_da8c8_32 : decode cJx4a65c_clear_da8c8 32 = .ok (.aload_n 1, 1) := by decide +kernel
theorem dJx4a65c_clear_da8c8_33 : decode cJx4a65c_clear_da8c8 33 = .ok (.iload_n 3, 1) := by decide +kernel
theorem dJx4a65c_clear_da8c8_34 : decode cJx4a65c_clear_da8c8 34 = .ok (.aconst_null, 1) := by decide +kernel
theorem dJx4a65c_clear_da8c8_35 : decode cJx4a65c_clear_da8c8 35 = .ok (.aastore, 1) := by decide +kernel
theorem dJx4a65c_clear_da8c8_36 : decode cJx4a65c_clear_da8c8 36 = .ok (.iinc 3 1, 3) := by decide +kernel
theorem dJx4a65c_clear_da8c8_39 : decode cJx4a65c_clear_da8c8 39 = .ok (.goto (-12), 3) := by decide +kernel
theorem dJx4a65c_clear_da8c8_42 : decode cJx4a65c_clear_da8c8 42 = .ok (.return_, 1) := by decide +kernel
theorem dJx4a65c_addAll_f0b43_0 : decode cJx4a65c_addAll_f0b43 0 = .ok (.aload_n 1, 1) := by decide +kernel
theorem dJx4a65c_addAll_f0b43_1 : decode cJx4a65c_addAll_f0b43 1 = .ok (.invokeinterface 42 1, 5) := by decide +kernel
theorem dJx4a65c_addAll_f0b43_6 : decode cJx4a65c_addAll_f0b43 6 = .ok (.astore_n 2, 1) := by decide +kernel
theorem dJx4a65c_addAll_f0b43_7 : decode cJx4a65c_addAll_f0b43 7 = .ok (.aload_n 0, 1) := by decide +kernel
theorem dJx4a65c_addAll_f0b43_8 : decode cJx4a65c_addAll_f0b43 8 = .ok (.dup, 1) := by decide +kernel
theorem dJx4a65c_addAll_f0b43_9 : decode cJx4a65c_addAll_f0b43 9 = .ok (.getfield 63, 3) := by decide +kernel
theorem dJx4a65c_addAll_f0b43_12 : decode cJx4a65c_addAll_f0b43 12 = .ok (.iconst 1, 1) := by decide +kernel
theorem dJx4a65c_addAll_f0b43_13 : decode cJx4a65c_addAll_f0b43 13 = .ok (.iadd, 1) := by decide +kernel
theorem dJx4a65c_addAll_f0b43_14 : decode cJx4a65c_addAll_f0b43 14 = .ok (.putfield 63, 3) := by decide +kernel
theorem dJx4a65c_addAll_f0b43_17 : decode cJx4a65c_addAll_f0b43 17 = .ok (.aload_n 2, 1) := by decide +kernel
theorem dJx4a65c_addAll_f0b43_18 : decode cJx4a65c_addAll_f0b43 18 = .ok (.arraylength, 1) := by decide +kernel
theorem dJx4a65c_addAll_f0b43_19 : decode cJx4a65c_addAll_f0b43 19 = .ok (.istore_n 3, 1) := by decide +kernel
theorem dJx4a65c_addAll_f0b43_20 : decode cJx4a65c_addAll_f0b43 20 = .ok (.iload_n 3, 1) := by decide +kernel
theorem dJx4a65c_addAll_f0b43_21 : decode cJx4a65c_addAll_f0b43 21 = .ok (.ifCond .ne 5, 3) := by decide +kernel
theorem dJx4a65c_addAll_f0b43_24 : decode cJx4a65c_addAll_f0b43 24 = .ok (.iconst 0, 1) := by decide +kernel
theorem dJx4a65c_addAll_f0b43_25 : decode cJx4a65c_addAll_f0b43 25 = .ok (.ireturn, 1) := by decide +kernel
theorem dJx4a65c_addAll_f0b43_26 : decode cJx4a65c_addAll_f0b43 26 = .ok (.iload_n 3, 1) := by decide +kernel
theorem dJx4a65c_addAll_f0b43_27 : decode cJx4a65c_addAll_f0b43 27 = .ok (.aload_n 0, 1) := by decide +kernel
theorem dJx4a65c_addAll_f0b43_28 : decode cJx4a65c_addAll_f0b43 28 = .ok (.getfield 9, 3) := by decide +kernel
theorem dJx4a65c_addAll_f0b43_31 : decode cJx4a65c_addAll_f0b43 31 = .ok (.dup, 1) := by decide +kernel
theorem dJx4a65c_addAll_f0b43_32 : decode cJx4a65c_addAll_f0b43 32 = .ok (.astore 4, 2) := by decide +kernel
theorem dJx4a65c_addAll_f0b43_34 : decode cJx4a65c_addAll_f0b43 34 = .ok (.arraylength, 1) := by decide +kernel
theorem dJx4a65c_addAll_f0b43_35 : decode cJx4a65c_addAll_f0b43 35 = .ok (.aload_n 0, 1) := by decide +kernel
theorem dJx4a65c_addAll_f0b43_36 : decode cJx4a65c_addAll_f0b43 36 = .ok (.getfield 48, 3) := by decide +kernel
theorem dJx4a65c_addAll_f0b43_39 : decode cJx4a65c_addAll_f0b43 39 = .ok (.dup, 1) := by decide +kernel
theorem dJx4a65c_addAll_f0b43_40 : decode cJx4a65c_addAll_f0b43 40 = .ok (.istore 5, 2) := by decide +kernel
theorem dJx4a65c_addAll_f0b43_42 : decode cJx4a65c_addAll_f0b43 42 = .ok (.isub, 1) := by decide +kernel
theorem dJx4a65c_addAll_f0b43_43 : decode cJx4a65c_addAll_f0b43 43 = .ok (.if_icmp .le 13, 3) := by decide +kernel
theorem dJx4a65c_addAll_f0b43_46 : decode cJx4a65c_addAll_f0b43 46 = .ok (.aload_n 0, 1) := by decide +kernel
theorem dJx4a65c_addAll_f0b43_47 : decode cJx4a65c_addAll_f0b43 47 = .ok (.iload 5, 2) := by decide +kernel
theorem dJx4a65c_addAll_f0b43_49 : decode cJx4a65c_addAll_f0b43 49 = .ok (.iload_n 3, 1) := by decide +kernel
theorem dJx4a65c_addAll_f0b43_50 : decode cJx4a65c_addAll_f0b43 50 = .ok (.iadd, 1) := by decide +kernel
theorem dJx4a65c_addAll_f0b43_51 : decode cJx4a65c_addAll_f0b43 51 = .ok (.invokevirtual 69, 3) := by decide +kernel
theorem dJx4a65c_addAll_f0b43_54 : decode cJx4a65c_addAll_f0b43 54 = .ok (.astore 4, 2) := by decide +kernel
theorem dJx4a65c_addAll_f0b43_56 : decode cJx4a65c_addAll_f0b43 56 = .ok (.aload_n 2, 1) := by decide +kernel
theorem dJx4a65c_addAll_f0b43_57 : decode cJx4a65c_addAll_f0b43 57 = .ok (.iconst 0, 1) := by decide +kernel
theorem dJx4a65c_addAll_f0b43_58 : decode cJx4a65c_addAll_f0b43 58 = .ok (.aload 4, 2) := by decide +kernel
theorem dJx4a65c_addAll_f0b43_60 : decode cJx4a65c_addAll_f0b43 60 = .ok (.iload 5, 2) := by decide +kernel
theorem dJx4a65c_addAll_f0b43_62 : decode cJx4a65c_addAll_f0b43 62 = .ok (.iload_n 3, 1) := by decide +kernel
theorem dJx4a65c_addAll_f0b43_63 : decode cJx4a65c_addAll_f0b43 63 = .ok (.invokestatic 112, 3) := by decide +kernel
theorem dJx4a65c_addAll_f0b43_66 : decode cJx4a65c_addAll_f0b43 66 = .ok (.aload_n 0, 1) := by decide +kernel
theorem dJx4a65c_addAll_f0b43_67 : decode cJx4a65c_addAll_f0b43 67 = .ok (.iload 5, 2) := by decide +kernel
theorem dJx4a65c_addAll_f0b43_69 : decode cJx4a65c_addAll_f0b43 69 = .ok (.iload_n 3, 1) := by decide +kernel
theorem dJx4a65c_addAll_f0b43_70 : decode cJx4a65c_addAll_f0b43 70 = .ok (.iadd, 1) := by decide +kernel
theorem dJx4a65c_addAll_f0b43_71 : decode cJx4a65c_addAll_f0b43 71 = .ok (.putfield 48, 3) := by decide +kernel
theorem dJx4a65c_addAll_f0b43_74 : decode cJx4a65c_addAll_f0b43 74 = .ok (.iconst 1, 1) := by decide +kernel
theorem dJx4a65c_addAll_f0b43_75 : decode cJx4a65c_addAll_f0b43 75 = .ok (.ireturn, 1) := by decide +kernel
theorem dJx4a65c_iterator_32c93_0 : decode cJx4a65c_iterator_32c93 0 = .ok (.new 267, 3) := by decide +kernel
theorem dJx4a65c_iterator_32c93_3 : decode cJx4a65c_iterator_32c93 3 = .ok (.dup, 1) := by decide +kernel
theorem dJx4a65c_iterator_32c93_4 : decode cJx4a65c_iterator_32c93 4 = .ok (.aload_n 0, 1) := by decide +kernel
theorem dJx4a65c_iterator_32c93_5 : decode cJx4a65c_iterator_32c93 5 = .ok (.invokespecial 269, 3) := by decide +kernel
theorem dJx4a65c_iterator_32c93_8 : decode cJx4a65c_iterator_32c93 8 = .ok (.areturn, 1) := by decide +kernel
theorem dJ7_copyOf_1904c_0 : decode cJ7_copyOf_1904c 0 = .ok (.aload_n 0, 1) := by decide +kernel
theorem dJ7_copyOf_1904c_1 : decode cJ7_copyOf_1904c 1 = .ok (.iload_n 1, 1) := by decide +kernel
theorem dJ7_copyOf_1904c_2 : decode cJ7_copyOf_1904c 2 = .ok (.aload_n 0, 1) := by decide +kernel
theorem dJ7_copyOf_1904c_3 : decode cJ7_copyOf_1904c 3 = .ok (.invokevirtual 86, 3) := by decide +kernel
theorem dJ7_copyOf_1904c_6 : decode cJ7_copyOf_1904c 6 = .ok (.invokestatic 300, 3) := by decide +kernel
theorem dJ7_copyOf_1904c_9 : decode cJ7_copyOf_1904c 9 = .ok (.areturn, 1) := by decide +kernel
theorem dJ7_copyOf_6403c_0 : decode cJ7_copyOf_6403c 0 = .ok (.aload_n 2, 1) := by decide +kernel
theorem dJ7_copyOf_6403c_1 : decode cJ7_copyOf_6403c 1 = .ok (.ldc 110, 2) := by decide +kernel
theorem dJ7_copyOf_6403c_3 : decode cJ7_copyOf_6403c 3 = .ok (.if_acmp .ne 10, 3) := by decide +kernel
theorem dJ7_copyOf_6403c_6 : decode cJ7_copyOf_6403c 6 = .ok (.iload_n 1, 1) := by decide +kernel
theorem dJ7_copyOf_6403c_7 : decode cJ7_copyOf_6403c 7 = .ok (.anewarray 2, 3) := by decide +kernel
theorem dJ7_copyOf_6403c_10 : decode cJ7_copyOf_6403c 10 = .ok (.goto 14, 3) := by decide +kernel
theorem dJ7_copyOf_6403c_13 : decode cJ7_copyOf_6403c 13 = .ok (.aload_n 2, 1) := by decide +kernel
theorem dJ7_copyOf_6403c_14 : decode cJ7_copyOf_6403c 14 = .ok (.invokevirtual 90, 3) := by decide +kernel
theorem dJ7_copyOf_6403c_17 : decode cJ7_copyOf_6403c 17 = .ok (.iload_n 1, 1) := by decide +kernel
theorem dJ7_copyOf_6403c_18 : decode cJ7_copyOf_6403c 18 = .ok (.invokestatic 95, 3) := by decide +kernel
theorem dJ7_copyOf_6403c_21 : decode cJ7_copyOf_6403c 21 = .ok (.checkcast 110, 3) := by decide +kernel
theorem dJ7_copyOf_6403c_24 : decode cJ7_copyOf_6403c 24 = .ok (.astore_n 3, 1) := by decide +kernel
theorem dJ7_copyOf_6403c_25 : decode cJ7_copyOf_6403c 25 = .ok (.aload_n 0, 1) := by decide +kernel
theorem dJ7_copyOf_6403c_26 : decode cJ7_copyOf_6403c 26 = .ok (.iconst 0, 1) := by decide +kernel
theorem dJ7_copyOf_6403c_27 : decode cJ7_copyOf_6403c 27 = .ok (.aload_n 3, 1) := by decide +kernel
theorem dJ7_copyOf_6403c_28 : decode cJ7_copyOf_6403c 28 = .ok (.iconst 0, 1) := by decide +kernel
theorem dJ7_copyOf_6403c_29 : decode cJ7_copyOf_6403c 29 = .ok (.aload_n 0, 1) := by decide +kernel
theorem dJ7_copyOf_6403c_30 : decode cJ7_copyOf_6403c 30 = .ok (.arraylength, 1) := by decide +kernel
theorem dJ7_copyOf_6403c_31 : decode cJ7_copyOf_6403c 31 = .ok (.iload_n 1, 1) := by decide +kernel
theorem dJ7_copyOf_6403c_32 : decode cJ7_copyOf_6403c 32 = .ok (.invokestatic 304, 3) := by decide +kernel
theorem dJ7_copyOf_6403c_35 : decode cJ7_copyOf_6403c 35 = .ok (.invokestatic 150, 3) := by decide +kernel
theorem dJ7_copyOf_6403c_38 : decode cJ7_copyOf_6403c 38 = .ok (.aload_n 3, 1) := by decide +kernel
theorem dJ7_copyOf_6403c_39 : decode cJ7_copyOf_6403c 39 = .ok (.areturn, 1) := by decide +kernel
theorem dJ15_checkIndex_7cf53_0 : decode cJ15_checkIndex_7cf53 0 = .ok (.iload_n 0, 1) := by decide +kernel
theorem dJ15_checkIndex_7cf53_1 : decode cJ15_checkIndex_7cf53 1 = .ok (.iload_n 1, 1) := by decide +kernel
theorem dJ15_checkIndex_7cf53_2 : decode cJ15_checkIndex_7cf53 2 = .ok (.aconst_null, 1) := by decide +kernel
theorem dJ15_checkIndex_7cf53_3 : decode cJ15_checkIndex_7cf53 3 = .ok (.invokestatic 105, 3) := by decide +kernel
theorem dJ15_checkIndex_7cf53_6 : decode cJ15_checkIndex_7cf53 6 = .ok (.ireturn, 1) := by decide +kernel
theorem dJ8_newLength_cabcc_0 : decode cJ8_newLength_cabcc 0 = .ok (.iload_n 0, 1) := by decide +kernel
theorem dJ8_newLength_cabcc_1 : decode cJ8_newLength_cabcc 1 = .ok (.iload_n 1, 1) := by decide +kernel
theorem dJ8_newLength_cabcc_2 : decode cJ8_newLength_cabcc 2 = .ok (.iload_n 2, 1) := by decide +kernel
theorem dJ8_newLength_cabcc_3 : decode cJ8_newLength_cabcc 3 = .ok (.invokestatic 194, 3) := by decide +kernel
theorem dJ8_newLength_cabcc_6 : decode cJ8_newLength_cabcc 6 = .ok (.iadd, 1) := by decide +kernel
theorem dJ8_newLength_cabcc_7 : decode cJ8_newLength_cabcc 7 = .ok (.istore_n 3, 1) := by decide +kernel
theorem dJ8_newLength_cabcc_8 : decode cJ8_newLength_cabcc 8 = .ok (.iconst 0, 1) := by decide +kernel
theorem dJ8_newLength_cabcc_9 : decode cJ8_newLength_cabcc 9 = .ok (.iload_n 3, 1) := by decide +kernel
theorem dJ8_newLength_cabcc_10 : decode cJ8_newLength_cabcc 10 = .ok (.if_icmp .ge 11, 3) := by decide +kernel
theorem dJ8_newLength_cabcc_13 : decode cJ8_newLength_cabcc 13 = .ok (.iload_n 3, 1) := by decide +kernel
theorem dJ8_newLength_cabcc_14 : decode cJ8_newLength_cabcc 14 = .ok (.ldc 200, 2) := by decide +kernel
theorem dJ8_newLength_cabcc_16 : decode cJ8_newLength_cabcc 16 = .ok (.if_icmp .gt 5, 3) := by decide +kernel
theorem dJ8_newLength_cabcc_19 : decode cJ8_newLength_cabcc 19 = .ok (.iload_n 3, 1) := by decide +kernel
theorem dJ8_newLength_cabcc_20 : decode cJ8_newLength_cabcc 20 = .ok (.ireturn, 1) := by decide +kernel
theorem dJ8_newLength_cabcc_21 : decode cJ8_newLength_cabcc 21 = .ok (.iload_n 0, 1) := by decide +kernel
theorem dJ8_newLength_cabcc_22 : decode cJ8_newLength_cabcc 22 = .ok (.iload_n 1, 1) := by decide +kernel
theorem dJ8_newLength_cabcc_23 : decode cJ8_newLength_cabcc 23 = .ok (.invokestatic 201, 3) := by decide +kernel
theorem dJ8_newLength_cabcc_26 : decode cJ8_newLength_cabcc 26 = .ok (.ireturn, 1) := by decide +kernel
theorem dJ8_hugeLength_7cf53_0 : decode cJ8_hugeLength_7cf53 0 = .ok (.iload_n 0, 1) := by decide +kernel
theorem dJ8_hugeLength_7cf53_1 : decode cJ8_hugeLength_7cf53 1 = .ok (.iload_n 1, 1) := by decide +kernel
theorem dJ8_hugeLength_7cf53_2 : decode cJ8_hugeLength_7cf53 2 = .ok (.iadd, 1) := by decide +kernel
theorem dJ8_hugeLength_7cf53_3 : decode cJ8_hugeLength_7cf53 3 = .ok (.istore_n 2, 1) := by decide +kernel
theorem dJ8_hugeLength_7cf53_4 : decode cJ8_hugeLength_7cf53 4 = .ok (.iload_n 2, 1) := by decide +kernel
theorem dJ8_hugeLength_7cf53_5 : decode cJ8_hugeLength_7cf53 5 = .ok (.ifCond .ge 44, 3) := by decide +kernel
theorem dJ8_hugeLength_7cf53_8 : decode cJ8_hugeLength_7cf53 8 = .ok (.new 204, 3) := by decide +kernel
theorem dJ8_hugeLength_7cf53_11 : decode cJ8_hugeLength_7cf53 11 = .ok (.dup, 1) := by decide +kernel
theorem dJ8_hugeLength_7cf53_12 : decode cJ8_hugeLength_7cf53 12 = .ok (.new 89, 3) := by decide +kernel
theorem dJ8_hugeLength_7cf53_15 : decode cJ8_hugeLength_7cf53 15 = .ok (.dup, 1) := by decide +kernel
theorem dJ8_hugeLength_7cf53_16 : decode cJ8_hugeLength_7cf53 16 = .ok (.invokespecial 91, 3) := by decide +kernel
theorem dJ8_hugeLength_7cf53_19 : decode cJ8_hugeLength_7cf53 19 = .ok (.ldc 206, 2) := by decide +kernel
theorem dJ8_hugeLength_7cf53_21 : decode cJ8_hugeLength_7cf53 21 = .ok (.invokevirtual 94, 3) := by decide +kernel
theorem dJ8_hugeLength_7cf53_24 : decode cJ8_hugeLength_7cf53 24 = .ok (.iload_n 0, 1) := by decide +kernel
theorem dJ8_hugeLength_7cf53_25 : decode cJ8_hugeLength_7cf53 25 = .ok (.invokevirtual 98, 3) := by decide +kernel
theorem dJ8_hugeLength_7cf53_28 : decode cJ8_hugeLength_7cf53 28 = .ok (.ldc 208, 2) := by decide +kernel
theorem dJ8_hugeLength_7cf53_30 : decode cJ8_hugeLength_7cf53 30 = .ok (.invokevirtual 94, 3) := by decide +kernel
theorem dJ8_hugeLength_7cf53_33 : decode cJ8_hugeLength_7cf53 33 = .ok (.iload_n 1, 1) := by decide +kernel
theorem dJ8_hugeLength_7cf53_34 : decode cJ8_hugeLength_7cf53 34 = .ok (.invokevirtual 98, 3) := by decide +kernel
theorem dJ8_hugeLength_7cf53_37 : decode cJ8_hugeLength_7cf53 37 = .ok (.ldc 210, 2) := by decide +kernel
theorem dJ8_hugeLength_7cf53_39 : decode cJ8_hugeLength_7cf53 39 = .ok (.invokevirtual 94, 3) := by decide +kernel
theorem dJ8_hugeLength_7cf53_42 : decode cJ8_hugeLength_7cf53 42 = .ok (.invokevirtual 101, 3) := by decide +kernel
theorem dJ8_hugeLength_7cf53_45 : decode cJ8_hugeLength_7cf53 45 = .ok (.invokespecial 212, 3) := by decide +kernel
theorem dJ8_hugeLength_7cf53_48 : decode cJ8_hugeLength_7cf53 48 = .ok (.athrow, 1) := by decide +kernel
theorem dJ8_hugeLength_7cf53_49 : decode cJ8_hugeLength_7cf53 49 = .ok (.iload_n 2, 1) := by decide +kernel
theorem dJ8_hugeLength_7cf53_50 : decode cJ8_hugeLength_7cf53 50 = .ok (.ldc 200, 2) := by decide +kernel
theorem dJ8_hugeLength_7cf53_52 : decode cJ8_hugeLength_7cf53 52 = .ok (.if_icmp .gt 6, 3) := by decide +kernel
theorem dJ8_hugeLength_7cf53_55 : decode cJ8_hugeLength_7cf53 55 = .ok (.ldc 200, 2) := by decide +kernel
theorem dJ8_hugeLength_7cf53_57 : decode cJ8_hugeLength_7cf53 57 = .ok (.ireturn, 1) := by decide +kernel
theorem dJ8_hugeLength_7cf53_58 : decode cJ8_hugeLength_7cf53 58 = .ok (.iload_n 2, 1) := by decide +kernel
theorem dJ8_hugeLength_7cf53_59 : decode cJ8_hugeLength_7cf53 59 = .ok (.ireturn, 1) := by decide +kernel
theorem dJ3_checkIndex_8e157_0 : decode cJ3_checkIndex_8e157 0 = .ok (.iload_n 0, 1) := by decide +kernel
theorem dJ3_checkIndex_8e157_1 : decode cJ3_checkIndex_8e157 1 = .ok (.ifCond .lt 8, 3) := by decide +kernel
theorem dJ3_checkIndex_8e157_4 : decode cJ3_checkIndex_8e157 4 = .ok (.iload_n 0, 1) := by decide +kernel
theorem dJ3_checkIndex_8e157_5 : decode cJ3_checkIndex_8e157 5 = .ok (.iload_n 1, 1) := by decide +kernel
theorem dJ3_checkIndex_8e157_6 : decode cJ3_checkIndex_8e157 6 = .ok (.if_icmp .lt 10, 3) := by decide +kernel
theorem dJ3_checkIndex_8e157_9 : decode cJ3_checkIndex_8e157 9 = .ok (.aload_n 2, 1) := by decide +kernel
theorem dJ3_checkIndex_8e157_10 : decode cJ3_checkIndex_8e157 10 = .ok (.iload_n 0, 1) := by decide +kernel
theorem dJ3_checkIndex_8e157_11 : decode cJ3_checkIndex_8e157 11 = .ok (.iload_n 1, 1) := by decide +kernel
theorem dJ3_checkIndex_8e157_12 : decode cJ3_checkIndex_8e157 12 = .ok (.invokestatic 95, 3) := by decide +kernel
theorem dJ3_checkIndex_8e157_15 : decode cJ3_checkIndex_8e157 15 = .ok (.athrow, 1) := by decide +kernel
theorem dJ3_checkIndex_8e157_16 : decode cJ3_checkIndex_8e157 16 = .ok (.iload_n 0, 1) := by decide +kernel
theorem dJ3_checkIndex_8e157_17 : decode cJ3_checkIndex_8e157 17 = .ok (.ireturn, 1) := by decide +kernel
theorem dL_section_0 : decode cL_section 0 = .ok (.aload_n 3, 1) := by decide +kernel
theorem dL_section_1 : decode cL_section 1 = .ok (.iconst 0, 1) := by decide +kernel
theorem dL_section_2 : decode cL_section 2 = .ok (.aload_n 0, 1) := by decide +kernel
theorem dL_section_3 : decode cL_section 3 = .ok (.iload_n 1, 1) := by decide +kernel
theorem dL_section_4 : decode cL_section 4 = .ok (.iload_n 2, 1) := by decide +kernel
theorem dL_section_5 : decode cL_section 5 = .ok (.invokevirtual 7, 3) := by decide +kernel
theorem dL_section_8 : decode cL_section 8 = .ok (.i2l, 1) := by decide +kernel
theorem dL_section_9 : decode cL_section 9 = .ok (.lastore, 1) := by decide +kernel
theorem dL_section_10 : decode cL_section 10 = .ok (.goto 11, 3) := by decide +kernel
theorem dL_section_13 : decode cL_section 13 = .ok (.astore 4, 2) := by decide +kernel
theorem dL_section_15 : decode cL_section 15 = .ok (.iconst 1, 1) := by decide +kernel
theorem dL_section_16 : decode cL_section 16 = .ok (.ireturn, 1) := by decide +kernel
theorem dL_section_17 : decode cL_section 17 = .ok (.astore 4, 2) := by decide +kernel
theorem dL_section_19 : decode cL_section 19 = .ok (.iconst 2, 1) := by decide +kernel
theorem dL_section_20 : decode cL_section 20 = .ok (.ireturn, 1) := by decide +kernel
theorem dL_section_21 : decode cL_section 21 = .ok (.iconst 0, 1) := by decide +kernel
theorem dL_section_22 : decode cL_section 22 = .ok (.ireturn, 1) := by decide +kernel
theorem dL_pass_0 : decode cL_pass 0 = .ok (.aload 4, 2) := by decide +kernel
theorem dL_pass_2 : decode cL_pass 2 = .ok (.iconst 0, 1) := by decide +kernel
theorem dL_pass_3 : decode cL_pass 3 = .ok (.aload_n 0, 1) := by decide +kernel
theorem dL_pass_4 : decode cL_pass 4 = .ok (.iload_n 1, 1) := by decide +kernel
theorem dL_pass_5 : decode cL_pass 5 = .ok (.iload_n 2, 1) := by decide +kernel
theorem dL_pass_6 : decode cL_pass 6 = .ok (.iload_n 3, 1) := by decide +kernel
theorem dL_pass_7 : decode cL_pass 7 = .ok (.invokevirtual 17, 3) := by decide +kernel
theorem dL_pass_10 : decode cL_pass 10 = .ok (.i2l, 1) := by decide +kernel
theorem dL_pass_11 : decode cL_pass 11 = .ok (.lastore, 1) := by decide +kernel
theorem dL_pass_12 : decode cL_pass 12 = .ok (.goto 7, 3) := by decide +kernel
theorem dL_pass_15 : decode cL_pass 15 = .ok (.astore 5, 2) := by decide +kernel
theorem dL_pass_17 : decode cL_pass 17 = .ok (.iconst 1, 1) := by decide +kernel
theorem dL_pass_18 : decode cL_pass 18 = .ok (.ireturn, 1) := by decide +kernel
theorem dL_pass_19 : decode cL_pass 19 = .ok (.iconst 0, 1) := by decide +kernel
theorem dL_pass_20 : decode cL_pass 20 = .ok (.ireturn, 1) := by decide +kernel
theorem dL_prune_0 : decode cL_prune 0 = .ok (.aload_n 2, 1) := by decide +kernel
theorem dL_prune_1 : decode cL_prune 1 = .ok (.iconst 0, 1) := by decide +kernel
theorem dL_prune_2 : decode cL_prune 2 = .ok (.aload_n 0, 1) := by decide +kernel
theorem dL_prune_3 : decode cL_prune 3 = .ok (.iload_n 1, 1) := by decide +kernel
theorem dL_prune_4 : decode cL_prune 4 = .ok (.invokevirtual 21, 3) := by decide +kernel
theorem dL_prune_7 : decode cL_prune 7 = .ok (.i2l, 1) := by decide +kernel
theorem dL_prune_8 : decode cL_prune 8 = .ok (.lastore, 1) := by decide +kernel
theorem dL_prune_9 : decode cL_prune 9 = .ok (.goto 6, 3) := by decide +kernel
theorem dL_prune_12 : decode cL_prune 12 = .ok (.astore_n 3, 1) := by decide +kernel
theorem dL_prune_13 : decode cL_prune 13 = .ok (.iconst 1, 1) := by decide +kernel
theorem dL_prune_14 : decode cL_prune 14 = .ok (.ireturn, 1) := by decide +kernel
theorem dL_prune_15 : decode cL_prune 15 = .ok (.iconst 0, 1) := by decide +kernel
theorem dL_prune_16 : decode cL_prune 16 = .ok (.ireturn, 1) := by decide +kernel
theorem dL_spray_0 : decode cL_spray 0 = .ok (.aload_n 2, 1) := by decide +kernel
theorem dL_spray_1 : decode cL_spray 1 = .ok (.iconst 0, 1) := by decide +kernel
theorem dL_spray_2 : decode cL_spray 2 = .ok (.aload_n 0, 1) := by decide +kernel
theorem dL_spray_3 : decode cL_spray 3 = .ok (.iload_n 1, 1) := by decide +kernel
theorem dL_spray_4 : decode cL_spray 4 = .ok (.invokevirtual 27, 3) := by decide +kernel
theorem dL_spray_7 : decode cL_spray 7 = .ok (.i2l, 1) := by decide +kernel
theorem dL_spray_8 : decode cL_spray 8 = .ok (.lastore, 1) := by decide +kernel
theorem dL_spray_9 : decode cL_spray 9 = .ok (.goto 6, 3) := by decide +kernel
theorem dL_spray_12 : decode cL_spray 12 = .ok (.astore_n 3, 1) := by decide +kernel
theorem dL_spray_13 : decode cL_spray 13 = .ok (.iconst 1, 1) := by decide +kernel
theorem dL_spray_14 : decode cL_spray 14 = .ok (.ireturn, 1) := by decide +kernel
theorem dL_spray_15 : decode cL_spray 15 = .ok (.iconst 0, 1) := by decide +kernel
theorem dL_spray_16 : decode cL_spray 16 = .ok (.ireturn, 1) := by decide +kernel
theorem dL_pluck_0 : decode cL_pluck 0 = .ok (.aload 4, 2) := by decide +kernel
theorem dL_pluck_2 : decode cL_pluck 2 = .ok (.iconst 0, 1) := by decide +kernel
theorem dL_pluck_3 : decode cL_pluck 3 = .ok (.aload_n 0, 1) := by decide +kernel
theorem dL_pluck_4 : decode cL_pluck 4 = .ok (.iload_n 1, 1) := by decide +kernel
theorem dL_pluck_5 : decode cL_pluck 5 = .ok (.iload_n 2, 1) := by decide +kernel
theorem dL_pluck_6 : decode cL_pluck 6 = .ok (.iload_n 3, 1) := by decide +kernel
theorem dL_pluck_7 : decode cL_pluck 7 = .ok (.invokevirtual 30, 3) := by decide +kernel
theorem dL_pluck_10 : decode cL_pluck 10 = .ok (.i2l, 1) := by decide +kernel
theorem dL_pluck_11 : decode cL_pluck 11 = .ok (.lastore, 1) := by decide +kernel
theorem dL_pluck_12 : decode cL_pluck 12 = .ok (.goto 15, 3) := by decide +kernel
theorem dL_pluck_15 : decode cL_pluck 15 = .ok (.astore 5, 2) := by decide +kernel
theorem dL_pluck_17 : decode cL_pluck 17 = .ok (.iconst 1, 1) := by decide +kernel
theorem dL_pluck_18 : decode cL_pluck 18 = .ok (.ireturn, 1) := by decide +kernel
theorem dL_pluck_19 : decode cL_pluck 19 = .ok (.astore 5, 2) := by decide +kernel
theorem dL_pluck_21 : decode cL_pluck 21 = .ok (.iconst 2, 1) := by decide +kernel
theorem dL_pluck_22 : decode cL_pluck 22 = .ok (.ireturn, 1) := by decide +kernel
theorem dL_pluck_23 : decode cL_pluck 23 = .ok (.astore 5, 2) := by decide +kernel
theorem dL_pluck_25 : decode cL_pluck 25 = .ok (.iconst 3, 1) := by decide +kernel
theorem dL_pluck_26 : decode cL_pluck 26 = .ok (.ireturn, 1) := by decide +kernel
theorem dL_pluck_27 : decode cL_pluck 27 = .ok (.iconst 0, 1) := by decide +kernel
theorem dL_pluck_28 : decode cL_pluck 28 = .ok (.ireturn, 1) := by decide +kernel
theorem dL_join_0 : decode cL_join 0 = .ok (.aload_n 3, 1) := by decide +kernel
theorem dL_join_1 : decode cL_join 1 = .ok (.iconst 0, 1) := by decide +kernel
theorem dL_join_2 : decode cL_join 2 = .ok (.aload_n 0, 1) := by decide +kernel
theorem dL_join_3 : decode cL_join 3 = .ok (.iload_n 1, 1) := by decide +kernel
theorem dL_join_4 : decode cL_join 4 = .ok (.iload_n 2, 1) := by decide +kernel
theorem dL_join_5 : decode cL_join 5 = .ok (.invokevirtual 33, 3) := by decide +kernel
theorem dL_join_8 : decode cL_join 8 = .ok (.i2l, 1) := by decide +kernel
theorem dL_join_9 : decode cL_join 9 = .ok (.lastore, 1) := by decide +kernel
theorem dL_join_10 : decode cL_join 10 = .ok (.goto 15, 3) := by decide +kernel
theorem dL_join_13 : decode cL_join 13 = .ok (.astore 4, 2) := by decide +kernel
theorem dL_join_15 : decode cL_join 15 = .ok (.iconst 1, 1) := by decide +kernel
theorem dL_join_16 : decode cL_join 16 = .ok (.ireturn, 1) := by decide +kernel
theorem dL_join_17 : decode cL_join 17 = .ok (.astore 4, 2) := by decide +kernel
theorem dL_join_19 : decode cL_join 19 = .ok (.iconst 2, 1) := by decide +kernel
theorem dL_join_20 : decode cL_join 20 = .ok (.ireturn, 1) := by decide +kernel
theorem dL_join_21 : decode cL_join 21 = .ok (.astore 4, 2) := by decide +kernel
theorem dL_join_23 : decode cL_join 23 = .ok (.iconst 3, 1) := by decide +kernel
theorem dL_join_24 : decode cL_join 24 = .ok (.ireturn, 1) := by decide +kernel
theorem dL_join_25 : decode cL_join 25 = .ok (.iconst 0, 1) := by decide +kernel
theorem dL_join_26 : decode cL_join 26 = .ok (.ireturn, 1) := by decide +kernel
theorem dL_wither_0 : decode cL_wither 0 = .ok (.aload 4, 2) := by decide +kernel
theorem dL_wither_2 : decode cL_wither 2 = .ok (.iconst 0, 1) := by decide +kernel
theorem dL_wither_3 : decode cL_wither 3 = .ok (.aload_n 0, 1) := by decide +kernel
theorem dL_wither_4 : decode cL_wither 4 = .ok (.iload_n 1, 1) := by decide +kernel
theorem dL_wither_5 : decode cL_wither 5 = .ok (.iload_n 2, 1) := by decide +kernel
theorem dL_wither_6 : decode cL_wither 6 = .ok (.iload_n 3, 1) := by decide +kernel
theorem dL_wither_7 : decode cL_wither 7 = .ok (.invokevirtual 36, 3) := by decide +kernel
theorem dL_wither_10 : decode cL_wither 10 = .ok (.i2l, 1) := by decide +kernel
theorem dL_wither_11 : decode cL_wither 11 = .ok (.lastore, 1) := by decide +kernel
theorem dL_wither_12 : decode cL_wither 12 = .ok (.goto 15, 3) := by decide +kernel
theorem dL_wither_15 : decode cL_wither 15 = .ok (.astore 5, 2) := by decide +kernel
theorem dL_wither_17 : decode cL_wither 17 = .ok (.iconst 1, 1) := by decide +kernel
theorem dL_wither_18 : decode cL_wither 18 = .ok (.ireturn, 1) := by decide +kernel
theorem dL_wither_19 : decode cL_wither 19 = .ok (.astore 5, 2) := by decide +kernel
theorem dL_wither_21 : decode cL_wither 21 = .ok (.iconst 2, 1) := by decide +kernel
theorem dL_wither_22 : decode cL_wither 22 = .ok (.ireturn, 1) := by decide +kernel
theorem dL_wither_23 : decode cL_wither 23 = .ok (.astore 5, 2) := by decide +kernel
theorem dL_wither_25 : decode cL_wither 25 = .ok (.iconst 3, 1) := by decide +kernel
theorem dL_wither_26 : decode cL_wither 26 = .ok (.ireturn, 1) := by decide +kernel
theorem dL_wither_27 : decode cL_wither 27 = .ok (.iconst 0, 1) := by decide +kernel
theorem dL_wither_28 : decode cL_wither 28 = .ok (.ireturn, 1) := by decide +kernel
theorem dL_kill_0 : decode cL_kill 0 = .ok (.aload_n 2, 1) := by decide +kernel
theorem dL_kill_1 : decode cL_kill 1 = .ok (.iconst 0, 1) := by decide +kernel
theorem dL_kill_2 : decode cL_kill 2 = .ok (.aload_n 0, 1) := by decide +kernel
theorem dL_kill_3 : decode cL_kill 3 = .ok (.iload_n 1, 1) := by decide +kernel
theorem dL_kill_4 : decode cL_kill 4 = .ok (.invokevirtual 39, 3) := by decide +kernel
theorem dL_kill_7 : decode cL_kill 7 = .ok (.i2l, 1) := by decide +kernel
theorem dL_kill_8 : decode cL_kill 8 = .ok (.lastore, 1) := by decide +kernel
theorem dL_kill_9 : decode cL_kill 9 = .ok (.goto 9, 3) := by decide +kernel
theorem dL_kill_12 : decode cL_kill 12 = .ok (.astore_n 3, 1) := by decide +kernel
theorem dL_kill_13 : decode cL_kill 13 = .ok (.iconst 1, 1) := by decide +kernel
theorem dL_kill_14 : decode cL_kill 14 = .ok (.ireturn, 1) := by decide +kernel
theorem dL_kill_15 : decode cL_kill 15 = .ok (.astore_n 3, 1) := by decide +kernel
theorem dL_kill_16 : decode cL_kill 16 = .ok (.iconst 2, 1) := by decide +kernel
theorem dL_kill_17 : decode cL_kill 17 = .ok (.ireturn, 1) := by decide +kernel
theorem dL_kill_18 : decode cL_kill 18 = .ok (.iconst 0, 1) := by decide +kernel
theorem dL_kill_19 : decode cL_kill 19 = .ok (.ireturn, 1) := by decide +kernel
theorem dL_roll_0 : decode cL_roll 0 = .ok (.aload_n 3, 1) := by decide +kernel
theorem dL_roll_1 : decode cL_roll 1 = .ok (.iconst 0, 1) := by decide +kernel
theorem dL_roll_2 : decode cL_roll 2 = .ok (.aload_n 0, 1) := by decide +kernel
theorem dL_roll_3 : decode cL_roll 3 = .ok (.iload_n 1, 1) := by decide +kernel
theorem dL_roll_4 : decode cL_roll 4 = .ok (.iload_n 2, 1) := by decide +kernel
theorem dL_roll_5 : decode cL_roll 5 = .ok (.invokevirtual 42, 3) := by decide +kernel
theorem dL_roll_8 : decode cL_roll 8 = .ok (.i2l, 1) := by decide +kernel
theorem dL_roll_9 : decode cL_roll 9 = .ok (.lastore, 1) := by decide +kernel
theorem dL_roll_10 : decode cL_roll 10 = .ok (.goto 15, 3) := by decide +kernel
theorem dL_roll_13 : decode cL_roll 13 = .ok (.astore 4, 2) := by decide +kernel
theorem dL_roll_15 : decode cL_roll 15 = .ok (.iconst 1, 1) := by decide +kernel
theorem dL_roll_16 : decode cL_roll 16 = .ok (.ireturn, 1) := by decide +kernel
theorem dL_roll_17 : decode cL_roll 17 = .ok (.astore 4, 2) := by decide +kernel
theorem dL_roll_19 : decode cL_roll 19 = .ok (.iconst 2, 1) := by decide +kernel
theorem dL_roll_20 : decode cL_roll 20 = .ok (.ireturn, 1) := by decide +kernel
theorem dL_roll_21 : decode cL_roll 21 = .ok (.astore 4, 2) := by decide +kernel
theorem dL_roll_23 : decode cL_roll 23 = .ok (.iconst 3, 1) := by decide +kernel
theorem dL_roll_24 : decode cL_roll 24 = .ok (.ireturn, 1) := by decide +kernel
theorem dL_roll_25 : decode cL_roll 25 = .ok (.iconst 0, 1) := by decide +kernel
theorem dL_roll_26 : decode cL_roll 26 = .ok (.ireturn, 1) := by decide +kernel
theorem dL_rest_0 : decode cL_rest 0 = .ok (.aload 4, 2) := by decide +kernel
theorem dL_rest_2 : decode cL_rest 2 = .ok (.iconst 0, 1) := by decide +kernel
theorem dL_rest_3 : decode cL_rest 3 = .ok (.aload_n 0, 1) := by decide +kernel
theorem dL_rest_4 : decode cL_rest 4 = .ok (.iload_n 1, 1) := by decide +kernel
theorem dL_rest_5 : decode cL_rest 5 = .ok (.iload_n 2, 1) := by decide +kernel
theorem dL_rest_6 : decode cL_rest 6 = .ok (.iload_n 3, 1) := by decide +kernel
theorem dL_rest_7 : decode cL_rest 7 = .ok (.invokevirtual 45, 3) := by decide +kernel
theorem dL_rest_10 : decode cL_rest 10 = .ok (.i2l, 1) := by decide +kernel
theorem dL_rest_11 : decode cL_rest 11 = .ok (.lastore, 1) := by decide +kernel
theorem dL_rest_12 : decode cL_rest 12 = .ok (.goto 15, 3) := by decide +kernel
theorem dL_rest_15 : decode cL_rest 15 = .ok (.astore 5, 2) := by decide +kernel
theorem dL_rest_17 : decode cL_rest 17 = .ok (.iconst 1, 1) := by decide +kernel
theorem dL_rest_18 : decode cL_rest 18 = .ok (.ireturn, 1) := by decide +kernel
theorem dL_rest_19 : decode cL_rest 19 = .ok (.astore 5, 2) := by decide +kernel
theorem dL_rest_21 : decode cL_rest 21 = .ok (.iconst 2, 1) := by decide +kernel
theorem dL_rest_22 : decode cL_rest 22 = .ok (.ireturn, 1) := by decide +kernel
theorem dL_rest_23 : decode cL_rest 23 = .ok (.astore 5, 2) := by decide +kernel
theorem dL_rest_25 : decode cL_rest 25 = .ok (.iconst 3, 1) := by decide +kernel
theorem dL_rest_26 : decode cL_rest 26 = .ok (.ireturn, 1) := by decide +kernel
theorem dL_rest_27 : decode cL_rest 27 = .ok (.iconst 0, 1) := by decide +kernel
theorem dL_rest_28 : decode cL_rest 28 = .ok (.ireturn, 1) := by decide +kernel
theorem dL_fire_0 : decode cL_fire 0 = .ok (.aload 4, 2) := by decide +kernel
theorem dL_fire_2 : decode cL_fire 2 = .ok (.iconst 0, 1) := by decide +kernel
theorem dL_fire_3 : decode cL_fire 3 = .ok (.aload_n 0, 1) := by decide +kernel
theorem dL_fire_4 : decode cL_fire 4 = .ok (.iload_n 1, 1) := by decide +kernel
theorem dL_fire_5 : decode cL_fire 5 = .ok (.iload_n 2, 1) := by decide +kernel
theorem dL_fire_6 : decode cL_fire 6 = .ok (.iload_n 3, 1) := by decide +kernel
theorem dL_fire_7 : decode cL_fire 7 = .ok (.invokevirtual 48, 3) := by decide +kernel
theorem dL_fire_10 : decode cL_fire 10 = .ok (.i2l, 1) := by decide +kernel
theorem dL_fire_11 : decode cL_fire 11 = .ok (.lastore, 1) := by decide +kernel
theorem dL_fire_12 : decode cL_fire 12 = .ok (.goto 15, 3) := by decide +kernel
theorem dL_fire_15 : decode cL_fire 15 = .ok (.astore 5, 2) := by decide +kernel
theorem dL_fire_17 : decode cL_fire 17 = .ok (.iconst 1, 1) := by decide +kernel
theorem dL_fire_18 : decode cL_fire 18 = .ok (.ireturn, 1) := by decide +kernel
theorem dL_fire_19 : decode cL_fire 19 = .ok (.astore 5, 2) := by decide +kernel
theorem dL_fire_21 : decode cL_fire 21 = .ok (.iconst 2, 1) := by decide +kernel
theorem dL_fire_22 : decode cL_fire 22 = .ok (.ireturn, 1) := by decide +kernel
theorem dL_fire_23 : decode cL_fire 23 = .ok (.astore 5, 2) := by decide +kernel
theorem dL_fire_25 : decode cL_fire 25 = .ok (.iconst 3, 1) := by decide +kernel
theorem dL_fire_26 : decode cL_fire 26 = .ok (.ireturn, 1) := by decide +kernel
theorem dL_fire_27 : decode cL_fire 27 = .ok (.iconst 0, 1) := by decide +kernel
theorem dL_fire_28 : decode cL_fire 28 = .ok (.ireturn, 1) := by decide +kernel
theorem dL_sort_0 : decode cL_sort 0 = .ok (.aload_n 2, 1) := by decide +kernel
theorem dL_sort_1 : decode cL_sort 1 = .ok (.iconst 0, 1) := by decide +kernel
theorem dL_sort_2 : decode cL_sort 2 = .ok (.aload_n 0, 1) := by decide +kernel
theorem dL_sort_3 : decode cL_sort 3 = .ok (.iload_n 1, 1) := by decide +kernel
theorem dL_sort_4 : decode cL_sort 4 = .ok (.invokevirtual 51, 3) := by decide +kernel
theorem dL_sort_7 : decode cL_sort 7 = .ok (.i2l, 1) := by decide +kernel
theorem dL_sort_8 : decode cL_sort 8 = .ok (.lastore, 1) := by decide +kernel
theorem dL_sort_9 : decode cL_sort 9 = .ok (.goto 9, 3) := by decide +kernel
theorem dL_sort_12 : decode cL_sort 12 = .ok (.astore_n 3, 1) := by decide +kernel
theorem dL_sort_13 : decode cL_sort 13 = .ok (.iconst 1, 1) := by decide +kernel
theorem dL_sort_14 : decode cL_sort 14 = .ok (.ireturn, 1) := by decide +kernel
theorem dL_sort_15 : decode cL_sort 15 = .ok (.astore_n 3, 1) := by decide +kernel
theorem dL_sort_16 : decode cL_sort 16 = .ok (.iconst 2, 1) := by decide +kernel
theorem dL_sort_17 : decode cL_sort 17 = .ok (.ireturn, 1) := by decide +kernel
theorem dL_sort_18 : decode cL_sort 18 = .ok (.iconst 0, 1) := by decide +kernel
theorem dL_sort_19 : decode cL_sort 19 = .ok (.ireturn, 1) := by decide +kernel
theorem dL_mix_0 : decode cL_mix 0 = .ok (.aload 5, 2) := by decide +kernel
theorem dL_mix_2 : decode cL_mix 2 = .ok (.iconst 0, 1) := by decide +kernel
theorem dL_mix_3 : decode cL_mix 3 = .ok (.aload_n 0, 1) := by decide +kernel
theorem dL_mix_4 : decode cL_mix 4 = .ok (.iload_n 1, 1) := by decide +kernel
theorem dL_mix_5 : decode cL_mix 5 = .ok (.iload_n 2, 1) := by decide +kernel
theorem dL_mix_6 : decode cL_mix 6 = .ok (.iload_n 3, 1) := by decide +kernel
theorem dL_mix_7 : decode cL_mix 7 = .ok (.iload 4, 2) := by decide +kernel
theorem dL_mix_9 : decode cL_mix 9 = .ok (.invokevirtual 54, 3) := by decide +kernel
theorem dL_mix_12 : decode cL_mix 12 = .ok (.i2l, 1) := by decide +kernel
theorem dL_mix_13 : decode cL_mix 13 = .ok (.lastore, 1) := by decide +kernel
theorem dL_mix_14 : decode cL_mix 14 = .ok (.goto 15, 3) := by decide +kernel
theorem dL_mix_17 : decode cL_mix 17 = .ok (.astore 6, 2) := by decide +kernel
theorem dL_mix_19 : decode cL_mix 19 = .ok (.iconst 1, 1) := by decide +kernel
theorem dL_mix_20 : decode cL_mix 20 = .ok (.ireturn, 1) := by decide +kernel
theorem dL_mix_21 : decode cL_mix 21 = .ok (.astore 6, 2) := by decide +kernel
theorem dL_mix_23 : decode cL_mix 23 = .ok (.iconst 2, 1) := by decide +kernel
theorem dL_mix_24 : decode cL_mix 24 = .ok (.ireturn, 1) := by decide +kernel
theorem dL_mix_25 : decode cL_mix 25 = .ok (.astore 6, 2) := by decide +kernel
theorem dL_mix_27 : decode cL_mix 27 = .ok (.iconst 3, 1) := by decide +kernel
theorem dL_mix_28 : decode cL_mix 28 = .ok (.ireturn, 1) := by decide +kernel
theorem dL_mix_29 : decode cL_mix 29 = .ok (.iconst 0, 1) := by decide +kernel
theorem dL_mix_30 : decode cL_mix 30 = .ok (.ireturn, 1) := by decide +kernel
theorem dL_lean_0 : decode cL_lean 0 = .ok (.aload_n 3, 1) := by decide +kernel
theorem dL_lean_1 : decode cL_lean 1 = .ok (.iconst 0, 1) := by decide +kernel
theorem dL_lean_2 : decode cL_lean 2 = .ok (.aload_n 0, 1) := by decide +kernel
theorem dL_lean_3 : decode cL_lean 3 = .ok (.iload_n 1, 1) := by decide +kernel
theorem dL_lean_4 : decode cL_lean 4 = .ok (.iload_n 2, 1) := by decide +kernel
theorem dL_lean_5 : decode cL_lean 5 = .ok (.invokevirtual 58, 3) := by decide +kernel
theorem dL_lean_8 : decode cL_lean 8 = .ok (.i2l, 1) := by decide +kernel
theorem dL_lean_9 : decode cL_lean 9 = .ok (.lastore, 1) := by decide +kernel
theorem dL_lean_10 : decode cL_lean 10 = .ok (.goto 11, 3) := by decide +kernel
theorem dL_lean_13 : decode cL_lean 13 = .ok (.astore 4, 2) := by decide +kernel
theorem dL_lean_15 : decode cL_lean 15 = .ok (.iconst 1, 1) := by decide +kernel
theorem dL_lean_16 : decode cL_lean 16 = .ok (.ireturn, 1) := by decide +kernel
theorem dL_lean_17 : decode cL_lean 17 = .ok (.astore 4, 2) := by decide +kernel
theorem dL_lean_19 : decode cL_lean 19 = .ok (.iconst 2, 1) := by decide +kernel
theorem dL_lean_20 : decode cL_lean 20 = .ok (.ireturn, 1) := by decide +kernel
theorem dL_lean_21 : decode cL_lean 21 = .ok (.iconst 0, 1) := by decide +kernel
theorem dL_lean_22 : decode cL_lean 22 = .ok (.ireturn, 1) := by decide +kernel
theorem dL_repeat_0 : decode cL_repeat 0 = .ok (.aload_n 3, 1) := by decide +kernel
theorem dL_repeat_1 : decode cL_repeat 1 = .ok (.iconst 0, 1) := by decide +kernel
theorem dL_repeat_2 : decode cL_repeat 2 = .ok (.aload_n 0, 1) := by decide +kernel
theorem dL_repeat_3 : decode cL_repeat 3 = .ok (.iload_n 1, 1) := by decide +kernel
theorem dL_repeat_4 : decode cL_repeat 4 = .ok (.iload_n 2, 1) := by decide +kernel
theorem dL_repeat_5 : decode cL_repeat 5 = .ok (.invokevirtual 61, 3) := by decide +kernel
theorem dL_repeat_8 : decode cL_repeat 8 = .ok (.i2l, 1) := by decide +kernel
theorem dL_repeat_9 : decode cL_repeat 9 = .ok (.lastore, 1) := by decide +kernel
theorem dL_repeat_10 : decode cL_repeat 10 = .ok (.goto 11, 3) := by decide +kernel
theorem dL_repeat_13 : decode cL_repeat 13 = .ok (.astore 4, 2) := by decide +kernel
theorem dL_repeat_15 : decode cL_repeat 15 = .ok (.iconst 1, 1) := by decide +kernel
theorem dL_repeat_16 : decode cL_repeat 16 = .ok (.ireturn, 1) := by decide +kernel
theorem dL_repeat_17 : decode cL_repeat 17 = .ok (.astore 4, 2) := by decide +kernel
theorem dL_repeat_19 : decode cL_repeat 19 = .ok (.iconst 2, 1) := by decide +kernel
theorem dL_repeat_20 : decode cL_repeat 20 = .ok (.ireturn, 1) := by decide +kernel
theorem dL_repeat_21 : decode cL_repeat 21 = .ok (.iconst 0, 1) := by decide +kernel
theorem dL_repeat_22 : decode cL_repeat 22 = .ok (.ireturn, 1) := by decide +kernel
theorem dL_purse_0 : decode cL_purse 0 = .ok (.aload_n 3, 1) := by decide +kernel
theorem dL_purse_1 : decode cL_purse 1 = .ok (.iconst 0, 1) := by decide +kernel
theorem dL_purse_2 : decode cL_purse 2 = .ok (.aload_n 0, 1) := by decide +kernel
theorem dL_purse_3 : decode cL_purse 3 = .ok (.iload_n 1, 1) := by decide +kernel
theorem dL_purse_4 : decode cL_purse 4 = .ok (.iload_n 2, 1) := by decide +kernel
theorem dL_purse_5 : decode cL_purse 5 = .ok (.invokevirtual 64, 3) := by decide +kernel
theorem dL_purse_8 : decode cL_purse 8 = .ok (.i2l, 1) := by decide +kernel
theorem dL_purse_9 : decode cL_purse 9 = .ok (.lastore, 1) := by decide +kernel
theorem dL_purse_10 : decode cL_purse 10 = .ok (.goto 11, 3) := by decide +kernel
theorem dL_purse_13 : decode cL_purse 13 = .ok (.astore 4, 2) := by decide +kernel
theorem dL_purse_15 : decode cL_purse 15 = .ok (.iconst 1, 1) := by decide +kernel
theorem dL_purse_16 : decode cL_purse 16 = .ok (.ireturn, 1) := by decide +kernel
theorem dL_purse_17 : decode cL_purse 17 = .ok (.astore 4, 2) := by decide +kernel
theorem dL_purse_19 : decode cL_purse 19 = .ok (.iconst 2, 1) := by decide +kernel
theorem dL_purse_20 : decode cL_purse 20 = .ok (.ireturn, 1) := by decide +kernel
theorem dL_purse_21 : decode cL_purse 21 = .ok (.iconst 0, 1) := by decide +kernel
theorem dL_purse_22 : decode cL_purse 22 = .ok (.ireturn, 1) := by decide +kernel
theorem dL_offer_0 : decode cL_offer 0 = .ok (.aload_n 3, 1) := by decide +kernel
theorem dL_offer_1 : decode cL_offer 1 = .ok (.iconst 0, 1) := by decide +kernel
theorem dL_offer_2 : decode cL_offer 2 = .ok (.aload_n 0, 1) := by decide +kernel
theorem dL_offer_3 : decode cL_offer 3 = .ok (.iload_n 1, 1) := by decide +kernel
theorem dL_offer_4 : decode cL_offer 4 = .ok (.iload_n 2, 1) := by decide +kernel
theorem dL_offer_5 : decode cL_offer 5 = .ok (.invokevirtual 67, 3) := by decide +kernel
theorem dL_offer_8 : decode cL_offer 8 = .ok (.i2l, 1) := by decide +kernel
theorem dL_offer_9 : decode cL_offer 9 = .ok (.lastore, 1) := by decide +kernel
theorem dL_offer_10 : decode cL_offer 10 = .ok (.goto 15, 3) := by decide +kernel
theorem dL_offer_13 : decode cL_offer 13 = .ok (.astore 4, 2) := by decide +kernel
theorem dL_offer_15 : decode cL_offer 15 = .ok (.iconst 1, 1) := by decide +kernel
theorem dL_offer_16 : decode cL_offer 16 = .ok (.ireturn, 1) := by decide +kernel
theorem dL_offer_17 : decode cL_offer 17 = .ok (.astore 4, 2) := by decide +kernel
theorem dL_offer_19 : decode cL_offer 19 = .ok (.iconst 2, 1) := by decide +kernel
theorem dL_offer_20 : decode cL_offer 20 = .ok (.ireturn, 1) := by decide +kernel
theorem dL_offer_21 : decode cL_offer 21 = .ok (.astore 4, 2) := by decide +kernel
theorem dL_offer_23 : decode cL_offer 23 = .ok (.iconst 3, 1) := by decide +kernel
theorem dL_offer_24 : decode cL_offer 24 = .ok (.ireturn, 1) := by decide +kernel
theorem dL_offer_25 : decode cL_offer 25 = .ok (.iconst 0, 1) := by decide +kernel
theorem dL_offer_26 : decode cL_offer 26 = .ok (.ireturn, 1) := by decide +kernel
theorem dL_bid_0 : decode cL_bid 0 = .ok (.aload 4, 2) := by decide +kernel
theorem dL_bid_2 : decode cL_bid 2 = .ok (.iconst 0, 1) := by decide +kernel
theorem dL_bid_3 : decode cL_bid 3 = .ok (.aload_n 0, 1) := by decide +kernel
theorem dL_bid_4 : decode cL_bid 4 = .ok (.iload_n 1, 1) := by decide +kernel
theorem dL_bid_5 : decode cL_bid 5 = .ok (.iload_n 2, 1) := by decide +kernel
theorem dL_bid_6 : decode cL_bid 6 = .ok (.iload_n 3, 1) := by decide +kernel
theorem dL_bid_7 : decode cL_bid 7 = .ok (.invokevirtual 70, 3) := by decide +kernel
theorem dL_bid_10 : decode cL_bid 10 = .ok (.i2l, 1) := by decide +kernel
theorem dL_bid_11 : decode cL_bid 11 = .ok (.lastore, 1) := by decide +kernel
theorem dL_bid_12 : decode cL_bid 12 = .ok (.goto 15, 3) := by decide +kernel
theorem dL_bid_15 : decode cL_bid 15 = .ok (.astore 5, 2) := by decide +kernel
theorem dL_bid_17 : decode cL_bid 17 = .ok (.iconst 1, 1) := by decide +kernel
theorem dL_bid_18 : decode cL_bid 18 = .ok (.ireturn, 1) := by decide +kernel
theorem dL_bid_19 : decode cL_bid 19 = .ok (.astore 5, 2) := by decide +kernel
theorem dL_bid_21 : decode cL_bid 21 = .ok (.iconst 2, 1) := by decide +kernel
theorem dL_bid_22 : decode cL_bid 22 = .ok (.ireturn, 1) := by decide +kernel
theorem dL_bid_23 : decode cL_bid 23 = .ok (.astore 5, 2) := by decide +kernel
theorem dL_bid_25 : decode cL_bid 25 = .ok (.iconst 3, 1) := by decide +kernel
theorem dL_bid_26 : decode cL_bid 26 = .ok (.ireturn, 1) := by decide +kernel
theorem dL_bid_27 : decode cL_bid 27 = .ok (.iconst 0, 1) := by decide +kernel
theorem dL_bid_28 : decode cL_bid 28 = .ok (.ireturn, 1) := by decide +kernel
theorem dL_knock_0 : decode cL_knock 0 = .ok (.aload_n 2, 1) := by decide +kernel
theorem dL_knock_1 : decode cL_knock 1 = .ok (.iconst 0, 1) := by decide +kernel
theorem dL_knock_2 : decode cL_knock 2 = .ok (.aload_n 0, 1) := by decide +kernel
theorem dL_knock_3 : decode cL_knock 3 = .ok (.iload_n 1, 1) := by decide +kernel
theorem dL_knock_4 : decode cL_knock 4 = .ok (.invokevirtual 73, 3) := by decide +kernel
theorem dL_knock_7 : decode cL_knock 7 = .ok (.i2l, 1) := by decide +kernel
theorem dL_knock_8 : decode cL_knock 8 = .ok (.lastore, 1) := by decide +kernel
theorem dL_knock_9 : decode cL_knock 9 = .ok (.goto 9, 3) := by decide +kernel
theorem dL_knock_12 : decode cL_knock 12 = .ok (.astore_n 3, 1) := by decide +kernel
theorem dL_knock_13 : decode cL_knock 13 = .ok (.iconst 1, 1) := by decide +kernel
theorem dL_knock_14 : decode cL_knock 14 = .ok (.ireturn, 1) := by decide +kernel
theorem dL_knock_15 : decode cL_knock 15 = .ok (.astore_n 3, 1) := by decide +kernel
theorem dL_knock_16 : decode cL_knock 16 = .ok (.iconst 2, 1) := by decide +kernel
theorem dL_knock_17 : decode cL_knock 17 = .ok (.ireturn, 1) := by decide +kernel
theorem dL_knock_18 : decode cL_knock 18 = .ok (.iconst 0, 1) := by decide +kernel
theorem dL_knock_19 : decode cL_knock 19 = .ok (.ireturn, 1) := by decide +kernel
theorem dL_ofSection_0 : decode cL_ofSection 0 = .ok (.aload_n 3, 1) := by decide +kernel
theorem dL_ofSection_1 : decode cL_ofSection 1 = .ok (.iconst 0, 1) := by decide +kernel
theorem dL_ofSection_2 : decode cL_ofSection 2 = .ok (.aload_n 0, 1) := by decide +kernel
theorem dL_ofSection_3 : decode cL_ofSection 3 = .ok (.iload_n 1, 1) := by decide +kernel
theorem dL_ofSection_4 : decode cL_ofSection 4 = .ok (.iload_n 2, 1) := by decide +kernel
theorem dL_ofSection_5 : decode cL_ofSection 5 = .ok (.invokevirtual 76, 3) := by decide +kernel
theorem dL_ofSection_8 : decode cL_ofSection 8 = .ok (.i2l, 1) := by decide +kernel
theorem dL_ofSection_9 : decode cL_ofSection 9 = .ok (.lastore, 1) := by decide +kernel
theorem dL_ofSection_10 : decode cL_ofSection 10 = .ok (.goto 11, 3) := by decide +kernel
theorem dL_ofSection_13 : decode cL_ofSection 13 = .ok (.astore 4, 2) := by decide +kernel
theorem dL_ofSection_15 : decode cL_ofSection 15 = .ok (.iconst 1, 1) := by decide +kernel
theorem dL_ofSection_16 : decode cL_ofSection 16 = .ok (.ireturn, 1) := by decide +kernel
theorem dL_ofSection_17 : decode cL_ofSection 17 = .ok (.astore 4, 2) := by decide +kernel
theorem dL_ofSection_19 : decode cL_ofSection 19 = .ok (.iconst 2, 1) := by decide +kernel
theorem dL_ofSection_20 : decode cL_ofSection 20 = .ok (.ireturn, 1) := by decide +kernel
theorem dL_ofSection_21 : decode cL_ofSection 21 = .ok (.iconst 0, 1) := by decide +kernel
theorem dL_ofSection_22 : decode cL_ofSection 22 = .ok (.ireturn, 1) := by decide +kernel
theorem dL_ofLot_0 : decode cL_ofLot 0 = .ok (.aload_n 3, 1) := by decide +kernel
theorem dL_ofLot_1 : decode cL_ofLot 1 = .ok (.iconst 0, 1) := by decide +kernel
theorem dL_ofLot_2 : decode cL_ofLot 2 = .ok (.aload_n 0, 1) := by decide +kernel
theorem dL_ofLot_3 : decode cL_ofLot 3 = .ok (.iload_n 1, 1) := by decide +kernel
theorem dL_ofLot_4 : decode cL_ofLot 4 = .ok (.iload_n 2, 1) := by decide +kernel
theorem dL_ofLot_5 : decode cL_ofLot 5 = .ok (.invokevirtual 79, 3) := by decide +kernel
theorem dL_ofLot_8 : decode cL_ofLot 8 = .ok (.i2l, 1) := by decide +kernel
theorem dL_ofLot_9 : decode cL_ofLot 9 = .ok (.lastore, 1) := by decide +kernel
theorem dL_ofLot_10 : decode cL_ofLot 10 = .ok (.goto 11, 3) := by decide +kernel
theorem dL_ofLot_13 : decode cL_ofLot 13 = .ok (.astore 4, 2) := by decide +kernel
theorem dL_ofLot_15 : decode cL_ofLot 15 = .ok (.iconst 1, 1) := by decide +kernel
theorem dL_ofLot_16 : decode cL_ofLot 16 = .ok (.ireturn, 1) := by decide +kernel
theorem dL_ofLot_17 : decode cL_ofLot 17 = .ok (.astore 4, 2) := by decide +kernel
theorem dL_ofLot_19 : decode cL_ofLot 19 = .ok (.iconst 2, 1) := by decide +kernel
theorem dL_ofLot_20 : decode cL_ofLot 20 = .ok (.ireturn, 1) := by decide +kernel
theorem dL_ofLot_21 : decode cL_ofLot 21 = .ok (.iconst 0, 1) := by decide +kernel
theorem dL_ofLot_22 : decode cL_ofLot 22 = .ok (.ireturn, 1) := by decide +kernel
theorem dL_note_0 : decode cL_note 0 = .ok (.aload_n 3, 1) := by decide +kernel
theorem dL_note_1 : decode cL_note 1 = .ok (.iconst 0, 1) := by decide +kernel
theorem dL_note_2 : decode cL_note 2 = .ok (.aload_n 0, 1) := by decide +kernel
theorem dL_note_3 : decode cL_note 3 = .ok (.iload_n 1, 1) := by decide +kernel
theorem dL_note_4 : decode cL_note 4 = .ok (.iload_n 2, 1) := by decide +kernel
theorem dL_note_5 : decode cL_note 5 = .ok (.invokevirtual 82, 3) := by decide +kernel
theorem dL_note_8 : decode cL_note 8 = .ok (.i2l, 1) := by decide +kernel
theorem dL_note_9 : decode cL_note 9 = .ok (.lastore, 1) := by decide +kernel
theorem dL_note_10 : decode cL_note 10 = .ok (.goto 15, 3) := by decide +kernel
theorem dL_note_13 : decode cL_note 13 = .ok (.astore 4, 2) := by decide +kernel
theorem dL_note_15 : decode cL_note 15 = .ok (.iconst 1, 1) := by decide +kernel
theorem dL_note_16 : decode cL_note 16 = .ok (.ireturn, 1) := by decide +kernel
theorem dL_note_17 : decode cL_note 17 = .ok (.astore 4, 2) := by decide +kernel
theorem dL_note_19 : decode cL_note 19 = .ok (.iconst 2, 1) := by decide +kernel
theorem dL_note_20 : decode cL_note 20 = .ok (.ireturn, 1) := by decide +kernel
theorem dL_note_21 : decode cL_note 21 = .ok (.astore 4, 2) := by decide +kernel
theorem dL_note_23 : decode cL_note 23 = .ok (.iconst 3, 1) := by decide +kernel
theorem dL_note_24 : decode cL_note 24 = .ok (.ireturn, 1) := by decide +kernel
theorem dL_note_25 : decode cL_note 25 = .ok (.iconst 0, 1) := by decide +kernel
theorem dL_note_26 : decode cL_note 26 = .ok (.ireturn, 1) := by decide +kernel
theorem dL_taste_0 : decode cL_taste 0 = .ok (.aload_n 3, 1) := by decide +kernel
theorem dL_taste_1 : decode cL_taste 1 = .ok (.iconst 0, 1) := by decide +kernel
theorem dL_taste_2 : decode cL_taste 2 = .ok (.aload_n 0, 1) := by decide +kernel
theorem dL_taste_3 : decode cL_taste 3 = .ok (.iload_n 1, 1) := by decide +kernel
theorem dL_taste_4 : decode cL_taste 4 = .ok (.iload_n 2, 1) := by decide +kernel
theorem dL_taste_5 : decode cL_taste 5 = .ok (.invokevirtual 85, 3) := by decide +kernel
theorem dL_taste_8 : decode cL_taste 8 = .ok (.i2l, 1) := by decide +kernel
theorem dL_taste_9 : decode cL_taste 9 = .ok (.lastore, 1) := by decide +kernel
theorem dL_taste_10 : decode cL_taste 10 = .ok (.goto 15, 3) := by decide +kernel
theorem dL_taste_13 : decode cL_taste 13 = .ok (.astore 4, 2) := by decide +kernel
theorem dL_taste_15 : decode cL_taste 15 = .ok (.iconst 1, 1) := by decide +kernel
theorem dL_taste_16 : decode cL_taste 16 = .ok (.ireturn, 1) := by decide +kernel
theorem dL_taste_17 : decode cL_taste 17 = .ok (.astore 4, 2) := by decide +kernel
theorem dL_taste_19 : decode cL_taste 19 = .ok (.iconst 2, 1) := by decide +kernel
theorem dL_taste_20 : decode cL_taste 20 = .ok (.ireturn, 1) := by decide +kernel
theorem dL_taste_21 : decode cL_taste 21 = .ok (.astore 4, 2) := by decide +kernel
theorem dL_taste_23 : decode cL_taste 23 = .ok (.iconst 3, 1) := by decide +kernel
theorem dL_taste_24 : decode cL_taste 24 = .ok (.ireturn, 1) := by decide +kernel
theorem dL_taste_25 : decode cL_taste 25 = .ok (.iconst 0, 1) := by decide +kernel
theorem dL_taste_26 : decode cL_taste 26 = .ok (.ireturn, 1) := by decide +kernel
theorem dL_ofTaster_0 : decode cL_ofTaster 0 = .ok (.aload_n 3, 1) := by decide +kernel
theorem dL_ofTaster_1 : decode cL_ofTaster 1 = .ok (.iconst 0, 1) := by decide +kernel
theorem dL_ofTaster_2 : decode cL_ofTaster 2 = .ok (.aload_n 0, 1) := by decide +kernel
theorem dL_ofTaster_3 : decode cL_ofTaster 3 = .ok (.iload_n 1, 1) := by decide +kernel
theorem dL_ofTaster_4 : decode cL_ofTaster 4 = .ok (.iload_n 2, 1) := by decide +kernel
theorem dL_ofTaster_5 : decode cL_ofTaster 5 = .ok (.invokevirtual 88, 3) := by decide +kernel
theorem dL_ofTaster_8 : decode cL_ofTaster 8 = .ok (.i2l, 1) := by decide +kernel
theorem dL_ofTaster_9 : decode cL_ofTaster 9 = .ok (.lastore, 1) := by decide +kernel
theorem dL_ofTaster_10 : decode cL_ofTaster 10 = .ok (.goto 11, 3) := by decide +kernel
theorem dL_ofTaster_13 : decode cL_ofTaster 13 = .ok (.astore 4, 2) := by decide +kernel
theorem dL_ofTaster_15 : decode cL_ofTaster 15 = .ok (.iconst 1, 1) := by decide +kernel
theorem dL_ofTaster_16 : decode cL_ofTaster 16 = .ok (.ireturn, 1) := by decide +kernel
theorem dL_ofTaster_17 : decode cL_ofTaster 17 = .ok (.astore 4, 2) := by decide +kernel
theorem dL_ofTaster_19 : decode cL_ofTaster 19 = .ok (.iconst 2, 1) := by decide +kernel
theorem dL_ofTaster_20 : decode cL_ofTaster 20 = .ok (.ireturn, 1) := by decide +kernel
theorem dL_ofTaster_21 : decode cL_ofTaster 21 = .ok (.iconst 0, 1) := by decide +kernel
theorem dL_ofTaster_22 : decode cL_ofTaster 22 = .ok (.ireturn, 1) := by decide +kernel
theorem dL_bidOf_0 : decode cL_bidOf 0 = .ok (.aload_n 3, 1) := by decide +kernel
theorem dL_bidOf_1 : decode cL_bidOf 1 = .ok (.iconst 0, 1) := by decide +kernel
theorem dL_bidOf_2 : decode cL_bidOf 2 = .ok (.aload_n 0, 1) := by decide +kernel
theorem dL_bidOf_3 : decode cL_bidOf 3 = .ok (.iload_n 1, 1) := by decide +kernel
theorem dL_bidOf_4 : decode cL_bidOf 4 = .ok (.iload_n 2, 1) := by decide +kernel
theorem dL_bidOf_5 : decode cL_bidOf 5 = .ok (.invokevirtual 91, 3) := by decide +kernel
theorem dL_bidOf_8 : decode cL_bidOf 8 = .ok (.i2l, 1) := by decide +kernel
theorem dL_bidOf_9 : decode cL_bidOf 9 = .ok (.lastore, 1) := by decide +kernel
theorem dL_bidOf_10 : decode cL_bidOf 10 = .ok (.goto 7, 3) := by decide +kernel
theorem dL_bidOf_13 : decode cL_bidOf 13 = .ok (.astore 4, 2) := by decide +kernel
theorem dL_bidOf_15 : decode cL_bidOf 15 = .ok (.iconst 1, 1) := by decide +kernel
theorem dL_bidOf_16 : decode cL_bidOf 16 = .ok (.ireturn, 1) := by decide +kernel
theorem dL_bidOf_17 : decode cL_bidOf 17 = .ok (.iconst 0, 1) := by decide +kernel
theorem dL_bidOf_18 : decode cL_bidOf 18 = .ok (.ireturn, 1) := by decide +kernel
theorem dL_many_0 : decode cL_many 0 = .ok (.aload_n 2, 1) := by decide +kernel
theorem dL_many_1 : decode cL_many 1 = .ok (.iconst 0, 1) := by decide +kernel
theorem dL_many_2 : decode cL_many 2 = .ok (.aload_n 0, 1) := by decide +kernel
theorem dL_many_3 : decode cL_many 3 = .ok (.iload_n 1, 1) := by decide +kernel
theorem dL_many_4 : decode cL_many 4 = .ok (.invokevirtual 94, 3) := by decide +kernel
theorem dL_many_7 : decode cL_many 7 = .ok (.i2l, 1) := by decide +kernel
theorem dL_many_8 : decode cL_many 8 = .ok (.lastore, 1) := by decide +kernel
theorem dL_many_9 : decode cL_many 9 = .ok (.goto 6, 3) := by decide +kernel
theorem dL_many_12 : decode cL_many 12 = .ok (.astore_n 3, 1) := by decide +kernel
theorem dL_many_13 : decode cL_many 13 = .ok (.iconst 1, 1) := by decide +kernel
theorem dL_many_14 : decode cL_many 14 = .ok (.ireturn, 1) := by decide +kernel
theorem dL_many_15 : decode cL_many 15 = .ok (.iconst 0, 1) := by decide +kernel
theorem dL_many_16 : decode cL_many 16 = .ok (.ireturn, 1) := by decide +kernel
theorem dL_flushIn_0 : decode cL_flushIn 0 = .ok (.aload 4, 2) := by decide +kernel
theorem dL_flushIn_2 : decode cL_flushIn 2 = .ok (.iconst 0, 1) := by decide +kernel
theorem dL_flushIn_3 : decode cL_flushIn 3 = .ok (.aload_n 0, 1) := by decide +kernel
theorem dL_flushIn_4 : decode cL_flushIn 4 = .ok (.iload_n 1, 1) := by decide +kernel
theorem dL_flushIn_5 : decode cL_flushIn 5 = .ok (.iload_n 2, 1) := by decide +kernel
theorem dL_flushIn_6 : decode cL_flushIn 6 = .ok (.iload_n 3, 1) := by decide +kernel
theorem dL_flushIn_7 : decode cL_flushIn 7 = .ok (.invokevirtual 97, 3) := by decide +kernel
theorem dL_flushIn_10 : decode cL_flushIn 10 = .ok (.i2l, 1) := by decide +kernel
theorem dL_flushIn_11 : decode cL_flushIn 11 = .ok (.lastore, 1) := by decide +kernel
theorem dL_flushIn_12 : decode cL_flushIn 12 = .ok (.goto 11, 3) := by decide +kernel
theorem dL_flushIn_15 : decode cL_flushIn 15 = .ok (.astore 5, 2) := by decide +kernel
theorem dL_flushIn_17 : decode cL_flushIn 17 = .ok (.iconst 1, 1) := by decide +kernel
theorem dL_flushIn_18 : decode cL_flushIn 18 = .ok (.ireturn, 1) := by decide +kernel
theorem dL_flushIn_19 : decode cL_flushIn 19 = .ok (.astore 5, 2) := by decide +kernel
theorem dL_flushIn_21 : decode cL_flushIn 21 = .ok (.iconst 2, 1) := by decide +kernel
theorem dL_flushIn_22 : decode cL_flushIn 22 = .ok (.ireturn, 1) := by decide +kernel
theorem dL_flushIn_23 : decode cL_flushIn 23 = .ok (.iconst 0, 1) := by decide +kernel
theorem dL_flushIn_24 : decode cL_flushIn 24 = .ok (.ireturn, 1) := by decide +kernel
theorem dL_bestFire_0 : decode cL_bestFire 0 = .ok (.aload_n 2, 1) := by decide +kernel
theorem dL_bestFire_1 : decode cL_bestFire 1 = .ok (.iconst 0, 1) := by decide +kernel
theorem dL_bestFire_2 : decode cL_bestFire 2 = .ok (.aload_n 0, 1) := by decide +kernel
theorem dL_bestFire_3 : decode cL_bestFire 3 = .ok (.iload_n 1, 1) := by decide +kernel
theorem dL_bestFire_4 : decode cL_bestFire 4 = .ok (.invokevirtual 100, 3) := by decide +kernel
theorem dL_bestFire_7 : decode cL_bestFire 7 = .ok (.i2l, 1) := by decide +kernel
theorem dL_bestFire_8 : decode cL_bestFire 8 = .ok (.lastore, 1) := by decide +kernel
theorem dL_bestFire_9 : decode cL_bestFire 9 = .ok (.goto 9, 3) := by decide +kernel
theorem dL_bestFire_12 : decode cL_bestFire 12 = .ok (.astore_n 3, 1) := by decide +kernel
theorem dL_bestFire_13 : decode cL_bestFire 13 = .ok (.iconst 1, 1) := by decide +kernel
theorem dL_bestFire_14 : decode cL_bestFire 14 = .ok (.ireturn, 1) := by decide +kernel
theorem dL_bestFire_15 : decode cL_bestFire 15 = .ok (.astore_n 3, 1) := by decide +kernel
theorem dL_bestFire_16 : decode cL_bestFire 16 = .ok (.iconst 2, 1) := by decide +kernel
theorem dL_bestFire_17 : decode cL_bestFire 17 = .ok (.ireturn, 1) := by decide +kernel
theorem dL_bestFire_18 : decode cL_bestFire 18 = .ok (.iconst 0, 1) := by decide +kernel
theorem dL_bestFire_19 : decode cL_bestFire 19 = .ok (.ireturn, 1) := by decide +kernel
theorem dL_bestMix_0 : decode cL_bestMix 0 = .ok (.aload 4, 2) := by decide +kernel
theorem dL_bestMix_2 : decode cL_bestMix 2 = .ok (.iconst 0, 1) := by decide +kernel
theorem dL_bestMix_3 : decode cL_bestMix 3 = .ok (.aload_n 0, 1) := by decide +kernel
theorem dL_bestMix_4 : decode cL_bestMix 4 = .ok (.iload_n 1, 1) := by decide +kernel
theorem dL_bestMix_5 : decode cL_bestMix 5 = .ok (.iload_n 2, 1) := by decide +kernel
theorem dL_bestMix_6 : decode cL_bestMix 6 = .ok (.iload_n 3, 1) := by decide +kernel
theorem dL_bestMix_7 : decode cL_bestMix 7 = .ok (.invokevirtual 103, 3) := by decide +kernel
theorem dL_bestMix_10 : decode cL_bestMix 10 = .ok (.i2l, 1) := by decide +kernel
theorem dL_bestMix_11 : decode cL_bestMix 11 = .ok (.lastore, 1) := by decide +kernel
theorem dL_bestMix_12 : decode cL_bestMix 12 = .ok (.goto 7, 3) := by decide +kernel
theorem dL_bestMix_15 : decode cL_bestMix 15 = .ok (.astore 5, 2) := by decide +kernel
theorem dL_bestMix_17 : decode cL_bestMix 17 = .ok (.iconst 1, 1) := by decide +kernel
theorem dL_bestMix_18 : decode cL_bestMix 18 = .ok (.ireturn, 1) := by decide +kernel
theorem dL_bestMix_19 : decode cL_bestMix 19 = .ok (.iconst 0, 1) := by decide +kernel
theorem dL_bestMix_20 : decode cL_bestMix 20 = .ok (.ireturn, 1) := by decide +kernel
theorem dL_wouldPay_0 : decode cL_wouldPay 0 = .ok (.aload_n 2, 1) := by decide +kernel
theorem dL_wouldPay_1 : decode cL_wouldPay 1 = .ok (.iconst 0, 1) := by decide +kernel
theorem dL_wouldPay_2 : decode cL_wouldPay 2 = .ok (.aload_n 0, 1) := by decide +kernel
theorem dL_wouldPay_3 : decode cL_wouldPay 3 = .ok (.iload_n 1, 1) := by decide +kernel
theorem dL_wouldPay_4 : decode cL_wouldPay 4 = .ok (.invokevirtual 106, 3) := by decide +kernel
theorem dL_wouldPay_7 : decode cL_wouldPay 7 = .ok (.i2l, 1) := by decide +kernel
theorem dL_wouldPay_8 : decode cL_wouldPay 8 = .ok (.lastore, 1) := by decide +kernel
theorem dL_wouldPay_9 : decode cL_wouldPay 9 = .ok (.goto 9, 3) := by decide +kernel
theorem dL_wouldPay_12 : decode cL_wouldPay 12 = .ok (.astore_n 3, 1) := by decide +kernel
theorem dL_wouldPay_13 : decode cL_wouldPay 13 = .ok (.iconst 1, 1) := by decide +kernel
theorem dL_wouldPay_14 : decode cL_wouldPay 14 = .ok (.ireturn, 1) := by decide +kernel
theorem dL_wouldPay_15 : decode cL_wouldPay 15 = .ok (.astore_n 3, 1) := by decide +kernel
theorem dL_wouldPay_16 : decode cL_wouldPay 16 = .ok (.iconst 2, 1) := by decide +kernel
theorem dL_wouldPay_17 : decode cL_wouldPay 17 = .ok (.ireturn, 1) := by decide +kernel
theorem dL_wouldPay_18 : decode cL_wouldPay 18 = .ok (.iconst 0, 1) := by decide +kernel
theorem dL_wouldPay_19 : decode cL_wouldPay 19 = .ok (.ireturn, 1) := by decide +kernel
theorem dL_law_0 : decode cL_law 0 = .ok (.new 8, 3) := by decide +kernel
theorem dL_law_3 : decode cL_law 3 = .ok (.dup, 1) := by decide +kernel
theorem dL_law_4 : decode cL_law 4 = .ok (.invokespecial 109, 3) := by decide +kernel
theorem dL_law_7 : decode cL_law 7 = .ok (.astore_n 1, 1) := by decide +kernel
theorem dL_law_8 : decode cL_law 8 = .ok (.new 110, 3) := by decide +kernel
theorem dL_law_11 : decode cL_law 11 = .ok (.dup, 1) := by decide +kernel
theorem dL_law_12 : decode cL_law 12 = .ok (.invokespecial 112, 3) := by decide +kernel
theorem dL_law_15 : decode cL_law 15 = .ok (.astore_n 2, 1) := by decide +kernel
theorem dL_law_16 : decode cL_law 16 = .ok (.iconst 1, 1) := by decide +kernel
theorem dL_law_17 : decode cL_law 17 = .ok (.newarray .long, 2) := by decide +kernel
theorem dL_law_19 : decode cL_law 19 = .ok (.astore_n 3, 1) := by decide +kernel
theorem dL_law_20 : decode cL_law 20 = .ok (.iconst 0, 1) := by decide +kernel
theorem dL_law_21 : decode cL_law 21 = .ok (.istore 4, 2) := by decide +kernel
theorem dL_law_23 : decode cL_law 23 = .ok (.iload 4, 2) := by decide +kernel
theorem dL_law_25 : decode cL_law 25 = .ok (.aload_n 0, 1) := by decide +kernel
theorem dL_law_26 : decode cL_law 26 = .ok (.arraylength, 1) := by decide +kernel
theorem dL_law_27 : decode cL_law 27 = .ok (.iconst 5, 1) := by decide +kernel
theorem dL_law_28 : decode cL_law 28 = .ok (.isub, 1) := by decide +kernel
theorem dL_law_29 : decode cL_law 29 = .ok (.if_icmp .gt 2276, 3) := by decide +kernel
theorem dL_law_32 : decode cL_law 32 = .ok (.aload_n 0, 1) := by decide +kernel
theorem dL_law_33 : decode cL_law 33 = .ok (.iload 4, 2) := by decide +kernel
theorem dL_law_35 : decode cL_law 35 = .ok (.iaload, 1) := by decide +kernel
theorem dL_law_36 : decode cL_law 36 = .ok (.bipush 31, 2) := by decide +kernel
theorem dL_law_38 : decode cL_law 38 = .ok (.iand, 1) := by decide +kernel
theorem dL_law_39 : decode cL_law 39 = .ok (.tableswitch 2260 0 31 #[141, 209, 289, 345, 401, 481, 549, 629, 685, 753, 833, 913, 969, 1061, 1129, 1197, 1265, 1333, 1413, 1469, 1537, 1605, 1673, 1741, 1809, 1877, 1933, 1974, 2054, 2110, 2190, 2246], 141) := by decide +kernel
theorem dL_law_180 : decode cL_law 180 = .ok (.aload_n 1, 1) := by decide +kernel
theorem dL_law_181 : decode cL_law 181 = .ok (.aload_n 0, 1) := by decide +kernel
theorem dL_law_182 : decode cL_law 182 = .ok (.iload 4, 2) := by decide +kernel
theorem dL_law_184 : decode cL_law 184 = .ok (.iconst 1, 1) := by decide +kernel
theorem dL_law_185 : decode cL_law 185 = .ok (.iadd, 1) := by decide +kernel
theorem dL_law_186 : decode cL_law 186 = .ok (.iaload, 1) := by decide +kernel
theorem dL_law_187 : decode cL_law 187 = .ok (.aload_n 0, 1) := by decide +kernel
theorem dL_law_188 : decode cL_law 188 = .ok (.iload 4, 2) := by decide +kernel
theorem dL_law_190 : decode cL_law 190 = .ok (.iconst 2, 1) := by decide +kernel
theorem dL_law_191 : decode cL_law 191 = .ok (.iadd, 1) := by decide +kernel
theorem dL_law_192 : decode cL_law 192 = .ok (.iaload, 1) := by decide +kernel
theorem dL_law_193 : decode cL_law 193 = .ok (.aload_n 3, 1) := by decide +kernel
theorem dL_law_194 : decode cL_law 194 = .ok (.invokestatic 113, 3) := by decide +kernel
theorem dL_law_197 : decode cL_law 197 = .ok (.istore 5, 2) := by decide +kernel
theorem dL_law_199 : decode cL_law 199 = .ok (.aload_n 2, 1) := by decide +kernel
theorem dL_law_200 : decode cL_law 200 = .ok (.aload_n 0, 1) := by decide +kernel
theorem dL_law_201 : decode cL_law 201 = .ok (.iload 4, 2) := by decide +kernel
theorem dL_law_203 : decode cL_law 203 = .ok (.iconst 1, 1) := by decide +kernel
theorem dL_law_204 : decode cL_law 204 = .ok (.iadd, 1) := by decide +kernel
theorem dL_law_205 : decode cL_law 205 = .ok (.iaload, 1) := by decide +kernel
theorem dL_law_206 : decode cL_law 206 = .ok (.aload_n 0, 1) := by decide +kernel
theorem dL_law_207 : decode cL_law 207 = .ok (.iload 4, 2) := by decide +kernel
theorem dL_law_209 : decode cL_law 209 = .ok (.iconst 2, 1) := by decide +kernel
theorem dL_law_210 : decode cL_law 210 = .ok (.iadd, 1) := by decide +kernel
theorem dL_law_211 : decode cL_law 211 = .ok (.iaload, 1) := by decide +kernel
theorem dL_law_212 : decode cL_law 212 = .ok (.invokevirtual 118, 3) := by decide +kernel
theorem dL_law_215 : decode cL_law 215 = .ok (.istore 6, 2) := by decide +kernel
theorem dL_law_217 : decode cL_law 217 = .ok (.aload_n 2, 1) := by decide +kernel
theorem dL_law_218 : decode cL_law 218 = .ok (.invokevirtual 119, 3) := by decide +kernel
theorem dL_law_221 : decode cL_law 221 = .ok (.iload 5, 2) := by decide +kernel
theorem dL_law_223 : decode cL_law 223 = .ok (.if_icmp .eq 5, 3) := by decide +kernel
theorem dL_law_226 : decode cL_law 226 = .ok (.iconst 0, 1) := by decide +kernel
theorem dL_law_227 : decode cL_law 227 = .ok (.ireturn, 1) := by decide +kernel
theorem dL_law_228 : decode cL_law 228 = .ok (.iload 5, 2) := by decide +kernel
theorem dL_law_230 : decode cL_law 230 = .ok (.ifCond .ne 15, 3) := by decide +kernel
theorem dL_law_233 : decode cL_law 233 = .ok (.aload_n 3, 1) := by decide +kernel
theorem dL_law_234 : decode cL_law 234 = .ok (.iconst 0, 1) := by decide +kernel
theorem dL_law_235 : decode cL_law 235 = .ok (.laload, 1) := by decide +kernel
theorem dL_law_236 : decode cL_law 236 = .ok (.iload 6, 2) := by decide +kernel
theorem dL_law_238 : decode cL_law 238 = .ok (.i2l, 1) := by decide +kernel
theorem dL_law_239 : decode cL_law 239 = .ok (.lcmp, 1) := by decide +kernel
theorem dL_law_240 : decode cL_law 240 = .ok (.ifCond .eq 5, 3) := by decide +kernel
theorem dL_law_243 : decode cL_law 243 = .ok (.iconst 0, 1) := by decide +kernel
theorem dL_law_244 : decode cL_law 244 = .ok (.ireturn, 1) := by decide +kernel
theorem dL_law_245 : decode cL_law 245 = .ok (.goto 2054, 3) := by decide +kernel
theorem dL_law_248 : decode cL_law 248 = .ok (.aload_n 1, 1) := by decide +kernel
theorem dL_law_249 : decode cL_law 249 = .ok (.aload_n 0, 1) := by decide +kernel
theorem dL_law_250 : decode cL_law 250 = .ok (.iload 4, 2) := by decide +kernel
theorem dL_law_252 : decode cL_law 252 = .ok (.iconst 1, 1) := by decide +kernel
theorem dL_law_253 : decode cL_law 253 = .ok (.iadd, 1) := by decide +kernel
theorem dL_law_254 : decode cL_law 254 = .ok (.iaload, 1) := by decide +kernel
theorem dL_law_255 : decode cL_law 255 = .ok (.aload_n 0, 1) := by decide +kernel
theorem dL_law_256 : decode cL_law 256 = .ok (.iload 4, 2) := by decide +kernel
theorem dL_law_258 : decode cL_law 258 = .ok (.iconst 2, 1) := by decide +kernel
theorem dL_law_259 : decode cL_law 259 = .ok (.iadd, 1) := by decide +kernel
theorem dL_law_260 : decode cL_law 260 = .ok (.iaload, 1) := by decide +kernel
theorem dL_law_261 : decode cL_law 261 = .ok (.aload_n 0, 1) := by decide +kernel
theorem dL_law_262 : decode cL_law 262 = .ok (.iload 4, 2) := by decide +kernel
theorem dL_law_264 : decode cL_law 264 = .ok (.iconst 3, 1) := by decide +kernel
theorem dL_law_265 : decode cL_law 265 = .ok (.iadd, 1) := by decide +kernel
theorem dL_law_266 : decode cL_law 266 = .ok (.iaload, 1) := by decide +kernel
theorem dL_law_267 : decode cL_law 267 = .ok (.aload_n 3, 1) := by decide +kernel
theorem dL_law_268 : decode cL_law 268 = .ok (.invokestatic 123, 3) := by decide +kernel
theorem dL_law_271 : decode cL_law 271 = .ok (.istore 5, 2) := by decide +kernel
theorem dL_law_273 : decode cL_law 273 = .ok (.aload_n 2, 1) := by decide +kernel
theorem dL_law_274 : decode cL_law 274 = .ok (.aload_n 0, 1) := by decide +kernel
theorem dL_law_275 : decode cL_law 275 = .ok (.iload 4, 2) := by decide +kernel
theorem dL_law_277 : decode cL_law 277 = .ok (.iconst 1, 1) := by decide +kernel
theorem dL_law_278 : decode cL_law 278 = .ok (.iadd, 1) := by decide +kernel
theorem dL_law_279 : decode cL_law 279 = .ok (.iaload, 1) := by decide +kernel
theorem dL_law_280 : decode cL_law 280 = .ok (.aload_n 0, 1) := by decide +kernel
theorem dL_law_281 : decode cL_law 281 = .ok (.iload 4, 2) := by decide +kernel
theorem dL_law_283 : decode cL_law 283 = .ok (.iconst 2, 1) := by decide +kernel
theorem dL_law_284 : decode cL_law 284 = .ok (.iadd, 1) := by decide +kernel
theorem dL_law_285 : decode cL_law 285 = .ok (.iaload, 1) := by decide +kernel
theorem dL_law_286 : decode cL_law 286 = .ok (.aload_n 0, 1) := by decide +kernel
theorem dL_law_287 : decode cL_law 287 = .ok (.iload 4, 2) := by decide +kernel
theorem dL_law_289 : decode cL_law 289 = .ok (.iconst 3, 1) := by decide +kernel
theorem dL_law_290 : decode cL_law 290 = .ok (.iadd, 1) := by decide +kernel
theorem dL_law_291 : decode cL_law 291 = .ok (.iaload, 1) := by decide +kernel
theorem dL_law_292 : decode cL_law 292 = .ok (.invokevirtual 126, 3) := by decide +kernel
theorem dL_law_295 : decode cL_law 295 = .ok (.istore 6, 2) := by decide +kernel
theorem dL_law_297 : decode cL_law 297 = .ok (.aload_n 2, 1) := by decide +kernel
theorem dL_law_298 : decode cL_law 298 = .ok (.invokevirtual 119, 3) := by decide +kernel
theorem dL_law_301 : decode cL_law 301 = .ok (.iload 5, 2) := by decide +kernel
theorem dL_law_303 : decode cL_law 303 = .ok (.if_icmp .eq 5, 3) := by decide +kernel
theorem dL_law_306 : decode cL_law 306 = .ok (.iconst 0, 1) := by decide +kernel
theorem dL_law_307 : decode cL_law 307 = .ok (.ireturn, 1) := by decide +kernel
theorem dL_law_308 : decode cL_law 308 = .ok (.iload 5, 2) := by decide +kernel
theorem dL_law_310 : decode cL_law 310 = .ok (.ifCond .ne 15, 3) := by decide +kernel
theorem dL_law_313 : decode cL_law 313 = .ok (.aload_n 3, 1) := by decide +kernel
theorem dL_law_314 : decode cL_law 314 = .ok (.iconst 0, 1) := by decide +kernel
theorem dL_law_315 : decode cL_law 315 = .ok (.laload, 1) := by decide +kernel
theorem dL_law_316 : decode cL_law 316 = .ok (.iload 6, 2) := by decide +kernel
theorem dL_law_318 : decode cL_law 318 = .ok (.i2l, 1) := by decide +kernel
theorem dL_law_319 : decode cL_law 319 = .ok (.lcmp, 1) := by decide +kernel
theorem dL_law_320 : decode cL_law 320 = .ok (.ifCond .eq 5, 3) := by decide +kernel
theorem dL_law_323 : decode cL_law 323 = .ok (.iconst 0, 1) := by decide +kernel
theorem dL_law_324 : decode cL_law 324 = .ok (.ireturn, 1) := by decide +kernel
theorem dL_law_325 : decode cL_law 325 = .ok (.goto 1974, 3) := by decide +kernel
theorem dL_law_328 : decode cL_law 328 = .ok (.aload_n 1, 1) := by decide +kernel
theorem dL_law_329 : decode cL_law 329 = .ok (.aload_n 0, 1) := by decide +kernel
theorem dL_law_330 : decode cL_law 330 = .ok (.iload 4, 2) := by decide +kernel
theorem dL_law_332 : decode cL_law 332 = .ok (.iconst 1, 1) := by decide +kernel
theorem dL_law_333 : decode cL_law 333 = .ok (.iadd, 1) := by decide +kernel
theorem dL_law_334 : decode cL_law 334 = .ok (.iaload, 1) := by decide +kernel
theorem dL_law_335 : decode cL_law 335 = .ok (.aload_n 3, 1) := by decide +kernel
theorem dL_law_336 : decode cL_law 336 = .ok (.invokestatic 127, 3) := by decide +kernel
theorem dL_law_339 : decode cL_law 339 = .ok (.istore 5, 2) := by decide +kernel
theorem dL_law_341 : decode cL_law 341 = .ok (.aload_n 2, 1) := by decide +kernel
theorem dL_law_342 : decode cL_law 342 = .ok (.aload_n 0, 1) := by decide +kernel
theorem dL_law_343 : decode cL_law 343 = .ok (.iload 4, 2) := by decide +kernel
theorem dL_law_345 : decode cL_law 345 = .ok (.iconst 1, 1) := by decide +kernel
theorem dL_law_346 : decode cL_law 346 = .ok (.iadd, 1) := by decide +kernel
theorem dL_law_347 : decode cL_law 347 = .ok (.iaload, 1) := by decide +kernel
theorem dL_law_348 : decode cL_law 348 = .ok (.invokevirtual 130, 3) := by decide +kernel
theorem dL_law_351 : decode cL_law 351 = .ok (.istore 6, 2) := by decide +kernel
theorem dL_law_353 : decode cL_law 353 = .ok (.aload_n 2, 1) := by decide +kernel
theorem dL_law_354 : decode cL_law 354 = .ok (.invokevirtual 119, 3) := by decide +kernel
theorem dL_law_357 : decode cL_law 357 = .ok (.iload 5, 2) := by decide +kernel
theorem dL_law_359 : decode cL_law 359 = .ok (.if_icmp .eq 5, 3) := by decide +kernel
theorem dL_law_362 : decode cL_law 362 = .ok (.iconst 0, 1) := by decide +kernel
theorem dL_law_363 : decode cL_law 363 = .ok (.ireturn, 1) := by decide +kernel
theorem dL_law_364 : decode cL_law 364 = .ok (.iload 5, 2) := by decide +kernel
theorem dL_law_366 : decode cL_law 366 = .ok (.ifCond .ne 15, 3) := by decide +kernel
theorem dL_law_369 : decode cL_law 369 = .ok (.aload_n 3, 1) := by decide +kernel
theorem dL_law_370 : decode cL_law 370 = .ok (.iconst 0, 1) := by decide +kernel
theorem dL_law_371 : decode cL_law 371 = .ok (.laload, 1) := by decide +kernel
theorem dL_law_372 : decode cL_law 372 = .ok (.iload 6, 2) := by decide +kernel
theorem dL_law_374 : decode cL_law 374 = .ok (.i2l, 1) := by decide +kernel
theorem dL_law_375 : decode cL_law 375 = .ok (.lcmp, 1) := by decide +kernel
theorem dL_law_376 : decode cL_law 376 = .ok (.ifCond .eq 5, 3) := by decide +kernel
theorem dL_law_379 : decode cL_law 379 = .ok (.iconst 0, 1) := by decide +kernel
theorem dL_law_380 : decode cL_law 380 = .ok (.ireturn, 1) := by decide +kernel
theorem dL_law_381 : decode cL_law 381 = .ok (.goto 1918, 3) := by decide +kernel
theorem dL_law_384 : decode cL_law 384 = .ok (.aload_n 1, 1) := by decide +kernel
theorem dL_law_385 : decode cL_law 385 = .ok (.aload_n 0, 1) := by decide +kernel
theorem dL_law_386 : decode cL_law 386 = .ok (.iload 4, 2) := by decide +kernel
theorem dL_law_388 : decode cL_law 388 = .ok (.iconst 1, 1) := by decide +kernel
theorem dL_law_389 : decode cL_law 389 = .ok (.iadd, 1) := by decide +kernel
theorem dL_law_390 : decode cL_law 390 = .ok (.iaload, 1) := by decide +kernel
theorem dL_law_391 : decode cL_law 391 = .ok (.aload_n 3, 1) := by decide +kernel
theorem dL_law_392 : decode cL_law 392 = .ok (.invokestatic 131, 3) := by decide +kernel
theorem dL_law_395 : decode cL_law 395 = .ok (.istore 5, 2) := by decide +kernel
theorem dL_law_397 : decode cL_law 397 = .ok (.aload_n 2, 1) := by decide +kernel
theorem dL_law_398 : decode cL_law 398 = .ok (.aload_n 0, 1) := by decide +kernel
theorem dL_law_399 : decode cL_law 399 = .ok (.iload 4, 2) := by decide +kernel
theorem dL_law_401 : decode cL_law 401 = .ok (.iconst 1, 1) := by decide +kernel
theorem dL_law_402 : decode cL_law 402 = .ok (.iadd, 1) := by decide +kernel
theorem dL_law_403 : decode cL_law 403 = .ok (.iaload, 1) := by decide +kernel
theorem dL_law_404 : decode cL_law 404 = .ok (.invokevirtual 133, 3) := by decide +kernel
theorem dL_law_407 : decode cL_law 407 = .ok (.istore 6, 2) := by decide +kernel
theorem dL_law_409 : decode cL_law 409 = .ok (.aload_n 2, 1) := by decide +kernel
theorem dL_law_410 : decode cL_law 410 = .ok (.invokevirtual 119, 3) := by decide +kernel
theorem dL_law_413 : decode cL_law 413 = .ok (.iload 5, 2) := by decide +kernel
theorem dL_law_415 : decode cL_law 415 = .ok (.if_icmp .eq 5, 3) := by decide +kernel
theorem dL_law_418 : decode cL_law 418 = .ok (.iconst 0, 1) := by decide +kernel
theorem dL_law_419 : decode cL_law 419 = .ok (.ireturn, 1) := by decide +kernel
theorem dL_law_420 : decode cL_law 420 = .ok (.iload 5, 2) := by decide +kernel
theorem dL_law_422 : decode cL_law 422 = .ok (.ifCond .ne 15, 3) := by decide +kernel
theorem dL_law_425 : decode cL_law 425 = .ok (.aload_n 3, 1) := by decide +kernel
theorem dL_law_426 : decode cL_law 426 = .ok (.iconst 0, 1) := by decide +kernel
theorem dL_law_427 : decode cL_law 427 = .ok (.laload, 1) := by decide +kernel
theorem dL_law_428 : decode cL_law 428 = .ok (.iload 6, 2) := by decide +kernel
theorem dL_law_430 : decode cL_law 430 = .ok (.i2l, 1) := by decide +kernel
theorem dL_law_431 : decode cL_law 431 = .ok (.lcmp, 1) := by decide +kernel
theorem dL_law_432 : decode cL_law 432 = .ok (.ifCond .eq 5, 3) := by decide +kernel
theorem dL_law_435 : decode cL_law 435 = .ok (.iconst 0, 1) := by decide +kernel
theorem dL_law_436 : decode cL_law 436 = .ok (.ireturn, 1) := by decide +kernel
theorem dL_law_437 : decode cL_law 437 = .ok (.goto 1862, 3) := by decide +kernel
theorem dL_law_440 : decode cL_law 440 = .ok (.aload_n 1, 1) := by decide +kernel
theorem dL_law_441 : decode cL_law 441 = .ok (.aload_n 0, 1) := by decide +kernel
theorem dL_law_442 : decode cL_law 442 = .ok (.iload 4, 2) := by decide +kernel
theorem dL_law_444 : decode cL_law 444 = .ok (.iconst 1, 1) := by decide +kernel
theorem dL_law_445 : decode cL_law 445 = .ok (.iadd, 1) := by decide +kernel
theorem dL_law_446 : decode cL_law 446 = .ok (.iaload, 1) := by decide +kernel
theorem dL_law_447 : decode cL_law 447 = .ok (.aload_n 0, 1) := by decide +kernel
theorem dL_law_448 : decode cL_law 448 = .ok (.iload 4, 2) := by decide +kernel
theorem dL_law_450 : decode cL_law 450 = .ok (.iconst 2, 1) := by decide +kernel
theorem dL_law_451 : decode cL_law 451 = .ok (.iadd, 1) := by decide +kernel
theorem dL_law_452 : decode cL_law 452 = .ok (.iaload, 1) := by decide +kernel
theorem dL_law_453 : decode cL_law 453 = .ok (.aload_n 0, 1) := by decide +kernel
theorem dL_law_454 : decode cL_law 454 = .ok (.iload 4, 2) := by decide +kernel
theorem dL_law_456 : decode cL_law 456 = .ok (.iconst 3, 1) := by decide +kernel
theorem dL_law_457 : decode cL_law 457 = .ok (.iadd, 1) := by decide +kernel
theorem dL_law_458 : decode cL_law 458 = .ok (.iaload, 1) := by decide +kernel
theorem dL_law_459 : decode cL_law 459 = .ok (.aload_n 3, 1) := by decide +kernel
theorem dL_law_460 : decode cL_law 460 = .ok (.invokestatic 134, 3) := by decide +kernel
theorem dL_law_463 : decode cL_law 463 = .ok (.istore 5, 2) := by decide +kernel
theorem dL_law_465 : decode cL_law 465 = .ok (.aload_n 2, 1) := by decide +kernel
theorem dL_law_466 : decode cL_law 466 = .ok (.aload_n 0, 1) := by decide +kernel
theorem dL_law_467 : decode cL_law 467 = .ok (.iload 4, 2) := by decide +kernel
theorem dL_law_469 : decode cL_law 469 = .ok (.iconst 1, 1) := by decide +kernel
theorem dL_law_470 : decode cL_law 470 = .ok (.iadd, 1) := by decide +kernel
theorem dL_law_471 : decode cL_law 471 = .ok (.iaload, 1) := by decide +kernel
theorem dL_law_472 : decode cL_law 472 = .ok (.aload_n 0, 1) := by decide +kernel
theorem dL_law_473 : decode cL_law 473 = .ok (.iload 4, 2) := by decide +kernel
theorem dL_law_475 : decode cL_law 475 = .ok (.iconst 2, 1) := by decide +kernel
theorem dL_law_476 : decode cL_law 476 = .ok (.iadd, 1) := by decide +kernel
theorem dL_law_477 : decode cL_law 477 = .ok (.iaload, 1) := by decide +kernel
theorem dL_law_478 : decode cL_law 478 = .ok (.aload_n 0, 1) := by decide +kernel
theorem dL_law_479 : decode cL_law 479 = .ok (.iload 4, 2) := by decide +kernel
theorem dL_law_481 : decode cL_law 481 = .ok (.iconst 3, 1) := by decide +kernel
theorem dL_law_482 : decode cL_law 482 = .ok (.iadd, 1) := by decide +kernel
theorem dL_law_483 : decode cL_law 483 = .ok (.iaload, 1) := by decide +kernel
theorem dL_law_484 : decode cL_law 484 = .ok (.invokevirtual 136, 3) := by decide +kernel
theorem dL_law_487 : decode cL_law 487 = .ok (.istore 6, 2) := by decide +kernel
theorem dL_law_489 : decode cL_law 489 = .ok (.aload_n 2, 1) := by decide +kernel
theorem dL_law_490 : decode cL_law 490 = .ok (.invokevirtual 119, 3) := by decide +kernel
theorem dL_law_493 : decode cL_law 493 = .ok (.iload 5, 2) := by decide +kernel
theorem dL_law_495 : decode cL_law 495 = .ok (.if_icmp .eq 5, 3) := by decide +kernel
theorem dL_law_498 : decode cL_law 498 = .ok (.iconst 0, 1) := by decide +kernel
theorem dL_law_499 : decode cL_law 499 = .ok (.ireturn, 1) := by decide +kernel
theorem dL_law_500 : decode cL_law 500 = .ok (.iload 5, 2) := by decide +kernel
theorem dL_law_502 : decode cL_law 502 = .ok (.ifCond .ne 15, 3) := by decide +kernel
theorem dL_law_505 : decode cL_law 505 = .ok (.aload_n 3, 1) := by decide +kernel
theorem dL_law_506 : decode cL_law 506 = .ok (.iconst 0, 1) := by decide +kernel
theorem dL_law_507 : decode cL_law 507 = .ok (.laload, 1) := by decide +kernel
theorem dL_law_508 : decode cL_law 508 = .ok (.iload 6, 2) := by decide +kernel
theorem dL_law_510 : decode cL_law 510 = .ok (.i2l, 1) := by decide +kernel
theorem dL_law_511 : decode cL_law 511 = .ok (.lcmp, 1) := by decide +kernel
theorem dL_law_512 : decode cL_law 512 = .ok (.ifCond .eq 5, 3) := by decide +kernel
theorem dL_law_515 : decode cL_law 515 = .ok (.iconst 0, 1) := by decide +kernel
theorem dL_law_516 : decode cL_law 516 = .ok (.ireturn, 1) := by decide +kernel
theorem dL_law_517 : decode cL_law 517 = .ok (.goto 1782, 3) := by decide +kernel
theorem dL_law_520 : decode cL_law 520 = .ok (.aload_n 1, 1) := by decide +kernel
theorem dL_law_521 : decode cL_law 521 = .ok (.aload_n 0, 1) := by decide +kernel
theorem dL_law_522 : decode cL_law 522 = .ok (.iload 4, 2) := by decide +kernel
theorem dL_law_524 : decode cL_law 524 = .ok (.iconst 1, 1) := by decide +kernel
theorem dL_law_525 : decode cL_law 525 = .ok (.iadd, 1) := by decide +kernel
theorem dL_law_526 : decode cL_law 526 = .ok (.iaload, 1) := by decide +kernel
theorem dL_law_527 : decode cL_law 527 = .ok (.aload_n 0, 1) := by decide +kernel
theorem dL_law_528 : decode cL_law 528 = .ok (.iload 4, 2) := by decide +kernel
theorem dL_law_530 : decode cL_law 530 = .ok (.iconst 2, 1) := by decide +kernel
theorem dL_law_531 : decode cL_law 531 = .ok (.iadd, 1) := by decide +kernel
theorem dL_law_532 : decode cL_law 532 = .ok (.iaload, 1) := by decide +kernel
theorem dL_law_533 : decode cL_law 533 = .ok (.aload_n 3, 1) := by decide +kernel
theorem dL_law_534 : decode cL_law 534 = .ok (.invokestatic 137, 3) := by decide +kernel
theorem dL_law_537 : decode cL_law 537 = .ok (.istore 5, 2) := by decide +kernel
theorem dL_law_539 : decode cL_law 539 = .ok (.aload_n 2, 1) := by decide +kernel
theorem dL_law_540 : decode cL_law 540 = .ok (.aload_n 0, 1) := by decide +kernel
theorem dL_law_541 : decode cL_law 541 = .ok (.iload 4, 2) := by decide +kernel
theorem dL_law_543 : decode cL_law 543 = .ok (.iconst 1, 1) := by decide +kernel
theorem dL_law_544 : decode cL_law 544 = .ok (.iadd, 1) := by decide +kernel
theorem dL_law_545 : decode cL_law 545 = .ok (.iaload, 1) := by decide +kernel
theorem dL_law_546 : decode cL_law 546 = .ok (.aload_n 0, 1) := by decide +kernel
theorem dL_law_547 : decode cL_law 547 = .ok (.iload 4, 2) := by decide +kernel
theorem dL_law_549 : decode cL_law 549 = .ok (.iconst 2, 1) := by decide +kernel
theorem dL_law_550 : decode cL_law 550 = .ok (.iadd, 1) := by decide +kernel
theorem dL_law_551 : decode cL_law 551 = .ok (.iaload, 1) := by decide +kernel
theorem dL_law_552 : decode cL_law 552 = .ok (.invokevirtual 139, 3) := by decide +kernel
theorem dL_law_555 : decode cL_law 555 = .ok (.istore 6, 2) := by decide +kernel
theorem dL_law_557 : decode cL_law 557 = .ok (.aload_n 2, 1) := by decide +kernel
theorem dL_law_558 : decode cL_law 558 = .ok (.invokevirtual 119, 3) := by decide +kernel
theorem dL_law_561 : decode cL_law 561 = .ok (.iload 5, 2) := by decide +kernel
theorem dL_law_563 : decode cL_law 563 = .ok (.if_icmp .eq 5, 3) := by decide +kernel
theorem dL_law_566 : decode cL_law 566 = .ok (.iconst 0, 1) := by decide +kernel
theorem dL_law_567 : decode cL_law 567 = .ok (.ireturn, 1) := by decide +kernel
theorem dL_law_568 : decode cL_law 568 = .ok (.iload 5, 2) := by decide +kernel
theorem dL_law_570 : decode cL_law 570 = .ok (.ifCond .ne 15, 3) := by decide +kernel
theorem dL_law_573 : decode cL_law 573 = .ok (.aload_n 3, 1) := by decide +kernel
theorem dL_law_574 : decode cL_law 574 = .ok (.iconst 0, 1) := by decide +kernel
theorem dL_law_575 : decode cL_law 575 = .ok (.laload, 1) := by decide +kernel
theorem dL_law_576 : decode cL_law 576 = .ok (.iload 6, 2) := by decide +kernel
theorem dL_law_578 : decode cL_law 578 = .ok (.i2l, 1) := by decide +kernel
theorem dL_law_579 : decode cL_law 579 = .ok (.lcmp, 1) := by decide +kernel
theorem dL_law_580 : decode cL_law 580 = .ok (.ifCond .eq 5, 3) := by decide +kernel
theorem dL_law_583 : decode cL_law 583 = .ok (.iconst 0, 1) := by decide +kernel
theorem dL_law_584 : decode cL_law 584 = .ok (.ireturn, 1) := by decide +kernel
theorem dL_law_585 : decode cL_law 585 = .ok (.goto 1714, 3) := by decide +kernel
theorem dL_law_588 : decode cL_law 588 = .ok (.aload_n 1, 1) := by decide +kernel
theorem dL_law_589 : decode cL_law 589 = .ok (.aload_n 0, 1) := by decide +kernel
theorem dL_law_590 : decode cL_law 590 = .ok (.iload 4, 2) := by decide +kernel
theorem dL_law_592 : decode cL_law 592 = .ok (.iconst 1, 1) := by decide +kernel
theorem dL_law_593 : decode cL_law 593 = .ok (.iadd, 1) := by decide +kernel
theorem dL_law_594 : decode cL_law 594 = .ok (.iaload, 1) := by decide +kernel
theorem dL_law_595 : decode cL_law 595 = .ok (.aload_n 0, 1) := by decide +kernel
theorem dL_law_596 : decode cL_law 596 = .ok (.iload 4, 2) := by decide +kernel
theorem dL_law_598 : decode cL_law 598 = .ok (.iconst 2, 1) := by decide +kernel
theorem dL_law_599 : decode cL_law 599 = .ok (.iadd, 1) := by decide +kernel
theorem dL_law_600 : decode cL_law 600 = .ok (.iaload, 1) := by decide +kernel
theorem dL_law_601 : decode cL_law 601 = .ok (.aload_n 0, 1) := by decide +kernel
theorem dL_law_602 : decode cL_law 602 = .ok (.iload 4, 2) := by decide +kernel
theorem dL_law_604 : decode cL_law 604 = .ok (.iconst 3, 1) := by decide +kernel
theorem dL_law_605 : decode cL_law 605 = .ok (.iadd, 1) := by decide +kernel
theorem dL_law_606 : decode cL_law 606 = .ok (.iaload, 1) := by decide +kernel
theorem dL_law_607 : decode cL_law 607 = .ok (.aload_n 3, 1) := by decide +kernel
theorem dL_law_608 : decode cL_law 608 = .ok (.invokestatic 140, 3) := by decide +kernel
theorem dL_law_611 : decode cL_law 611 = .ok (.istore 5, 2) := by decide +kernel
theorem dL_law_613 : decode cL_law 613 = .ok (.aload_n 2, 1) := by decide +kernel
theorem dL_law_614 : decode cL_law 614 = .ok (.aload_n 0, 1) := by decide +kernel
theorem dL_law_615 : decode cL_law 615 = .ok (.iload 4, 2) := by decide +kernel
theorem dL_law_617 : decode cL_law 617 = .ok (.iconst 1, 1) := by decide +kernel
theorem dL_law_618 : decode cL_law 618 = .ok (.iadd, 1) := by decide +kernel
theorem dL_law_619 : decode cL_law 619 = .ok (.iaload, 1) := by decide +kernel
theorem dL_law_620 : decode cL_law 620 = .ok (.aload_n 0, 1) := by decide +kernel
theorem dL_law_621 : decode cL_law 621 = .ok (.iload 4, 2) := by decide +kernel
theorem dL_law_623 : decode cL_law 623 = .ok (.iconst 2, 1) := by decide +kernel
theorem dL_law_624 : decode cL_law 624 = .ok (.iadd, 1) := by decide +kernel
theorem dL_law_625 : decode cL_law 625 = .ok (.iaload, 1) := by decide +kernel
theorem dL_law_626 : decode cL_law 626 = .ok (.aload_n 0, 1) := by decide +kernel
theorem dL_law_627 : decode cL_law 627 = .ok (.iload 4, 2) := by decide +kernel
theorem dL_law_629 : decode cL_law 629 = .ok (.iconst 3, 1) := by decide +kernel
theorem dL_law_630 : decode cL_law 630 = .ok (.iadd, 1) := by decide +kernel
theorem dL_law_631 : decode cL_law 631 = .ok (.iaload, 1) := by decide +kernel
theorem dL_law_632 : decode cL_law 632 = .ok (.invokevirtual 142, 3) := by decide +kernel
theorem dL_law_635 : decode cL_law 635 = .ok (.istore 6, 2) := by decide +kernel
theorem dL_law_637 : decode cL_law 637 = .ok (.aload_n 2, 1) := by decide +kernel
theorem dL_law_638 : decode cL_law 638 = .ok (.invokevirtual 119, 3) := by decide +kernel
theorem dL_law_641 : decode cL_law 641 = .ok (.iload 5, 2) := by decide +kernel
theorem dL_law_643 : decode cL_law 643 = .ok (.if_icmp .eq 5, 3) := by decide +kernel
theorem dL_law_646 : decode cL_law 646 = .ok (.iconst 0, 1) := by decide +kernel
theorem dL_law_647 : decode cL_law 647 = .ok (.ireturn, 1) := by decide +kernel
theorem dL_law_648 : decode cL_law 648 = .ok (.iload 5, 2) := by decide +kernel
theorem dL_law_650 : decode cL_law 650 = .ok (.ifCond .ne 15, 3) := by decide +kernel
theorem dL_law_653 : decode cL_law 653 = .ok (.aload_n 3, 1) := by decide +kernel
theorem dL_law_654 : decode cL_law 654 = .ok (.iconst 0, 1) := by decide +kernel
theorem dL_law_655 : decode cL_law 655 = .ok (.laload, 1) := by decide +kernel
theorem dL_law_656 : decode cL_law 656 = .ok (.iload 6, 2) := by decide +kernel
theorem dL_law_658 : decode cL_law 658 = .ok (.i2l, 1) := by decide +kernel
theorem dL_law_659 : decode cL_law 659 = .ok (.lcmp, 1) := by decide +kernel
theorem dL_law_660 : decode cL_law 660 = .ok (.ifCond .eq 5, 3) := by decide +kernel
theorem dL_law_663 : decode cL_law 663 = .ok (.iconst 0, 1) := by decide +kernel
theorem dL_law_664 : decode cL_law 664 = .ok (.ireturn, 1) := by decide +kernel
theorem dL_law_665 : decode cL_law 665 = .ok (.goto 1634, 3) := by decide +kernel
theorem dL_law_668 : decode cL_law 668 = .ok (.aload_n 1, 1) := by decide +kernel
theorem dL_law_669 : decode cL_law 669 = .ok (.aload_n 0, 1) := by decide +kernel
theorem dL_law_670 : decode cL_law 670 = .ok (.iload 4, 2) := by decide +kernel
theorem dL_law_672 : decode cL_law 672 = .ok (.iconst 1, 1) := by decide +kernel
theorem dL_law_673 : decode cL_law 673 = .ok (.iadd, 1) := by decide +kernel
theorem dL_law_674 : decode cL_law 674 = .ok (.iaload, 1) := by decide +kernel
theorem dL_law_675 : decode cL_law 675 = .ok (.aload_n 3, 1) := by decide +kernel
theorem dL_law_676 : decode cL_law 676 = .ok (.invokestatic 143, 3) := by decide +kernel
theorem dL_law_679 : decode cL_law 679 = .ok (.istore 5, 2) := by decide +kernel
theorem dL_law_681 : decode cL_law 681 = .ok (.aload_n 2, 1) := by decide +kernel
theorem dL_law_682 : decode cL_law 682 = .ok (.aload_n 0, 1) := by decide +kernel
theorem dL_law_683 : decode cL_law 683 = .ok (.iload 4, 2) := by decide +kernel
theorem dL_law_685 : decode cL_law 685 = .ok (.iconst 1, 1) := by decide +kernel
theorem dL_law_686 : decode cL_law 686 = .ok (.iadd, 1) := by decide +kernel
theorem dL_law_687 : decode cL_law 687 = .ok (.iaload, 1) := by decide +kernel
theorem dL_law_688 : decode cL_law 688 = .ok (.invokevirtual 145, 3) := by decide +kernel
theorem dL_law_691 : decode cL_law 691 = .ok (.istore 6, 2) := by decide +kernel
theorem dL_law_693 : decode cL_law 693 = .ok (.aload_n 2, 1) := by decide +kernel
theorem dL_law_694 : decode cL_law 694 = .ok (.invokevirtual 119, 3) := by decide +kernel
theorem dL_law_697 : decode cL_law 697 = .ok (.iload 5, 2) := by decide +kernel
theorem dL_law_699 : decode cL_law 699 = .ok (.if_icmp .eq 5, 3) := by decide +kernel
theorem dL_law_702 : decode cL_law 702 = .ok (.iconst 0, 1) := by decide +kernel
theorem dL_law_703 : decode cL_law 703 = .ok (.ireturn, 1) := by decide +kernel
theorem dL_law_704 : decode cL_law 704 = .ok (.iload 5, 2) := by decide +kernel
theorem dL_law_706 : decode cL_law 706 = .ok (.ifCond .ne 15, 3) := by decide +kernel
theorem dL_law_709 : decode cL_law 709 = .ok (.aload_n 3, 1) := by decide +kernel
theorem dL_law_710 : decode cL_law 710 = .ok (.iconst 0, 1) := by decide +kernel
theorem dL_law_711 : decode cL_law 711 = .ok (.laload, 1) := by decide +kernel
theorem dL_law_712 : decode cL_law 712 = .ok (.iload 6, 2) := by decide +kernel
theorem dL_law_714 : decode cL_law 714 = .ok (.i2l, 1) := by decide +kernel
theorem dL_law_715 : decode cL_law 715 = .ok (.lcmp, 1) := by decide +kernel
theorem dL_law_716 : decode cL_law 716 = .ok (.ifCond .eq 5, 3) := by decide +kernel
theorem dL_law_719 : decode cL_law 719 = .ok (.iconst 0, 1) := by decide +kernel
theorem dL_law_720 : decode cL_law 720 = .ok (.ireturn, 1) := by decide +kernel
theorem dL_law_721 : decode cL_law 721 = .ok (.goto 1578, 3) := by decide +kernel
theorem dL_law_724 : decode cL_law 724 = .ok (.aload_n 1, 1) := by decide +kernel
theorem dL_law_725 : decode cL_law 725 = .ok (.aload_n 0, 1) := by decide +kernel
theorem dL_law_726 : decode cL_law 726 = .ok (.iload 4, 2) := by decide +kernel
theorem dL_law_728 : decode cL_law 728 = .ok (.iconst 1, 1) := by decide +kernel
theorem dL_law_729 : decode cL_law 729 = .ok (.iadd, 1) := by decide +kernel
theorem dL_law_730 : decode cL_law 730 = .ok (.iaload, 1) := by decide +kernel
theorem dL_law_731 : decode cL_law 731 = .ok (.aload_n 0, 1) := by decide +kernel
theorem dL_law_732 : decode cL_law 732 = .ok (.iload 4, 2) := by decide +kernel
theorem dL_law_734 : decode cL_law 734 = .ok (.iconst 2, 1) := by decide +kernel
theorem dL_law_735 : decode cL_law 735 = .ok (.iadd, 1) := by decide +kernel
theorem dL_law_736 : decode cL_law 736 = .ok (.iaload, 1) := by decide +kernel
theorem dL_law_737 : decode cL_law 737 = .ok (.aload_n 3, 1) := by decide +kernel
theorem dL_law_738 : decode cL_law 738 = .ok (.invokestatic 146, 3) := by decide +kernel
theorem dL_law_741 : decode cL_law 741 = .ok (.istore 5, 2) := by decide +kernel
theorem dL_law_743 : decode cL_law 743 = .ok (.aload_n 2, 1) := by decide +kernel
theorem dL_law_744 : decode cL_law 744 = .ok (.aload_n 0, 1) := by decide +kernel
theorem dL_law_745 : decode cL_law 745 = .ok (.iload 4, 2) := by decide +kernel
theorem dL_law_747 : decode cL_law 747 = .ok (.iconst 1, 1) := by decide +kernel
theorem dL_law_748 : decode cL_law 748 = .ok (.iadd, 1) := by decide +kernel
theorem dL_law_749 : decode cL_law 749 = .ok (.iaload, 1) := by decide +kernel
theorem dL_law_750 : decode cL_law 750 = .ok (.aload_n 0, 1) := by decide +kernel
theorem dL_law_751 : decode cL_law 751 = .ok (.iload 4, 2) := by decide +kernel
theorem dL_law_753 : decode cL_law 753 = .ok (.iconst 2, 1) := by decide +kernel
theorem dL_law_754 : decode cL_law 754 = .ok (.iadd, 1) := by decide +kernel
theorem dL_law_755 : decode cL_law 755 = .ok (.iaload, 1) := by decide +kernel
theorem dL_law_756 : decode cL_law 756 = .ok (.invokevirtual 148, 3) := by decide +kernel
theorem dL_law_759 : decode cL_law 759 = .ok (.istore 6, 2) := by decide +kernel
theorem dL_law_761 : decode cL_law 761 = .ok (.aload_n 2, 1) := by decide +kernel
theorem dL_law_762 : decode cL_law 762 = .ok (.invokevirtual 119, 3) := by decide +kernel
theorem dL_law_765 : decode cL_law 765 = .ok (.iload 5, 2) := by decide +kernel
theorem dL_law_767 : decode cL_law 767 = .ok (.if_icmp .eq 5, 3) := by decide +kernel
theorem dL_law_770 : decode cL_law 770 = .ok (.iconst 0, 1) := by decide +kernel
theorem dL_law_771 : decode cL_law 771 = .ok (.ireturn, 1) := by decide +kernel
theorem dL_law_772 : decode cL_law 772 = .ok (.iload 5, 2) := by decide +kernel
theorem dL_law_774 : decode cL_law 774 = .ok (.ifCond .ne 15, 3) := by decide +kernel
theorem dL_law_777 : decode cL_law 777 = .ok (.aload_n 3, 1) := by decide +kernel
theorem dL_law_778 : decode cL_law 778 = .ok (.iconst 0, 1) := by decide +kernel
theorem dL_law_779 : decode cL_law 779 = .ok (.laload, 1) := by decide +kernel
theorem dL_law_780 : decode cL_law 780 = .ok (.iload 6, 2) := by decide +kernel
theorem dL_law_782 : decode cL_law 782 = .ok (.i2l, 1) := by decide +kernel
theorem dL_law_783 : decode cL_law 783 = .ok (.lcmp, 1) := by decide +kernel
theorem dL_law_784 : decode cL_law 784 = .ok (.ifCond .eq 5, 3) := by decide +kernel
theorem dL_law_787 : decode cL_law 787 = .ok (.iconst 0, 1) := by decide +kernel
theorem dL_law_788 : decode cL_law 788 = .ok (.ireturn, 1) := by decide +kernel
theorem dL_law_789 : decode cL_law 789 = .ok (.goto 1510, 3) := by decide +kernel
theorem dL_law_792 : decode cL_law 792 = .ok (.aload_n 1, 1) := by decide +kernel
theorem dL_law_793 : decode cL_law 793 = .ok (.aload_n 0, 1) := by decide +kernel
theorem dL_law_794 : decode cL_law 794 = .ok (.iload 4, 2) := by decide +kernel
theorem dL_law_796 : decode cL_law 796 = .ok (.iconst 1, 1) := by decide +kernel
theorem dL_law_797 : decode cL_law 797 = .ok (.iadd, 1) := by decide +kernel
theorem dL_law_798 : decode cL_law 798 = .ok (.iaload, 1) := by decide +kernel
theorem dL_law_799 : decode cL_law 799 = .ok (.aload_n 0, 1) := by decide +kernel
theorem dL_law_800 : decode cL_law 800 = .ok (.iload 4, 2) := by decide +kernel
theorem dL_law_802 : decode cL_law 802 = .ok (.iconst 2, 1) := by decide +kernel
theorem dL_law_803 : decode cL_law 803 = .ok (.iadd, 1) := by decide +kernel
theorem dL_law_804 : decode cL_law 804 = .ok (.iaload, 1) := by decide +kernel
theorem dL_law_805 : decode cL_law 805 = .ok (.aload_n 0, 1) := by decide +kernel
theorem dL_law_806 : decode cL_law 806 = .ok (.iload 4, 2) := by decide +kernel
theorem dL_law_808 : decode cL_law 808 = .ok (.iconst 3, 1) := by decide +kernel
theorem dL_law_809 : decode cL_law 809 = .ok (.iadd, 1) := by decide +kernel
theorem dL_law_810 : decode cL_law 810 = .ok (.iaload, 1) := by decide +kernel
theorem dL_law_811 : decode cL_law 811 = .ok (.aload_n 3, 1) := by decide +kernel
theorem dL_law_812 : decode cL_law 812 = .ok (.invokestatic 149, 3) := by decide +kernel
theorem dL_law_815 : decode cL_law 815 = .ok (.istore 5, 2) := by decide +kernel
theorem dL_law_817 : decode cL_law 817 = .ok (.aload_n 2, 1) := by decide +kernel
theorem dL_law_818 : decode cL_law 818 = .ok (.aload_n 0, 1) := by decide +kernel
theorem dL_law_819 : decode cL_law 819 = .ok (.iload 4, 2) := by decide +kernel
theorem dL_law_821 : decode cL_law 821 = .ok (.iconst 1, 1) := by decide +kernel
theorem dL_law_822 : decode cL_law 822 = .ok (.iadd, 1) := by decide +kernel
theorem dL_law_823 : decode cL_law 823 = .ok (.iaload, 1) := by decide +kernel
theorem dL_law_824 : decode cL_law 824 = .ok (.aload_n 0, 1) := by decide +kernel
theorem dL_law_825 : decode cL_law 825 = .ok (.iload 4, 2) := by decide +kernel
theorem dL_law_827 : decode cL_law 827 = .ok (.iconst 2, 1) := by decide +kernel
theorem dL_law_828 : decode cL_law 828 = .ok (.iadd, 1) := by decide +kernel
theorem dL_law_829 : decode cL_law 829 = .ok (.iaload, 1) := by decide +kernel
theorem dL_law_830 : decode cL_law 830 = .ok (.aload_n 0, 1) := by decide +kernel
theorem dL_law_831 : decode cL_law 831 = .ok (.iload 4, 2) := by decide +kernel
theorem dL_law_833 : decode cL_law 833 = .ok (.iconst 3, 1) := by decide +kernel
theorem dL_law_834 : decode cL_law 834 = .ok (.iadd, 1) := by decide +kernel
theorem dL_law_835 : decode cL_law 835 = .ok (.iaload, 1) := by decide +kernel
theorem dL_law_836 : decode cL_law 836 = .ok (.invokevirtual 151, 3) := by decide +kernel
theorem dL_law_839 : decode cL_law 839 = .ok (.istore 6, 2) := by decide +kernel
theorem dL_law_841 : decode cL_law 841 = .ok (.aload_n 2, 1) := by decide +kernel
theorem dL_law_842 : decode cL_law 842 = .ok (.invokevirtual 119, 3) := by decide +kernel
theorem dL_law_845 : decode cL_law 845 = .ok (.iload 5, 2) := by decide +kernel
theorem dL_law_847 : decode cL_law 847 = .ok (.if_icmp .eq 5, 3) := by decide +kernel
theorem dL_law_850 : decode cL_law 850 = .ok (.iconst 0, 1) := by decide +kernel
theorem dL_law_851 : decode cL_law 851 = .ok (.ireturn, 1) := by decide +kernel
theorem dL_law_852 : decode cL_law 852 = .ok (.iload 5, 2) := by decide +kernel
theorem dL_law_854 : decode cL_law 854 = .ok (.ifCond .ne 15, 3) := by decide +kernel
theorem dL_law_857 : decode cL_law 857 = .ok (.aload_n 3, 1) := by decide +kernel
theorem dL_law_858 : decode cL_law 858 = .ok (.iconst 0, 1) := by decide +kernel
theorem dL_law_859 : decode cL_law 859 = .ok (.laload, 1) := by decide +kernel
theorem dL_law_860 : decode cL_law 860 = .ok (.iload 6, 2) := by decide +kernel
theorem dL_law_862 : decode cL_law 862 = .ok (.i2l, 1) := by decide +kernel
theorem dL_law_863 : decode cL_law 863 = .ok (.lcmp, 1) := by decide +kernel
theorem dL_law_864 : decode cL_law 864 = .ok (.ifCond .eq 5, 3) := by decide +kernel
theorem dL_law_867 : decode cL_law 867 = .ok (.iconst 0, 1) := by decide +kernel
theorem dL_law_868 : decode cL_law 868 = .ok (.ireturn, 1) := by decide +kernel
theorem dL_law_869 : decode cL_law 869 = .ok (.goto 1430, 3) := by decide +kernel
theorem dL_law_872 : decode cL_law 872 = .ok (.aload_n 1, 1) := by decide +kernel
theorem dL_law_873 : decode cL_law 873 = .ok (.aload_n 0, 1) := by decide +kernel
theorem dL_law_874 : decode cL_law 874 = .ok (.iload 4, 2) := by decide +kernel
theorem dL_law_876 : decode cL_law 876 = .ok (.iconst 1, 1) := by decide +kernel
theorem dL_law_877 : decode cL_law 877 = .ok (.iadd, 1) := by decide +kernel
theorem dL_law_878 : decode cL_law 878 = .ok (.iaload, 1) := by decide +kernel
theorem dL_law_879 : decode cL_law 879 = .ok (.aload_n 0, 1) := by decide +kernel
theorem dL_law_880 : decode cL_law 880 = .ok (.iload 4, 2) := by decide +kernel
theorem dL_law_882 : decode cL_law 882 = .ok (.iconst 2, 1) := by decide +kernel
theorem dL_law_883 : decode cL_law 883 = .ok (.iadd, 1) := by decide +kernel
theorem dL_law_884 : decode cL_law 884 = .ok (.iaload, 1) := by decide +kernel
theorem dL_law_885 : decode cL_law 885 = .ok (.aload_n 0, 1) := by decide +kernel
theorem dL_law_886 : decode cL_law 886 = .ok (.iload 4, 2) := by decide +kernel
theorem dL_law_888 : decode cL_law 888 = .ok (.iconst 3, 1) := by decide +kernel
theorem dL_law_889 : decode cL_law 889 = .ok (.iadd, 1) := by decide +kernel
theorem dL_law_890 : decode cL_law 890 = .ok (.iaload, 1) := by decide +kernel
theorem dL_law_891 : decode cL_law 891 = .ok (.aload_n 3, 1) := by decide +kernel
theorem dL_law_892 : decode cL_law 892 = .ok (.invokestatic 152, 3) := by decide +kernel
theorem dL_law_895 : decode cL_law 895 = .ok (.istore 5, 2) := by decide +kernel
theorem dL_law_897 : decode cL_law 897 = .ok (.aload_n 2, 1) := by decide +kernel
theorem dL_law_898 : decode cL_law 898 = .ok (.aload_n 0, 1) := by decide +kernel
theorem dL_law_899 : decode cL_law 899 = .ok (.iload 4, 2) := by decide +kernel
theorem dL_law_901 : decode cL_law 901 = .ok (.iconst 1, 1) := by decide +kernel
theorem dL_law_902 : decode cL_law 902 = .ok (.iadd, 1) := by decide +kernel
theorem dL_law_903 : decode cL_law 903 = .ok (.iaload, 1) := by decide +kernel
theorem dL_law_904 : decode cL_law 904 = .ok (.aload_n 0, 1) := by decide +kernel
theorem dL_law_905 : decode cL_law 905 = .ok (.iload 4, 2) := by decide +kernel
theorem dL_law_907 : decode cL_law 907 = .ok (.iconst 2, 1) := by decide +kernel
theorem dL_law_908 : decode cL_law 908 = .ok (.iadd, 1) := by decide +kernel
theorem dL_law_909 : decode cL_law 909 = .ok (.iaload, 1) := by decide +kernel
theorem dL_law_910 : decode cL_law 910 = .ok (.aload_n 0, 1) := by decide +kernel
theorem dL_law_911 : decode cL_law 911 = .ok (.iload 4, 2) := by decide +kernel
theorem dL_law_913 : decode cL_law 913 = .ok (.iconst 3, 1) := by decide +kernel
theorem dL_law_914 : decode cL_law 914 = .ok (.iadd, 1) := by decide +kernel
theorem dL_law_915 : decode cL_law 915 = .ok (.iaload, 1) := by decide +kernel
theorem dL_law_916 : decode cL_law 916 = .ok (.invokevirtual 154, 3) := by decide +kernel
theorem dL_law_919 : decode cL_law 919 = .ok (.istore 6, 2) := by decide +kernel
theorem dL_law_921 : decode cL_law 921 = .ok (.aload_n 2, 1) := by decide +kernel
theorem dL_law_922 : decode cL_law 922 = .ok (.invokevirtual 119, 3) := by decide +kernel
theorem dL_law_925 : decode cL_law 925 = .ok (.iload 5, 2) := by decide +kernel
theorem dL_law_927 : decode cL_law 927 = .ok (.if_icmp .eq 5, 3) := by decide +kernel
theorem dL_law_930 : decode cL_law 930 = .ok (.iconst 0, 1) := by decide +kernel
theorem dL_law_931 : decode cL_law 931 = .ok (.ireturn, 1) := by decide +kernel
theorem dL_law_932 : decode cL_law 932 = .ok (.iload 5, 2) := by decide +kernel
theorem dL_law_934 : decode cL_law 934 = .ok (.ifCond .ne 15, 3) := by decide +kernel
theorem dL_law_937 : decode cL_law 937 = .ok (.aload_n 3, 1) := by decide +kernel
theorem dL_law_938 : decode cL_law 938 = .ok (.iconst 0, 1) := by decide +kernel
theorem dL_law_939 : decode cL_law 939 = .ok (.laload, 1) := by decide +kernel
theorem dL_law_940 : decode cL_law 940 = .ok (.iload 6, 2) := by decide +kernel
theorem dL_law_942 : decode cL_law 942 = .ok (.i2l, 1) := by decide +kernel
theorem dL_law_943 : decode cL_law 943 = .ok (.lcmp, 1) := by decide +kernel
theorem dL_law_944 : decode cL_law 944 = .ok (.ifCond .eq 5, 3) := by decide +kernel
theorem dL_law_947 : decode cL_law 947 = .ok (.iconst 0, 1) := by decide +kernel
theorem dL_law_948 : decode cL_law 948 = .ok (.ireturn, 1) := by decide +kernel
theorem dL_law_949 : decode cL_law 949 = .ok (.goto 1350, 3) := by decide +kernel
theorem dL_law_952 : decode cL_law 952 = .ok (.aload_n 1, 1) := by decide +kernel
theorem dL_law_953 : decode cL_law 953 = .ok (.aload_n 0, 1) := by decide +kernel
theorem dL_law_954 : decode cL_law 954 = .ok (.iload 4, 2) := by decide +kernel
theorem dL_law_956 : decode cL_law 956 = .ok (.iconst 1, 1) := by decide +kernel
theorem dL_law_957 : decode cL_law 957 = .ok (.iadd, 1) := by decide +kernel
theorem dL_law_958 : decode cL_law 958 = .ok (.iaload, 1) := by decide +kernel
theorem dL_law_959 : decode cL_law 959 = .ok (.aload_n 3, 1) := by decide +kernel
theorem dL_law_960 : decode cL_law 960 = .ok (.invokestatic 155, 3) := by decide +kernel
theorem dL_law_963 : decode cL_law 963 = .ok (.istore 5, 2) := by decide +kernel
theorem dL_law_965 : decode cL_law 965 = .ok (.aload_n 2, 1) := by decide +kernel
theorem dL_law_966 : decode cL_law 966 = .ok (.aload_n 0, 1) := by decide +kernel
theorem dL_law_967 : decode cL_law 967 = .ok (.iload 4, 2) := by decide +kernel
theorem dL_law_969 : decode cL_law 969 = .ok (.iconst 1, 1) := by decide +kernel
theorem dL_law_970 : decode cL_law 970 = .ok (.iadd, 1) := by decide +kernel
theorem dL_law_971 : decode cL_law 971 = .ok (.iaload, 1) := by decide +kernel
theorem dL_law_972 : decode cL_law 972 = .ok (.invokevirtual 157, 3) := by decide +kernel
theorem dL_law_975 : decode cL_law 975 = .ok (.istore 6, 2) := by decide +kernel
theorem dL_law_977 : decode cL_law 977 = .ok (.aload_n 2, 1) := by decide +kernel
theorem dL_law_978 : decode cL_law 978 = .ok (.invokevirtual 119, 3) := by decide +kernel
theorem dL_law_981 : decode cL_law 981 = .ok (.iload 5, 2) := by decide +kernel
theorem dL_law_983 : decode cL_law 983 = .ok (.if_icmp .eq 5, 3) := by decide +kernel
theorem dL_law_986 : decode cL_law 986 = .ok (.iconst 0, 1) := by decide +kernel
theorem dL_law_987 : decode cL_law 987 = .ok (.ireturn, 1) := by decide +kernel
theorem dL_law_988 : decode cL_law 988 = .ok (.iload 5, 2) := by decide +kernel
theorem dL_law_990 : decode cL_law 990 = .ok (.ifCond .ne 15, 3) := by decide +kernel
theorem dL_law_993 : decode cL_law 993 = .ok (.aload_n 3, 1) := by decide +kernel
theorem dL_law_994 : decode cL_law 994 = .ok (.iconst 0, 1) := by decide +kernel
theorem dL_law_995 : decode cL_law 995 = .ok (.laload, 1) := by decide +kernel
theorem dL_law_996 : decode cL_law 996 = .ok (.iload 6, 2) := by decide +kernel
theorem dL_law_998 : decode cL_law 998 = .ok (.i2l, 1) := by decide +kernel
theorem dL_law_999 : decode cL_law 999 = .ok (.lcmp, 1) := by decide +kernel
theorem dL_law_1000 : decode cL_law 1000 = .ok (.ifCond .eq 5, 3) := by decide +kernel
theorem dL_law_1003 : decode cL_law 1003 = .ok (.iconst 0, 1) := by decide +kernel
theorem dL_law_1004 : decode cL_law 1004 = .ok (.ireturn, 1) := by decide +kernel
theorem dL_law_1005 : decode cL_law 1005 = .ok (.goto 1294, 3) := by decide +kernel
theorem dL_law_1008 : decode cL_law 1008 = .ok (.aload_n 1, 1) := by decide +kernel
theorem dL_law_1009 : decode cL_law 1009 = .ok (.aload_n 0, 1) := by decide +kernel
theorem dL_law_1010 : decode cL_law 1010 = .ok (.iload 4, 2) := by decide +kernel
theorem dL_law_1012 : decode cL_law 1012 = .ok (.iconst 1, 1) := by decide +kernel
theorem dL_law_1013 : decode cL_law 1013 = .ok (.iadd, 1) := by decide +kernel
theorem dL_law_1014 : decode cL_law 1014 = .ok (.iaload, 1) := by decide +kernel
theorem dL_law_1015 : decode cL_law 1015 = .ok (.aload_n 0, 1) := by decide +kernel
theorem dL_law_1016 : decode cL_law 1016 = .ok (.iload 4, 2) := by decide +kernel
theorem dL_law_1018 : decode cL_law 1018 = .ok (.iconst 2, 1) := by decide +kernel
theorem dL_law_1019 : decode cL_law 1019 = .ok (.iadd, 1) := by decide +kernel
theorem dL_law_1020 : decode cL_law 1020 = .ok (.iaload, 1) := by decide +kernel
theorem dL_law_1021 : decode cL_law 1021 = .ok (.aload_n 0, 1) := by decide +kernel
theorem dL_law_1022 : decode cL_law 1022 = .ok (.iload 4, 2) := by decide +kernel
theorem dL_law_1024 : decode cL_law 1024 = .ok (.iconst 3, 1) := by decide +kernel
theorem dL_law_1025 : decode cL_law 1025 = .ok (.iadd, 1) := by decide +kernel
theorem dL_law_1026 : decode cL_law 1026 = .ok (.iaload, 1) := by decide +kernel
theorem dL_law_1027 : decode cL_law 1027 = .ok (.aload_n 0, 1) := by decide +kernel
theorem dL_law_1028 : decode cL_law 1028 = .ok (.iload 4, 2) := by decide +kernel
theorem dL_law_1030 : decode cL_law 1030 = .ok (.iconst 4, 1) := by decide +kernel
theorem dL_law_1031 : decode cL_law 1031 = .ok (.iadd, 1) := by decide +kernel
theorem dL_law_1032 : decode cL_law 1032 = .ok (.iaload, 1) := by decide +kernel
theorem dL_law_1033 : decode cL_law 1033 = .ok (.aload_n 3, 1) := by decide +kernel
theorem dL_law_1034 : decode cL_law 1034 = .ok (.invokestatic 158, 3) := by decide +kernel
theorem dL_law_1037 : decode cL_law 1037 = .ok (.istore 5, 2) := by decide +kernel
theorem dL_law_1039 : decode cL_law 1039 = .ok (.aload_n 2, 1) := by decide +kernel
theorem dL_law_1040 : decode cL_law 1040 = .ok (.aload_n 0, 1) := by decide +kernel
theorem dL_law_1041 : decode cL_law 1041 = .ok (.iload 4, 2) := by decide +kernel
theorem dL_law_1043 : decode cL_law 1043 = .ok (.iconst 1, 1) := by decide +kernel
theorem dL_law_1044 : decode cL_law 1044 = .ok (.iadd, 1) := by decide +kernel
theorem dL_law_1045 : decode cL_law 1045 = .ok (.iaload, 1) := by decide +kernel
theorem dL_law_1046 : decode cL_law 1046 = .ok (.aload_n 0, 1) := by decide +kernel
theorem dL_law_1047 : decode cL_law 1047 = .ok (.iload 4, 2) := by decide +kernel
theorem dL_law_1049 : decode cL_law 1049 = .ok (.iconst 2, 1) := by decide +kernel
theorem dL_law_1050 : decode cL_law 1050 = .ok (.iadd, 1) := by decide +kernel
theorem dL_law_1051 : decode cL_law 1051 = .ok (.iaload, 1) := by decide +kernel
theorem dL_law_1052 : decode cL_law 1052 = .ok (.aload_n 0, 1) := by decide +kernel
theorem dL_law_1053 : decode cL_law 1053 = .ok (.iload 4, 2) := by decide +kernel
theorem dL_law_1055 : decode cL_law 1055 = .ok (.iconst 3, 1) := by decide +kernel
theorem dL_law_1056 : decode cL_law 1056 = .ok (.iadd, 1) := by decide +kernel
theorem dL_law_1057 : decode cL_law 1057 = .ok (.iaload, 1) := by decide +kernel
theorem dL_law_1058 : decode cL_law 1058 = .ok (.aload_n 0, 1) := by decide +kernel
theorem dL_law_1059 : decode cL_law 1059 = .ok (.iload 4, 2) := by decide +kernel
theorem dL_law_1061 : decode cL_law 1061 = .ok (.iconst 4, 1) := by decide +kernel
theorem dL_law_1062 : decode cL_law 1062 = .ok (.iadd, 1) := by decide +kernel
theorem dL_law_1063 : decode cL_law 1063 = .ok (.iaload, 1) := by decide +kernel
theorem dL_law_1064 : decode cL_law 1064 = .ok (.invokevirtual 161, 3) := by decide +kernel
theorem dL_law_1067 : decode cL_law 1067 = .ok (.istore 6, 2) := by decide +kernel
theorem dL_law_1069 : decode cL_law 1069 = .ok (.aload_n 2, 1) := by decide +kernel
theorem dL_law_1070 : decode cL_law 1070 = .ok (.invokevirtual 119, 3) := by decide +kernel
theorem dL_law_1073 : decode cL_law 1073 = .ok (.iload 5, 2) := by decide +kernel
theorem dL_law_1075 : decode cL_law 1075 = .ok (.if_icmp .eq 5, 3) := by decide +kernel
theorem dL_law_1078 : decode cL_law 1078 = .ok (.iconst 0, 1) := by decide +kernel
theorem dL_law_1079 : decode cL_law 1079 = .ok (.ireturn, 1) := by decide +kernel
theorem dL_law_1080 : decode cL_law 1080 = .ok (.iload 5, 2) := by decide +kernel
theorem dL_law_1082 : decode cL_law 1082 = .ok (.ifCond .ne 15, 3) := by decide +kernel
theorem dL_law_1085 : decode cL_law 1085 = .ok (.aload_n 3, 1) := by decide +kernel
theorem dL_law_1086 : decode cL_law 1086 = .ok (.iconst 0, 1) := by decide +kernel
theorem dL_law_1087 : decode cL_law 1087 = .ok (.laload, 1) := by decide +kernel
theorem dL_law_1088 : decode cL_law 1088 = .ok (.iload 6, 2) := by decide +kernel
theorem dL_law_1090 : decode cL_law 1090 = .ok (.i2l, 1) := by decide +kernel
theorem dL_law_1091 : decode cL_law 1091 = .ok (.lcmp, 1) := by decide +kernel
theorem dL_law_1092 : decode cL_law 1092 = .ok (.ifCond .eq 5, 3) := by decide +kernel
theorem dL_law_1095 : decode cL_law 1095 = .ok (.iconst 0, 1) := by decide +kernel
theorem dL_law_1096 : decode cL_law 1096 = .ok (.ireturn, 1) := by decide +kernel
theorem dL_law_1097 : decode cL_law 1097 = .ok (.goto 1202, 3) := by decide +kernel
theorem dL_law_1100 : decode cL_law 1100 = .ok (.aload_n 1, 1) := by decide +kernel
theorem dL_law_1101 : decode cL_law 1101 = .ok (.aload_n 0, 1) := by decide +kernel
theorem dL_law_1102 : decode cL_law 1102 = .ok (.iload 4, 2) := by decide +kernel
theorem dL_law_1104 : decode cL_law 1104 = .ok (.iconst 1, 1) := by decide +kernel
theorem dL_law_1105 : decode cL_law 1105 = .ok (.iadd, 1) := by decide +kernel
theorem dL_law_1106 : decode cL_law 1106 = .ok (.iaload, 1) := by decide +kernel
theorem dL_law_1107 : decode cL_law 1107 = .ok (.aload_n 0, 1) := by decide +kernel
theorem dL_law_1108 : decode cL_law 1108 = .ok (.iload 4, 2) := by decide +kernel
theorem dL_law_1110 : decode cL_law 1110 = .ok (.iconst 2, 1) := by decide +kernel
theorem dL_law_1111 : decode cL_law 1111 = .ok (.iadd, 1) := by decide +kernel
theorem dL_law_1112 : decode cL_law 1112 = .ok (.iaload, 1) := by decide +kernel
theorem dL_law_1113 : decode cL_law 1113 = .ok (.aload_n 3, 1) := by decide +kernel
theorem dL_law_1114 : decode cL_law 1114 = .ok (.invokestatic 162, 3) := by decide +kernel
theorem dL_law_1117 : decode cL_law 1117 = .ok (.istore 5, 2) := by decide +kernel
theorem dL_law_1119 : decode cL_law 1119 = .ok (.aload_n 2, 1) := by decide +kernel
theorem dL_law_1120 : decode cL_law 1120 = .ok (.aload_n 0, 1) := by decide +kernel
theorem dL_law_1121 : decode cL_law 1121 = .ok (.iload 4, 2) := by decide +kernel
theorem dL_law_1123 : decode cL_law 1123 = .ok (.iconst 1, 1) := by decide +kernel
theorem dL_law_1124 : decode cL_law 1124 = .ok (.iadd, 1) := by decide +kernel
theorem dL_law_1125 : decode cL_law 1125 = .ok (.iaload, 1) := by decide +kernel
theorem dL_law_1126 : decode cL_law 1126 = .ok (.aload_n 0, 1) := by decide +kernel
theorem dL_law_1127 : decode cL_law 1127 = .ok (.iload 4, 2) := by decide +kernel
theorem dL_law_1129 : decode cL_law 1129 = .ok (.iconst 2, 1) := by decide +kernel
theorem dL_law_1130 : decode cL_law 1130 = .ok (.iadd, 1) := by decide +kernel
theorem dL_law_1131 : decode cL_law 1131 = .ok (.iaload, 1) := by decide +kernel
theorem dL_law_1132 : decode cL_law 1132 = .ok (.invokevirtual 164, 3) := by decide +kernel
theorem dL_law_1135 : decode cL_law 1135 = .ok (.istore 6, 2) := by decide +kernel
theorem dL_law_1137 : decode cL_law 1137 = .ok (.aload_n 2, 1) := by decide +kernel
theorem dL_law_1138 : decode cL_law 1138 = .ok (.invokevirtual 119, 3) := by decide +kernel
theorem dL_law_1141 : decode cL_law 1141 = .ok (.iload 5, 2) := by decide +kernel
theorem dL_law_1143 : decode cL_law 1143 = .ok (.if_icmp .eq 5, 3) := by decide +kernel
theorem dL_law_1146 : decode cL_law 1146 = .ok (.iconst 0, 1) := by decide +kernel
theorem dL_law_1147 : decode cL_law 1147 = .ok (.ireturn, 1) := by decide +kernel
theorem dL_law_1148 : decode cL_law 1148 = .ok (.iload 5, 2) := by decide +kernel
theorem dL_law_1150 : decode cL_law 1150 = .ok (.ifCond .ne 15, 3) := by decide +kernel
theorem dL_law_1153 : decode cL_law 1153 = .ok (.aload_n 3, 1) := by decide +kernel
theorem dL_law_1154 : decode cL_law 1154 = .ok (.iconst 0, 1) := by decide +kernel
theorem dL_law_1155 : decode cL_law 1155 = .ok (.laload, 1) := by decide +kernel
theorem dL_law_1156 : decode cL_law 1156 = .ok (.iload 6, 2) := by decide +kernel
theorem dL_law_1158 : decode cL_law 1158 = .ok (.i2l, 1) := by decide +kernel
theorem dL_law_1159 : decode cL_law 1159 = .ok (.lcmp, 1) := by decide +kernel
theorem dL_law_1160 : decode cL_law 1160 = .ok (.ifCond .eq 5, 3) := by decide +kernel
theorem dL_law_1163 : decode cL_law 1163 = .ok (.iconst 0, 1) := by decide +kernel
theorem dL_law_1164 : decode cL_law 1164 = .ok (.ireturn, 1) := by decide +kernel
theorem dL_law_1165 : decode cL_law 1165 = .ok (.goto 1134, 3) := by decide +kernel
theorem dL_law_1168 : decode cL_law 1168 = .ok (.aload_n 1, 1) := by decide +kernel
theorem dL_law_1169 : decode cL_law 1169 = .ok (.aload_n 0, 1) := by decide +kernel
theorem dL_law_1170 : decode cL_law 1170 = .ok (.iload 4, 2) := by decide +kernel
theorem dL_law_1172 : decode cL_law 1172 = .ok (.iconst 1, 1) := by decide +kernel
theorem dL_law_1173 : decode cL_law 1173 = .ok (.iadd, 1) := by decide +kernel
theorem dL_law_1174 : decode cL_law 1174 = .ok (.iaload, 1) := by decide +kernel
theorem dL_law_1175 : decode cL_law 1175 = .ok (.aload_n 0, 1) := by decide +kernel
theorem dL_law_1176 : decode cL_law 1176 = .ok (.iload 4, 2) := by decide +kernel
theorem dL_law_1178 : decode cL_law 1178 = .ok (.iconst 2, 1) := by decide +kernel
theorem dL_law_1179 : decode cL_law 1179 = .ok (.iadd, 1) := by decide +kernel
theorem dL_law_1180 : decode cL_law 1180 = .ok (.iaload, 1) := by decide +kernel
theorem dL_law_1181 : decode cL_law 1181 = .ok (.aload_n 3, 1) := by decide +kernel
theorem dL_law_1182 : decode cL_law 1182 = .ok (.invokestatic 165, 3) := by decide +kernel
theorem dL_law_1185 : decode cL_law 1185 = .ok (.istore 5, 2) := by decide +kernel
theorem dL_law_1187 : decode cL_law 1187 = .ok (.aload_n 2, 1) := by decide +kernel
theorem dL_law_1188 : decode cL_law 1188 = .ok (.aload_n 0, 1) := by decide +kernel
theorem dL_law_1189 : decode cL_law 1189 = .ok (.iload 4, 2) := by decide +kernel
theorem dL_law_1191 : decode cL_law 1191 = .ok (.iconst 1, 1) := by decide +kernel
theorem dL_law_1192 : decode cL_law 1192 = .ok (.iadd, 1) := by decide +kernel
theorem dL_law_1193 : decode cL_law 1193 = .ok (.iaload, 1) := by decide +kernel
theorem dL_law_1194 : decode cL_law 1194 = .ok (.aload_n 0, 1) := by decide +kernel
theorem dL_law_1195 : decode cL_law 1195 = .ok (.iload 4, 2) := by decide +kernel
theorem dL_law_1197 : decode cL_law 1197 = .ok (.iconst 2, 1) := by decide +kernel
theorem dL_law_1198 : decode cL_law 1198 = .ok (.iadd, 1) := by decide +kernel
theorem dL_law_1199 : decode cL_law 1199 = .ok (.iaload, 1) := by decide +kernel
theorem dL_law_1200 : decode cL_law 1200 = .ok (.invokevirtual 167, 3) := by decide +kernel
theorem dL_law_1203 : decode cL_law 1203 = .ok (.istore 6, 2) := by decide +kernel
theorem dL_law_1205 : decode cL_law 1205 = .ok (.aload_n 2, 1) := by decide +kernel
theorem dL_law_1206 : decode cL_law 1206 = .ok (.invokevirtual 119, 3) := by decide +kernel
theorem dL_law_1209 : decode cL_law 1209 = .ok (.iload 5, 2) := by decide +kernel
theorem dL_law_1211 : decode cL_law 1211 = .ok (.if_icmp .eq 5, 3) := by decide +kernel
theorem dL_law_1214 : decode cL_law 1214 = .ok (.iconst 0, 1) := by decide +kernel
theorem dL_law_1215 : decode cL_law 1215 = .ok (.ireturn, 1) := by decide +kernel
theorem dL_law_1216 : decode cL_law 1216 = .ok (.iload 5, 2) := by decide +kernel
theorem dL_law_1218 : decode cL_law 1218 = .ok (.ifCond .ne 15, 3) := by decide +kernel
theorem dL_law_1221 : decode cL_law 1221 = .ok (.aload_n 3, 1) := by decide +kernel
theorem dL_law_1222 : decode cL_law 1222 = .ok (.iconst 0, 1) := by decide +kernel
theorem dL_law_1223 : decode cL_law 1223 = .ok (.laload, 1) := by decide +kernel
theorem dL_law_1224 : decode cL_law 1224 = .ok (.iload 6, 2) := by decide +kernel
theorem dL_law_1226 : decode cL_law 1226 = .ok (.i2l, 1) := by decide +kernel
theorem dL_law_1227 : decode cL_law 1227 = .ok (.lcmp, 1) := by decide +kernel
theorem dL_law_1228 : decode cL_law 1228 = .ok (.ifCond .eq 5, 3) := by decide +kernel
theorem dL_law_1231 : decode cL_law 1231 = .ok (.iconst 0, 1) := by decide +kernel
theorem dL_law_1232 : decode cL_law 1232 = .ok (.ireturn, 1) := by decide +kernel
theorem dL_law_1233 : decode cL_law 1233 = .ok (.goto 1066, 3) := by decide +kernel
theorem dL_law_1236 : decode cL_law 1236 = .ok (.aload_n 1, 1) := by decide +kernel
theorem dL_law_1237 : decode cL_law 1237 = .ok (.aload_n 0, 1) := by decide +kernel
theorem dL_law_1238 : decode cL_law 1238 = .ok (.iload 4, 2) := by decide +kernel
theorem dL_law_1240 : decode cL_law 1240 = .ok (.iconst 1, 1) := by decide +kernel
theorem dL_law_1241 : decode cL_law 1241 = .ok (.iadd, 1) := by decide +kernel
theorem dL_law_1242 : decode cL_law 1242 = .ok (.iaload, 1) := by decide +kernel
theorem dL_law_1243 : decode cL_law 1243 = .ok (.aload_n 0, 1) := by decide +kernel
theorem dL_law_1244 : decode cL_law 1244 = .ok (.iload 4, 2) := by decide +kernel
theorem dL_law_1246 : decode cL_law 1246 = .ok (.iconst 2, 1) := by decide +kernel
theorem dL_law_1247 : decode cL_law 1247 = .ok (.iadd, 1) := by decide +kernel
theorem dL_law_1248 : decode cL_law 1248 = .ok (.iaload, 1) := by decide +kernel
theorem dL_law_1249 : decode cL_law 1249 = .ok (.aload_n 3, 1) := by decide +kernel
theorem dL_law_1250 : decode cL_law 1250 = .ok (.invokestatic 168, 3) := by decide +kernel
theorem dL_law_1253 : decode cL_law 1253 = .ok (.istore 5, 2) := by decide +kernel
theorem dL_law_1255 : decode cL_law 1255 = .ok (.aload_n 2, 1) := by decide +kernel
theorem dL_law_1256 : decode cL_law 1256 = .ok (.aload_n 0, 1) := by decide +kernel
theorem dL_law_1257 : decode cL_law 1257 = .ok (.iload 4, 2) := by decide +kernel
theorem dL_law_1259 : decode cL_law 1259 = .ok (.iconst 1, 1) := by decide +kernel
theorem dL_law_1260 : decode cL_law 1260 = .ok (.iadd, 1) := by decide +kernel
theorem dL_law_1261 : decode cL_law 1261 = .ok (.iaload, 1) := by decide +kernel
theorem dL_law_1262 : decode cL_law 1262 = .ok (.aload_n 0, 1) := by decide +kernel
theorem dL_law_1263 : decode cL_law 1263 = .ok (.iload 4, 2) := by decide +kernel
theorem dL_law_1265 : decode cL_law 1265 = .ok (.iconst 2, 1) := by decide +kernel
theorem dL_law_1266 : decode cL_law 1266 = .ok (.iadd, 1) := by decide +kernel
theorem dL_law_1267 : decode cL_law 1267 = .ok (.iaload, 1) := by decide +kernel
theorem dL_law_1268 : decode cL_law 1268 = .ok (.invokevirtual 170, 3) := by decide +kernel
theorem dL_law_1271 : decode cL_law 1271 = .ok (.istore 6, 2) := by decide +kernel
theorem dL_law_1273 : decode cL_law 1273 = .ok (.aload_n 2, 1) := by decide +kernel
theorem dL_law_1274 : decode cL_law 1274 = .ok (.invokevirtual 119, 3) := by decide +kernel
theorem dL_law_1277 : decode cL_law 1277 = .ok (.iload 5, 2) := by decide +kernel
theorem dL_law_1279 : decode cL_law 1279 = .ok (.if_icmp .eq 5, 3) := by decide +kernel
theorem dL_law_1282 : decode cL_law 1282 = .ok (.iconst 0, 1) := by decide +kernel
theorem dL_law_1283 : decode cL_law 1283 = .ok (.ireturn, 1) := by decide +kernel
theorem dL_law_1284 : decode cL_law 1284 = .ok (.iload 5, 2) := by decide +kernel
theorem dL_law_1286 : decode cL_law 1286 = .ok (.ifCond .ne 15, 3) := by decide +kernel
theorem dL_law_1289 : decode cL_law 1289 = .ok (.aload_n 3, 1) := by decide +kernel
theorem dL_law_1290 : decode cL_law 1290 = .ok (.iconst 0, 1) := by decide +kernel
theorem dL_law_1291 : decode cL_law 1291 = .ok (.laload, 1) := by decide +kernel
theorem dL_law_1292 : decode cL_law 1292 = .ok (.iload 6, 2) := by decide +kernel
theorem dL_law_1294 : decode cL_law 1294 = .ok (.i2l, 1) := by decide +kernel
theorem dL_law_1295 : decode cL_law 1295 = .ok (.lcmp, 1) := by decide +kernel
theorem dL_law_1296 : decode cL_law 1296 = .ok (.ifCond .eq 5, 3) := by decide +kernel
theorem dL_law_1299 : decode cL_law 1299 = .ok (.iconst 0, 1) := by decide +kernel
theorem dL_law_1300 : decode cL_law 1300 = .ok (.ireturn, 1) := by decide +kernel
theorem dL_law_1301 : decode cL_law 1301 = .ok (.goto 998, 3) := by decide +kernel
theorem dL_law_1304 : decode cL_law 1304 = .ok (.aload_n 1, 1) := by decide +kernel
theorem dL_law_1305 : decode cL_law 1305 = .ok (.aload_n 0, 1) := by decide +kernel
theorem dL_law_1306 : decode cL_law 1306 = .ok (.iload 4, 2) := by decide +kernel
theorem dL_law_1308 : decode cL_law 1308 = .ok (.iconst 1, 1) := by decide +kernel
theorem dL_law_1309 : decode cL_law 1309 = .ok (.iadd, 1) := by decide +kernel
theorem dL_law_1310 : decode cL_law 1310 = .ok (.iaload, 1) := by decide +kernel
theorem dL_law_1311 : decode cL_law 1311 = .ok (.aload_n 0, 1) := by decide +kernel
theorem dL_law_1312 : decode cL_law 1312 = .ok (.iload 4, 2) := by decide +kernel
theorem dL_law_1314 : decode cL_law 1314 = .ok (.iconst 2, 1) := by decide +kernel
theorem dL_law_1315 : decode cL_law 1315 = .ok (.iadd, 1) := by decide +kernel
theorem dL_law_1316 : decode cL_law 1316 = .ok (.iaload, 1) := by decide +kernel
theorem dL_law_1317 : decode cL_law 1317 = .ok (.aload_n 3, 1) := by decide +kernel
theorem dL_law_1318 : decode cL_law 1318 = .ok (.invokestatic 171, 3) := by decide +kernel
theorem dL_law_1321 : decode cL_law 1321 = .ok (.istore 5, 2) := by decide +kernel
theorem dL_law_1323 : decode cL_law 1323 = .ok (.aload_n 2, 1) := by decide +kernel
theorem dL_law_1324 : decode cL_law 1324 = .ok (.aload_n 0, 1) := by decide +kernel
theorem dL_law_1325 : decode cL_law 1325 = .ok (.iload 4, 2) := by decide +kernel
theorem dL_law_1327 : decode cL_law 1327 = .ok (.iconst 1, 1) := by decide +kernel
theorem dL_law_1328 : decode cL_law 1328 = .ok (.iadd, 1) := by decide +kernel
theorem dL_law_1329 : decode cL_law 1329 = .ok (.iaload, 1) := by decide +kernel
theorem dL_law_1330 : decode cL_law 1330 = .ok (.aload_n 0, 1) := by decide +kernel
theorem dL_law_1331 : decode cL_law 1331 = .ok (.iload 4, 2) := by decide +kernel
theorem dL_law_1333 : decode cL_law 1333 = .ok (.iconst 2, 1) := by decide +kernel
theorem dL_law_1334 : decode cL_law 1334 = .ok (.iadd, 1) := by decide +kernel
theorem dL_law_1335 : decode cL_law 1335 = .ok (.iaload, 1) := by decide +kernel
theorem dL_law_1336 : decode cL_law 1336 = .ok (.invokevirtual 173, 3) := by decide +kernel
theorem dL_law_1339 : decode cL_law 1339 = .ok (.istore 6, 2) := by decide +kernel
theorem dL_law_1341 : decode cL_law 1341 = .ok (.aload_n 2, 1) := by decide +kernel
theorem dL_law_1342 : decode cL_law 1342 = .ok (.invokevirtual 119, 3) := by decide +kernel
theorem dL_law_1345 : decode cL_law 1345 = .ok (.iload 5, 2) := by decide +kernel
theorem dL_law_1347 : decode cL_law 1347 = .ok (.if_icmp .eq 5, 3) := by decide +kernel
theorem dL_law_1350 : decode cL_law 1350 = .ok (.iconst 0, 1) := by decide +kernel
theorem dL_law_1351 : decode cL_law 1351 = .ok (.ireturn, 1) := by decide +kernel
theorem dL_law_1352 : decode cL_law 1352 = .ok (.iload 5, 2) := by decide +kernel
theorem dL_law_1354 : decode cL_law 1354 = .ok (.ifCond .ne 15, 3) := by decide +kernel
theorem dL_law_1357 : decode cL_law 1357 = .ok (.aload_n 3, 1) := by decide +kernel
theorem dL_law_1358 : decode cL_law 1358 = .ok (.iconst 0, 1) := by decide +kernel
theorem dL_law_1359 : decode cL_law 1359 = .ok (.laload, 1) := by decide +kernel
theorem dL_law_1360 : decode cL_law 1360 = .ok (.iload 6, 2) := by decide +kernel
theorem dL_law_1362 : decode cL_law 1362 = .ok (.i2l, 1) := by decide +kernel
theorem dL_law_1363 : decode cL_law 1363 = .ok (.lcmp, 1) := by decide +kernel
theorem dL_law_1364 : decode cL_law 1364 = .ok (.ifCond .eq 5, 3) := by decide +kernel
theorem dL_law_1367 : decode cL_law 1367 = .ok (.iconst 0, 1) := by decide +kernel
theorem dL_law_1368 : decode cL_law 1368 = .ok (.ireturn, 1) := by decide +kernel
theorem dL_law_1369 : decode cL_law 1369 = .ok (.goto 930, 3) := by decide +kernel
theorem dL_law_1372 : decode cL_law 1372 = .ok (.aload_n 1, 1) := by decide +kernel
theorem dL_law_1373 : decode cL_law 1373 = .ok (.aload_n 0, 1) := by decide +kernel
theorem dL_law_1374 : decode cL_law 1374 = .ok (.iload 4, 2) := by decide +kernel
theorem dL_law_1376 : decode cL_law 1376 = .ok (.iconst 1, 1) := by decide +kernel
theorem dL_law_1377 : decode cL_law 1377 = .ok (.iadd, 1) := by decide +kernel
theorem dL_law_1378 : decode cL_law 1378 = .ok (.iaload, 1) := by decide +kernel
theorem dL_law_1379 : decode cL_law 1379 = .ok (.aload_n 0, 1) := by decide +kernel
theorem dL_law_1380 : decode cL_law 1380 = .ok (.iload 4, 2) := by decide +kernel
theorem dL_law_1382 : decode cL_law 1382 = .ok (.iconst 2, 1) := by decide +kernel
theorem dL_law_1383 : decode cL_law 1383 = .ok (.iadd, 1) := by decide +kernel
theorem dL_law_1384 : decode cL_law 1384 = .ok (.iaload, 1) := by decide +kernel
theorem dL_law_1385 : decode cL_law 1385 = .ok (.aload_n 0, 1) := by decide +kernel
theorem dL_law_1386 : decode cL_law 1386 = .ok (.iload 4, 2) := by decide +kernel
theorem dL_law_1388 : decode cL_law 1388 = .ok (.iconst 3, 1) := by decide +kernel
theorem dL_law_1389 : decode cL_law 1389 = .ok (.iadd, 1) := by decide +kernel
theorem dL_law_1390 : decode cL_law 1390 = .ok (.iaload, 1) := by decide +kernel
theorem dL_law_1391 : decode cL_law 1391 = .ok (.aload_n 3, 1) := by decide +kernel
theorem dL_law_1392 : decode cL_law 1392 = .ok (.invokestatic 174, 3) := by decide +kernel
theorem dL_law_1395 : decode cL_law 1395 = .ok (.istore 5, 2) := by decide +kernel
theorem dL_law_1397 : decode cL_law 1397 = .ok (.aload_n 2, 1) := by decide +kernel
theorem dL_law_1398 : decode cL_law 1398 = .ok (.aload_n 0, 1) := by decide +kernel
theorem dL_law_1399 : decode cL_law 1399 = .ok (.iload 4, 2) := by decide +kernel
theorem dL_law_1401 : decode cL_law 1401 = .ok (.iconst 1, 1) := by decide +kernel
theorem dL_law_1402 : decode cL_law 1402 = .ok (.iadd, 1) := by decide +kernel
theorem dL_law_1403 : decode cL_law 1403 = .ok (.iaload, 1) := by decide +kernel
theorem dL_law_1404 : decode cL_law 1404 = .ok (.aload_n 0, 1) := by decide +kernel
theorem dL_law_1405 : decode cL_law 1405 = .ok (.iload 4, 2) := by decide +kernel
theorem dL_law_1407 : decode cL_law 1407 = .ok (.iconst 2, 1) := by decide +kernel
theorem dL_law_1408 : decode cL_law 1408 = .ok (.iadd, 1) := by decide +kernel
theorem dL_law_1409 : decode cL_law 1409 = .ok (.iaload, 1) := by decide +kernel
theorem dL_law_1410 : decode cL_law 1410 = .ok (.aload_n 0, 1) := by decide +kernel
theorem dL_law_1411 : decode cL_law 1411 = .ok (.iload 4, 2) := by decide +kernel
theorem dL_law_1413 : decode cL_law 1413 = .ok (.iconst 3, 1) := by decide +kernel
theorem dL_law_1414 : decode cL_law 1414 = .ok (.iadd, 1) := by decide +kernel
theorem dL_law_1415 : decode cL_law 1415 = .ok (.iaload, 1) := by decide +kernel
theorem dL_law_1416 : decode cL_law 1416 = .ok (.invokevirtual 176, 3) := by decide +kernel
theorem dL_law_1419 : decode cL_law 1419 = .ok (.istore 6, 2) := by decide +kernel
theorem dL_law_1421 : decode cL_law 1421 = .ok (.aload_n 2, 1) := by decide +kernel
theorem dL_law_1422 : decode cL_law 1422 = .ok (.invokevirtual 119, 3) := by decide +kernel
theorem dL_law_1425 : decode cL_law 1425 = .ok (.iload 5, 2) := by decide +kernel
theorem dL_law_1427 : decode cL_law 1427 = .ok (.if_icmp .eq 5, 3) := by decide +kernel
theorem dL_law_1430 : decode cL_law 1430 = .ok (.iconst 0, 1) := by decide +kernel
theorem dL_law_1431 : decode cL_law 1431 = .ok (.ireturn, 1) := by decide +kernel
theorem dL_law_1432 : decode cL_law 1432 = .ok (.iload 5, 2) := by decide +kernel
theorem dL_law_1434 : decode cL_law 1434 = .ok (.ifCond .ne 15, 3) := by decide +kernel
theorem dL_law_1437 : decode cL_law 1437 = .ok (.aload_n 3, 1) := by decide +kernel
theorem dL_law_1438 : decode cL_law 1438 = .ok (.iconst 0, 1) := by decide +kernel
theorem dL_law_1439 : decode cL_law 1439 = .ok (.laload, 1) := by decide +kernel
theorem dL_law_1440 : decode cL_law 1440 = .ok (.iload 6, 2) := by decide +kernel
theorem dL_law_1442 : decode cL_law 1442 = .ok (.i2l, 1) := by decide +kernel
theorem dL_law_1443 : decode cL_law 1443 = .ok (.lcmp, 1) := by decide +kernel
theorem dL_law_1444 : decode cL_law 1444 = .ok (.ifCond .eq 5, 3) := by decide +kernel
theorem dL_law_1447 : decode cL_law 1447 = .ok (.iconst 0, 1) := by decide +kernel
theorem dL_law_1448 : decode cL_law 1448 = .ok (.ireturn, 1) := by decide +kernel
theorem dL_law_1449 : decode cL_law 1449 = .ok (.goto 850, 3) := by decide +kernel
theorem dL_law_1452 : decode cL_law 1452 = .ok (.aload_n 1, 1) := by decide +kernel
theorem dL_law_1453 : decode cL_law 1453 = .ok (.aload_n 0, 1) := by decide +kernel
theorem dL_law_1454 : decode cL_law 1454 = .ok (.iload 4, 2) := by decide +kernel
theorem dL_law_1456 : decode cL_law 1456 = .ok (.iconst 1, 1) := by decide +kernel
theorem dL_law_1457 : decode cL_law 1457 = .ok (.iadd, 1) := by decide +kernel
theorem dL_law_1458 : decode cL_law 1458 = .ok (.iaload, 1) := by decide +kernel
theorem dL_law_1459 : decode cL_law 1459 = .ok (.aload_n 3, 1) := by decide +kernel
theorem dL_law_1460 : decode cL_law 1460 = .ok (.invokestatic 177, 3) := by decide +kernel
theorem dL_law_1463 : decode cL_law 1463 = .ok (.istore 5, 2) := by decide +kernel
theorem dL_law_1465 : decode cL_law 1465 = .ok (.aload_n 2, 1) := by decide +kernel
theorem dL_law_1466 : decode cL_law 1466 = .ok (.aload_n 0, 1) := by decide +kernel
theorem dL_law_1467 : decode cL_law 1467 = .ok (.iload 4, 2) := by decide +kernel
theorem dL_law_1469 : decode cL_law 1469 = .ok (.iconst 1, 1) := by decide +kernel
theorem dL_law_1470 : decode cL_law 1470 = .ok (.iadd, 1) := by decide +kernel
theorem dL_law_1471 : decode cL_law 1471 = .ok (.iaload, 1) := by decide +kernel
theorem dL_law_1472 : decode cL_law 1472 = .ok (.invokevirtual 179, 3) := by decide +kernel
theorem dL_law_1475 : decode cL_law 1475 = .ok (.istore 6, 2) := by decide +kernel
theorem dL_law_1477 : decode cL_law 1477 = .ok (.aload_n 2, 1) := by decide +kernel
theorem dL_law_1478 : decode cL_law 1478 = .ok (.invokevirtual 119, 3) := by decide +kernel
theorem dL_law_1481 : decode cL_law 1481 = .ok (.iload 5, 2) := by decide +kernel
theorem dL_law_1483 : decode cL_law 1483 = .ok (.if_icmp .eq 5, 3) := by decide +kernel
theorem dL_law_1486 : decode cL_law 1486 = .ok (.iconst 0, 1) := by decide +kernel
theorem dL_law_1487 : decode cL_law 1487 = .ok (.ireturn, 1) := by decide +kernel
theorem dL_law_1488 : decode cL_law 1488 = .ok (.iload 5, 2) := by decide +kernel
theorem dL_law_1490 : decode cL_law 1490 = .ok (.ifCond .ne 15, 3) := by decide +kernel
theorem dL_law_1493 : decode cL_law 1493 = .ok (.aload_n 3, 1) := by decide +kernel
theorem dL_law_1494 : decode cL_law 1494 = .ok (.iconst 0, 1) := by decide +kernel
theorem dL_law_1495 : decode cL_law 1495 = .ok (.laload, 1) := by decide +kernel
theorem dL_law_1496 : decode cL_law 1496 = .ok (.iload 6, 2) := by decide +kernel
theorem dL_law_1498 : decode cL_law 1498 = .ok (.i2l, 1) := by decide +kernel
theorem dL_law_1499 : decode cL_law 1499 = .ok (.lcmp, 1) := by decide +kernel
theorem dL_law_1500 : decode cL_law 1500 = .ok (.ifCond .eq 5, 3) := by decide +kernel
theorem dL_law_1503 : decode cL_law 1503 = .ok (.iconst 0, 1) := by decide +kernel
theorem dL_law_1504 : decode cL_law 1504 = .ok (.ireturn, 1) := by decide +kernel
theorem dL_law_1505 : decode cL_law 1505 = .ok (.goto 794, 3) := by decide +kernel
theorem dL_law_1508 : decode cL_law 1508 = .ok (.aload_n 1, 1) := by decide +kernel
theorem dL_law_1509 : decode cL_law 1509 = .ok (.aload_n 0, 1) := by decide +kernel
theorem dL_law_1510 : decode cL_law 1510 = .ok (.iload 4, 2) := by decide +kernel
theorem dL_law_1512 : decode cL_law 1512 = .ok (.iconst 1, 1) := by decide +kernel
theorem dL_law_1513 : decode cL_law 1513 = .ok (.iadd, 1) := by decide +kernel
theorem dL_law_1514 : decode cL_law 1514 = .ok (.iaload, 1) := by decide +kernel
theorem dL_law_1515 : decode cL_law 1515 = .ok (.aload_n 0, 1) := by decide +kernel
theorem dL_law_1516 : decode cL_law 1516 = .ok (.iload 4, 2) := by decide +kernel
theorem dL_law_1518 : decode cL_law 1518 = .ok (.iconst 2, 1) := by decide +kernel
theorem dL_law_1519 : decode cL_law 1519 = .ok (.iadd, 1) := by decide +kernel
theorem dL_law_1520 : decode cL_law 1520 = .ok (.iaload, 1) := by decide +kernel
theorem dL_law_1521 : decode cL_law 1521 = .ok (.aload_n 3, 1) := by decide +kernel
theorem dL_law_1522 : decode cL_law 1522 = .ok (.invokestatic 180, 3) := by decide +kernel
theorem dL_law_1525 : decode cL_law 1525 = .ok (.istore 5, 2) := by decide +kernel
theorem dL_law_1527 : decode cL_law 1527 = .ok (.aload_n 2, 1) := by decide +kernel
theorem dL_law_1528 : decode cL_law 1528 = .ok (.aload_n 0, 1) := by decide +kernel
theorem dL_law_1529 : decode cL_law 1529 = .ok (.iload 4, 2) := by decide +kernel
theorem dL_law_1531 : decode cL_law 1531 = .ok (.iconst 1, 1) := by decide +kernel
theorem dL_law_1532 : decode cL_law 1532 = .ok (.iadd, 1) := by decide +kernel
theorem dL_law_1533 : decode cL_law 1533 = .ok (.iaload, 1) := by decide +kernel
theorem dL_law_1534 : decode cL_law 1534 = .ok (.aload_n 0, 1) := by decide +kernel
theorem dL_law_1535 : decode cL_law 1535 = .ok (.iload 4, 2) := by decide +kernel
theorem dL_law_1537 : decode cL_law 1537 = .ok (.iconst 2, 1) := by decide +kernel
theorem dL_law_1538 : decode cL_law 1538 = .ok (.iadd, 1) := by decide +kernel
theorem dL_law_1539 : decode cL_law 1539 = .ok (.iaload, 1) := by decide +kernel
theorem dL_law_1540 : decode cL_law 1540 = .ok (.invokevirtual 182, 3) := by decide +kernel
theorem dL_law_1543 : decode cL_law 1543 = .ok (.istore 6, 2) := by decide +kernel
theorem dL_law_1545 : decode cL_law 1545 = .ok (.aload_n 2, 1) := by decide +kernel
theorem dL_law_1546 : decode cL_law 1546 = .ok (.invokevirtual 119, 3) := by decide +kernel
theorem dL_law_1549 : decode cL_law 1549 = .ok (.iload 5, 2) := by decide +kernel
theorem dL_law_1551 : decode cL_law 1551 = .ok (.if_icmp .eq 5, 3) := by decide +kernel
theorem dL_law_1554 : decode cL_law 1554 = .ok (.iconst 0, 1) := by decide +kernel
theorem dL_law_1555 : decode cL_law 1555 = .ok (.ireturn, 1) := by decide +kernel
theorem dL_law_1556 : decode cL_law 1556 = .ok (.iload 5, 2) := by decide +kernel
theorem dL_law_1558 : decode cL_law 1558 = .ok (.ifCond .ne 15, 3) := by decide +kernel
theorem dL_law_1561 : decode cL_law 1561 = .ok (.aload_n 3, 1) := by decide +kernel
theorem dL_law_1562 : decode cL_law 1562 = .ok (.iconst 0, 1) := by decide +kernel
theorem dL_law_1563 : decode cL_law 1563 = .ok (.laload, 1) := by decide +kernel
theorem dL_law_1564 : decode cL_law 1564 = .ok (.iload 6, 2) := by decide +kernel
theorem dL_law_1566 : decode cL_law 1566 = .ok (.i2l, 1) := by decide +kernel
theorem dL_law_1567 : decode cL_law 1567 = .ok (.lcmp, 1) := by decide +kernel
theorem dL_law_1568 : decode cL_law 1568 = .ok (.ifCond .eq 5, 3) := by decide +kernel
theorem dL_law_1571 : decode cL_law 1571 = .ok (.iconst 0, 1) := by decide +kernel
theorem dL_law_1572 : decode cL_law 1572 = .ok (.ireturn, 1) := by decide +kernel
theorem dL_law_1573 : decode cL_law 1573 = .ok (.goto 726, 3) := by decide +kernel
theorem dL_law_1576 : decode cL_law 1576 = .ok (.aload_n 1, 1) := by decide +kernel
theorem dL_law_1577 : decode cL_law 1577 = .ok (.aload_n 0, 1) := by decide +kernel
theorem dL_law_1578 : decode cL_law 1578 = .ok (.iload 4, 2) := by decide +kernel
theorem dL_law_1580 : decode cL_law 1580 = .ok (.iconst 1, 1) := by decide +kernel
theorem dL_law_1581 : decode cL_law 1581 = .ok (.iadd, 1) := by decide +kernel
theorem dL_law_1582 : decode cL_law 1582 = .ok (.iaload, 1) := by decide +kernel
theorem dL_law_1583 : decode cL_law 1583 = .ok (.aload_n 0, 1) := by decide +kernel
theorem dL_law_1584 : decode cL_law 1584 = .ok (.iload 4, 2) := by decide +kernel
theorem dL_law_1586 : decode cL_law 1586 = .ok (.iconst 2, 1) := by decide +kernel
theorem dL_law_1587 : decode cL_law 1587 = .ok (.iadd, 1) := by decide +kernel
theorem dL_law_1588 : decode cL_law 1588 = .ok (.iaload, 1) := by decide +kernel
theorem dL_law_1589 : decode cL_law 1589 = .ok (.aload_n 3, 1) := by decide +kernel
theorem dL_law_1590 : decode cL_law 1590 = .ok (.invokestatic 183, 3) := by decide +kernel
theorem dL_law_1593 : decode cL_law 1593 = .ok (.istore 5, 2) := by decide +kernel
theorem dL_law_1595 : decode cL_law 1595 = .ok (.aload_n 2, 1) := by decide +kernel
theorem dL_law_1596 : decode cL_law 1596 = .ok (.aload_n 0, 1) := by decide +kernel
theorem dL_law_1597 : decode cL_law 1597 = .ok (.iload 4, 2) := by decide +kernel
theorem dL_law_1599 : decode cL_law 1599 = .ok (.iconst 1, 1) := by decide +kernel
theorem dL_law_1600 : decode cL_law 1600 = .ok (.iadd, 1) := by decide +kernel
theorem dL_law_1601 : decode cL_law 1601 = .ok (.iaload, 1) := by decide +kernel
theorem dL_law_1602 : decode cL_law 1602 = .ok (.aload_n 0, 1) := by decide +kernel
theorem dL_law_1603 : decode cL_law 1603 = .ok (.iload 4, 2) := by decide +kernel
theorem dL_law_1605 : decode cL_law 1605 = .ok (.iconst 2, 1) := by decide +kernel
theorem dL_law_1606 : decode cL_law 1606 = .ok (.iadd, 1) := by decide +kernel
theorem dL_law_1607 : decode cL_law 1607 = .ok (.iaload, 1) := by decide +kernel
theorem dL_law_1608 : decode cL_law 1608 = .ok (.invokevirtual 185, 3) := by decide +kernel
theorem dL_law_1611 : decode cL_law 1611 = .ok (.istore 6, 2) := by decide +kernel
theorem dL_law_1613 : decode cL_law 1613 = .ok (.aload_n 2, 1) := by decide +kernel
theorem dL_law_1614 : decode cL_law 1614 = .ok (.invokevirtual 119, 3) := by decide +kernel
theorem dL_law_1617 : decode cL_law 1617 = .ok (.iload 5, 2) := by decide +kernel
theorem dL_law_1619 : decode cL_law 1619 = .ok (.if_icmp .eq 5, 3) := by decide +kernel
theorem dL_law_1622 : decode cL_law 1622 = .ok (.iconst 0, 1) := by decide +kernel
theorem dL_law_1623 : decode cL_law 1623 = .ok (.ireturn, 1) := by decide +kernel
theorem dL_law_1624 : decode cL_law 1624 = .ok (.iload 5, 2) := by decide +kernel
theorem dL_law_1626 : decode cL_law 1626 = .ok (.ifCond .ne 15, 3) := by decide +kernel
theorem dL_law_1629 : decode cL_law 1629 = .ok (.aload_n 3, 1) := by decide +kernel
theorem dL_law_1630 : decode cL_law 1630 = .ok (.iconst 0, 1) := by decide +kernel
theorem dL_law_1631 : decode cL_law 1631 = .ok (.laload, 1) := by decide +kernel
theorem dL_law_1632 : decode cL_law 1632 = .ok (.iload 6, 2) := by decide +kernel
theorem dL_law_1634 : decode cL_law 1634 = .ok (.i2l, 1) := by decide +kernel
theorem dL_law_1635 : decode cL_law 1635 = .ok (.lcmp, 1) := by decide +kernel
theorem dL_law_1636 : decode cL_law 1636 = .ok (.ifCond .eq 5, 3) := by decide +kernel
theorem dL_law_1639 : decode cL_law 1639 = .ok (.iconst 0, 1) := by decide +kernel
theorem dL_law_1640 : decode cL_law 1640 = .ok (.ireturn, 1) := by decide +kernel
theorem dL_law_1641 : decode cL_law 1641 = .ok (.goto 658, 3) := by decide +kernel
theorem dL_law_1644 : decode cL_law 1644 = .ok (.aload_n 1, 1) := by decide +kernel
theorem dL_law_1645 : decode cL_law 1645 = .ok (.aload_n 0, 1) := by decide +kernel
theorem dL_law_1646 : decode cL_law 1646 = .ok (.iload 4, 2) := by decide +kernel
theorem dL_law_1648 : decode cL_law 1648 = .ok (.iconst 1, 1) := by decide +kernel
theorem dL_law_1649 : decode cL_law 1649 = .ok (.iadd, 1) := by decide +kernel
theorem dL_law_1650 : decode cL_law 1650 = .ok (.iaload, 1) := by decide +kernel
theorem dL_law_1651 : decode cL_law 1651 = .ok (.aload_n 0, 1) := by decide +kernel
theorem dL_law_1652 : decode cL_law 1652 = .ok (.iload 4, 2) := by decide +kernel
theorem dL_law_1654 : decode cL_law 1654 = .ok (.iconst 2, 1) := by decide +kernel
theorem dL_law_1655 : decode cL_law 1655 = .ok (.iadd, 1) := by decide +kernel
theorem dL_law_1656 : decode cL_law 1656 = .ok (.iaload, 1) := by decide +kernel
theorem dL_law_1657 : decode cL_law 1657 = .ok (.aload_n 3, 1) := by decide +kernel
theorem dL_law_1658 : decode cL_law 1658 = .ok (.invokestatic 186, 3) := by decide +kernel
theorem dL_law_1661 : decode cL_law 1661 = .ok (.istore 5, 2) := by decide +kernel
theorem dL_law_1663 : decode cL_law 1663 = .ok (.aload_n 2, 1) := by decide +kernel
theorem dL_law_1664 : decode cL_law 1664 = .ok (.aload_n 0, 1) := by decide +kernel
theorem dL_law_1665 : decode cL_law 1665 = .ok (.iload 4, 2) := by decide +kernel
theorem dL_law_1667 : decode cL_law 1667 = .ok (.iconst 1, 1) := by decide +kernel
theorem dL_law_1668 : decode cL_law 1668 = .ok (.iadd, 1) := by decide +kernel
theorem dL_law_1669 : decode cL_law 1669 = .ok (.iaload, 1) := by decide +kernel
theorem dL_law_1670 : decode cL_law 1670 = .ok (.aload_n 0, 1) := by decide +kernel
theorem dL_law_1671 : decode cL_law 1671 = .ok (.iload 4, 2) := by decide +kernel
theorem dL_law_1673 : decode cL_law 1673 = .ok (.iconst 2, 1) := by decide +kernel
theorem dL_law_1674 : decode cL_law 1674 = .ok (.iadd, 1) := by decide +kernel
theorem dL_law_1675 : decode cL_law 1675 = .ok (.iaload, 1) := by decide +kernel
theorem dL_law_1676 : decode cL_law 1676 = .ok (.invokevirtual 188, 3) := by decide +kernel
theorem dL_law_1679 : decode cL_law 1679 = .ok (.istore 6, 2) := by decide +kernel
theorem dL_law_1681 : decode cL_law 1681 = .ok (.aload_n 2, 1) := by decide +kernel
theorem dL_law_1682 : decode cL_law 1682 = .ok (.invokevirtual 119, 3) := by decide +kernel
theorem dL_law_1685 : decode cL_law 1685 = .ok (.iload 5, 2) := by decide +kernel
theorem dL_law_1687 : decode cL_law 1687 = .ok (.if_icmp .eq 5, 3) := by decide +kernel
theorem dL_law_1690 : decode cL_law 1690 = .ok (.iconst 0, 1) := by decide +kernel
theorem dL_law_1691 : decode cL_law 1691 = .ok (.ireturn, 1) := by decide +kernel
theorem dL_law_1692 : decode cL_law 1692 = .ok (.iload 5, 2) := by decide +kernel
theorem dL_law_1694 : decode cL_law 1694 = .ok (.ifCond .ne 15, 3) := by decide +kernel
theorem dL_law_1697 : decode cL_law 1697 = .ok (.aload_n 3, 1) := by decide +kernel
theorem dL_law_1698 : decode cL_law 1698 = .ok (.iconst 0, 1) := by decide +kernel
theorem dL_law_1699 : decode cL_law 1699 = .ok (.laload, 1) := by decide +kernel
theorem dL_law_1700 : decode cL_law 1700 = .ok (.iload 6, 2) := by decide +kernel
theorem dL_law_1702 : decode cL_law 1702 = .ok (.i2l, 1) := by decide +kernel
theorem dL_law_1703 : decode cL_law 1703 = .ok (.lcmp, 1) := by decide +kernel
theorem dL_law_1704 : decode cL_law 1704 = .ok (.ifCond .eq 5, 3) := by decide +kernel
theorem dL_law_1707 : decode cL_law 1707 = .ok (.iconst 0, 1) := by decide +kernel
theorem dL_law_1708 : decode cL_law 1708 = .ok (.ireturn, 1) := by decide +kernel
theorem dL_law_1709 : decode cL_law 1709 = .ok (.goto 590, 3) := by decide +kernel
theorem dL_law_1712 : decode cL_law 1712 = .ok (.aload_n 1, 1) := by decide +kernel
theorem dL_law_1713 : decode cL_law 1713 = .ok (.aload_n 0, 1) := by decide +kernel
theorem dL_law_1714 : decode cL_law 1714 = .ok (.iload 4, 2) := by decide +kernel
theorem dL_law_1716 : decode cL_law 1716 = .ok (.iconst 1, 1) := by decide +kernel
theorem dL_law_1717 : decode cL_law 1717 = .ok (.iadd, 1) := by decide +kernel
theorem dL_law_1718 : decode cL_law 1718 = .ok (.iaload, 1) := by decide +kernel
theorem dL_law_1719 : decode cL_law 1719 = .ok (.aload_n 0, 1) := by decide +kernel
theorem dL_law_1720 : decode cL_law 1720 = .ok (.iload 4, 2) := by decide +kernel
theorem dL_law_1722 : decode cL_law 1722 = .ok (.iconst 2, 1) := by decide +kernel
theorem dL_law_1723 : decode cL_law 1723 = .ok (.iadd, 1) := by decide +kernel
theorem dL_law_1724 : decode cL_law 1724 = .ok (.iaload, 1) := by decide +kernel
theorem dL_law_1725 : decode cL_law 1725 = .ok (.aload_n 3, 1) := by decide +kernel
theorem dL_law_1726 : decode cL_law 1726 = .ok (.invokestatic 189, 3) := by decide +kernel
theorem dL_law_1729 : decode cL_law 1729 = .ok (.istore 5, 2) := by decide +kernel
theorem dL_law_1731 : decode cL_law 1731 = .ok (.aload_n 2, 1) := by decide +kernel
theorem dL_law_1732 : decode cL_law 1732 = .ok (.aload_n 0, 1) := by decide +kernel
theorem dL_law_1733 : decode cL_law 1733 = .ok (.iload 4, 2) := by decide +kernel
theorem dL_law_1735 : decode cL_law 1735 = .ok (.iconst 1, 1) := by decide +kernel
theorem dL_law_1736 : decode cL_law 1736 = .ok (.iadd, 1) := by decide +kernel
theorem dL_law_1737 : decode cL_law 1737 = .ok (.iaload, 1) := by decide +kernel
theorem dL_law_1738 : decode cL_law 1738 = .ok (.aload_n 0, 1) := by decide +kernel
theorem dL_law_1739 : decode cL_law 1739 = .ok (.iload 4, 2) := by decide +kernel
theorem dL_law_1741 : decode cL_law 1741 = .ok (.iconst 2, 1) := by decide +kernel
theorem dL_law_1742 : decode cL_law 1742 = .ok (.iadd, 1) := by decide +kernel
theorem dL_law_1743 : decode cL_law 1743 = .ok (.iaload, 1) := by decide +kernel
theorem dL_law_1744 : decode cL_law 1744 = .ok (.invokevirtual 191, 3) := by decide +kernel
theorem dL_law_1747 : decode cL_law 1747 = .ok (.istore 6, 2) := by decide +kernel
theorem dL_law_1749 : decode cL_law 1749 = .ok (.aload_n 2, 1) := by decide +kernel
theorem dL_law_1750 : decode cL_law 1750 = .ok (.invokevirtual 119, 3) := by decide +kernel
theorem dL_law_1753 : decode cL_law 1753 = .ok (.iload 5, 2) := by decide +kernel
theorem dL_law_1755 : decode cL_law 1755 = .ok (.if_icmp .eq 5, 3) := by decide +kernel
theorem dL_law_1758 : decode cL_law 1758 = .ok (.iconst 0, 1) := by decide +kernel
theorem dL_law_1759 : decode cL_law 1759 = .ok (.ireturn, 1) := by decide +kernel
theorem dL_law_1760 : decode cL_law 1760 = .ok (.iload 5, 2) := by decide +kernel
theorem dL_law_1762 : decode cL_law 1762 = .ok (.ifCond .ne 15, 3) := by decide +kernel
theorem dL_law_1765 : decode cL_law 1765 = .ok (.aload_n 3, 1) := by decide +kernel
theorem dL_law_1766 : decode cL_law 1766 = .ok (.iconst 0, 1) := by decide +kernel
theorem dL_law_1767 : decode cL_law 1767 = .ok (.laload, 1) := by decide +kernel
theorem dL_law_1768 : decode cL_law 1768 = .ok (.iload 6, 2) := by decide +kernel
theorem dL_law_1770 : decode cL_law 1770 = .ok (.i2l, 1) := by decide +kernel
theorem dL_law_1771 : decode cL_law 1771 = .ok (.lcmp, 1) := by decide +kernel
theorem dL_law_1772 : decode cL_law 1772 = .ok (.ifCond .eq 5, 3) := by decide +kernel
theorem dL_law_1775 : decode cL_law 1775 = .ok (.iconst 0, 1) := by decide +kernel
theorem dL_law_1776 : decode cL_law 1776 = .ok (.ireturn, 1) := by decide +kernel
theorem dL_law_1777 : decode cL_law 1777 = .ok (.goto 522, 3) := by decide +kernel
theorem dL_law_1780 : decode cL_law 1780 = .ok (.aload_n 1, 1) := by decide +kernel
theorem dL_law_1781 : decode cL_law 1781 = .ok (.aload_n 0, 1) := by decide +kernel
theorem dL_law_1782 : decode cL_law 1782 = .ok (.iload 4, 2) := by decide +kernel
theorem dL_law_1784 : decode cL_law 1784 = .ok (.iconst 1, 1) := by decide +kernel
theorem dL_law_1785 : decode cL_law 1785 = .ok (.iadd, 1) := by decide +kernel
theorem dL_law_1786 : decode cL_law 1786 = .ok (.iaload, 1) := by decide +kernel
theorem dL_law_1787 : decode cL_law 1787 = .ok (.aload_n 0, 1) := by decide +kernel
theorem dL_law_1788 : decode cL_law 1788 = .ok (.iload 4, 2) := by decide +kernel
theorem dL_law_1790 : decode cL_law 1790 = .ok (.iconst 2, 1) := by decide +kernel
theorem dL_law_1791 : decode cL_law 1791 = .ok (.iadd, 1) := by decide +kernel
theorem dL_law_1792 : decode cL_law 1792 = .ok (.iaload, 1) := by decide +kernel
theorem dL_law_1793 : decode cL_law 1793 = .ok (.aload_n 3, 1) := by decide +kernel
theorem dL_law_1794 : decode cL_law 1794 = .ok (.invokestatic 192, 3) := by decide +kernel
theorem dL_law_1797 : decode cL_law 1797 = .ok (.istore 5, 2) := by decide +kernel
theorem dL_law_1799 : decode cL_law 1799 = .ok (.aload_n 2, 1) := by decide +kernel
theorem dL_law_1800 : decode cL_law 1800 = .ok (.aload_n 0, 1) := by decide +kernel
theorem dL_law_1801 : decode cL_law 1801 = .ok (.iload 4, 2) := by decide +kernel
theorem dL_law_1803 : decode cL_law 1803 = .ok (.iconst 1, 1) := by decide +kernel
theorem dL_law_1804 : decode cL_law 1804 = .ok (.iadd, 1) := by decide +kernel
theorem dL_law_1805 : decode cL_law 1805 = .ok (.iaload, 1) := by decide +kernel
theorem dL_law_1806 : decode cL_law 1806 = .ok (.aload_n 0, 1) := by decide +kernel
theorem dL_law_1807 : decode cL_law 1807 = .ok (.iload 4, 2) := by decide +kernel
theorem dL_law_1809 : decode cL_law 1809 = .ok (.iconst 2, 1) := by decide +kernel
theorem dL_law_1810 : decode cL_law 1810 = .ok (.iadd, 1) := by decide +kernel
theorem dL_law_1811 : decode cL_law 1811 = .ok (.iaload, 1) := by decide +kernel
theorem dL_law_1812 : decode cL_law 1812 = .ok (.invokevirtual 194, 3) := by decide +kernel
theorem dL_law_1815 : decode cL_law 1815 = .ok (.istore 6, 2) := by decide +kernel
theorem dL_law_1817 : decode cL_law 1817 = .ok (.aload_n 2, 1) := by decide +kernel
theorem dL_law_1818 : decode cL_law 1818 = .ok (.invokevirtual 119, 3) := by decide +kernel
theorem dL_law_1821 : decode cL_law 1821 = .ok (.iload 5, 2) := by decide +kernel
theorem dL_law_1823 : decode cL_law 1823 = .ok (.if_icmp .eq 5, 3) := by decide +kernel
theorem dL_law_1826 : decode cL_law 1826 = .ok (.iconst 0, 1) := by decide +kernel
theorem dL_law_1827 : decode cL_law 1827 = .ok (.ireturn, 1) := by decide +kernel
theorem dL_law_1828 : decode cL_law 1828 = .ok (.iload 5, 2) := by decide +kernel
theorem dL_law_1830 : decode cL_law 1830 = .ok (.ifCond .ne 15, 3) := by decide +kernel
theorem dL_law_1833 : decode cL_law 1833 = .ok (.aload_n 3, 1) := by decide +kernel
theorem dL_law_1834 : decode cL_law 1834 = .ok (.iconst 0, 1) := by decide +kernel
theorem dL_law_1835 : decode cL_law 1835 = .ok (.laload, 1) := by decide +kernel
theorem dL_law_1836 : decode cL_law 1836 = .ok (.iload 6, 2) := by decide +kernel
theorem dL_law_1838 : decode cL_law 1838 = .ok (.i2l, 1) := by decide +kernel
theorem dL_law_1839 : decode cL_law 1839 = .ok (.lcmp, 1) := by decide +kernel
theorem dL_law_1840 : decode cL_law 1840 = .ok (.ifCond .eq 5, 3) := by decide +kernel
theorem dL_law_1843 : decode cL_law 1843 = .ok (.iconst 0, 1) := by decide +kernel
theorem dL_law_1844 : decode cL_law 1844 = .ok (.ireturn, 1) := by decide +kernel
theorem dL_law_1845 : decode cL_law 1845 = .ok (.goto 454, 3) := by decide +kernel
theorem dL_law_1848 : decode cL_law 1848 = .ok (.aload_n 1, 1) := by decide +kernel
theorem dL_law_1849 : decode cL_law 1849 = .ok (.aload_n 0, 1) := by decide +kernel
theorem dL_law_1850 : decode cL_law 1850 = .ok (.iload 4, 2) := by decide +kernel
theorem dL_law_1852 : decode cL_law 1852 = .ok (.iconst 1, 1) := by decide +kernel
theorem dL_law_1853 : decode cL_law 1853 = .ok (.iadd, 1) := by decide +kernel
theorem dL_law_1854 : decode cL_law 1854 = .ok (.iaload, 1) := by decide +kernel
theorem dL_law_1855 : decode cL_law 1855 = .ok (.aload_n 0, 1) := by decide +kernel
theorem dL_law_1856 : decode cL_law 1856 = .ok (.iload 4, 2) := by decide +kernel
theorem dL_law_1858 : decode cL_law 1858 = .ok (.iconst 2, 1) := by decide +kernel
theorem dL_law_1859 : decode cL_law 1859 = .ok (.iadd, 1) := by decide +kernel
theorem dL_law_1860 : decode cL_law 1860 = .ok (.iaload, 1) := by decide +kernel
theorem dL_law_1861 : decode cL_law 1861 = .ok (.aload_n 3, 1) := by decide +kernel
theorem dL_law_1862 : decode cL_law 1862 = .ok (.invokestatic 195, 3) := by decide +kernel
theorem dL_law_1865 : decode cL_law 1865 = .ok (.istore 5, 2) := by decide +kernel
theorem dL_law_1867 : decode cL_law 1867 = .ok (.aload_n 2, 1) := by decide +kernel
theorem dL_law_1868 : decode cL_law 1868 = .ok (.aload_n 0, 1) := by decide +kernel
theorem dL_law_1869 : decode cL_law 1869 = .ok (.iload 4, 2) := by decide +kernel
theorem dL_law_1871 : decode cL_law 1871 = .ok (.iconst 1, 1) := by decide +kernel
theorem dL_law_1872 : decode cL_law 1872 = .ok (.iadd, 1) := by decide +kernel
theorem dL_law_1873 : decode cL_law 1873 = .ok (.iaload, 1) := by decide +kernel
theorem dL_law_1874 : decode cL_law 1874 = .ok (.aload_n 0, 1) := by decide +kernel
theorem dL_law_1875 : decode cL_law 1875 = .ok (.iload 4, 2) := by decide +kernel
theorem dL_law_1877 : decode cL_law 1877 = .ok (.iconst 2, 1) := by decide +kernel
theorem dL_law_1878 : decode cL_law 1878 = .ok (.iadd, 1) := by decide +kernel
theorem dL_law_1879 : decode cL_law 1879 = .ok (.iaload, 1) := by decide +kernel
theorem dL_law_1880 : decode cL_law 1880 = .ok (.invokevirtual 197, 3) := by decide +kernel
theorem dL_law_1883 : decode cL_law 1883 = .ok (.istore 6, 2) := by decide +kernel
theorem dL_law_1885 : decode cL_law 1885 = .ok (.aload_n 2, 1) := by decide +kernel
theorem dL_law_1886 : decode cL_law 1886 = .ok (.invokevirtual 119, 3) := by decide +kernel
theorem dL_law_1889 : decode cL_law 1889 = .ok (.iload 5, 2) := by decide +kernel
theorem dL_law_1891 : decode cL_law 1891 = .ok (.if_icmp .eq 5, 3) := by decide +kernel
theorem dL_law_1894 : decode cL_law 1894 = .ok (.iconst 0, 1) := by decide +kernel
theorem dL_law_1895 : decode cL_law 1895 = .ok (.ireturn, 1) := by decide +kernel
theorem dL_law_1896 : decode cL_law 1896 = .ok (.iload 5, 2) := by decide +kernel
theorem dL_law_1898 : decode cL_law 1898 = .ok (.ifCond .ne 15, 3) := by decide +kernel
theorem dL_law_1901 : decode cL_law 1901 = .ok (.aload_n 3, 1) := by decide +kernel
theorem dL_law_1902 : decode cL_law 1902 = .ok (.iconst 0, 1) := by decide +kernel
theorem dL_law_1903 : decode cL_law 1903 = .ok (.laload, 1) := by decide +kernel
theorem dL_law_1904 : decode cL_law 1904 = .ok (.iload 6, 2) := by decide +kernel
theorem dL_law_1906 : decode cL_law 1906 = .ok (.i2l, 1) := by decide +kernel
theorem dL_law_1907 : decode cL_law 1907 = .ok (.lcmp, 1) := by decide +kernel
theorem dL_law_1908 : decode cL_law 1908 = .ok (.ifCond .eq 5, 3) := by decide +kernel
theorem dL_law_1911 : decode cL_law 1911 = .ok (.iconst 0, 1) := by decide +kernel
theorem dL_law_1912 : decode cL_law 1912 = .ok (.ireturn, 1) := by decide +kernel
theorem dL_law_1913 : decode cL_law 1913 = .ok (.goto 386, 3) := by decide +kernel
theorem dL_law_1916 : decode cL_law 1916 = .ok (.aload_n 1, 1) := by decide +kernel
theorem dL_law_1917 : decode cL_law 1917 = .ok (.aload_n 0, 1) := by decide +kernel
theorem dL_law_1918 : decode cL_law 1918 = .ok (.iload 4, 2) := by decide +kernel
theorem dL_law_1920 : decode cL_law 1920 = .ok (.iconst 1, 1) := by decide +kernel
theorem dL_law_1921 : decode cL_law 1921 = .ok (.iadd, 1) := by decide +kernel
theorem dL_law_1922 : decode cL_law 1922 = .ok (.iaload, 1) := by decide +kernel
theorem dL_law_1923 : decode cL_law 1923 = .ok (.aload_n 3, 1) := by decide +kernel
theorem dL_law_1924 : decode cL_law 1924 = .ok (.invokestatic 198, 3) := by decide +kernel
theorem dL_law_1927 : decode cL_law 1927 = .ok (.istore 5, 2) := by decide +kernel
theorem dL_law_1929 : decode cL_law 1929 = .ok (.aload_n 2, 1) := by decide +kernel
theorem dL_law_1930 : decode cL_law 1930 = .ok (.aload_n 0, 1) := by decide +kernel
theorem dL_law_1931 : decode cL_law 1931 = .ok (.iload 4, 2) := by decide +kernel
theorem dL_law_1933 : decode cL_law 1933 = .ok (.iconst 1, 1) := by decide +kernel
theorem dL_law_1934 : decode cL_law 1934 = .ok (.iadd, 1) := by decide +kernel
theorem dL_law_1935 : decode cL_law 1935 = .ok (.iaload, 1) := by decide +kernel
theorem dL_law_1936 : decode cL_law 1936 = .ok (.invokevirtual 200, 3) := by decide +kernel
theorem dL_law_1939 : decode cL_law 1939 = .ok (.istore 6, 2) := by decide +kernel
theorem dL_law_1941 : decode cL_law 1941 = .ok (.aload_n 2, 1) := by decide +kernel
theorem dL_law_1942 : decode cL_law 1942 = .ok (.invokevirtual 119, 3) := by decide +kernel
theorem dL_law_1945 : decode cL_law 1945 = .ok (.iload 5, 2) := by decide +kernel
theorem dL_law_1947 : decode cL_law 1947 = .ok (.if_icmp .eq 5, 3) := by decide +kernel
theorem dL_law_1950 : decode cL_law 1950 = .ok (.iconst 0, 1) := by decide +kernel
theorem dL_law_1951 : decode cL_law 1951 = .ok (.ireturn, 1) := by decide +kernel
theorem dL_law_1952 : decode cL_law 1952 = .ok (.iload 5, 2) := by decide +kernel
theorem dL_law_1954 : decode cL_law 1954 = .ok (.ifCond .ne 15, 3) := by decide +kernel
theorem dL_law_1957 : decode cL_law 1957 = .ok (.aload_n 3, 1) := by decide +kernel
theorem dL_law_1958 : decode cL_law 1958 = .ok (.iconst 0, 1) := by decide +kernel
theorem dL_law_1959 : decode cL_law 1959 = .ok (.laload, 1) := by decide +kernel
theorem dL_law_1960 : decode cL_law 1960 = .ok (.iload 6, 2) := by decide +kernel
theorem dL_law_1962 : decode cL_law 1962 = .ok (.i2l, 1) := by decide +kernel
theorem dL_law_1963 : decode cL_law 1963 = .ok (.lcmp, 1) := by decide +kernel
theorem dL_law_1964 : decode cL_law 1964 = .ok (.ifCond .eq 5, 3) := by decide +kernel
theorem dL_law_1967 : decode cL_law 1967 = .ok (.iconst 0, 1) := by decide +kernel
theorem dL_law_1968 : decode cL_law 1968 = .ok (.ireturn, 1) := by decide +kernel
theorem dL_law_1969 : decode cL_law 1969 = .ok (.goto 330, 3) := by decide +kernel
theorem dL_law_1972 : decode cL_law 1972 = .ok (.aload_n 1, 1) := by decide +kernel
theorem dL_law_1973 : decode cL_law 1973 = .ok (.invokevirtual 201, 3) := by decide +kernel
theorem dL_law_1976 : decode cL_law 1976 = .ok (.dstore 5, 2) := by decide +kernel
theorem dL_law_1978 : decode cL_law 1978 = .ok (.aload_n 2, 1) := by decide +kernel
theorem dL_law_1979 : decode cL_law 1979 = .ok (.invokevirtual 205, 3) := by decide +kernel
theorem dL_law_1982 : decode cL_law 1982 = .ok (.dstore 7, 2) := by decide +kernel
theorem dL_law_1984 : decode cL_law 1984 = .ok (.dload 5, 2) := by decide +kernel
theorem dL_law_1986 : decode cL_law 1986 = .ok (.dload 7, 2) := by decide +kernel
theorem dL_law_1988 : decode cL_law 1988 = .ok (.dcmp .l, 1) := by decide +kernel
theorem dL_law_1989 : decode cL_law 1989 = .ok (.ifCond .eq 21, 3) := by decide +kernel
theorem dL_law_1992 : decode cL_law 1992 = .ok (.dload 5, 2) := by decide +kernel
theorem dL_law_1994 : decode cL_law 1994 = .ok (.dload 5, 2) := by decide +kernel
theorem dL_law_1996 : decode cL_law 1996 = .ok (.dcmp .l, 1) := by decide +kernel
theorem dL_law_1997 : decode cL_law 1997 = .ok (.ifCond .eq 11, 3) := by decide +kernel
theorem dL_law_2000 : decode cL_law 2000 = .ok (.dload 7, 2) := by decide +kernel
theorem dL_law_2002 : decode cL_law 2002 = .ok (.dload 7, 2) := by decide +kernel
theorem dL_law_2004 : decode cL_law 2004 = .ok (.dcmp .l, 1) := by decide +kernel
theorem dL_law_2005 : decode cL_law 2005 = .ok (.ifCond .ne 5, 3) := by decide +kernel
theorem dL_law_2008 : decode cL_law 2008 = .ok (.iconst 0, 1) := by decide +kernel
theorem dL_law_2009 : decode cL_law 2009 = .ok (.ireturn, 1) := by decide +kernel
theorem dL_law_2010 : decode cL_law 2010 = .ok (.goto 289, 3) := by decide +kernel
theorem dL_law_2013 : decode cL_law 2013 = .ok (.aload_n 1, 1) := by decide +kernel
theorem dL_law_2014 : decode cL_law 2014 = .ok (.aload_n 0, 1) := by decide +kernel
theorem dL_law_2015 : decode cL_law 2015 = .ok (.iload 4, 2) := by decide +kernel
theorem dL_law_2017 : decode cL_law 2017 = .ok (.iconst 1, 1) := by decide +kernel
theorem dL_law_2018 : decode cL_law 2018 = .ok (.iadd, 1) := by decide +kernel
theorem dL_law_2019 : decode cL_law 2019 = .ok (.iaload, 1) := by decide +kernel
theorem dL_law_2020 : decode cL_law 2020 = .ok (.aload_n 0, 1) := by decide +kernel
theorem dL_law_2021 : decode cL_law 2021 = .ok (.iload 4, 2) := by decide +kernel
theorem dL_law_2023 : decode cL_law 2023 = .ok (.iconst 2, 1) := by decide +kernel
theorem dL_law_2024 : decode cL_law 2024 = .ok (.iadd, 1) := by decide +kernel
theorem dL_law_2025 : decode cL_law 2025 = .ok (.iaload, 1) := by decide +kernel
theorem dL_law_2026 : decode cL_law 2026 = .ok (.aload_n 0, 1) := by decide +kernel
theorem dL_law_2027 : decode cL_law 2027 = .ok (.iload 4, 2) := by decide +kernel
theorem dL_law_2029 : decode cL_law 2029 = .ok (.iconst 3, 1) := by decide +kernel
theorem dL_law_2030 : decode cL_law 2030 = .ok (.iadd, 1) := by decide +kernel
theorem dL_law_2031 : decode cL_law 2031 = .ok (.iaload, 1) := by decide +kernel
theorem dL_law_2032 : decode cL_law 2032 = .ok (.aload_n 3, 1) := by decide +kernel
theorem dL_law_2033 : decode cL_law 2033 = .ok (.invokestatic 206, 3) := by decide +kernel
theorem dL_law_2036 : decode cL_law 2036 = .ok (.istore 5, 2) := by decide +kernel
theorem dL_law_2038 : decode cL_law 2038 = .ok (.aload_n 2, 1) := by decide +kernel
theorem dL_law_2039 : decode cL_law 2039 = .ok (.aload_n 0, 1) := by decide +kernel
theorem dL_law_2040 : decode cL_law 2040 = .ok (.iload 4, 2) := by decide +kernel
theorem dL_law_2042 : decode cL_law 2042 = .ok (.iconst 1, 1) := by decide +kernel
theorem dL_law_2043 : decode cL_law 2043 = .ok (.iadd, 1) := by decide +kernel
theorem dL_law_2044 : decode cL_law 2044 = .ok (.iaload, 1) := by decide +kernel
theorem dL_law_2045 : decode cL_law 2045 = .ok (.aload_n 0, 1) := by decide +kernel
theorem dL_law_2046 : decode cL_law 2046 = .ok (.iload 4, 2) := by decide +kernel
theorem dL_law_2048 : decode cL_law 2048 = .ok (.iconst 2, 1) := by decide +kernel
theorem dL_law_2049 : decode cL_law 2049 = .ok (.iadd, 1) := by decide +kernel
theorem dL_law_2050 : decode cL_law 2050 = .ok (.iaload, 1) := by decide +kernel
theorem dL_law_2051 : decode cL_law 2051 = .ok (.aload_n 0, 1) := by decide +kernel
theorem dL_law_2052 : decode cL_law 2052 = .ok (.iload 4, 2) := by decide +kernel
theorem dL_law_2054 : decode cL_law 2054 = .ok (.iconst 3, 1) := by decide +kernel
theorem dL_law_2055 : decode cL_law 2055 = .ok (.iadd, 1) := by decide +kernel
theorem dL_law_2056 : decode cL_law 2056 = .ok (.iaload, 1) := by decide +kernel
theorem dL_law_2057 : decode cL_law 2057 = .ok (.invokevirtual 208, 3) := by decide +kernel
theorem dL_law_2060 : decode cL_law 2060 = .ok (.istore 6, 2) := by decide +kernel
theorem dL_law_2062 : decode cL_law 2062 = .ok (.aload_n 2, 1) := by decide +kernel
theorem dL_law_2063 : decode cL_law 2063 = .ok (.invokevirtual 119, 3) := by decide +kernel
theorem dL_law_2066 : decode cL_law 2066 = .ok (.iload 5, 2) := by decide +kernel
theorem dL_law_2068 : decode cL_law 2068 = .ok (.if_icmp .eq 5, 3) := by decide +kernel
theorem dL_law_2071 : decode cL_law 2071 = .ok (.iconst 0, 1) := by decide +kernel
theorem dL_law_2072 : decode cL_law 2072 = .ok (.ireturn, 1) := by decide +kernel
theorem dL_law_2073 : decode cL_law 2073 = .ok (.iload 5, 2) := by decide +kernel
theorem dL_law_2075 : decode cL_law 2075 = .ok (.ifCond .ne 15, 3) := by decide +kernel
theorem dL_law_2078 : decode cL_law 2078 = .ok (.aload_n 3, 1) := by decide +kernel
theorem dL_law_2079 : decode cL_law 2079 = .ok (.iconst 0, 1) := by decide +kernel
theorem dL_law_2080 : decode cL_law 2080 = .ok (.laload, 1) := by decide +kernel
theorem dL_law_2081 : decode cL_law 2081 = .ok (.iload 6, 2) := by decide +kernel
theorem dL_law_2083 : decode cL_law 2083 = .ok (.i2l, 1) := by decide +kernel
theorem dL_law_2084 : decode cL_law 2084 = .ok (.lcmp, 1) := by decide +kernel
theorem dL_law_2085 : decode cL_law 2085 = .ok (.ifCond .eq 5, 3) := by decide +kernel
theorem dL_law_2088 : decode cL_law 2088 = .ok (.iconst 0, 1) := by decide +kernel
theorem dL_law_2089 : decode cL_law 2089 = .ok (.ireturn, 1) := by decide +kernel
theorem dL_law_2090 : decode cL_law 2090 = .ok (.goto 209, 3) := by decide +kernel
theorem dL_law_2093 : decode cL_law 2093 = .ok (.aload_n 1, 1) := by decide +kernel
theorem dL_law_2094 : decode cL_law 2094 = .ok (.aload_n 0, 1) := by decide +kernel
theorem dL_law_2095 : decode cL_law 2095 = .ok (.iload 4, 2) := by decide +kernel
theorem dL_law_2097 : decode cL_law 2097 = .ok (.iconst 1, 1) := by decide +kernel
theorem dL_law_2098 : decode cL_law 2098 = .ok (.iadd, 1) := by decide +kernel
theorem dL_law_2099 : decode cL_law 2099 = .ok (.iaload, 1) := by decide +kernel
theorem dL_law_2100 : decode cL_law 2100 = .ok (.aload_n 3, 1) := by decide +kernel
theorem dL_law_2101 : decode cL_law 2101 = .ok (.invokestatic 209, 3) := by decide +kernel
theorem dL_law_2104 : decode cL_law 2104 = .ok (.istore 5, 2) := by decide +kernel
theorem dL_law_2106 : decode cL_law 2106 = .ok (.aload_n 2, 1) := by decide +kernel
theorem dL_law_2107 : decode cL_law 2107 = .ok (.aload_n 0, 1) := by decide +kernel
theorem dL_law_2108 : decode cL_law 2108 = .ok (.iload 4, 2) := by decide +kernel
theorem dL_law_2110 : decode cL_law 2110 = .ok (.iconst 1, 1) := by decide +kernel
theorem dL_law_2111 : decode cL_law 2111 = .ok (.iadd, 1) := by decide +kernel
theorem dL_law_2112 : decode cL_law 2112 = .ok (.iaload, 1) := by decide +kernel
theorem dL_law_2113 : decode cL_law 2113 = .ok (.invokevirtual 211, 3) := by decide +kernel
theorem dL_law_2116 : decode cL_law 2116 = .ok (.istore 6, 2) := by decide +kernel
theorem dL_law_2118 : decode cL_law 2118 = .ok (.aload_n 2, 1) := by decide +kernel
theorem dL_law_2119 : decode cL_law 2119 = .ok (.invokevirtual 119, 3) := by decide +kernel
theorem dL_law_2122 : decode cL_law 2122 = .ok (.iload 5, 2) := by decide +kernel
theorem dL_law_2124 : decode cL_law 2124 = .ok (.if_icmp .eq 5, 3) := by decide +kernel
theorem dL_law_2127 : decode cL_law 2127 = .ok (.iconst 0, 1) := by decide +kernel
theorem dL_law_2128 : decode cL_law 2128 = .ok (.ireturn, 1) := by decide +kernel
theorem dL_law_2129 : decode cL_law 2129 = .ok (.iload 5, 2) := by decide +kernel
theorem dL_law_2131 : decode cL_law 2131 = .ok (.ifCond .ne 15, 3) := by decide +kernel
theorem dL_law_2134 : decode cL_law 2134 = .ok (.aload_n 3, 1) := by decide +kernel
theorem dL_law_2135 : decode cL_law 2135 = .ok (.iconst 0, 1) := by decide +kernel
theorem dL_law_2136 : decode cL_law 2136 = .ok (.laload, 1) := by decide +kernel
theorem dL_law_2137 : decode cL_law 2137 = .ok (.iload 6, 2) := by decide +kernel
theorem dL_law_2139 : decode cL_law 2139 = .ok (.i2l, 1) := by decide +kernel
theorem dL_law_2140 : decode cL_law 2140 = .ok (.lcmp, 1) := by decide +kernel
theorem dL_law_2141 : decode cL_law 2141 = .ok (.ifCond .eq 5, 3) := by decide +kernel
theorem dL_law_2144 : decode cL_law 2144 = .ok (.iconst 0, 1) := by decide +kernel
theorem dL_law_2145 : decode cL_law 2145 = .ok (.ireturn, 1) := by decide +kernel
theorem dL_law_2146 : decode cL_law 2146 = .ok (.goto 153, 3) := by decide +kernel
theorem dL_law_2149 : decode cL_law 2149 = .ok (.aload_n 1, 1) := by decide +kernel
theorem dL_law_2150 : decode cL_law 2150 = .ok (.aload_n 0, 1) := by decide +kernel
theorem dL_law_2151 : decode cL_law 2151 = .ok (.iload 4, 2) := by decide +kernel
theorem dL_law_2153 : decode cL_law 2153 = .ok (.iconst 1, 1) := by decide +kernel
theorem dL_law_2154 : decode cL_law 2154 = .ok (.iadd, 1) := by decide +kernel
theorem dL_law_2155 : decode cL_law 2155 = .ok (.iaload, 1) := by decide +kernel
theorem dL_law_2156 : decode cL_law 2156 = .ok (.aload_n 0, 1) := by decide +kernel
theorem dL_law_2157 : decode cL_law 2157 = .ok (.iload 4, 2) := by decide +kernel
theorem dL_law_2159 : decode cL_law 2159 = .ok (.iconst 2, 1) := by decide +kernel
theorem dL_law_2160 : decode cL_law 2160 = .ok (.iadd, 1) := by decide +kernel
theorem dL_law_2161 : decode cL_law 2161 = .ok (.iaload, 1) := by decide +kernel
theorem dL_law_2162 : decode cL_law 2162 = .ok (.aload_n 0, 1) := by decide +kernel
theorem dL_law_2163 : decode cL_law 2163 = .ok (.iload 4, 2) := by decide +kernel
theorem dL_law_2165 : decode cL_law 2165 = .ok (.iconst 3, 1) := by decide +kernel
theorem dL_law_2166 : decode cL_law 2166 = .ok (.iadd, 1) := by decide +kernel
theorem dL_law_2167 : decode cL_law 2167 = .ok (.iaload, 1) := by decide +kernel
theorem dL_law_2168 : decode cL_law 2168 = .ok (.aload_n 3, 1) := by decide +kernel
theorem dL_law_2169 : decode cL_law 2169 = .ok (.invokestatic 212, 3) := by decide +kernel
theorem dL_law_2172 : decode cL_law 2172 = .ok (.istore 5, 2) := by decide +kernel
theorem dL_law_2174 : decode cL_law 2174 = .ok (.aload_n 2, 1) := by decide +kernel
theorem dL_law_2175 : decode cL_law 2175 = .ok (.aload_n 0, 1) := by decide +kernel
theorem dL_law_2176 : decode cL_law 2176 = .ok (.iload 4, 2) := by decide +kernel
theorem dL_law_2178 : decode cL_law 2178 = .ok (.iconst 1, 1) := by decide +kernel
theorem dL_law_2179 : decode cL_law 2179 = .ok (.iadd, 1) := by decide +kernel
theorem dL_law_2180 : decode cL_law 2180 = .ok (.iaload, 1) := by decide +kernel
theorem dL_law_2181 : decode cL_law 2181 = .ok (.aload_n 0, 1) := by decide +kernel
theorem dL_law_2182 : decode cL_law 2182 = .ok (.iload 4, 2) := by decide +kernel
theorem dL_law_2184 : decode cL_law 2184 = .ok (.iconst 2, 1) := by decide +kernel
theorem dL_law_2185 : decode cL_law 2185 = .ok (.iadd, 1) := by decide +kernel
theorem dL_law_2186 : decode cL_law 2186 = .ok (.iaload, 1) := by decide +kernel
theorem dL_law_2187 : decode cL_law 2187 = .ok (.aload_n 0, 1) := by decide +kernel
theorem dL_law_2188 : decode cL_law 2188 = .ok (.iload 4, 2) := by decide +kernel
theorem dL_law_2190 : decode cL_law 2190 = .ok (.iconst 3, 1) := by decide +kernel
theorem dL_law_2191 : decode cL_law 2191 = .ok (.iadd, 1) := by decide +kernel
theorem dL_law_2192 : decode cL_law 2192 = .ok (.iaload, 1) := by decide +kernel
theorem dL_law_2193 : decode cL_law 2193 = .ok (.invokevirtual 214, 3) := by decide +kernel
theorem dL_law_2196 : decode cL_law 2196 = .ok (.istore 6, 2) := by decide +kernel
theorem dL_law_2198 : decode cL_law 2198 = .ok (.aload_n 2, 1) := by decide +kernel
theorem dL_law_2199 : decode cL_law 2199 = .ok (.invokevirtual 119, 3) := by decide +kernel
theorem dL_law_2202 : decode cL_law 2202 = .ok (.iload 5, 2) := by decide +kernel
theorem dL_law_2204 : decode cL_law 2204 = .ok (.if_icmp .eq 5, 3) := by decide +kernel
theorem dL_law_2207 : decode cL_law 2207 = .ok (.iconst 0, 1) := by decide +kernel
theorem dL_law_2208 : decode cL_law 2208 = .ok (.ireturn, 1) := by decide +kernel
theorem dL_law_2209 : decode cL_law 2209 = .ok (.iload 5, 2) := by decide +kernel
theorem dL_law_2211 : decode cL_law 2211 = .ok (.ifCond .ne 15, 3) := by decide +kernel
theorem dL_law_2214 : decode cL_law 2214 = .ok (.aload_n 3, 1) := by decide +kernel
theorem dL_law_2215 : decode cL_law 2215 = .ok (.iconst 0, 1) := by decide +kernel
theorem dL_law_2216 : decode cL_law 2216 = .ok (.laload, 1) := by decide +kernel
theorem dL_law_2217 : decode cL_law 2217 = .ok (.iload 6, 2) := by decide +kernel
theorem dL_law_2219 : decode cL_law 2219 = .ok (.i2l, 1) := by decide +kernel
theorem dL_law_2220 : decode cL_law 2220 = .ok (.lcmp, 1) := by decide +kernel
theorem dL_law_2221 : decode cL_law 2221 = .ok (.ifCond .eq 5, 3) := by decide +kernel
theorem dL_law_2224 : decode cL_law 2224 = .ok (.iconst 0, 1) := by decide +kernel
theorem dL_law_2225 : decode cL_law 2225 = .ok (.ireturn, 1) := by decide +kernel
theorem dL_law_2226 : decode cL_law 2226 = .ok (.goto 73, 3) := by decide +kernel
theorem dL_law_2229 : decode cL_law 2229 = .ok (.aload_n 1, 1) := by decide +kernel
theorem dL_law_2230 : decode cL_law 2230 = .ok (.aload_n 0, 1) := by decide +kernel
theorem dL_law_2231 : decode cL_law 2231 = .ok (.iload 4, 2) := by decide +kernel
theorem dL_law_2233 : decode cL_law 2233 = .ok (.iconst 1, 1) := by decide +kernel
theorem dL_law_2234 : decode cL_law 2234 = .ok (.iadd, 1) := by decide +kernel
theorem dL_law_2235 : decode cL_law 2235 = .ok (.iaload, 1) := by decide +kernel
theorem dL_law_2236 : decode cL_law 2236 = .ok (.aload_n 3, 1) := by decide +kernel
theorem dL_law_2237 : decode cL_law 2237 = .ok (.invokestatic 215, 3) := by decide +kernel
theorem dL_law_2240 : decode cL_law 2240 = .ok (.istore 5, 2) := by decide +kernel
theorem dL_law_2242 : decode cL_law 2242 = .ok (.aload_n 2, 1) := by decide +kernel
theorem dL_law_2243 : decode cL_law 2243 = .ok (.aload_n 0, 1) := by decide +kernel
theorem dL_law_2244 : decode cL_law 2244 = .ok (.iload 4, 2) := by decide +kernel
theorem dL_law_2246 : decode cL_law 2246 = .ok (.iconst 1, 1) := by decide +kernel
theorem dL_law_2247 : decode cL_law 2247 = .ok (.iadd, 1) := by decide +kernel
theorem dL_law_2248 : decode cL_law 2248 = .ok (.iaload, 1) := by decide +kernel
theorem dL_law_2249 : decode cL_law 2249 = .ok (.invokevirtual 217, 3) := by decide +kernel
theorem dL_law_2252 : decode cL_law 2252 = .ok (.istore 6, 2) := by decide +kernel
theorem dL_law_2254 : decode cL_law 2254 = .ok (.aload_n 2, 1) := by decide +kernel
theorem dL_law_2255 : decode cL_law 2255 = .ok (.invokevirtual 119, 3) := by decide +kernel
theorem dL_law_2258 : decode cL_law 2258 = .ok (.iload 5, 2) := by decide +kernel
theorem dL_law_2260 : decode cL_law 2260 = .ok (.if_icmp .eq 5, 3) := by decide +kernel
theorem dL_law_2263 : decode cL_law 2263 = .ok (.iconst 0, 1) := by decide +kernel
theorem dL_law_2264 : decode cL_law 2264 = .ok (.ireturn, 1) := by decide +kernel
theorem dL_law_2265 : decode cL_law 2265 = .ok (.iload 5, 2) := by decide +kernel
theorem dL_law_2267 : decode cL_law 2267 = .ok (.ifCond .ne 15, 3) := by decide +kernel
theorem dL_law_2270 : decode cL_law 2270 = .ok (.aload_n 3, 1) := by decide +kernel
theorem dL_law_2271 : decode cL_law 2271 = .ok (.iconst 0, 1) := by decide +kernel
theorem dL_law_2272 : decode cL_law 2272 = .ok (.laload, 1) := by decide +kernel
theorem dL_law_2273 : decode cL_law 2273 = .ok (.iload 6, 2) := by decide +kernel
theorem dL_law_2275 : decode cL_law 2275 = .ok (.i2l, 1) := by decide +kernel
theorem dL_law_2276 : decode cL_law 2276 = .ok (.lcmp, 1) := by decide +kernel
theorem dL_law_2277 : decode cL_law 2277 = .ok (.ifCond .eq 5, 3) := by decide +kernel
theorem dL_law_2280 : decode cL_law 2280 = .ok (.iconst 0, 1) := by decide +kernel
theorem dL_law_2281 : decode cL_law 2281 = .ok (.ireturn, 1) := by decide +kernel
theorem dL_law_2282 : decode cL_law 2282 = .ok (.goto 17, 3) := by decide +kernel
theorem dL_law_2285 : decode cL_law 2285 = .ok (.aload_n 1, 1) := by decide +kernel
theorem dL_law_2286 : decode cL_law 2286 = .ok (.invokevirtual 218, 3) := by decide +kernel
theorem dL_law_2289 : decode cL_law 2289 = .ok (.aload_n 2, 1) := by decide +kernel
theorem dL_law_2290 : decode cL_law 2290 = .ok (.invokevirtual 222, 3) := by decide +kernel
theorem dL_law_2293 : decode cL_law 2293 = .ok (.lcmp, 1) := by decide +kernel
theorem dL_law_2294 : decode cL_law 2294 = .ok (.ifCond .eq 5, 3) := by decide +kernel
theorem dL_law_2297 : decode cL_law 2297 = .ok (.iconst 0, 1) := by decide +kernel
theorem dL_law_2298 : decode cL_law 2298 = .ok (.ireturn, 1) := by decide +kernel
theorem dL_law_2299 : decode cL_law 2299 = .ok (.iinc 4 5, 3) := by decide +kernel
theorem dL_law_2302 : decode cL_law 2302 = .ok (.goto (-2279), 3) := by decide +kernel
theorem dL_law_2305 : decode cL_law 2305 = .ok (.iconst 1, 1) := by decide +kernel
theorem dL_law_2306 : decode cL_law 2306 = .ok (.ireturn, 1) := by decide +kernel
abbrev vwCl : List vw_C := [(RJx35411, TJx35411, 4), (RJx4a65c, TJx4a65c, 3), (RX0, TX0, 4), (RX1, TX1, 16), (RX2, TX2, 8), (RX3, TX3, 3), (RX4, TX4, 12), (RX5, TX5, 15), (RX6, TX6, 7), (RX7, TX7, 3), (RX8, TX8, 10)]
