section
-- ===== PART A: goes FIRST, ahead of the names: the tables' words, and 'selects' of the private methods out of them =====
/-- a private method of a class that the tables say can be made, by its rows of tables_1 -/
def lw_okq (q : MethodName × Nat) : Prop := (q.1.cls ≠ "java/lang/invoke/MethodHandle" ∧ q.1.cls ≠ "java/lang/invoke/VarHandle") ∧ Cond.instantiable q.1.cls q.2 ∈ tables_1 ∧ Cond.privateMethod q.1 ∈ tables_1 ∧ Cond.instanceMethod q.1 ∈ tables_1
theorem lw_p0 : lw_okq (⟨"java/lang/Throwable", "fillInStackTrace", "(I)Ljava/lang/Throwable;"⟩, 6) := ⟨⟨by decide +kernel, by decide +kernel⟩, List.mem_of_getElem? (i := 258) (by decide +kernel), List.mem_of_getElem? (i := 256) (by decide +kernel), List.mem_of_getElem? (i := 257) (by decide +kernel)⟩
theorem lw_p1 : lw_okq (⟨"FlushGarden", "sectionAt", "(I)LFlushGarden$Section;"⟩, 12) := ⟨⟨by decide +kernel, by decide +kernel⟩, List.mem_of_getElem? (i := 14) (by decide +kernel), List.mem_of_getElem? (i := 305) (by decide +kernel), List.mem_of_getElem? (i := 306) (by decide +kernel)⟩
theorem lw_p2 : lw_okq (⟨"FlushGarden", "newLot", "()LFlushGarden$Lot;"⟩, 12) := ⟨⟨by decide +kernel, by decide +kernel⟩, List.mem_of_getElem? (i := 14) (by decide +kernel), List.mem_of_getElem? (i := 334) (by decide +kernel), List.mem_of_getElem? (i := 335) (by decide +kernel)⟩
theorem lw_p3 : lw_okq (⟨"FlushGarden", "lotAt", "(I)LFlushGarden$Lot;"⟩, 12) := ⟨⟨by decide +kernel, by decide +kernel⟩, List.mem_of_getElem? (i := 14) (by decide +kernel), List.mem_of_getElem? (i := 346) (by decide +kernel), List.mem_of_getElem? (i := 347) (by decide +kernel)⟩
theorem lw_p4 : lw_okq (⟨"FlushGarden", "countLots", "(I)I"⟩, 12) := ⟨⟨by decide +kernel, by decide +kernel⟩, List.mem_of_getElem? (i := 14) (by decide +kernel), List.mem_of_getElem? (i := 387) (by decide +kernel), List.mem_of_getElem? (i := 388) (by decide +kernel)⟩
theorem lw_p5 : lw_okq (⟨"FlushGarden", "dryOfAll", "()I"⟩, 12) := ⟨⟨by decide +kernel, by decide +kernel⟩, List.mem_of_getElem? (i := 14) (by decide +kernel), List.mem_of_getElem? (i := 391) (by decide +kernel), List.mem_of_getElem? (i := 392) (by decide +kernel)⟩
theorem lw_p6 : lw_okq (⟨"FlushGarden", "digestLot", "(JI)J"⟩, 12) := ⟨⟨by decide +kernel, by decide +kernel⟩, List.mem_of_getElem? (i := 14) (by decide +kernel), List.mem_of_getElem? (i := 463) (by decide +kernel), List.mem_of_getElem? (i := 464) (by decide +kernel)⟩
theorem lw_p7 : lw_okq (⟨"FlushGarden", "winnerOf", "(LFlushGarden$Lot;)I"⟩, 12) := ⟨⟨by decide +kernel, by decide +kernel⟩, List.mem_of_getElem? (i := 14) (by decide +kernel), List.mem_of_getElem? (i := 509) (by decide +kernel), List.mem_of_getElem? (i := 510) (by decide +kernel)⟩
theorem lw_p8 : lw_okq (⟨"FlushGarden", "mayBuy", "(LFlushGarden$Lot;I)Z"⟩, 12) := ⟨⟨by decide +kernel, by decide +kernel⟩, List.mem_of_getElem? (i := 14) (by decide +kernel), List.mem_of_getElem? (i := 513) (by decide +kernel), List.mem_of_getElem? (i := 514) (by decide +kernel)⟩
theorem lw_p9 : lw_okq (⟨"FlushGarden", "priceFor", "(LFlushGarden$Lot;I)I"⟩, 12) := ⟨⟨by decide +kernel, by decide +kernel⟩, List.mem_of_getElem? (i := 14) (by decide +kernel), List.mem_of_getElem? (i := 524) (by decide +kernel), List.mem_of_getElem? (i := 525) (by decide +kernel)⟩
theorem lw_p10 : lw_okq (⟨"FlushGarden", "tasterAt", "(I)LFlushGarden$Taster;"⟩, 12) := ⟨⟨by decide +kernel, by decide +kernel⟩, List.mem_of_getElem? (i := 14) (by decide +kernel), List.mem_of_getElem? (i := 533) (by decide +kernel), List.mem_of_getElem? (i := 534) (by decide +kernel)⟩
theorem lw_p11 : lw_okq (⟨"FlushGarden", "madeLotAt", "(I)LFlushGarden$Lot;"⟩, 12) := ⟨⟨by decide +kernel, by decide +kernel⟩, List.mem_of_getElem? (i := 14) (by decide +kernel), List.mem_of_getElem? (i := 590) (by decide +kernel), List.mem_of_getElem? (i := 591) (by decide +kernel)⟩
def lw_privs_1 : List (MethodName × Nat) := [(⟨"java/lang/Throwable", "fillInStackTrace", "(I)Ljava/lang/Throwable;"⟩, 6), (⟨"FlushGarden", "sectionAt", "(I)LFlushGarden$Section;"⟩, 12), (⟨"FlushGarden", "newLot", "()LFlushGarden$Lot;"⟩, 12), (⟨"FlushGarden", "lotAt", "(I)LFlushGarden$Lot;"⟩, 12), (⟨"FlushGarden", "countLots", "(I)I"⟩, 12), (⟨"FlushGarden", "dryOfAll", "()I"⟩, 12), (⟨"FlushGarden", "digestLot", "(JI)J"⟩, 12), (⟨"FlushGarden", "winnerOf", "(LFlushGarden$Lot;)I"⟩, 12), (⟨"FlushGarden", "mayBuy", "(LFlushGarden$Lot;I)Z"⟩, 12), (⟨"FlushGarden", "priceFor", "(LFlushGarden$Lot;I)I"⟩, 12), (⟨"FlushGarden", "tasterAt", "(I)LFlushGarden$Taster;"⟩, 12), (⟨"FlushGarden", "madeLotAt", "(I)LFlushGarden$Lot;"⟩, 12)]
theorem lw_r1 : ∀ q ∈ lw_privs_1, lw_okq q := List.forall_mem_cons.mpr ⟨lw_p0, List.forall_mem_cons.mpr ⟨lw_p1, List.forall_mem_cons.mpr ⟨lw_p2, List.forall_mem_cons.mpr ⟨lw_p3, List.forall_mem_cons.mpr ⟨lw_p4, List.forall_mem_cons.mpr ⟨lw_p5, List.forall_mem_cons.mpr ⟨lw_p6, List.forall_mem_cons.mpr ⟨lw_p7, List.forall_mem_cons.mpr ⟨lw_p8, List.forall_mem_cons.mpr ⟨lw_p9, List.forall_mem_cons.mpr ⟨lw_p10, List.forall_mem_cons.mpr ⟨lw_p11, fun _ h => absurd h List.not_mem_nil⟩⟩⟩⟩⟩⟩⟩⟩⟩⟩⟩⟩
def lw_privs : List (MethodName × Nat) := lw_privs_1
def lw_tbl : List Cond := k2_sels lw_privs ++ tables_1
theorem lw_privs_ok : ∀ q ∈ lw_privs, lw_okq q := lw_r1
/-- the streams that the claim lets the run draw from -/
abbrev lw_cs : List Choice := [Jvm.Choice.named "NaN.bits"]
theorem lw_bits : nanBits ∈ lw_cs := by first | decide | exact List.mem_cons_self | simp [lw_cs, nanBits]
end
section
def RX0 : String := "FlushGarden$Auction"
def TX0 : u_T := fun k => match k with
  | 0 => ("FlushGarden$Auction", "reserve", "I", false)
  | 1 => ("FlushGarden$Auction", "turns", "I", false)
  | 2 => ("FlushGarden$Auction", "prices", "[I", true)
  | _ => ("FlushGarden$Auction", "turnOf", "[I", true)
def tyX0 : Nat → FieldType := fun k => match k with
  | 0 => .int
  | 1 => .int
  | 2 => .array .int
  | _ => .array .int
theorem nmX0 : ∀ a, a < 4 → ∀ b, b < 4 → a ≠ b → (TX0 a).2.1 ≠ (TX0 b).2.1 := by decide +kernel
theorem tyX0_ok : ∀ k, k < 4 → parseFieldDescriptor (TX0 k).2.2.1 = some (tyX0 k) := by decide +kernel
abbrev cX0_init : ByteArray := prog_2_method_1_code
def yX0_init : MethodName := ⟨RX0, "<init>", "()V"⟩
abbrev cX0_isOpen : ByteArray := prog_2_method_2_code
def yX0_isOpen : MethodName := ⟨RX0, "isOpen", "()Z"⟩
abbrev cX0_hasBid : ByteArray := prog_2_method_3_code
def yX0_hasBid : MethodName := ⟨RX0, "hasBid", "(I)Z"⟩
abbrev cX0_place : ByteArray := prog_2_method_4_code
def yX0_place : MethodName := ⟨RX0, "place", "(II)V"⟩
abbrev cX0_countBids : ByteArray := prog_2_method_5_code
def yX0_countBids : MethodName := ⟨RX0, "countBids", "()I"⟩
abbrev cX0_isAhead : ByteArray := prog_2_method_6_code
def yX0_isAhead : MethodName := ⟨RX0, "isAhead", "(II)Z"⟩
abbrev cX0_close : ByteArray := prog_2_method_7_code
def yX0_close : MethodName := ⟨RX0, "close", "()V"⟩
def RX1 : String := "FlushGarden$Lot"
def TX1 : u_T := fun k => match k with
  | 0 => ("FlushGarden$Lot", "state", "I", false)
  | 1 => ("FlushGarden$Lot", "dry", "I", false)
  | 2 => ("FlushGarden$Lot", "fine", "I", false)
  | 3 => ("FlushGarden$Lot", "water", "I", false)
  | 4 => ("FlushGarden$Lot", "chem", "I", false)
  | 5 => ("FlushGarden$Lot", "broken", "I", false)
  | 6 => ("FlushGarden$Lot", "ox", "I", false)
  | 7 => ("FlushGarden$Lot", "cased", "I", false)
  | 8 => ("FlushGarden$Lot", "burn", "I", false)
  | 9 => ("FlushGarden$Lot", "grade", "I", false)
  | 10 => ("FlushGarden$Lot", "killed", "Z", false)
  | 11 => ("FlushGarden$Lot", "tainted", "Z", false)
  | 12 => ("FlushGarden$Lot", "mixed", "Z", false)
  | 13 => ("FlushGarden$Lot", "units", "[I", true)
  | 14 => ("FlushGarden$Lot", "notes", "[I", true)
  | _ => ("FlushGarden$Lot", "auction", "LFlushGarden$Auction;", true)
def tyX1 : Nat → FieldType := fun k => match k with
  | 0 => .int
  | 1 => .int
  | 2 => .int
  | 3 => .int
  | 4 => .int
  | 5 => .int
  | 6 => .int
  | 7 => .int
  | 8 => .int
  | 9 => .int
  | 10 => .boolean
  | 11 => .boolean
  | 12 => .boolean
  | 13 => .array .int
  | 14 => .array .int
  | _ => .object "FlushGarden$Auction"
theorem nmX1 : ∀ a, a < 16 → ∀ b, b < 16 → a ≠ b → (TX1 a).2.1 ≠ (TX1 b).2.1 := by decide +kernel
theorem tyX1_ok : ∀ k, k < 16 → parseFieldDescriptor (TX1 k).2.2.1 = some (tyX1 k) := by decide +kernel
abbrev cX1_init : ByteArray := prog_3_method_1_code
def yX1_init : MethodName := ⟨RX1, "<init>", "()V"⟩
abbrev cX1_isFreeMade : ByteArray := prog_3_method_2_code
def yX1_isFreeMade : MethodName := ⟨RX1, "isFreeMade", "()Z"⟩
abbrev cX1_isDried : ByteArray := prog_3_method_3_code
def yX1_isDried : MethodName := ⟨RX1, "isDried", "()Z"⟩
abbrev cX1_vanish : ByteArray := prog_3_method_4_code
def yX1_vanish : MethodName := ⟨RX1, "vanish", "()V"⟩
abbrev cX1_copyLeaf : ByteArray := prog_3_method_5_code
def yX1_copyLeaf : MethodName := ⟨RX1, "copyLeaf", "(LFlushGarden$Lot;)V"⟩
abbrev cX1_heatMinute : ByteArray := prog_3_method_6_code
def yX1_heatMinute : MethodName := ⟨RX1, "heatMinute", "(I)V"⟩
abbrev cX1_shareOfGrade : ByteArray := prog_3_method_7_code
def yX1_shareOfGrade : MethodName := ⟨RX1, "shareOfGrade", "(II)I"⟩
abbrev cX1_dryOfGrade : ByteArray := prog_3_method_8_code
def yX1_dryOfGrade : MethodName := ⟨RX1, "dryOfGrade", "(I)I"⟩
abbrev cX1_becomeGrade : ByteArray := prog_3_method_9_code
def yX1_becomeGrade : MethodName := ⟨RX1, "becomeGrade", "(LFlushGarden$Lot;I)V"⟩
abbrev cX1_takeUnits : ByteArray := prog_3_method_10_code
def yX1_takeUnits : MethodName := ⟨RX1, "takeUnits", "(LFlushGarden$Lot;I)V"⟩
abbrev cX1_noteOf : ByteArray := prog_3_method_11_code
def yX1_noteOf : MethodName := ⟨RX1, "noteOf", "(I)I"⟩
abbrev cX1_sumOfNotes : ByteArray := prog_3_method_12_code
def yX1_sumOfNotes : MethodName := ⟨RX1, "sumOfNotes", "()I"⟩
abbrev cX1_bodyOfLeaf : ByteArray := prog_3_method_13_code
def yX1_bodyOfLeaf : MethodName := ⟨RX1, "bodyOfLeaf", "()I"⟩
abbrev cX1_briskOfLeaf : ByteArray := prog_3_method_14_code
def yX1_briskOfLeaf : MethodName := ⟨RX1, "briskOfLeaf", "(I)I"⟩
abbrev cX1_aromaOfLeaf : ByteArray := prog_3_method_15_code
def yX1_aromaOfLeaf : MethodName := ⟨RX1, "aromaOfLeaf", "(I)I"⟩
def RX2 : String := "FlushGarden$Section"
def TX2 : u_T := fun k => match k with
  | 0 => ("FlushGarden$Section", "area", "I", false)
  | 1 => ("FlushGarden$Section", "shade", "I", false)
  | 2 => ("FlushGarden$Section", "sap", "I", false)
  | 3 => ("FlushGarden$Section", "resting", "I", false)
  | 4 => ("FlushGarden$Section", "blight", "I", false)
  | 5 => ("FlushGarden$Section", "poison", "I", false)
  | 6 => ("FlushGarden$Section", "hard", "I", false)
  | _ => ("FlushGarden$Section", "shoots", "[I", true)
def tyX2 : Nat → FieldType := fun k => match k with
  | 0 => .int
  | 1 => .int
  | 2 => .int
  | 3 => .int
  | 4 => .int
  | 5 => .int
  | 6 => .int
  | _ => .array .int
theorem nmX2 : ∀ a, a < 8 → ∀ b, b < 8 → a ≠ b → (TX2 a).2.1 ≠ (TX2 b).2.1 := by decide +kernel
theorem tyX2_ok : ∀ k, k < 8 → parseFieldDescriptor (TX2 k).2.2.1 = some (tyX2 k) := by decide +kernel
abbrev cX2_init : ByteArray := prog_4_method_1_code
def yX2_init : MethodName := ⟨RX2, "<init>", "()V"⟩
abbrev cX2_sapOfDay : ByteArray := prog_4_method_2_code
def yX2_sapOfDay : MethodName := ⟨RX2, "sapOfDay", "(II)I"⟩
abbrev cX2_growDay : ByteArray := prog_4_method_3_code
def yX2_growDay : MethodName := ⟨RX2, "growDay", "(II)I"⟩
abbrev cX2_flushOnce : ByteArray := prog_4_method_4_code
def yX2_flushOnce : MethodName := ⟨RX2, "flushOnce", "()V"⟩
def RX3 : String := "FlushGarden$Taster"
def TX3 : u_T := fun k => match k with
  | 0 => ("FlushGarden$Taster", "leans", "I", false)
  | 1 => ("FlushGarden$Taster", "toldTooMuch", "I", false)
  | _ => ("FlushGarden$Taster", "repeats", "I", false)
def tyX3 : Nat → FieldType := fun k => match k with
  | 0 => .int
  | 1 => .int
  | _ => .int
theorem nmX3 : ∀ a, a < 3 → ∀ b, b < 3 → a ≠ b → (TX3 a).2.1 ≠ (TX3 b).2.1 := by decide +kernel
theorem tyX3_ok : ∀ k, k < 3 → parseFieldDescriptor (TX3 k).2.2.1 = some (tyX3 k) := by decide +kernel
abbrev cX3_init : ByteArray := prog_5_method_1_code
def yX3_init : MethodName := ⟨RX3, "<init>", "()V"⟩
abbrev cX3_tells : ByteArray := prog_5_method_2_code
def yX3_tells : MethodName := ⟨RX3, "tells", "(I)I"⟩
abbrev cX3_guess : ByteArray := prog_5_method_3_code
def yX3_guess : MethodName := ⟨RX3, "guess", "()I"⟩
def RX4 : String := "FlushGarden"
def TX4 : u_T := fun k => match k with
  | 0 => ("FlushGarden", "sections", "[LFlushGarden$Section;", true)
  | 1 => ("FlushGarden", "sectionCount", "I", false)
  | 2 => ("FlushGarden", "now", "I", false)
  | 3 => ("FlushGarden", "lots", "[LFlushGarden$Lot;", true)
  | 4 => ("FlushGarden", "lotCount", "I", false)
  | 5 => ("FlushGarden", "trial", "LFlushGarden$Lot;", true)
  | 6 => ("FlushGarden", "tasters", "[LFlushGarden$Taster;", true)
  | 7 => ("FlushGarden", "purses", "[I", true)
  | 8 => ("FlushGarden", "money", "I", false)
  | 9 => ("FlushGarden", "soldLots", "I", false)
  | 10 => ("FlushGarden", "soldUnits", "I", false)
  | _ => ("FlushGarden", "pluckedUnits", "I", false)
def tyX4 : Nat → FieldType := fun k => match k with
  | 0 => .array (.object "FlushGarden$Section")
  | 1 => .int
  | 2 => .int
  | 3 => .array (.object "FlushGarden$Lot")
  | 4 => .int
  | 5 => .object "FlushGarden$Lot"
  | 6 => .array (.object "FlushGarden$Taster")
  | 7 => .array .int
  | 8 => .int
  | 9 => .int
  | 10 => .int
  | _ => .int
theorem nmX4 : ∀ a, a < 12 → ∀ b, b < 12 → a ≠ b → (TX4 a).2.1 ≠ (TX4 b).2.1 := by decide +kernel
theorem tyX4_ok : ∀ k, k < 12 → parseFieldDescriptor (TX4 k).2.2.1 = some (tyX4 k) := by decide +kernel
abbrev cX4_init : ByteArray := prog_1_method_1_code
def yX4_init : MethodName := ⟨RX4, "<init>", "()V"⟩
abbrev cX4_section : ByteArray := prog_1_method_2_code
def yX4_section : MethodName := ⟨RX4, "section", "(II)I"⟩
abbrev cX4_pass : ByteArray := prog_1_method_3_code
def yX4_pass : MethodName := ⟨RX4, "pass", "(III)I"⟩
abbrev cX4_spray : ByteArray := prog_1_method_5_code
def yX4_spray : MethodName := ⟨RX4, "spray", "(I)I"⟩
abbrev cX4_pluck : ByteArray := prog_1_method_6_code
def yX4_pluck : MethodName := ⟨RX4, "pluck", "(III)I"⟩
abbrev cX4_wither : ByteArray := prog_1_method_8_code
def yX4_wither : MethodName := ⟨RX4, "wither", "(III)I"⟩
abbrev cX4_kill : ByteArray := prog_1_method_9_code
def yX4_kill : MethodName := ⟨RX4, "kill", "(I)I"⟩
abbrev cX4_roll : ByteArray := prog_1_method_10_code
def yX4_roll : MethodName := ⟨RX4, "roll", "(II)I"⟩
abbrev cX4_rest : ByteArray := prog_1_method_11_code
def yX4_rest : MethodName := ⟨RX4, "rest", "(III)I"⟩
abbrev cX4_fire : ByteArray := prog_1_method_12_code
def yX4_fire : MethodName := ⟨RX4, "fire", "(III)I"⟩
abbrev cX4_sort : ByteArray := prog_1_method_13_code
def yX4_sort : MethodName := ⟨RX4, "sort", "(I)I"⟩
abbrev cX4_mix : ByteArray := prog_1_method_14_code
def yX4_mix : MethodName := ⟨RX4, "mix", "(IIII)I"⟩
abbrev cX4_lean : ByteArray := prog_1_method_15_code
def yX4_lean : MethodName := ⟨RX4, "lean", "(II)I"⟩
abbrev cX4_repeat : ByteArray := prog_1_method_16_code
def yX4_repeat : MethodName := ⟨RX4, "repeat", "(II)I"⟩
abbrev cX4_purse : ByteArray := prog_1_method_17_code
def yX4_purse : MethodName := ⟨RX4, "purse", "(II)I"⟩
abbrev cX4_offer : ByteArray := prog_1_method_18_code
def yX4_offer : MethodName := ⟨RX4, "offer", "(II)I"⟩
abbrev cX4_bid : ByteArray := prog_1_method_19_code
def yX4_bid : MethodName := ⟨RX4, "bid", "(III)I"⟩
abbrev cX4_knock : ByteArray := prog_1_method_20_code
def yX4_knock : MethodName := ⟨RX4, "knock", "(I)I"⟩
abbrev cX4_ofSection : ByteArray := prog_1_method_21_code
def yX4_ofSection : MethodName := ⟨RX4, "ofSection", "(II)I"⟩
abbrev cX4_ofLot : ByteArray := prog_1_method_22_code
def yX4_ofLot : MethodName := ⟨RX4, "ofLot", "(II)I"⟩
abbrev cX4_note : ByteArray := prog_1_method_23_code
def yX4_note : MethodName := ⟨RX4, "note", "(II)I"⟩
abbrev cX4_taste : ByteArray := prog_1_method_24_code
def yX4_taste : MethodName := ⟨RX4, "taste", "(II)I"⟩
abbrev cX4_ofTaster : ByteArray := prog_1_method_25_code
def yX4_ofTaster : MethodName := ⟨RX4, "ofTaster", "(II)I"⟩
abbrev cX4_bidOf : ByteArray := prog_1_method_26_code
def yX4_bidOf : MethodName := ⟨RX4, "bidOf", "(II)I"⟩
abbrev cX4_many : ByteArray := prog_1_method_27_code
def yX4_many : MethodName := ⟨RX4, "many", "(I)I"⟩
abbrev cX4_meanNotes : ByteArray := prog_1_method_28_code
def yX4_meanNotes : MethodName := ⟨RX4, "meanNotes", "()D"⟩
abbrev cX4_flushIn : ByteArray := prog_1_method_29_code
def yX4_flushIn : MethodName := ⟨RX4, "flushIn", "(III)I"⟩
abbrev cX4_bestFire : ByteArray := prog_1_method_30_code
def yX4_bestFire : MethodName := ⟨RX4, "bestFire", "(I)I"⟩
abbrev cX4_bestMix : ByteArray := prog_1_method_31_code
def yX4_bestMix : MethodName := ⟨RX4, "bestMix", "(III)I"⟩
abbrev cX4_wouldPay : ByteArray := prog_1_method_32_code
def yX4_wouldPay : MethodName := ⟨RX4, "wouldPay", "(I)I"⟩
abbrev cX4_digest : ByteArray := prog_1_method_33_code
def yX4_digest : MethodName := ⟨RX4, "digest", "()J"⟩
abbrev cX4_digestLot : ByteArray := prog_1_method_34_code
def yX4_digestLot : MethodName := ⟨RX4, "digestLot", "(JI)J"⟩
abbrev cX4_requireArgument : ByteArray := prog_1_method_35_code
def yX4_requireArgument : MethodName := ⟨RX4, "requireArgument", "(III)V"⟩
abbrev cX4_requireDifferent : ByteArray := prog_1_method_36_code
def yX4_requireDifferent : MethodName := ⟨RX4, "requireDifferent", "(II)V"⟩
abbrev cX4_requireIndex : ByteArray := prog_1_method_37_code
def yX4_requireIndex : MethodName := ⟨RX4, "requireIndex", "(II)V"⟩
abbrev cX4_requireState : ByteArray := prog_1_method_38_code
def yX4_requireState : MethodName := ⟨RX4, "requireState", "(Z)V"⟩
abbrev cX4_heldNote : ByteArray := prog_1_method_39_code
def yX4_heldNote : MethodName := ⟨RX4, "heldNote", "(I)I"⟩
abbrev cX4_sectionAt : ByteArray := prog_1_method_40_code
def yX4_sectionAt : MethodName := ⟨RX4, "sectionAt", "(I)LFlushGarden$Section;"⟩
abbrev cX4_lotAt : ByteArray := prog_1_method_41_code
def yX4_lotAt : MethodName := ⟨RX4, "lotAt", "(I)LFlushGarden$Lot;"⟩
abbrev cX4_madeLotAt : ByteArray := prog_1_method_42_code
def yX4_madeLotAt : MethodName := ⟨RX4, "madeLotAt", "(I)LFlushGarden$Lot;"⟩
abbrev cX4_tasterAt : ByteArray := prog_1_method_43_code
def yX4_tasterAt : MethodName := ⟨RX4, "tasterAt", "(I)LFlushGarden$Taster;"⟩
abbrev cX4_newLot : ByteArray := prog_1_method_44_code
def yX4_newLot : MethodName := ⟨RX4, "newLot", "()LFlushGarden$Lot;"⟩
abbrev cX4_countLots : ByteArray := prog_1_method_45_code
def yX4_countLots : MethodName := ⟨RX4, "countLots", "(I)I"⟩
abbrev cX4_dryOfAll : ByteArray := prog_1_method_46_code
def yX4_dryOfAll : MethodName := ⟨RX4, "dryOfAll", "()I"⟩
abbrev cX4_costOf : ByteArray := prog_1_method_47_code
def yX4_costOf : MethodName := ⟨RX4, "costOf", "(LFlushGarden$Lot;I)I"⟩
abbrev cX4_mayBuy : ByteArray := prog_1_method_48_code
def yX4_mayBuy : MethodName := ⟨RX4, "mayBuy", "(LFlushGarden$Lot;I)Z"⟩
abbrev cX4_winnerOf : ByteArray := prog_1_method_49_code
def yX4_winnerOf : MethodName := ⟨RX4, "winnerOf", "(LFlushGarden$Lot;)I"⟩
abbrev cX4_priceFor : ByteArray := prog_1_method_50_code
def yX4_priceFor : MethodName := ⟨RX4, "priceFor", "(LFlushGarden$Lot;I)I"⟩
abbrev cX4_leastMix : ByteArray := prog_1_method_51_code
def yX4_leastMix : MethodName := ⟨RX4, "leastMix", "(ILFlushGarden$Lot;LFlushGarden$Lot;III)I"⟩
def RX5 : String := "FlushGardenModel$Lot"
def TX5 : u_T := fun k => match k with
  | _ => ("", "", "", false)
def tyX5 : Nat → FieldType := fun k => match k with
  | _ => .int
theorem nmX5 : ∀ a, a < 0 → ∀ b, b < 0 → a ≠ b → (TX5 a).2.1 ≠ (TX5 b).2.1 := by decide +kernel
theorem tyX5_ok : ∀ k, k < 0 → parseFieldDescriptor (TX5 k).2.2.1 = some (tyX5 k) := by decide +kernel
def RX6 : String := "FlushGardenModel$Section"
def TX6 : u_T := fun k => match k with
  | _ => ("", "", "", false)
def tyX6 : Nat → FieldType := fun k => match k with
  | _ => .int
theorem nmX6 : ∀ a, a < 0 → ∀ b, b < 0 → a ≠ b → (TX6 a).2.1 ≠ (TX6 b).2.1 := by decide +kernel
theorem tyX6_ok : ∀ k, k < 0 → parseFieldDescriptor (TX6 k).2.2.1 = some (tyX6 k) := by decide +kernel
def RX7 : String := "FlushGardenModel$Taster"
def TX7 : u_T := fun k => match k with
  | _ => ("", "", "", false)
def tyX7 : Nat → FieldType := fun k => match k with
  | _ => .int
theorem nmX7 : ∀ a, a < 0 → ∀ b, b < 0 → a ≠ b → (TX7 a).2.1 ≠ (TX7 b).2.1 := by decide +kernel
theorem tyX7_ok : ∀ k, k < 0 → parseFieldDescriptor (TX7 k).2.2.1 = some (tyX7 k) := by decide +kernel
def RX8 : String := "FlushGardenModel"
def TX8 : u_T := fun k => match k with
  | _ => ("", "", "", false)
def tyX8 : Nat → FieldType := fun k => match k with
  | _ => .int
theorem nmX8 : ∀ a, a < 0 → ∀ b, b < 0 → a ≠ b → (TX8 a).2.1 ≠ (TX8 b).2.1 := by decide +kernel
theorem tyX8_ok : ∀ k, k < 0 → parseFieldDescriptor (TX8 k).2.2.1 = some (tyX8 k) := by decide +kernel
def RJx145de : String := "java/io/Serializable"
def TJx145de : u_T := fun k => match k with
  | _ => ("", "", "", false)
def tyJx145de : Nat → FieldType := fun k => match k with
  | _ => .int
theorem nmJx145de : ∀ a, a < 0 → ∀ b, b < 0 → a ≠ b → (TJx145de a).2.1 ≠ (TJx145de b).2.1 := by decide +kernel
theorem tyJx145de_ok : ∀ k, k < 0 → parseFieldDescriptor (TJx145de k).2.2.1 = some (tyJx145de k) := by decide +kernel
def RJ9 : String := "java/lang/Math"
def TJ9 : u_T := fun k => match k with
  | _ => ("", "", "", false)
def tyJ9 : Nat → FieldType := fun k => match k with
  | _ => .int
theorem nmJ9 : ∀ a, a < 0 → ∀ b, b < 0 → a ≠ b → (TJ9 a).2.1 ≠ (TJ9 b).2.1 := by decide +kernel
theorem tyJ9_ok : ∀ k, k < 0 → parseFieldDescriptor (TJ9 k).2.2.1 = some (tyJ9 k) := by decide +kernel
abbrev cJ9_abs_0f7a4 : ByteArray := prog_15_method_59_code
def yJ9_abs_0f7a4 : MethodName := ⟨RJ9, "abs", "(I)I"⟩
abbrev cJ9_max_7cf53 : ByteArray := prog_15_method_65_code
def yJ9_max_7cf53 : MethodName := ⟨RJ9, "max", "(II)I"⟩
abbrev cJ9_min_7cf53 : ByteArray := prog_15_method_69_code
def yJ9_min_7cf53 : MethodName := ⟨RJ9, "min", "(II)I"⟩
def RL : String := "FlushGardenLaw"
abbrev cL_below : ByteArray := method_2_code
def yL_below : MethodName := ⟨RL, "below", "(II)I"⟩
abbrev cL_cell : ByteArray := method_3_code
def yL_cell : MethodName := ⟨RL, "cell", "([II)I"⟩
abbrev cL_law : ByteArray := code
def yL_law : MethodName := ⟨RL, "law", "([I)Z"⟩
abbrev cL_isGrown : ByteArray := method_5_code
def yL_isGrown : MethodName := ⟨RL, "isGrown", "(LFlushGarden;III)Z"⟩
abbrev cL_isSold : ByteArray := method_6_code
def yL_isSold : MethodName := ⟨RL, "isSold", "(LFlushGarden;I)Z"⟩
abbrev cL_isTold : ByteArray := method_7_code
def yL_isTold : MethodName := ⟨RL, "isTold", "(LFlushGarden;III)Z"⟩
abbrev cL_isWorked : ByteArray := method_8_code
def yL_isWorked : MethodName := ⟨RL, "isWorked", "(LFlushGarden;IIII)Z"⟩
abbrev cL_isSound : ByteArray := method_9_code
def yL_isSound : MethodName := ⟨RL, "isSound", "(LFlushGarden;II)Z"⟩
theorem dX0_init_0 : decode cX0_init 0 = .ok (.aload_n 0, 1) := by decide +kernel
theorem dX0_init_1 : decode cX0_init 1 = .ok (.invokespecial 3, 3) := by decide +kernel
theorem dX0_init_4 : decode cX0_init 4 = .ok (.aload_n 0, 1) := by decide +kernel
theorem dX0_init_5 : decode cX0_init 5 = .ok (.iconst 0, 1) := by decide +kernel
theorem dX0_init_6 : decode cX0_init 6 = .ok (.putfield 9, 3) := by decide +kernel
theorem dX0_init_9 : decode cX0_init 9 = .ok (.aload_n 0, 1) := by decide +kernel
theorem dX0_init_10 : decode cX0_init 10 = .ok (.iconst 0, 1) := by decide +kernel
theorem dX0_init_11 : decode cX0_init 11 = .ok (.putfield 15, 3) := by decide +kernel
theorem dX0_init_14 : decode cX0_init 14 = .ok (.aload_n 0, 1) := by decide +kernel
theorem dX0_init_15 : decode cX0_init 15 = .ok (.iconst 4, 1) := by decide +kernel
theorem dX0_init_16 : decode cX0_init 16 = .ok (.newarray .int, 2) := by decide +kernel
theorem dX0_init_18 : decode cX0_init 18 = .ok (.putfield 18, 3) := by decide +kernel
theorem dX0_init_21 : decode cX0_init 21 = .ok (.aload_n 0, 1) := by decide +kernel
theorem dX0_init_22 : decode cX0_init 22 = .ok (.iconst 4, 1) := by decide +kernel
theorem dX0_init_23 : decode cX0_init 23 = .ok (.newarray .int, 2) := by decide +kernel
theorem dX0_init_25 : decode cX0_init 25 = .ok (.putfield 22, 3) := by decide +kernel
theorem dX0_init_28 : decode cX0_init 28 = .ok (.return_, 1) := by decide +kernel
theorem dX0_isOpen_0 : decode cX0_isOpen 0 = .ok (.aload_n 0, 1) := by decide +kernel
theorem dX0_isOpen_1 : decode cX0_isOpen 1 = .ok (.getfield 9, 3) := by decide +kernel
theorem dX0_isOpen_4 : decode cX0_isOpen 4 = .ok (.ifCond .le 7, 3) := by decide +kernel
theorem dX0_isOpen_7 : decode cX0_isOpen 7 = .ok (.iconst 1, 1) := by decide +kernel
theorem dX0_isOpen_8 : decode cX0_isOpen 8 = .ok (.goto 4, 3) := by decide +kernel
theorem dX0_isOpen_11 : decode cX0_isOpen 11 = .ok (.iconst 0, 1) := by decide +kernel
theorem dX0_isOpen_12 : decode cX0_isOpen 12 = .ok (.ireturn, 1) := by decide +kernel
theorem dX0_hasBid_0 : decode cX0_hasBid 0 = .ok (.aload_n 0, 1) := by decide +kernel
theorem dX0_hasBid_1 : decode cX0_hasBid 1 = .ok (.getfield 18, 3) := by decide +kernel
theorem dX0_hasBid_4 : decode cX0_hasBid 4 = .ok (.iload_n 1, 1) := by decide +kernel
theorem dX0_hasBid_5 : decode cX0_hasBid 5 = .ok (.iaload, 1) := by decide +kernel
theorem dX0_hasBid_6 : decode cX0_hasBid 6 = .ok (.ifCond .le 7, 3) := by decide +kernel
theorem dX0_hasBid_9 : decode cX0_hasBid 9 = .ok (.iconst 1, 1) := by decide +kernel
theorem dX0_hasBid_10 : decode cX0_hasBid 10 = .ok (.goto 4, 3) := by decide +kernel
theorem dX0_hasBid_13 : decode cX0_hasBid 13 = .ok (.iconst 0, 1) := by decide +kernel
theorem dX0_hasBid_14 : decode cX0_hasBid 14 = .ok (.ireturn, 1) := by decide +kernel
theorem dX0_place_0 : decode cX0_place 0 = .ok (.aload_n 0, 1) := by decide +kernel
theorem dX0_place_1 : decode cX0_place 1 = .ok (.dup, 1) := by decide +kernel
theorem dX0_place_2 : decode cX0_place 2 = .ok (.getfield 15, 3) := by decide +kernel
theorem dX0_place_5 : decode cX0_place 5 = .ok (.iconst 1, 1) := by decide +kernel
theorem dX0_place_6 : decode cX0_place 6 = .ok (.iadd, 1) := by decide +kernel
theorem dX0_place_7 : decode cX0_place 7 = .ok (.putfield 15, 3) := by decide +kernel
theorem dX0_place_10 : decode cX0_place 10 = .ok (.aload_n 0, 1) := by decide +kernel
theorem dX0_place_11 : decode cX0_place 11 = .ok (.getfield 18, 3) := by decide +kernel
theorem dX0_place_14 : decode cX0_place 14 = .ok (.iload_n 1, 1) := by decide +kernel
theorem dX0_place_15 : decode cX0_place 15 = .ok (.iload_n 2, 1) := by decide +kernel
theorem dX0_place_16 : decode cX0_place 16 = .ok (.iastore, 1) := by decide +kernel
theorem dX0_place_17 : decode cX0_place 17 = .ok (.aload_n 0, 1) := by decide +kernel
theorem dX0_place_18 : decode cX0_place 18 = .ok (.getfield 22, 3) := by decide +kernel
theorem dX0_place_21 : decode cX0_place 21 = .ok (.iload_n 1, 1) := by decide +kernel
theorem dX0_place_22 : decode cX0_place 22 = .ok (.aload_n 0, 1) := by decide +kernel
theorem dX0_place_23 : decode cX0_place 23 = .ok (.getfield 15, 3) := by decide +kernel
theorem dX0_place_26 : decode cX0_place 26 = .ok (.iastore, 1) := by decide +kernel
theorem dX0_place_27 : decode cX0_place 27 = .ok (.return_, 1) := by decide +kernel
theorem dX0_countBids_0 : decode cX0_countBids 0 = .ok (.iconst 0, 1) := by decide +kernel
theorem dX0_countBids_1 : decode cX0_countBids 1 = .ok (.istore_n 1, 1) := by decide +kernel
theorem dX0_countBids_2 : decode cX0_countBids 2 = .ok (.iconst 0, 1) := by decide +kernel
theorem dX0_countBids_3 : decode cX0_countBids 3 = .ok (.istore_n 2, 1) := by decide +kernel
theorem dX0_countBids_4 : decode cX0_countBids 4 = .ok (.iload_n 2, 1) := by decide +kernel
theorem dX0_countBids_5 : decode cX0_countBids 5 = .ok (.aload_n 0, 1) := by decide +kernel
theorem dX0_countBids_6 : decode cX0_countBids 6 = .ok (.getfield 18, 3) := by decide +kernel
theorem dX0_countBids_9 : decode cX0_countBids 9 = .ok (.arraylength, 1) := by decide +kernel
theorem dX0_countBids_10 : decode cX0_countBids 10 = .ok (.if_icmp .ge 20, 3) := by decide +kernel
theorem dX0_countBids_13 : decode cX0_countBids 13 = .ok (.aload_n 0, 1) := by decide +kernel
theorem dX0_countBids_14 : decode cX0_countBids 14 = .ok (.iload_n 2, 1) := by decide +kernel
theorem dX0_countBids_15 : decode cX0_countBids 15 = .ok (.invokevirtual 25, 3) := by decide +kernel
theorem dX0_countBids_18 : decode cX0_countBids 18 = .ok (.ifCond .eq 6, 3) := by decide +kernel
theorem dX0_countBids_21 : decode cX0_countBids 21 = .ok (.iinc 1 1, 3) := by decide +kernel
theorem dX0_countBids_24 : decode cX0_countBids 24 = .ok (.iinc 2 1, 3) := by decide +kernel
theorem dX0_countBids_27 : decode cX0_countBids 27 = .ok (.goto (-23), 3) := by decide +kernel
theorem dX0_countBids_30 : decode cX0_countBids 30 = .ok (.iload_n 1, 1) := by decide +kernel
theorem dX0_countBids_31 : decode cX0_countBids 31 = .ok (.ireturn, 1) := by decide +kernel
theorem dX0_isAhead_0 : decode cX0_isAhead 0 = .ok (.aload_n 0, 1) := by decide +kernel
theorem dX0_isAhead_1 : decode cX0_isAhead 1 = .ok (.getfield 18, 3) := by decide +kernel
theorem dX0_isAhead_4 : decode cX0_isAhead 4 = .ok (.iload_n 1, 1) := by decide +kernel
theorem dX0_isAhead_5 : decode cX0_isAhead 5 = .ok (.iaload, 1) := by decide +kernel
theorem dX0_isAhead_6 : decode cX0_isAhead 6 = .ok (.aload_n 0, 1) := by decide +kernel
theorem dX0_isAhead_7 : decode cX0_isAhead 7 = .ok (.getfield 18, 3) := by decide +kernel
theorem dX0_isAhead_10 : decode cX0_isAhead 10 = .ok (.iload_n 2, 1) := by decide +kernel
theorem dX0_isAhead_11 : decode cX0_isAhead 11 = .ok (.iaload, 1) := by decide +kernel
theorem dX0_isAhead_12 : decode cX0_isAhead 12 = .ok (.if_icmp .gt 33, 3) := by decide +kernel
theorem dX0_isAhead_15 : decode cX0_isAhead 15 = .ok (.aload_n 0, 1) := by decide +kernel
theorem dX0_isAhead_16 : decode cX0_isAhead 16 = .ok (.getfield 18, 3) := by decide +kernel
theorem dX0_isAhead_19 : decode cX0_isAhead 19 = .ok (.iload_n 1, 1) := by decide +kernel
theorem dX0_isAhead_20 : decode cX0_isAhead 20 = .ok (.iaload, 1) := by decide +kernel
theorem dX0_isAhead_21 : decode cX0_isAhead 21 = .ok (.aload_n 0, 1) := by decide +kernel
theorem dX0_isAhead_22 : decode cX0_isAhead 22 = .ok (.getfield 18, 3) := by decide +kernel
theorem dX0_isAhead_25 : decode cX0_isAhead 25 = .ok (.iload_n 2, 1) := by decide +kernel
theorem dX0_isAhead_26 : decode cX0_isAhead 26 = .ok (.iaload, 1) := by decide +kernel
theorem dX0_isAhead_27 : decode cX0_isAhead 27 = .ok (.if_icmp .ne 22, 3) := by decide +kernel
theorem dX0_isAhead_30 : decode cX0_isAhead 30 = .ok (.aload_n 0, 1) := by decide +kernel
theorem dX0_isAhead_31 : decode cX0_isAhead 31 = .ok (.getfield 22, 3) := by decide +kernel
theorem dX0_isAhead_34 : decode cX0_isAhead 34 = .ok (.iload_n 1, 1) := by decide +kernel
theorem dX0_isAhead_35 : decode cX0_isAhead 35 = .ok (.iaload, 1) := by decide +kernel
theorem dX0_isAhead_36 : decode cX0_isAhead 36 = .ok (.aload_n 0, 1) := by decide +kernel
theorem dX0_isAhead_37 : decode cX0_isAhead 37 = .ok (.getfield 22, 3) := by decide +kernel
theorem dX0_isAhead_40 : decode cX0_isAhead 40 = .ok (.iload_n 2, 1) := by decide +kernel
theorem dX0_isAhead_41 : decode cX0_isAhead 41 = .ok (.iaload, 1) := by decide +kernel
theorem dX0_isAhead_42 : decode cX0_isAhead 42 = .ok (.if_icmp .ge 7, 3) := by decide +kernel
theorem dX0_isAhead_45 : decode cX0_isAhead 45 = .ok (.iconst 1, 1) := by decide +kernel
theorem dX0_isAhead_46 : decode cX0_isAhead 46 = .ok (.goto 4, 3) := by decide +kernel
theorem dX0_isAhead_49 : decode cX0_isAhead 49 = .ok (.iconst 0, 1) := by decide +kernel
theorem dX0_isAhead_50 : decode cX0_isAhead 50 = .ok (.ireturn, 1) := by decide +kernel
theorem dX0_close_0 : decode cX0_close 0 = .ok (.aload_n 0, 1) := by decide +kernel
theorem dX0_close_1 : decode cX0_close 1 = .ok (.iconst 0, 1) := by decide +kernel
theorem dX0_close_2 : decode cX0_close 2 = .ok (.putfield 9, 3) := by decide +kernel
theorem dX0_close_5 : decode cX0_close 5 = .ok (.iconst 0, 1) := by decide +kernel
theorem dX0_close_6 : decode cX0_close 6 = .ok (.istore_n 1, 1) := by decide +kernel
theorem dX0_close_7 : decode cX0_close 7 = .ok (.iload_n 1, 1) := by decide +kernel
theorem dX0_close_8 : decode cX0_close 8 = .ok (.aload_n 0, 1) := by decide +kernel
theorem dX0_close_9 : decode cX0_close 9 = .ok (.getfield 18, 3) := by decide +kernel
theorem dX0_close_12 : decode cX0_close 12 = .ok (.arraylength, 1) := by decide +kernel
theorem dX0_close_13 : decode cX0_close 13 = .ok (.if_icmp .ge 16, 3) := by decide +kernel
theorem dX0_close_16 : decode cX0_close 16 = .ok (.aload_n 0, 1) := by decide +kernel
theorem dX0_close_17 : decode cX0_close 17 = .ok (.getfield 18, 3) := by decide +kernel
theorem dX0_close_20 : decode cX0_close 20 = .ok (.iload_n 1, 1) := by decide +kernel
theorem dX0_close_21 : decode cX0_close 21 = .ok (.iconst 0, 1) := by decide +kernel
theorem dX0_close_22 : decode cX0_close 22 = .ok (.iastore, 1) := by decide +kernel
theorem dX0_close_23 : decode cX0_close 23 = .ok (.iinc 1 1, 3) := by decide +kernel
theorem dX0_close_26 : decode cX0_close 26 = .ok (.goto (-19), 3) := by decide +kernel
theorem dX0_close_29 : decode cX0_close 29 = .ok (.return_, 1) := by decide +kernel
theorem dX1_init_0 : decode cX1_init 0 = .ok (.aload_n 0, 1) := by decide +kernel
theorem dX1_init_1 : decode cX1_init 1 = .ok (.invokespecial 3, 3) := by decide +kernel
theorem dX1_init_4 : decode cX1_init 4 = .ok (.aload_n 0, 1) := by decide +kernel
theorem dX1_init_5 : decode cX1_init 5 = .ok (.iconst 0, 1) := by decide +kernel
theorem dX1_init_6 : decode cX1_init 6 = .ok (.putfield 9, 3) := by decide +kernel
theorem dX1_init_9 : decode cX1_init 9 = .ok (.aload_n 0, 1) := by decide +kernel
theorem dX1_init_10 : decode cX1_init 10 = .ok (.iconst 0, 1) := by decide +kernel
theorem dX1_init_11 : decode cX1_init 11 = .ok (.putfield 15, 3) := by decide +kernel
theorem dX1_init_14 : decode cX1_init 14 = .ok (.aload_n 0, 1) := by decide +kernel
theorem dX1_init_15 : decode cX1_init 15 = .ok (.iconst 0, 1) := by decide +kernel
theorem dX1_init_16 : decode cX1_init 16 = .ok (.putfield 18, 3) := by decide +kernel
theorem dX1_init_19 : decode cX1_init 19 = .ok (.aload_n 0, 1) := by decide +kernel
theorem dX1_init_20 : decode cX1_init 20 = .ok (.iconst 0, 1) := by decide +kernel
theorem dX1_init_21 : decode cX1_init 21 = .ok (.putfield 21, 3) := by decide +kernel
theorem dX1_init_24 : decode cX1_init 24 = .ok (.aload_n 0, 1) := by decide +kernel
theorem dX1_init_25 : decode cX1_init 25 = .ok (.iconst 0, 1) := by decide +kernel
theorem dX1_init_26 : decode cX1_init 26 = .ok (.putfield 24, 3) := by decide +kernel
theorem dX1_init_29 : decode cX1_init 29 = .ok (.aload_n 0, 1) := by decide +kernel
theorem dX1_init_30 : decode cX1_init 30 = .ok (.iconst 0, 1) := by decide +kernel
theorem dX1_init_31 : decode cX1_init 31 = .ok (.putfield 27, 3) := by decide +kernel
theorem dX1_init_34 : decode cX1_init 34 = .ok (.aload_n 0, 1) := by decide +kernel
theorem dX1_init_35 : decode cX1_init 35 = .ok (.iconst 0, 1) := by decide +kernel
theorem dX1_init_36 : decode cX1_init 36 = .ok (.putfield 30, 3) := by decide +kernel
theorem dX1_init_39 : decode cX1_init 39 = .ok (.aload_n 0, 1) := by decide +kernel
theorem dX1_init_40 : decode cX1_init 40 = .ok (.iconst 0, 1) := by decide +kernel
theorem dX1_init_41 : decode cX1_init 41 = .ok (.putfield 33, 3) := by decide +kernel
theorem dX1_init_44 : decode cX1_init 44 = .ok (.aload_n 0, 1) := by decide +kernel
theorem dX1_init_45 : decode cX1_init 45 = .ok (.iconst 0, 1) := by decide +kernel
theorem dX1_init_46 : decode cX1_init 46 = .ok (.putfield 36, 3) := by decide +kernel
theorem dX1_init_49 : decode cX1_init 49 = .ok (.aload_n 0, 1) := by decide +kernel
theorem dX1_init_50 : decode cX1_init 50 = .ok (.iconst (-1), 1) := by decide +kernel
theorem dX1_init_51 : decode cX1_init 51 = .ok (.putfield 39, 3) := by decide +kernel
theorem dX1_init_54 : decode cX1_init 54 = .ok (.aload_n 0, 1) := by decide +kernel
theorem dX1_init_55 : decode cX1_init 55 = .ok (.iconst 0, 1) := by decide +kernel
theorem dX1_init_56 : decode cX1_init 56 = .ok (.putfield 42, 3) := by decide +kernel
theorem dX1_init_59 : decode cX1_init 59 = .ok (.aload_n 0, 1) := by decide +kernel
theorem dX1_init_60 : decode cX1_init 60 = .ok (.iconst 0, 1) := by decide +kernel
theorem dX1_init_61 : decode cX1_init 61 = .ok (.putfield 46, 3) := by decide +kernel
theorem dX1_init_64 : decode cX1_init 64 = .ok (.aload_n 0, 1) := by decide +kernel
theorem dX1_init_65 : decode cX1_init 65 = .ok (.iconst 0, 1) := by decide +kernel
theorem dX1_init_66 : decode cX1_init 66 = .ok (.putfield 49, 3) := by decide +kernel
theorem dX1_init_69 : decode cX1_init 69 = .ok (.aload_n 0, 1) := by decide +kernel
theorem dX1_init_70 : decode cX1_init 70 = .ok (.iconst 4, 1) := by decide +kernel
theorem dX1_init_71 : decode cX1_init 71 = .ok (.newarray .int, 2) := by decide +kernel
theorem dX1_init_73 : decode cX1_init 73 = .ok (.putfield 52, 3) := by decide +kernel
theorem dX1_init_76 : decode cX1_init 76 = .ok (.aload_n 0, 1) := by decide +kernel
theorem dX1_init_77 : decode cX1_init 77 = .ok (.iconst 3, 1) := by decide +kernel
theorem dX1_init_78 : decode cX1_init 78 = .ok (.newarray .int, 2) := by decide +kernel
theorem dX1_init_80 : decode cX1_init 80 = .ok (.putfield 56, 3) := by decide +kernel
theorem dX1_init_83 : decode cX1_init 83 = .ok (.aload_n 0, 1) := by decide +kernel
theorem dX1_init_84 : decode cX1_init 84 = .ok (.new 59, 3) := by decide +kernel
theorem dX1_init_87 : decode cX1_init 87 = .ok (.dup, 1) := by decide +kernel
theorem dX1_init_88 : decode cX1_init 88 = .ok (.invokespecial 61, 3) := by decide +kernel
theorem dX1_init_91 : decode cX1_init 91 = .ok (.putfield 62, 3) := by decide +kernel
theorem dX1_init_94 : decode cX1_init 94 = .ok (.return_, 1) := by decide +kernel
theorem dX1_isFreeMade_0 : decode cX1_isFreeMade 0 = .ok (.aload_n 0, 1) := by decide +kernel
theorem dX1_isFreeMade_1 : decode cX1_isFreeMade 1 = .ok (.getfield 9, 3) := by decide +kernel
theorem dX1_isFreeMade_4 : decode cX1_isFreeMade 4 = .ok (.iconst 2, 1) := by decide +kernel
theorem dX1_isFreeMade_5 : decode cX1_isFreeMade 5 = .ok (.if_icmp .ne 17, 3) := by decide +kernel
theorem dX1_isFreeMade_8 : decode cX1_isFreeMade 8 = .ok (.aload_n 0, 1) := by decide +kernel
theorem dX1_isFreeMade_9 : decode cX1_isFreeMade 9 = .ok (.getfield 62, 3) := by decide +kernel
theorem dX1_isFreeMade_12 : decode cX1_isFreeMade 12 = .ok (.invokevirtual 66, 3) := by decide +kernel
theorem dX1_isFreeMade_15 : decode cX1_isFreeMade 15 = .ok (.ifCond .ne 7, 3) := by decide +kernel
theorem dX1_isFreeMade_18 : decode cX1_isFreeMade 18 = .ok (.iconst 1, 1) := by decide +kernel
theorem dX1_isFreeMade_19 : decode cX1_isFreeMade 19 = .ok (.goto 4, 3) := by decide +kernel
theorem dX1_isFreeMade_22 : decode cX1_isFreeMade 22 = .ok (.iconst 0, 1) := by decide +kernel
theorem dX1_isFreeMade_23 : decode cX1_isFreeMade 23 = .ok (.ireturn, 1) := by decide +kernel
theorem dX1_isDried_0 : decode cX1_isDried 0 = .ok (.bipush 20, 2) := by decide +kernel
theorem dX1_isDried_2 : decode cX1_isDried 2 = .ok (.aload_n 0, 1) := by decide +kernel
theorem dX1_isDried_3 : decode cX1_isDried 3 = .ok (.getfield 21, 3) := by decide +kernel
theorem dX1_isDried_6 : decode cX1_isDried 6 = .ok (.imul, 1) := by decide +kernel
theorem dX1_isDried_7 : decode cX1_isDried 7 = .ok (.aload_n 0, 1) := by decide +kernel
theorem dX1_isDried_8 : decode cX1_isDried 8 = .ok (.getfield 15, 3) := by decide +kernel
theorem dX1_isDried_11 : decode cX1_isDried 11 = .ok (.if_icmp .gt 7, 3) := by decide +kernel
theorem dX1_isDried_14 : decode cX1_isDried 14 = .ok (.iconst 1, 1) := by decide +kernel
theorem dX1_isDried_15 : decode cX1_isDried 15 = .ok (.goto 4, 3) := by decide +kernel
theorem dX1_isDried_18 : decode cX1_isDried 18 = .ok (.iconst 0, 1) := by decide +kernel
theorem dX1_isDried_19 : decode cX1_isDried 19 = .ok (.ireturn, 1) := by decide +kernel
theorem dX1_vanish_0 : decode cX1_vanish 0 = .ok (.aload_n 0, 1) := by decide +kernel
theorem dX1_vanish_1 : decode cX1_vanish 1 = .ok (.iconst 3, 1) := by decide +kernel
theorem dX1_vanish_2 : decode cX1_vanish 2 = .ok (.putfield 9, 3) := by decide +kernel
theorem dX1_vanish_5 : decode cX1_vanish 5 = .ok (.aload_n 0, 1) := by decide +kernel
theorem dX1_vanish_6 : decode cX1_vanish 6 = .ok (.iconst 0, 1) := by decide +kernel
theorem dX1_vanish_7 : decode cX1_vanish 7 = .ok (.putfield 15, 3) := by decide +kernel
theorem dX1_vanish_10 : decode cX1_vanish 10 = .ok (.iconst 0, 1) := by decide +kernel
theorem dX1_vanish_11 : decode cX1_vanish 11 = .ok (.istore_n 1, 1) := by decide +kernel
theorem dX1_vanish_12 : decode cX1_vanish 12 = .ok (.iload_n 1, 1) := by decide +kernel
theorem dX1_vanish_13 : decode cX1_vanish 13 = .ok (.aload_n 0, 1) := by decide +kernel
theorem dX1_vanish_14 : decode cX1_vanish 14 = .ok (.getfield 52, 3) := by decide +kernel
theorem dX1_vanish_17 : decode cX1_vanish 17 = .ok (.arraylength, 1) := by decide +kernel
theorem dX1_vanish_18 : decode cX1_vanish 18 = .ok (.if_icmp .ge 16, 3) := by decide +kernel
theorem dX1_vanish_21 : decode cX1_vanish 21 = .ok (.aload_n 0, 1) := by decide +kernel
theorem dX1_vanish_22 : decode cX1_vanish 22 = .ok (.getfield 52, 3) := by decide +kernel
theorem dX1_vanish_25 : decode cX1_vanish 25 = .ok (.iload_n 1, 1) := by decide +kernel
theorem dX1_vanish_26 : decode cX1_vanish 26 = .ok (.iconst 0, 1) := by decide +kernel
theorem dX1_vanish_27 : decode cX1_vanish 27 = .ok (.iastore, 1) := by decide +kernel
theorem dX1_vanish_28 : decode cX1_vanish 28 = .ok (.iinc 1 1, 3) := by decide +kernel
theorem dX1_vanish_31 : decode cX1_vanish 31 = .ok (.goto (-19), 3) := by decide +kernel
theorem dX1_vanish_34 : decode cX1_vanish 34 = .ok (.return_, 1) := by decide +kernel
theorem dX1_copyLeaf_0 : decode cX1_copyLeaf 0 = .ok (.aload_n 0, 1) := by decide +kernel
theorem dX1_copyLeaf_1 : decode cX1_copyLeaf 1 = .ok (.aload_n 1, 1) := by decide +kernel
theorem dX1_copyLeaf_2 : decode cX1_copyLeaf 2 = .ok (.getfield 15, 3) := by decide +kernel
theorem dX1_copyLeaf_5 : decode cX1_copyLeaf 5 = .ok (.putfield 15, 3) := by decide +kernel
theorem dX1_copyLeaf_8 : decode cX1_copyLeaf 8 = .ok (.aload_n 0, 1) := by decide +kernel
theorem dX1_copyLeaf_9 : decode cX1_copyLeaf 9 = .ok (.aload_n 1, 1) := by decide +kernel
theorem dX1_copyLeaf_10 : decode cX1_copyLeaf 10 = .ok (.getfield 18, 3) := by decide +kernel
theorem dX1_copyLeaf_13 : decode cX1_copyLeaf 13 = .ok (.putfield 18, 3) := by decide +kernel
theorem dX1_copyLeaf_16 : decode cX1_copyLeaf 16 = .ok (.aload_n 0, 1) := by decide +kernel
theorem dX1_copyLeaf_17 : decode cX1_copyLeaf 17 = .ok (.aload_n 1, 1) := by decide +kernel
theorem dX1_copyLeaf_18 : decode cX1_copyLeaf 18 = .ok (.getfield 21, 3) := by decide +kernel
theorem dX1_copyLeaf_21 : decode cX1_copyLeaf 21 = .ok (.putfield 21, 3) := by decide +kernel
theorem dX1_copyLeaf_24 : decode cX1_copyLeaf 24 = .ok (.aload_n 0, 1) := by decide +kernel
theorem dX1_copyLeaf_25 : decode cX1_copyLeaf 25 = .ok (.aload_n 1, 1) := by decide +kernel
theorem dX1_copyLeaf_26 : decode cX1_copyLeaf 26 = .ok (.getfield 24, 3) := by decide +kernel
theorem dX1_copyLeaf_29 : decode cX1_copyLeaf 29 = .ok (.putfield 24, 3) := by decide +kernel
theorem dX1_copyLeaf_32 : decode cX1_copyLeaf 32 = .ok (.aload_n 0, 1) := by decide +kernel
theorem dX1_copyLeaf_33 : decode cX1_copyLeaf 33 = .ok (.aload_n 1, 1) := by decide +kernel
theorem dX1_copyLeaf_34 : decode cX1_copyLeaf 34 = .ok (.getfield 27, 3) := by decide +kernel
theorem dX1_copyLeaf_37 : decode cX1_copyLeaf 37 = .ok (.putfield 27, 3) := by decide +kernel
theorem dX1_copyLeaf_40 : decode cX1_copyLeaf 40 = .ok (.aload_n 0, 1) := by decide +kernel
theorem dX1_copyLeaf_41 : decode cX1_copyLeaf 41 = .ok (.aload_n 1, 1) := by decide +kernel
theorem dX1_copyLeaf_42 : decode cX1_copyLeaf 42 = .ok (.getfield 30, 3) := by decide +kernel
theorem dX1_copyLeaf_45 : decode cX1_copyLeaf 45 = .ok (.putfield 30, 3) := by decide +kernel
theorem dX1_copyLeaf_48 : decode cX1_copyLeaf 48 = .ok (.aload_n 0, 1) := by decide +kernel
theorem dX1_copyLeaf_49 : decode cX1_copyLeaf 49 = .ok (.aload_n 1, 1) := by decide +kernel
theorem dX1_copyLeaf_50 : decode cX1_copyLeaf 50 = .ok (.getfield 33, 3) := by decide +kernel
theorem dX1_copyLeaf_53 : decode cX1_copyLeaf 53 = .ok (.putfield 33, 3) := by decide +kernel
theorem dX1_copyLeaf_56 : decode cX1_copyLeaf 56 = .ok (.aload_n 0, 1) := by decide +kernel
theorem dX1_copyLeaf_57 : decode cX1_copyLeaf 57 = .ok (.aload_n 1, 1) := by decide +kernel
theorem dX1_copyLeaf_58 : decode cX1_copyLeaf 58 = .ok (.getfield 36, 3) := by decide +kernel
theorem dX1_copyLeaf_61 : decode cX1_copyLeaf 61 = .ok (.putfield 36, 3) := by decide +kernel
theorem dX1_copyLeaf_64 : decode cX1_copyLeaf 64 = .ok (.aload_n 0, 1) := by decide +kernel
theorem dX1_copyLeaf_65 : decode cX1_copyLeaf 65 = .ok (.aload_n 1, 1) := by decide +kernel
theorem dX1_copyLeaf_66 : decode cX1_copyLeaf 66 = .ok (.getfield 42, 3) := by decide +kernel
theorem dX1_copyLeaf_69 : decode cX1_copyLeaf 69 = .ok (.putfield 42, 3) := by decide +kernel
theorem dX1_copyLeaf_72 : decode cX1_copyLeaf 72 = .ok (.aload_n 0, 1) := by decide +kernel
theorem dX1_copyLeaf_73 : decode cX1_copyLeaf 73 = .ok (.aload_n 1, 1) := by decide +kernel
theorem dX1_copyLeaf_74 : decode cX1_copyLeaf 74 = .ok (.getfield 46, 3) := by decide +kernel
theorem dX1_copyLeaf_77 : decode cX1_copyLeaf 77 = .ok (.putfield 46, 3) := by decide +kernel
theorem dX1_copyLeaf_80 : decode cX1_copyLeaf 80 = .ok (.return_, 1) := by decide +kernel
theorem dX1_heatMinute_0 : decode cX1_heatMinute 0 = .ok (.aload_n 0, 1) := by decide +kernel
theorem dX1_heatMinute_1 : decode cX1_heatMinute 1 = .ok (.invokevirtual 70, 3) := by decide +kernel
theorem dX1_heatMinute_4 : decode cX1_heatMinute 4 = .ok (.ifCond .eq 16, 3) := by decide +kernel
theorem dX1_heatMinute_7 : decode cX1_heatMinute 7 = .ok (.aload_n 0, 1) := by decide +kernel
theorem dX1_heatMinute_8 : decode cX1_heatMinute 8 = .ok (.dup, 1) := by decide +kernel
theorem dX1_heatMinute_9 : decode cX1_heatMinute 9 = .ok (.getfield 36, 3) := by decide +kernel
theorem dX1_heatMinute_12 : decode cX1_heatMinute 12 = .ok (.iload_n 1, 1) := by decide +kernel
theorem dX1_heatMinute_13 : decode cX1_heatMinute 13 = .ok (.iadd, 1) := by decide +kernel
theorem dX1_heatMinute_14 : decode cX1_heatMinute 14 = .ok (.putfield 36, 3) := by decide +kernel
theorem dX1_heatMinute_17 : decode cX1_heatMinute 17 = .ok (.goto 29, 3) := by decide +kernel
theorem dX1_heatMinute_20 : decode cX1_heatMinute 20 = .ok (.iload_n 1, 1) := by decide +kernel
theorem dX1_heatMinute_21 : decode cX1_heatMinute 21 = .ok (.iconst 4, 1) := by decide +kernel
theorem dX1_heatMinute_22 : decode cX1_heatMinute 22 = .ok (.if_icmp .lt 24, 3) := by decide +kernel
theorem dX1_heatMinute_25 : decode cX1_heatMinute 25 = .ok (.aload_n 0, 1) := by decide +kernel
theorem dX1_heatMinute_26 : decode cX1_heatMinute 26 = .ok (.getfield 21, 3) := by decide +kernel
theorem dX1_heatMinute_29 : decode cX1_heatMinute 29 = .ok (.aload_n 0, 1) := by decide +kernel
theorem dX1_heatMinute_30 : decode cX1_heatMinute 30 = .ok (.getfield 15, 3) := by decide +kernel
theorem dX1_heatMinute_33 : decode cX1_heatMinute 33 = .ok (.if_icmp .le 13, 3) := by decide +kernel
theorem dX1_heatMinute_36 : decode cX1_heatMinute 36 = .ok (.aload_n 0, 1) := by decide +kernel
theorem dX1_heatMinute_37 : decode cX1_heatMinute 37 = .ok (.dup, 1) := by decide +kernel
theorem dX1_heatMinute_38 : decode cX1_heatMinute 38 = .ok (.getfield 33, 3) := by decide +kernel
theorem dX1_heatMinute_41 : decode cX1_heatMinute 41 = .ok (.iconst 1, 1) := by decide +kernel
theorem dX1_heatMinute_42 : decode cX1_heatMinute 42 = .ok (.iadd, 1) := by decide +kernel
theorem dX1_heatMinute_43 : decode cX1_heatMinute 43 = .ok (.putfield 33, 3) := by decide +kernel
theorem dX1_heatMinute_46 : decode cX1_heatMinute 46 = .ok (.aload_n 0, 1) := by decide +kernel
theorem dX1_heatMinute_47 : decode cX1_heatMinute 47 = .ok (.iconst 0, 1) := by decide +kernel
theorem dX1_heatMinute_48 : decode cX1_heatMinute 48 = .ok (.aload_n 0, 1) := by decide +kernel
theorem dX1_heatMinute_49 : decode cX1_heatMinute 49 = .ok (.getfield 21, 3) := by decide +kernel
theorem dX1_heatMinute_52 : decode cX1_heatMinute 52 = .ok (.iload_n 1, 1) := by decide +kernel
theorem dX1_heatMinute_53 : decode cX1_heatMinute 53 = .ok (.isub, 1) := by decide +kernel
theorem dX1_heatMinute_54 : decode cX1_heatMinute 54 = .ok (.aload_n 0, 1) := by decide +kernel
theorem dX1_heatMinute_55 : decode cX1_heatMinute 55 = .ok (.getfield 15, 3) := by decide +kernel
theorem dX1_heatMinute_58 : decode cX1_heatMinute 58 = .ok (.bipush 20, 2) := by decide +kernel
theorem dX1_heatMinute_60 : decode cX1_heatMinute 60 = .ok (.idiv, 1) := by decide +kernel
theorem dX1_heatMinute_61 : decode cX1_heatMinute 61 = .ok (.isub, 1) := by decide +kernel
theorem dX1_heatMinute_62 : decode cX1_heatMinute 62 = .ok (.invokestatic 73, 3) := by decide +kernel
theorem dX1_heatMinute_65 : decode cX1_heatMinute 65 = .ok (.putfield 21, 3) := by decide +kernel
theorem dX1_heatMinute_68 : decode cX1_heatMinute 68 = .ok (.return_, 1) := by decide +kernel
theorem dX1_shareOfGrade_0 : decode cX1_shareOfGrade 0 = .ok (.bipush 10, 2) := by decide +kernel
theorem dX1_shareOfGrade_2 : decode cX1_shareOfGrade 2 = .ok (.aload_n 0, 1) := by decide +kernel
theorem dX1_shareOfGrade_3 : decode cX1_shareOfGrade 3 = .ok (.getfield 27, 3) := by decide +kernel
theorem dX1_shareOfGrade_6 : decode cX1_shareOfGrade 6 = .ok (.invokestatic 79, 3) := by decide +kernel
theorem dX1_shareOfGrade_9 : decode cX1_shareOfGrade 9 = .ok (.istore_n 3, 1) := by decide +kernel
theorem dX1_shareOfGrade_10 : decode cX1_shareOfGrade 10 = .ok (.iload_n 1, 1) := by decide +kernel
theorem dX1_shareOfGrade_11 : decode cX1_shareOfGrade 11 = .ok (.iload_n 3, 1) := by decide +kernel
theorem dX1_shareOfGrade_12 : decode cX1_shareOfGrade 12 = .ok (.imul, 1) := by decide +kernel
theorem dX1_shareOfGrade_13 : decode cX1_shareOfGrade 13 = .ok (.bipush 40, 2) := by decide +kernel
theorem dX1_shareOfGrade_15 : decode cX1_shareOfGrade 15 = .ok (.idiv, 1) := by decide +kernel
theorem dX1_shareOfGrade_16 : decode cX1_shareOfGrade 16 = .ok (.istore 4, 2) := by decide +kernel
theorem dX1_shareOfGrade_18 : decode cX1_shareOfGrade 18 = .ok (.iload_n 1, 1) := by decide +kernel
theorem dX1_shareOfGrade_19 : decode cX1_shareOfGrade 19 = .ok (.iload_n 3, 1) := by decide +kernel
theorem dX1_shareOfGrade_20 : decode cX1_shareOfGrade 20 = .ok (.imul, 1) := by decide +kernel
theorem dX1_shareOfGrade_21 : decode cX1_shareOfGrade 21 = .ok (.bipush 20, 2) := by decide +kernel
theorem dX1_shareOfGrade_23 : decode cX1_shareOfGrade 23 = .ok (.idiv, 1) := by decide +kernel
theorem dX1_shareOfGrade_24 : decode cX1_shareOfGrade 24 = .ok (.istore 5, 2) := by decide +kernel
theorem dX1_shareOfGrade_26 : decode cX1_shareOfGrade 26 = .ok (.iload_n 2, 1) := by decide +kernel
theorem dX1_shareOfGrade_27 : decode cX1_shareOfGrade 27 = .ok (.iconst 2, 1) := by decide +kernel
theorem dX1_shareOfGrade_28 : decode cX1_shareOfGrade 28 = .ok (.if_icmp .ne 6, 3) := by decide +kernel
theorem dX1_shareOfGrade_31 : decode cX1_shareOfGrade 31 = .ok (.iload 4, 2) := by decide +kernel
theorem dX1_shareOfGrade_33 : decode cX1_shareOfGrade 33 = .ok (.ireturn, 1) := by decide +kernel
theorem dX1_shareOfGrade_34 : decode cX1_shareOfGrade 34 = .ok (.iload_n 2, 1) := by decide +kernel
theorem dX1_shareOfGrade_35 : decode cX1_shareOfGrade 35 = .ok (.iconst 1, 1) := by decide +kernel
theorem dX1_shareOfGrade_36 : decode cX1_shareOfGrade 36 = .ok (.if_icmp .ne 8, 3) := by decide +kernel
theorem dX1_shareOfGrade_39 : decode cX1_shareOfGrade 39 = .ok (.iload 5, 2) := by decide +kernel
theorem dX1_shareOfGrade_41 : decode cX1_shareOfGrade 41 = .ok (.goto 10, 3) := by decide +kernel
theorem dX1_shareOfGrade_44 : decode cX1_shareOfGrade 44 = .ok (.iload_n 1, 1) := by decide +kernel
theorem dX1_shareOfGrade_45 : decode cX1_shareOfGrade 45 = .ok (.iload 5, 2) := by decide +kernel
theorem dX1_shareOfGrade_47 : decode cX1_shareOfGrade 47 = .ok (.isub, 1) := by decide +kernel
theorem dX1_shareOfGrade_48 : decode cX1_shareOfGrade 48 = .ok (.iload 4, 2) := by decide +kernel
theorem dX1_shareOfGrade_50 : decode cX1_shareOfGrade 50 = .ok (.isub, 1) := by decide +kernel
theorem dX1_shareOfGrade_51 : decode cX1_shareOfGrade 51 = .ok (.ireturn, 1) := by decide +kernel
theorem dX1_dryOfGrade_0 : decode cX1_dryOfGrade 0 = .ok (.iconst 0, 1) := by decide +kernel
theorem dX1_dryOfGrade_1 : decode cX1_dryOfGrade 1 = .ok (.istore_n 2, 1) := by decide +kernel
theorem dX1_dryOfGrade_2 : decode cX1_dryOfGrade 2 = .ok (.iconst 0, 1) := by decide +kernel
theorem dX1_dryOfGrade_3 : decode cX1_dryOfGrade 3 = .ok (.istore_n 3, 1) := by decide +kernel
theorem dX1_dryOfGrade_4 : decode cX1_dryOfGrade 4 = .ok (.iload_n 3, 1) := by decide +kernel
theorem dX1_dryOfGrade_5 : decode cX1_dryOfGrade 5 = .ok (.aload_n 0, 1) := by decide +kernel
theorem dX1_dryOfGrade_6 : decode cX1_dryOfGrade 6 = .ok (.getfield 52, 3) := by decide +kernel
theorem dX1_dryOfGrade_9 : decode cX1_dryOfGrade 9 = .ok (.arraylength, 1) := by decide +kernel
theorem dX1_dryOfGrade_10 : decode cX1_dryOfGrade 10 = .ok (.if_icmp .ge 23, 3) := by decide +kernel
theorem dX1_dryOfGrade_13 : decode cX1_dryOfGrade 13 = .ok (.iload_n 2, 1) := by decide +kernel
theorem dX1_dryOfGrade_14 : decode cX1_dryOfGrade 14 = .ok (.aload_n 0, 1) := by decide +kernel
theorem dX1_dryOfGrade_15 : decode cX1_dryOfGrade 15 = .ok (.aload_n 0, 1) := by decide +kernel
theorem dX1_dryOfGrade_16 : decode cX1_dryOfGrade 16 = .ok (.getfield 52, 3) := by decide +kernel
theorem dX1_dryOfGrade_19 : decode cX1_dryOfGrade 19 = .ok (.iload_n 3, 1) := by decide +kernel
theorem dX1_dryOfGrade_20 : decode cX1_dryOfGrade 20 = .ok (.iaload, 1) := by decide +kernel
theorem dX1_dryOfGrade_21 : decode cX1_dryOfGrade 21 = .ok (.iload_n 1, 1) := by decide +kernel
theorem dX1_dryOfGrade_22 : decode cX1_dryOfGrade 22 = .ok (.invokevirtual 82, 3) := by decide +kernel
theorem dX1_dryOfGrade_25 : decode cX1_dryOfGrade 25 = .ok (.iadd, 1) := by decide +kernel
theorem dX1_dryOfGrade_26 : decode cX1_dryOfGrade 26 = .ok (.istore_n 2, 1) := by decide +kernel
theorem dX1_dryOfGrade_27 : decode cX1_dryOfGrade 27 = .ok (.iinc 3 1, 3) := by decide +kernel
theorem dX1_dryOfGrade_30 : decode cX1_dryOfGrade 30 = .ok (.goto (-26), 3) := by decide +kernel
theorem dX1_dryOfGrade_33 : decode cX1_dryOfGrade 33 = .ok (.iload_n 2, 1) := by decide +kernel
theorem dX1_dryOfGrade_34 : decode cX1_dryOfGrade 34 = .ok (.ireturn, 1) := by decide +kernel
theorem dX1_becomeGrade_0 : decode cX1_becomeGrade 0 = .ok (.aload_n 0, 1) := by decide +kernel
theorem dX1_becomeGrade_1 : decode cX1_becomeGrade 1 = .ok (.aload_n 1, 1) := by decide +kernel
theorem dX1_becomeGrade_2 : decode cX1_becomeGrade 2 = .ok (.invokevirtual 85, 3) := by decide +kernel
theorem dX1_becomeGrade_5 : decode cX1_becomeGrade 5 = .ok (.aload_n 0, 1) := by decide +kernel
theorem dX1_becomeGrade_6 : decode cX1_becomeGrade 6 = .ok (.iconst 2, 1) := by decide +kernel
theorem dX1_becomeGrade_7 : decode cX1_becomeGrade 7 = .ok (.putfield 9, 3) := by decide +kernel
theorem dX1_becomeGrade_10 : decode cX1_becomeGrade 10 = .ok (.aload_n 0, 1) := by decide +kernel
theorem dX1_becomeGrade_11 : decode cX1_becomeGrade 11 = .ok (.iload_n 2, 1) := by decide +kernel
theorem dX1_becomeGrade_12 : decode cX1_becomeGrade 12 = .ok (.putfield 39, 3) := by decide +kernel
theorem dX1_becomeGrade_15 : decode cX1_becomeGrade 15 = .ok (.aload_n 0, 1) := by decide +kernel
theorem dX1_becomeGrade_16 : decode cX1_becomeGrade 16 = .ok (.iconst 0, 1) := by decide +kernel
theorem dX1_becomeGrade_17 : decode cX1_becomeGrade 17 = .ok (.putfield 21, 3) := by decide +kernel
theorem dX1_becomeGrade_20 : decode cX1_becomeGrade 20 = .ok (.iconst 0, 1) := by decide +kernel
theorem dX1_becomeGrade_21 : decode cX1_becomeGrade 21 = .ok (.istore_n 3, 1) := by decide +kernel
theorem dX1_becomeGrade_22 : decode cX1_becomeGrade 22 = .ok (.iload_n 3, 1) := by decide +kernel
theorem dX1_becomeGrade_23 : decode cX1_becomeGrade 23 = .ok (.aload_n 0, 1) := by decide +kernel
theorem dX1_becomeGrade_24 : decode cX1_becomeGrade 24 = .ok (.getfield 52, 3) := by decide +kernel
theorem dX1_becomeGrade_27 : decode cX1_becomeGrade 27 = .ok (.arraylength, 1) := by decide +kernel
theorem dX1_becomeGrade_28 : decode cX1_becomeGrade 28 = .ok (.if_icmp .ge 26, 3) := by decide +kernel
theorem dX1_becomeGrade_31 : decode cX1_becomeGrade 31 = .ok (.aload_n 0, 1) := by decide +kernel
theorem dX1_becomeGrade_32 : decode cX1_becomeGrade 32 = .ok (.getfield 52, 3) := by decide +kernel
theorem dX1_becomeGrade_35 : decode cX1_becomeGrade 35 = .ok (.iload_n 3, 1) := by decide +kernel
theorem dX1_becomeGrade_36 : decode cX1_becomeGrade 36 = .ok (.aload_n 1, 1) := by decide +kernel
theorem dX1_becomeGrade_37 : decode cX1_becomeGrade 37 = .ok (.aload_n 1, 1) := by decide +kernel
theorem dX1_becomeGrade_38 : decode cX1_becomeGrade 38 = .ok (.getfield 52, 3) := by decide +kernel
theorem dX1_becomeGrade_41 : decode cX1_becomeGrade 41 = .ok (.iload_n 3, 1) := by decide +kernel
theorem dX1_becomeGrade_42 : decode cX1_becomeGrade 42 = .ok (.iaload, 1) := by decide +kernel
theorem dX1_becomeGrade_43 : decode cX1_becomeGrade 43 = .ok (.iload_n 2, 1) := by decide +kernel
theorem dX1_becomeGrade_44 : decode cX1_becomeGrade 44 = .ok (.invokevirtual 82, 3) := by decide +kernel
theorem dX1_becomeGrade_47 : decode cX1_becomeGrade 47 = .ok (.iastore, 1) := by decide +kernel
theorem dX1_becomeGrade_48 : decode cX1_becomeGrade 48 = .ok (.iinc 3 1, 3) := by decide +kernel
theorem dX1_becomeGrade_51 : decode cX1_becomeGrade 51 = .ok (.goto (-29), 3) := by decide +kernel
theorem dX1_becomeGrade_54 : decode cX1_becomeGrade 54 = .ok (.aload_n 0, 1) := by decide +kernel
theorem dX1_becomeGrade_55 : decode cX1_becomeGrade 55 = .ok (.aload_n 1, 1) := by decide +kernel
theorem dX1_becomeGrade_56 : decode cX1_becomeGrade 56 = .ok (.iload_n 2, 1) := by decide +kernel
theorem dX1_becomeGrade_57 : decode cX1_becomeGrade 57 = .ok (.invokevirtual 89, 3) := by decide +kernel
theorem dX1_becomeGrade_60 : decode cX1_becomeGrade 60 = .ok (.putfield 15, 3) := by decide +kernel
theorem dX1_becomeGrade_63 : decode cX1_becomeGrade 63 = .ok (.aload_n 0, 1) := by decide +kernel
theorem dX1_becomeGrade_64 : decode cX1_becomeGrade 64 = .ok (.aload_n 0, 1) := by decide +kernel
theorem dX1_becomeGrade_65 : decode cX1_becomeGrade 65 = .ok (.getfield 15, 3) := by decide +kernel
theorem dX1_becomeGrade_68 : decode cX1_becomeGrade 68 = .ok (.aload_n 1, 1) := by decide +kernel
theorem dX1_becomeGrade_69 : decode cX1_becomeGrade 69 = .ok (.aload_n 1, 1) := by decide +kernel
theorem dX1_becomeGrade_70 : decode cX1_becomeGrade 70 = .ok (.getfield 18, 3) := by decide +kernel
theorem dX1_becomeGrade_73 : decode cX1_becomeGrade 73 = .ok (.iload_n 2, 1) := by decide +kernel
theorem dX1_becomeGrade_74 : decode cX1_becomeGrade 74 = .ok (.invokevirtual 82, 3) := by decide +kernel
theorem dX1_becomeGrade_77 : decode cX1_becomeGrade 77 = .ok (.invokestatic 79, 3) := by decide +kernel
theorem dX1_becomeGrade_80 : decode cX1_becomeGrade 80 = .ok (.putfield 18, 3) := by decide +kernel
theorem dX1_becomeGrade_83 : decode cX1_becomeGrade 83 = .ok (.return_, 1) := by decide +kernel
theorem dX1_takeUnits_0 : decode cX1_takeUnits 0 = .ok (.iload_n 2, 1) := by decide +kernel
theorem dX1_takeUnits_1 : decode cX1_takeUnits 1 = .ok (.istore_n 3, 1) := by decide +kernel
theorem dX1_takeUnits_2 : decode cX1_takeUnits 2 = .ok (.iconst 0, 1) := by decide +kernel
theorem dX1_takeUnits_3 : decode cX1_takeUnits 3 = .ok (.istore 4, 2) := by decide +kernel
theorem dX1_takeUnits_5 : decode cX1_takeUnits 5 = .ok (.iload 4, 2) := by decide +kernel
theorem dX1_takeUnits_7 : decode cX1_takeUnits 7 = .ok (.aload_n 0, 1) := by decide +kernel
theorem dX1_takeUnits_8 : decode cX1_takeUnits 8 = .ok (.getfield 52, 3) := by decide +kernel
theorem dX1_takeUnits_11 : decode cX1_takeUnits 11 = .ok (.arraylength, 1) := by decide +kernel
theorem dX1_takeUnits_12 : decode cX1_takeUnits 12 = .ok (.if_icmp .ge 51, 3) := by decide +kernel
theorem dX1_takeUnits_15 : decode cX1_takeUnits 15 = .ok (.iload_n 3, 1) := by decide +kernel
theorem dX1_takeUnits_16 : decode cX1_takeUnits 16 = .ok (.aload_n 1, 1) := by decide +kernel
theorem dX1_takeUnits_17 : decode cX1_takeUnits 17 = .ok (.getfield 52, 3) := by decide +kernel
theorem dX1_takeUnits_20 : decode cX1_takeUnits 20 = .ok (.iload 4, 2) := by decide +kernel
theorem dX1_takeUnits_22 : decode cX1_takeUnits 22 = .ok (.iaload, 1) := by decide +kernel
theorem dX1_takeUnits_23 : decode cX1_takeUnits 23 = .ok (.invokestatic 79, 3) := by decide +kernel
theorem dX1_takeUnits_26 : decode cX1_takeUnits 26 = .ok (.istore 5, 2) := by decide +kernel
theorem dX1_takeUnits_28 : decode cX1_takeUnits 28 = .ok (.aload_n 0, 1) := by decide +kernel
theorem dX1_takeUnits_29 : decode cX1_takeUnits 29 = .ok (.getfield 52, 3) := by decide +kernel
theorem dX1_takeUnits_32 : decode cX1_takeUnits 32 = .ok (.iload 4, 2) := by decide +kernel
theorem dX1_takeUnits_34 : decode cX1_takeUnits 34 = .ok (.dup2, 1) := by decide +kernel
theorem dX1_takeUnits_35 : decode cX1_takeUnits 35 = .ok (.iaload, 1) := by decide +kernel
theorem dX1_takeUnits_36 : decode cX1_takeUnits 36 = .ok (.iload 5, 2) := by decide +kernel
theorem dX1_takeUnits_38 : decode cX1_takeUnits 38 = .ok (.iadd, 1) := by decide +kernel
theorem dX1_takeUnits_39 : decode cX1_takeUnits 39 = .ok (.iastore, 1) := by decide +kernel
theorem dX1_takeUnits_40 : decode cX1_takeUnits 40 = .ok (.aload_n 1, 1) := by decide +kernel
theorem dX1_takeUnits_41 : decode cX1_takeUnits 41 = .ok (.getfield 52, 3) := by decide +kernel
theorem dX1_takeUnits_44 : decode cX1_takeUnits 44 = .ok (.iload 4, 2) := by decide +kernel
theorem dX1_takeUnits_46 : decode cX1_takeUnits 46 = .ok (.dup2, 1) := by decide +kernel
theorem dX1_takeUnits_47 : decode cX1_takeUnits 47 = .ok (.iaload, 1) := by decide +kernel
theorem dX1_takeUnits_48 : decode cX1_takeUnits 48 = .ok (.iload 5, 2) := by decide +kernel
theorem dX1_takeUnits_50 : decode cX1_takeUnits 50 = .ok (.isub, 1) := by decide +kernel
theorem dX1_takeUnits_51 : decode cX1_takeUnits 51 = .ok (.iastore, 1) := by decide +kernel
theorem dX1_takeUnits_52 : decode cX1_takeUnits 52 = .ok (.iload_n 3, 1) := by decide +kernel
theorem dX1_takeUnits_53 : decode cX1_takeUnits 53 = .ok (.iload 5, 2) := by decide +kernel
theorem dX1_takeUnits_55 : decode cX1_takeUnits 55 = .ok (.isub, 1) := by decide +kernel
theorem dX1_takeUnits_56 : decode cX1_takeUnits 56 = .ok (.istore_n 3, 1) := by decide +kernel
theorem dX1_takeUnits_57 : decode cX1_takeUnits 57 = .ok (.iinc 4 1, 3) := by decide +kernel
theorem dX1_takeUnits_60 : decode cX1_takeUnits 60 = .ok (.goto (-55), 3) := by decide +kernel
theorem dX1_takeUnits_63 : decode cX1_takeUnits 63 = .ok (.aload_n 0, 1) := by decide +kernel
theorem dX1_takeUnits_64 : decode cX1_takeUnits 64 = .ok (.dup, 1) := by decide +kernel
theorem dX1_takeUnits_65 : decode cX1_takeUnits 65 = .ok (.getfield 15, 3) := by decide +kernel
theorem dX1_takeUnits_68 : decode cX1_takeUnits 68 = .ok (.iload_n 2, 1) := by decide +kernel
theorem dX1_takeUnits_69 : decode cX1_takeUnits 69 = .ok (.iadd, 1) := by decide +kernel
theorem dX1_takeUnits_70 : decode cX1_takeUnits 70 = .ok (.putfield 15, 3) := by decide +kernel
theorem dX1_takeUnits_73 : decode cX1_takeUnits 73 = .ok (.aload_n 1, 1) := by decide +kernel
theorem dX1_takeUnits_74 : decode cX1_takeUnits 74 = .ok (.dup, 1) := by decide +kernel
theorem dX1_takeUnits_75 : decode cX1_takeUnits 75 = .ok (.getfield 15, 3) := by decide +kernel
theorem dX1_takeUnits_78 : decode cX1_takeUnits 78 = .ok (.iload_n 2, 1) := by decide +kernel
theorem dX1_takeUnits_79 : decode cX1_takeUnits 79 = .ok (.isub, 1) := by decide +kernel
theorem dX1_takeUnits_80 : decode cX1_takeUnits 80 = .ok (.putfield 15, 3) := by decide +kernel
theorem dX1_takeUnits_83 : decode cX1_takeUnits 83 = .ok (.aload_n 1, 1) := by decide +kernel
theorem dX1_takeUnits_84 : decode cX1_takeUnits 84 = .ok (.aload_n 1, 1) := by decide +kernel
theorem dX1_takeUnits_85 : decode cX1_takeUnits 85 = .ok (.getfield 18, 3) := by decide +kernel
theorem dX1_takeUnits_88 : decode cX1_takeUnits 88 = .ok (.aload_n 1, 1) := by decide +kernel
theorem dX1_takeUnits_89 : decode cX1_takeUnits 89 = .ok (.getfield 15, 3) := by decide +kernel
theorem dX1_takeUnits_92 : decode cX1_takeUnits 92 = .ok (.invokestatic 79, 3) := by decide +kernel
theorem dX1_takeUnits_95 : decode cX1_takeUnits 95 = .ok (.putfield 18, 3) := by decide +kernel
theorem dX1_takeUnits_98 : decode cX1_takeUnits 98 = .ok (.aload_n 1, 1) := by decide +kernel
theorem dX1_takeUnits_99 : decode cX1_takeUnits 99 = .ok (.getfield 15, 3) := by decide +kernel
theorem dX1_takeUnits_102 : decode cX1_takeUnits 102 = .ok (.ifCond .gt 7, 3) := by decide +kernel
theorem dX1_takeUnits_105 : decode cX1_takeUnits 105 = .ok (.aload_n 1, 1) := by decide +kernel
theorem dX1_takeUnits_106 : decode cX1_takeUnits 106 = .ok (.invokevirtual 93, 3) := by decide +kernel
theorem dX1_takeUnits_109 : decode cX1_takeUnits 109 = .ok (.return_, 1) := by decide +kernel
theorem dX1_noteOf_0 : decode cX1_noteOf 0 = .ok (.aload_n 0, 1) := by decide +kernel
theorem dX1_noteOf_1 : decode cX1_noteOf 1 = .ok (.getfield 49, 3) := by decide +kernel
theorem dX1_noteOf_4 : decode cX1_noteOf 4 = .ok (.ifCond .eq 10, 3) := by decide +kernel
theorem dX1_noteOf_7 : decode cX1_noteOf 7 = .ok (.aload_n 0, 1) := by decide +kernel
theorem dX1_noteOf_8 : decode cX1_noteOf 8 = .ok (.getfield 56, 3) := by decide +kernel
theorem dX1_noteOf_11 : decode cX1_noteOf 11 = .ok (.iload_n 1, 1) := by decide +kernel
theorem dX1_noteOf_12 : decode cX1_noteOf 12 = .ok (.iaload, 1) := by decide +kernel
theorem dX1_noteOf_13 : decode cX1_noteOf 13 = .ok (.ireturn, 1) := by decide +kernel
theorem dX1_noteOf_14 : decode cX1_noteOf 14 = .ok (.aload_n 0, 1) := by decide +kernel
theorem dX1_noteOf_15 : decode cX1_noteOf 15 = .ok (.getfield 15, 3) := by decide +kernel
theorem dX1_noteOf_18 : decode cX1_noteOf 18 = .ok (.ifCond .le 18, 3) := by decide +kernel
theorem dX1_noteOf_21 : decode cX1_noteOf 21 = .ok (.bipush 10, 2) := by decide +kernel
theorem dX1_noteOf_23 : decode cX1_noteOf 23 = .ok (.aload_n 0, 1) := by decide +kernel
theorem dX1_noteOf_24 : decode cX1_noteOf 24 = .ok (.getfield 18, 3) := by decide +kernel
theorem dX1_noteOf_27 : decode cX1_noteOf 27 = .ok (.imul, 1) := by decide +kernel
theorem dX1_noteOf_28 : decode cX1_noteOf 28 = .ok (.aload_n 0, 1) := by decide +kernel
theorem dX1_noteOf_29 : decode cX1_noteOf 29 = .ok (.getfield 15, 3) := by decide +kernel
theorem dX1_noteOf_32 : decode cX1_noteOf 32 = .ok (.idiv, 1) := by decide +kernel
theorem dX1_noteOf_33 : decode cX1_noteOf 33 = .ok (.goto 4, 3) := by decide +kernel
theorem dX1_noteOf_36 : decode cX1_noteOf 36 = .ok (.iconst 0, 1) := by decide +kernel
theorem dX1_noteOf_37 : decode cX1_noteOf 37 = .ok (.istore_n 2, 1) := by decide +kernel
theorem dX1_noteOf_38 : decode cX1_noteOf 38 = .ok (.iload_n 1, 1) := by decide +kernel
theorem dX1_noteOf_39 : decode cX1_noteOf 39 = .ok (.ifCond .ne 11, 3) := by decide +kernel
theorem dX1_noteOf_42 : decode cX1_noteOf 42 = .ok (.aload_n 0, 1) := by decide +kernel
theorem dX1_noteOf_43 : decode cX1_noteOf 43 = .ok (.invokevirtual 96, 3) := by decide +kernel
theorem dX1_noteOf_46 : decode cX1_noteOf 46 = .ok (.invokestatic 100, 3) := by decide +kernel
theorem dX1_noteOf_49 : decode cX1_noteOf 49 = .ok (.ireturn, 1) := by decide +kernel
theorem dX1_noteOf_50 : decode cX1_noteOf 50 = .ok (.iload_n 1, 1) := by decide +kernel
theorem dX1_noteOf_51 : decode cX1_noteOf 51 = .ok (.iconst 1, 1) := by decide +kernel
theorem dX1_noteOf_52 : decode cX1_noteOf 52 = .ok (.if_icmp .ne 11, 3) := by decide +kernel
theorem dX1_noteOf_55 : decode cX1_noteOf 55 = .ok (.aload_n 0, 1) := by decide +kernel
theorem dX1_noteOf_56 : decode cX1_noteOf 56 = .ok (.iload_n 2, 1) := by decide +kernel
theorem dX1_noteOf_57 : decode cX1_noteOf 57 = .ok (.invokevirtual 103, 3) := by decide +kernel
theorem dX1_noteOf_60 : decode cX1_noteOf 60 = .ok (.goto 8, 3) := by decide +kernel
theorem dX1_noteOf_63 : decode cX1_noteOf 63 = .ok (.aload_n 0, 1) := by decide +kernel
theorem dX1_noteOf_64 : decode cX1_noteOf 64 = .ok (.iload_n 2, 1) := by decide +kernel
theorem dX1_noteOf_65 : decode cX1_noteOf 65 = .ok (.invokevirtual 106, 3) := by decide +kernel
theorem dX1_noteOf_68 : decode cX1_noteOf 68 = .ok (.invokestatic 100, 3) := by decide +kernel
theorem dX1_noteOf_71 : decode cX1_noteOf 71 = .ok (.ireturn, 1) := by decide +kernel
theorem dX1_sumOfNotes_0 : decode cX1_sumOfNotes 0 = .ok (.iconst 0, 1) := by decide +kernel
theorem dX1_sumOfNotes_1 : decode cX1_sumOfNotes 1 = .ok (.istore_n 1, 1) := by decide +kernel
theorem dX1_sumOfNotes_2 : decode cX1_sumOfNotes 2 = .ok (.iconst 0, 1) := by decide +kernel
theorem dX1_sumOfNotes_3 : decode cX1_sumOfNotes 3 = .ok (.istore_n 2, 1) := by decide +kernel
theorem dX1_sumOfNotes_4 : decode cX1_sumOfNotes 4 = .ok (.iload_n 2, 1) := by decide +kernel
theorem dX1_sumOfNotes_5 : decode cX1_sumOfNotes 5 = .ok (.iconst 3, 1) := by decide +kernel
theorem dX1_sumOfNotes_6 : decode cX1_sumOfNotes 6 = .ok (.if_icmp .ge 17, 3) := by decide +kernel
theorem dX1_sumOfNotes_9 : decode cX1_sumOfNotes 9 = .ok (.iload_n 1, 1) := by decide +kernel
theorem dX1_sumOfNotes_10 : decode cX1_sumOfNotes 10 = .ok (.aload_n 0, 1) := by decide +kernel
theorem dX1_sumOfNotes_11 : decode cX1_sumOfNotes 11 = .ok (.iload_n 2, 1) := by decide +kernel
theorem dX1_sumOfNotes_12 : decode cX1_sumOfNotes 12 = .ok (.invokevirtual 109, 3) := by decide +kernel
theorem dX1_sumOfNotes_15 : decode cX1_sumOfNotes 15 = .ok (.iadd, 1) := by decide +kernel
theorem dX1_sumOfNotes_16 : decode cX1_sumOfNotes 16 = .ok (.istore_n 1, 1) := by decide +kernel
theorem dX1_sumOfNotes_17 : decode cX1_sumOfNotes 17 = .ok (.iinc 2 1, 3) := by decide +kernel
theorem dX1_sumOfNotes_20 : decode cX1_sumOfNotes 20 = .ok (.goto (-16), 3) := by decide +kernel
theorem dX1_sumOfNotes_23 : decode cX1_sumOfNotes 23 = .ok (.iload_n 1, 1) := by decide +kernel
theorem dX1_sumOfNotes_24 : decode cX1_sumOfNotes 24 = .ok (.ireturn, 1) := by decide +kernel
theorem dX1_bodyOfLeaf_0 : decode cX1_bodyOfLeaf 0 = .ok (.aload_n 0, 1) := by decide +kernel
theorem dX1_bodyOfLeaf_1 : decode cX1_bodyOfLeaf 1 = .ok (.getfield 30, 3) := by decide +kernel
theorem dX1_bodyOfLeaf_4 : decode cX1_bodyOfLeaf 4 = .ok (.bipush 8, 2) := by decide +kernel
theorem dX1_bodyOfLeaf_6 : decode cX1_bodyOfLeaf 6 = .ok (.idiv, 1) := by decide +kernel
theorem dX1_bodyOfLeaf_7 : decode cX1_bodyOfLeaf 7 = .ok (.aload_n 0, 1) := by decide +kernel
theorem dX1_bodyOfLeaf_8 : decode cX1_bodyOfLeaf 8 = .ok (.getfield 27, 3) := by decide +kernel
theorem dX1_bodyOfLeaf_11 : decode cX1_bodyOfLeaf 11 = .ok (.iconst 3, 1) := by decide +kernel
theorem dX1_bodyOfLeaf_12 : decode cX1_bodyOfLeaf 12 = .ok (.idiv, 1) := by decide +kernel
theorem dX1_bodyOfLeaf_13 : decode cX1_bodyOfLeaf 13 = .ok (.iadd, 1) := by decide +kernel
theorem dX1_bodyOfLeaf_14 : decode cX1_bodyOfLeaf 14 = .ok (.aload_n 0, 1) := by decide +kernel
theorem dX1_bodyOfLeaf_15 : decode cX1_bodyOfLeaf 15 = .ok (.getfield 39, 3) := by decide +kernel
theorem dX1_bodyOfLeaf_18 : decode cX1_bodyOfLeaf 18 = .ok (.iconst 2, 1) := by decide +kernel
theorem dX1_bodyOfLeaf_19 : decode cX1_bodyOfLeaf 19 = .ok (.if_icmp .ne 7, 3) := by decide +kernel
theorem dX1_bodyOfLeaf_22 : decode cX1_bodyOfLeaf 22 = .ok (.iconst 2, 1) := by decide +kernel
theorem dX1_bodyOfLeaf_23 : decode cX1_bodyOfLeaf 23 = .ok (.goto 4, 3) := by decide +kernel
theorem dX1_bodyOfLeaf_26 : decode cX1_bodyOfLeaf 26 = .ok (.iconst 0, 1) := by decide +kernel
theorem dX1_bodyOfLeaf_27 : decode cX1_bodyOfLeaf 27 = .ok (.iadd, 1) := by decide +kernel
theorem dX1_bodyOfLeaf_28 : decode cX1_bodyOfLeaf 28 = .ok (.aload_n 0, 1) := by decide +kernel
theorem dX1_bodyOfLeaf_29 : decode cX1_bodyOfLeaf 29 = .ok (.getfield 33, 3) := by decide +kernel
theorem dX1_bodyOfLeaf_32 : decode cX1_bodyOfLeaf 32 = .ok (.isub, 1) := by decide +kernel
theorem dX1_bodyOfLeaf_33 : decode cX1_bodyOfLeaf 33 = .ok (.ireturn, 1) := by decide +kernel
theorem dX1_briskOfLeaf_0 : decode cX1_briskOfLeaf 0 = .ok (.aload_n 0, 1) := by decide +kernel
theorem dX1_briskOfLeaf_1 : decode cX1_briskOfLeaf 1 = .ok (.getfield 42, 3) := by decide +kernel
theorem dX1_briskOfLeaf_4 : decode cX1_briskOfLeaf 4 = .ok (.ifCond .eq 7, 3) := by decide +kernel
theorem dX1_briskOfLeaf_7 : decode cX1_briskOfLeaf 7 = .ok (.iconst 3, 1) := by decide +kernel
theorem dX1_briskOfLeaf_8 : decode cX1_briskOfLeaf 8 = .ok (.goto 18, 3) := by decide +kernel
theorem dX1_briskOfLeaf_11 : decode cX1_briskOfLeaf 11 = .ok (.iconst 4, 1) := by decide +kernel
theorem dX1_briskOfLeaf_12 : decode cX1_briskOfLeaf 12 = .ok (.aload_n 0, 1) := by decide +kernel
theorem dX1_briskOfLeaf_13 : decode cX1_briskOfLeaf 13 = .ok (.getfield 30, 3) := by decide +kernel
theorem dX1_briskOfLeaf_16 : decode cX1_briskOfLeaf 16 = .ok (.bipush 30, 2) := by decide +kernel
theorem dX1_briskOfLeaf_18 : decode cX1_briskOfLeaf 18 = .ok (.isub, 1) := by decide +kernel
theorem dX1_briskOfLeaf_19 : decode cX1_briskOfLeaf 19 = .ok (.invokestatic 112, 3) := by decide +kernel
theorem dX1_briskOfLeaf_22 : decode cX1_briskOfLeaf 22 = .ok (.bipush 8, 2) := by decide +kernel
theorem dX1_briskOfLeaf_24 : decode cX1_briskOfLeaf 24 = .ok (.idiv, 1) := by decide +kernel
theorem dX1_briskOfLeaf_25 : decode cX1_briskOfLeaf 25 = .ok (.isub, 1) := by decide +kernel
theorem dX1_briskOfLeaf_26 : decode cX1_briskOfLeaf 26 = .ok (.istore_n 2, 1) := by decide +kernel
theorem dX1_briskOfLeaf_27 : decode cX1_briskOfLeaf 27 = .ok (.iload_n 1, 1) := by decide +kernel
theorem dX1_briskOfLeaf_28 : decode cX1_briskOfLeaf 28 = .ok (.iconst 2, 1) := by decide +kernel
theorem dX1_briskOfLeaf_29 : decode cX1_briskOfLeaf 29 = .ok (.idiv, 1) := by decide +kernel
theorem dX1_briskOfLeaf_30 : decode cX1_briskOfLeaf 30 = .ok (.iload_n 2, 1) := by decide +kernel
theorem dX1_briskOfLeaf_31 : decode cX1_briskOfLeaf 31 = .ok (.iadd, 1) := by decide +kernel
theorem dX1_briskOfLeaf_32 : decode cX1_briskOfLeaf 32 = .ok (.aload_n 0, 1) := by decide +kernel
theorem dX1_briskOfLeaf_33 : decode cX1_briskOfLeaf 33 = .ok (.getfield 36, 3) := by decide +kernel
theorem dX1_briskOfLeaf_36 : decode cX1_briskOfLeaf 36 = .ok (.iconst 4, 1) := by decide +kernel
theorem dX1_briskOfLeaf_37 : decode cX1_briskOfLeaf 37 = .ok (.idiv, 1) := by decide +kernel
theorem dX1_briskOfLeaf_38 : decode cX1_briskOfLeaf 38 = .ok (.isub, 1) := by decide +kernel
theorem dX1_briskOfLeaf_39 : decode cX1_briskOfLeaf 39 = .ok (.ireturn, 1) := by decide +kernel
theorem dX1_aromaOfLeaf_0 : decode cX1_aromaOfLeaf 0 = .ok (.bipush 12, 2) := by decide +kernel
theorem dX1_aromaOfLeaf_2 : decode cX1_aromaOfLeaf 2 = .ok (.aload_n 0, 1) := by decide +kernel
theorem dX1_aromaOfLeaf_3 : decode cX1_aromaOfLeaf 3 = .ok (.getfield 24, 3) := by decide +kernel
theorem dX1_aromaOfLeaf_6 : decode cX1_aromaOfLeaf 6 = .ok (.invokestatic 79, 3) := by decide +kernel
theorem dX1_aromaOfLeaf_9 : decode cX1_aromaOfLeaf 9 = .ok (.iconst 2, 1) := by decide +kernel
theorem dX1_aromaOfLeaf_10 : decode cX1_aromaOfLeaf 10 = .ok (.idiv, 1) := by decide +kernel
theorem dX1_aromaOfLeaf_11 : decode cX1_aromaOfLeaf 11 = .ok (.istore_n 2, 1) := by decide +kernel
theorem dX1_aromaOfLeaf_12 : decode cX1_aromaOfLeaf 12 = .ok (.iload_n 2, 1) := by decide +kernel
theorem dX1_aromaOfLeaf_13 : decode cX1_aromaOfLeaf 13 = .ok (.iload_n 1, 1) := by decide +kernel
theorem dX1_aromaOfLeaf_14 : decode cX1_aromaOfLeaf 14 = .ok (.iconst 3, 1) := by decide +kernel
theorem dX1_aromaOfLeaf_15 : decode cX1_aromaOfLeaf 15 = .ok (.idiv, 1) := by decide +kernel
theorem dX1_aromaOfLeaf_16 : decode cX1_aromaOfLeaf 16 = .ok (.iadd, 1) := by decide +kernel
theorem dX1_aromaOfLeaf_17 : decode cX1_aromaOfLeaf 17 = .ok (.aload_n 0, 1) := by decide +kernel
theorem dX1_aromaOfLeaf_18 : decode cX1_aromaOfLeaf 18 = .ok (.getfield 33, 3) := by decide +kernel
theorem dX1_aromaOfLeaf_21 : decode cX1_aromaOfLeaf 21 = .ok (.isub, 1) := by decide +kernel
theorem dX1_aromaOfLeaf_22 : decode cX1_aromaOfLeaf 22 = .ok (.aload_n 0, 1) := by decide +kernel
theorem dX1_aromaOfLeaf_23 : decode cX1_aromaOfLeaf 23 = .ok (.getfield 36, 3) := by decide +kernel
theorem dX1_aromaOfLeaf_26 : decode cX1_aromaOfLeaf 26 = .ok (.iconst 5, 1) := by decide +kernel
theorem dX1_aromaOfLeaf_27 : decode cX1_aromaOfLeaf 27 = .ok (.idiv, 1) := by decide +kernel
theorem dX1_aromaOfLeaf_28 : decode cX1_aromaOfLeaf 28 = .ok (.isub, 1) := by decide +kernel
theorem dX1_aromaOfLeaf_29 : decode cX1_aromaOfLeaf 29 = .ok (.aload_n 0, 1) := by decide +kernel
theorem dX1_aromaOfLeaf_30 : decode cX1_aromaOfLeaf 30 = .ok (.getfield 46, 3) := by decide +kernel
theorem dX1_aromaOfLeaf_33 : decode cX1_aromaOfLeaf 33 = .ok (.ifCond .eq 7, 3) := by decide +kernel
theorem dX1_aromaOfLeaf_36 : decode cX1_aromaOfLeaf 36 = .ok (.iconst 5, 1) := by decide +kernel
theorem dX1_aromaOfLeaf_37 : decode cX1_aromaOfLeaf 37 = .ok (.goto 4, 3) := by decide +kernel
theorem dX1_aromaOfLeaf_40 : decode cX1_aromaOfLeaf 40 = .ok (.iconst 0, 1) := by decide +kernel
theorem dX1_aromaOfLeaf_41 : decode cX1_aromaOfLeaf 41 = .ok (.isub, 1) := by decide +kernel
theorem dX1_aromaOfLeaf_42 : decode cX1_aromaOfLeaf 42 = .ok (.ireturn, 1) := by decide +kernel
theorem dX2_init_0 : decode cX2_init 0 = .ok (.aload_n 0, 1) := by decide +kernel
theorem dX2_init_1 : decode cX2_init 1 = .ok (.invokespecial 3, 3) := by decide +kernel
theorem dX2_init_4 : decode cX2_init 4 = .ok (.aload_n 0, 1) := by decide +kernel
theorem dX2_init_5 : decode cX2_init 5 = .ok (.iconst 0, 1) := by decide +kernel
theorem dX2_init_6 : decode cX2_init 6 = .ok (.putfield 9, 3) := by decide +kernel
theorem dX2_init_9 : decode cX2_init 9 = .ok (.aload_n 0, 1) := by decide +kernel
theorem dX2_init_10 : decode cX2_init 10 = .ok (.iconst 0, 1) := by decide +kernel
theorem dX2_init_11 : decode cX2_init 11 = .ok (.putfield 15, 3) := by decide +kernel
theorem dX2_init_14 : decode cX2_init 14 = .ok (.aload_n 0, 1) := by decide +kernel
theorem dX2_init_15 : decode cX2_init 15 = .ok (.iconst 0, 1) := by decide +kernel
theorem dX2_init_16 : decode cX2_init 16 = .ok (.putfield 18, 3) := by decide +kernel
theorem dX2_init_19 : decode cX2_init 19 = .ok (.aload_n 0, 1) := by decide +kernel
theorem dX2_init_20 : decode cX2_init 20 = .ok (.iconst 0, 1) := by decide +kernel
theorem dX2_init_21 : decode cX2_init 21 = .ok (.putfield 21, 3) := by decide +kernel
theorem dX2_init_24 : decode cX2_init 24 = .ok (.aload_n 0, 1) := by decide +kernel
theorem dX2_init_25 : decode cX2_init 25 = .ok (.iconst 0, 1) := by decide +kernel
theorem dX2_init_26 : decode cX2_init 26 = .ok (.putfield 24, 3) := by decide +kernel
theorem dX2_init_29 : decode cX2_init 29 = .ok (.aload_n 0, 1) := by decide +kernel
theorem dX2_init_30 : decode cX2_init 30 = .ok (.iconst 0, 1) := by decide +kernel
theorem dX2_init_31 : decode cX2_init 31 = .ok (.putfield 27, 3) := by decide +kernel
theorem dX2_init_34 : decode cX2_init 34 = .ok (.aload_n 0, 1) := by decide +kernel
theorem dX2_init_35 : decode cX2_init 35 = .ok (.iconst 0, 1) := by decide +kernel
theorem dX2_init_36 : decode cX2_init 36 = .ok (.putfield 30, 3) := by decide +kernel
theorem dX2_init_39 : decode cX2_init 39 = .ok (.aload_n 0, 1) := by decide +kernel
theorem dX2_init_40 : decode cX2_init 40 = .ok (.iconst 4, 1) := by decide +kernel
theorem dX2_init_41 : decode cX2_init 41 = .ok (.newarray .int, 2) := by decide +kernel
theorem dX2_init_43 : decode cX2_init 43 = .ok (.putfield 33, 3) := by decide +kernel
theorem dX2_init_46 : decode cX2_init 46 = .ok (.return_, 1) := by decide +kernel
theorem dX2_sapOfDay_0 : decode cX2_sapOfDay 0 = .ok (.iconst 0, 1) := by decide +kernel
theorem dX2_sapOfDay_1 : decode cX2_sapOfDay 1 = .ok (.iload_n 1, 1) := by decide +kernel
theorem dX2_sapOfDay_2 : decode cX2_sapOfDay 2 = .ok (.aload_n 0, 1) := by decide +kernel
theorem dX2_sapOfDay_3 : decode cX2_sapOfDay 3 = .ok (.getfield 15, 3) := by decide +kernel
theorem dX2_sapOfDay_6 : decode cX2_sapOfDay 6 = .ok (.isub, 1) := by decide +kernel
theorem dX2_sapOfDay_7 : decode cX2_sapOfDay 7 = .ok (.invokestatic 37, 3) := by decide +kernel
theorem dX2_sapOfDay_10 : decode cX2_sapOfDay 10 = .ok (.iconst 3, 1) := by decide +kernel
theorem dX2_sapOfDay_11 : decode cX2_sapOfDay 11 = .ok (.iload_n 2, 1) := by decide +kernel
theorem dX2_sapOfDay_12 : decode cX2_sapOfDay 12 = .ok (.invokestatic 43, 3) := by decide +kernel
theorem dX2_sapOfDay_15 : decode cX2_sapOfDay 15 = .ok (.iadd, 1) := by decide +kernel
theorem dX2_sapOfDay_16 : decode cX2_sapOfDay 16 = .ok (.ireturn, 1) := by decide +kernel
theorem dX2_growDay_0 : decode cX2_growDay 0 = .ok (.aload_n 0, 1) := by decide +kernel
theorem dX2_growDay_1 : decode cX2_growDay 1 = .ok (.getfield 27, 3) := by decide +kernel
theorem dX2_growDay_4 : decode cX2_growDay 4 = .ok (.ifCond .le 13, 3) := by decide +kernel
theorem dX2_growDay_7 : decode cX2_growDay 7 = .ok (.aload_n 0, 1) := by decide +kernel
theorem dX2_growDay_8 : decode cX2_growDay 8 = .ok (.dup, 1) := by decide +kernel
theorem dX2_growDay_9 : decode cX2_growDay 9 = .ok (.getfield 27, 3) := by decide +kernel
theorem dX2_growDay_12 : decode cX2_growDay 12 = .ok (.iconst 1, 1) := by decide +kernel
theorem dX2_growDay_13 : decode cX2_growDay 13 = .ok (.isub, 1) := by decide +kernel
theorem dX2_growDay_14 : decode cX2_growDay 14 = .ok (.putfield 27, 3) := by decide +kernel
theorem dX2_growDay_17 : decode cX2_growDay 17 = .ok (.aload_n 0, 1) := by decide +kernel
theorem dX2_growDay_18 : decode cX2_growDay 18 = .ok (.getfield 21, 3) := by decide +kernel
theorem dX2_growDay_21 : decode cX2_growDay 21 = .ok (.ifCond .le 15, 3) := by decide +kernel
theorem dX2_growDay_24 : decode cX2_growDay 24 = .ok (.aload_n 0, 1) := by decide +kernel
theorem dX2_growDay_25 : decode cX2_growDay 25 = .ok (.dup, 1) := by decide +kernel
theorem dX2_growDay_26 : decode cX2_growDay 26 = .ok (.getfield 21, 3) := by decide +kernel
theorem dX2_growDay_29 : decode cX2_growDay 29 = .ok (.iconst 1, 1) := by decide +kernel
theorem dX2_growDay_30 : decode cX2_growDay 30 = .ok (.isub, 1) := by decide +kernel
theorem dX2_growDay_31 : decode cX2_growDay 31 = .ok (.putfield 21, 3) := by decide +kernel
theorem dX2_growDay_34 : decode cX2_growDay 34 = .ok (.iconst 0, 1) := by decide +kernel
theorem dX2_growDay_35 : decode cX2_growDay 35 = .ok (.ireturn, 1) := by decide +kernel
theorem dX2_growDay_36 : decode cX2_growDay 36 = .ok (.aload_n 0, 1) := by decide +kernel
theorem dX2_growDay_37 : decode cX2_growDay 37 = .ok (.iload_n 2, 1) := by decide +kernel
theorem dX2_growDay_38 : decode cX2_growDay 38 = .ok (.aload_n 0, 1) := by decide +kernel
theorem dX2_growDay_39 : decode cX2_growDay 39 = .ok (.getfield 15, 3) := by decide +kernel
theorem dX2_growDay_42 : decode cX2_growDay 42 = .ok (.iadd, 1) := by decide +kernel
theorem dX2_growDay_43 : decode cX2_growDay 43 = .ok (.iconst 5, 1) := by decide +kernel
theorem dX2_growDay_44 : decode cX2_growDay 44 = .ok (.if_icmp .lt 12, 3) := by decide +kernel
theorem dX2_growDay_47 : decode cX2_growDay 47 = .ok (.aload_n 0, 1) := by decide +kernel
theorem dX2_growDay_48 : decode cX2_growDay 48 = .ok (.getfield 24, 3) := by decide +kernel
theorem dX2_growDay_51 : decode cX2_growDay 51 = .ok (.iconst 1, 1) := by decide +kernel
theorem dX2_growDay_52 : decode cX2_growDay 52 = .ok (.iadd, 1) := by decide +kernel
theorem dX2_growDay_53 : decode cX2_growDay 53 = .ok (.goto 13, 3) := by decide +kernel
theorem dX2_growDay_56 : decode cX2_growDay 56 = .ok (.iconst 0, 1) := by decide +kernel
theorem dX2_growDay_57 : decode cX2_growDay 57 = .ok (.aload_n 0, 1) := by decide +kernel
theorem dX2_growDay_58 : decode cX2_growDay 58 = .ok (.getfield 24, 3) := by decide +kernel
theorem dX2_growDay_61 : decode cX2_growDay 61 = .ok (.iconst 1, 1) := by decide +kernel
theorem dX2_growDay_62 : decode cX2_growDay 62 = .ok (.isub, 1) := by decide +kernel
theorem dX2_growDay_63 : decode cX2_growDay 63 = .ok (.invokestatic 37, 3) := by decide +kernel
theorem dX2_growDay_66 : decode cX2_growDay 66 = .ok (.putfield 24, 3) := by decide +kernel
theorem dX2_growDay_69 : decode cX2_growDay 69 = .ok (.aload_n 0, 1) := by decide +kernel
theorem dX2_growDay_70 : decode cX2_growDay 70 = .ok (.dup, 1) := by decide +kernel
theorem dX2_growDay_71 : decode cX2_growDay 71 = .ok (.getfield 18, 3) := by decide +kernel
theorem dX2_growDay_74 : decode cX2_growDay 74 = .ok (.aload_n 0, 1) := by decide +kernel
theorem dX2_growDay_75 : decode cX2_growDay 75 = .ok (.iload_n 1, 1) := by decide +kernel
theorem dX2_growDay_76 : decode cX2_growDay 76 = .ok (.iload_n 2, 1) := by decide +kernel
theorem dX2_growDay_77 : decode cX2_growDay 77 = .ok (.invokevirtual 46, 3) := by decide +kernel
theorem dX2_growDay_80 : decode cX2_growDay 80 = .ok (.iadd, 1) := by decide +kernel
theorem dX2_growDay_81 : decode cX2_growDay 81 = .ok (.putfield 18, 3) := by decide +kernel
theorem dX2_growDay_84 : decode cX2_growDay 84 = .ok (.aload_n 0, 1) := by decide +kernel
theorem dX2_growDay_85 : decode cX2_growDay 85 = .ok (.getfield 18, 3) := by decide +kernel
theorem dX2_growDay_88 : decode cX2_growDay 88 = .ok (.iconst 5, 1) := by decide +kernel
theorem dX2_growDay_89 : decode cX2_growDay 89 = .ok (.idiv, 1) := by decide +kernel
theorem dX2_growDay_90 : decode cX2_growDay 90 = .ok (.istore_n 3, 1) := by decide +kernel
theorem dX2_growDay_91 : decode cX2_growDay 91 = .ok (.iconst 0, 1) := by decide +kernel
theorem dX2_growDay_92 : decode cX2_growDay 92 = .ok (.istore 4, 2) := by decide +kernel
theorem dX2_growDay_94 : decode cX2_growDay 94 = .ok (.iload 4, 2) := by decide +kernel
theorem dX2_growDay_96 : decode cX2_growDay 96 = .ok (.iload_n 3, 1) := by decide +kernel
theorem dX2_growDay_97 : decode cX2_growDay 97 = .ok (.if_icmp .ge 13, 3) := by decide +kernel
theorem dX2_growDay_100 : decode cX2_growDay 100 = .ok (.aload_n 0, 1) := by decide +kernel
theorem dX2_growDay_101 : decode cX2_growDay 101 = .ok (.invokevirtual 49, 3) := by decide +kernel
theorem dX2_growDay_104 : decode cX2_growDay 104 = .ok (.iinc 4 1, 3) := by decide +kernel
theorem dX2_growDay_107 : decode cX2_growDay 107 = .ok (.goto (-13), 3) := by decide +kernel
theorem dX2_growDay_110 : decode cX2_growDay 110 = .ok (.iload_n 3, 1) := by decide +kernel
theorem dX2_growDay_111 : decode cX2_growDay 111 = .ok (.ireturn, 1) := by decide +kernel
theorem dX2_flushOnce_0 : decode cX2_flushOnce 0 = .ok (.aload_n 0, 1) := by decide +kernel
theorem dX2_flushOnce_1 : decode cX2_flushOnce 1 = .ok (.dup, 1) := by decide +kernel
theorem dX2_flushOnce_2 : decode cX2_flushOnce 2 = .ok (.getfield 18, 3) := by decide +kernel
theorem dX2_flushOnce_5 : decode cX2_flushOnce 5 = .ok (.iconst 5, 1) := by decide +kernel
theorem dX2_flushOnce_6 : decode cX2_flushOnce 6 = .ok (.isub, 1) := by decide +kernel
theorem dX2_flushOnce_7 : decode cX2_flushOnce 7 = .ok (.putfield 18, 3) := by decide +kernel
theorem dX2_flushOnce_10 : decode cX2_flushOnce 10 = .ok (.aload_n 0, 1) := by decide +kernel
theorem dX2_flushOnce_11 : decode cX2_flushOnce 11 = .ok (.dup, 1) := by decide +kernel
theorem dX2_flushOnce_12 : decode cX2_flushOnce 12 = .ok (.getfield 30, 3) := by decide +kernel
theorem dX2_flushOnce_15 : decode cX2_flushOnce 15 = .ok (.aload_n 0, 1) := by decide +kernel
theorem dX2_flushOnce_16 : decode cX2_flushOnce 16 = .ok (.getfield 33, 3) := by decide +kernel
theorem dX2_flushOnce_19 : decode cX2_flushOnce 19 = .ok (.iconst 3, 1) := by decide +kernel
theorem dX2_flushOnce_20 : decode cX2_flushOnce 20 = .ok (.iaload, 1) := by decide +kernel
theorem dX2_flushOnce_21 : decode cX2_flushOnce 21 = .ok (.iadd, 1) := by decide +kernel
theorem dX2_flushOnce_22 : decode cX2_flushOnce 22 = .ok (.putfield 30, 3) := by decide +kernel
theorem dX2_flushOnce_25 : decode cX2_flushOnce 25 = .ok (.aload_n 0, 1) := by decide +kernel
theorem dX2_flushOnce_26 : decode cX2_flushOnce 26 = .ok (.getfield 33, 3) := by decide +kernel
theorem dX2_flushOnce_29 : decode cX2_flushOnce 29 = .ok (.iconst 3, 1) := by decide +kernel
theorem dX2_flushOnce_30 : decode cX2_flushOnce 30 = .ok (.aload_n 0, 1) := by decide +kernel
theorem dX2_flushOnce_31 : decode cX2_flushOnce 31 = .ok (.getfield 33, 3) := by decide +kernel
theorem dX2_flushOnce_34 : decode cX2_flushOnce 34 = .ok (.iconst 2, 1) := by decide +kernel
theorem dX2_flushOnce_35 : decode cX2_flushOnce 35 = .ok (.iaload, 1) := by decide +kernel
theorem dX2_flushOnce_36 : decode cX2_flushOnce 36 = .ok (.iastore, 1) := by decide +kernel
theorem dX2_flushOnce_37 : decode cX2_flushOnce 37 = .ok (.aload_n 0, 1) := by decide +kernel
theorem dX2_flushOnce_38 : decode cX2_flushOnce 38 = .ok (.getfield 33, 3) := by decide +kernel
theorem dX2_flushOnce_41 : decode cX2_flushOnce 41 = .ok (.iconst 2, 1) := by decide +kernel
theorem dX2_flushOnce_42 : decode cX2_flushOnce 42 = .ok (.aload_n 0, 1) := by decide +kernel
theorem dX2_flushOnce_43 : decode cX2_flushOnce 43 = .ok (.getfield 33, 3) := by decide +kernel
theorem dX2_flushOnce_46 : decode cX2_flushOnce 46 = .ok (.iconst 1, 1) := by decide +kernel
theorem dX2_flushOnce_47 : decode cX2_flushOnce 47 = .ok (.iaload, 1) := by decide +kernel
theorem dX2_flushOnce_48 : decode cX2_flushOnce 48 = .ok (.iastore, 1) := by decide +kernel
theorem dX2_flushOnce_49 : decode cX2_flushOnce 49 = .ok (.aload_n 0, 1) := by decide +kernel
theorem dX2_flushOnce_50 : decode cX2_flushOnce 50 = .ok (.getfield 33, 3) := by decide +kernel
theorem dX2_flushOnce_53 : decode cX2_flushOnce 53 = .ok (.iconst 1, 1) := by decide +kernel
theorem dX2_flushOnce_54 : decode cX2_flushOnce 54 = .ok (.aload_n 0, 1) := by decide +kernel
theorem dX2_flushOnce_55 : decode cX2_flushOnce 55 = .ok (.getfield 33, 3) := by decide +kernel
theorem dX2_flushOnce_58 : decode cX2_flushOnce 58 = .ok (.iconst 0, 1) := by decide +kernel
theorem dX2_flushOnce_59 : decode cX2_flushOnce 59 = .ok (.iaload, 1) := by decide +kernel
theorem dX2_flushOnce_60 : decode cX2_flushOnce 60 = .ok (.iastore, 1) := by decide +kernel
theorem dX2_flushOnce_61 : decode cX2_flushOnce 61 = .ok (.aload_n 0, 1) := by decide +kernel
theorem dX2_flushOnce_62 : decode cX2_flushOnce 62 = .ok (.getfield 33, 3) := by decide +kernel
theorem dX2_flushOnce_65 : decode cX2_flushOnce 65 = .ok (.iconst 0, 1) := by decide +kernel
theorem dX2_flushOnce_66 : decode cX2_flushOnce 66 = .ok (.aload_n 0, 1) := by decide +kernel
theorem dX2_flushOnce_67 : decode cX2_flushOnce 67 = .ok (.getfield 24, 3) := by decide +kernel
theorem dX2_flushOnce_70 : decode cX2_flushOnce 70 = .ok (.iconst 3, 1) := by decide +kernel
theorem dX2_flushOnce_71 : decode cX2_flushOnce 71 = .ok (.if_icmp .lt 10, 3) := by decide +kernel
theorem dX2_flushOnce_74 : decode cX2_flushOnce 74 = .ok (.aload_n 0, 1) := by decide +kernel
theorem dX2_flushOnce_75 : decode cX2_flushOnce 75 = .ok (.getfield 9, 3) := by decide +kernel
theorem dX2_flushOnce_78 : decode cX2_flushOnce 78 = .ok (.goto 9, 3) := by decide +kernel
theorem dX2_flushOnce_81 : decode cX2_flushOnce 81 = .ok (.iconst 2, 1) := by decide +kernel
theorem dX2_flushOnce_82 : decode cX2_flushOnce 82 = .ok (.aload_n 0, 1) := by decide +kernel
theorem dX2_flushOnce_83 : decode cX2_flushOnce 83 = .ok (.getfield 9, 3) := by decide +kernel
theorem dX2_flushOnce_86 : decode cX2_flushOnce 86 = .ok (.imul, 1) := by decide +kernel
theorem dX2_flushOnce_87 : decode cX2_flushOnce 87 = .ok (.iastore, 1) := by decide +kernel
theorem dX2_flushOnce_88 : decode cX2_flushOnce 88 = .ok (.return_, 1) := by decide +kernel
theorem dX3_init_0 : decode cX3_init 0 = .ok (.aload_n 0, 1) := by decide +kernel
theorem dX3_init_1 : decode cX3_init 1 = .ok (.invokespecial 3, 3) := by decide +kernel
theorem dX3_init_4 : decode cX3_init 4 = .ok (.aload_n 0, 1) := by decide +kernel
theorem dX3_init_5 : decode cX3_init 5 = .ok (.iconst 0, 1) := by decide +kernel
theorem dX3_init_6 : decode cX3_init 6 = .ok (.putfield 9, 3) := by decide +kernel
theorem dX3_init_9 : decode cX3_init 9 = .ok (.aload_n 0, 1) := by decide +kernel
theorem dX3_init_10 : decode cX3_init 10 = .ok (.iconst 0, 1) := by decide +kernel
theorem dX3_init_11 : decode cX3_init 11 = .ok (.putfield 15, 3) := by decide +kernel
theorem dX3_init_14 : decode cX3_init 14 = .ok (.aload_n 0, 1) := by decide +kernel
theorem dX3_init_15 : decode cX3_init 15 = .ok (.iconst 0, 1) := by decide +kernel
theorem dX3_init_16 : decode cX3_init 16 = .ok (.putfield 18, 3) := by decide +kernel
theorem dX3_init_19 : decode cX3_init 19 = .ok (.return_, 1) := by decide +kernel
theorem dX3_tells_0 : decode cX3_tells 0 = .ok (.iload_n 1, 1) := by decide +kernel
theorem dX3_tells_1 : decode cX3_tells 1 = .ok (.aload_n 0, 1) := by decide +kernel
theorem dX3_tells_2 : decode cX3_tells 2 = .ok (.getfield 9, 3) := by decide +kernel
theorem dX3_tells_5 : decode cX3_tells 5 = .ok (.iadd, 1) := by decide +kernel
theorem dX3_tells_6 : decode cX3_tells 6 = .ok (.invokestatic 21, 3) := by decide +kernel
theorem dX3_tells_9 : decode cX3_tells 9 = .ok (.ireturn, 1) := by decide +kernel
theorem dX3_guess_0 : decode cX3_guess 0 = .ok (.iconst 3, 1) := by decide +kernel
theorem dX3_guess_1 : decode cX3_guess 1 = .ok (.aload_n 0, 1) := by decide +kernel
theorem dX3_guess_2 : decode cX3_guess 2 = .ok (.getfield 18, 3) := by decide +kernel
theorem dX3_guess_5 : decode cX3_guess 5 = .ok (.imul, 1) := by decide +kernel
theorem dX3_guess_6 : decode cX3_guess 6 = .ok (.istore_n 1, 1) := by decide +kernel
theorem dX3_guess_7 : decode cX3_guess 7 = .ok (.iload_n 1, 1) := by decide +kernel
theorem dX3_guess_8 : decode cX3_guess 8 = .ok (.ifCond .gt 5, 3) := by decide +kernel
theorem dX3_guess_11 : decode cX3_guess 11 = .ok (.iconst 0, 1) := by decide +kernel
theorem dX3_guess_12 : decode cX3_guess 12 = .ok (.ireturn, 1) := by decide +kernel
theorem dX3_guess_13 : decode cX3_guess 13 = .ok (.iconst 2, 1) := by decide +kernel
theorem dX3_guess_14 : decode cX3_guess 14 = .ok (.aload_n 0, 1) := by decide +kernel
theorem dX3_guess_15 : decode cX3_guess 15 = .ok (.getfield 15, 3) := by decide +kernel
theorem dX3_guess_18 : decode cX3_guess 18 = .ok (.invokestatic 25, 3) := by decide +kernel
theorem dX3_guess_21 : decode cX3_guess 21 = .ok (.imul, 1) := by decide +kernel
theorem dX3_guess_22 : decode cX3_guess 22 = .ok (.iload_n 1, 1) := by decide +kernel
theorem dX3_guess_23 : decode cX3_guess 23 = .ok (.iadd, 1) := by decide +kernel
theorem dX3_guess_24 : decode cX3_guess 24 = .ok (.iconst 2, 1) := by decide +kernel
theorem dX3_guess_25 : decode cX3_guess 25 = .ok (.iload_n 1, 1) := by decide +kernel
theorem dX3_guess_26 : decode cX3_guess 26 = .ok (.imul, 1) := by decide +kernel
theorem dX3_guess_27 : decode cX3_guess 27 = .ok (.idiv, 1) := by decide +kernel
theorem dX3_guess_28 : decode cX3_guess 28 = .ok (.istore_n 2, 1) := by decide +kernel
theorem dX3_guess_29 : decode cX3_guess 29 = .ok (.aload_n 0, 1) := by decide +kernel
theorem dX3_guess_30 : decode cX3_guess 30 = .ok (.getfield 15, 3) := by decide +kernel
theorem dX3_guess_33 : decode cX3_guess 33 = .ok (.ifCond .ge 8, 3) := by decide +kernel
theorem dX3_guess_36 : decode cX3_guess 36 = .ok (.iload_n 2, 1) := by decide +kernel
theorem dX3_guess_37 : decode cX3_guess 37 = .ok (.ineg, 1) := by decide +kernel
theorem dX3_guess_38 : decode cX3_guess 38 = .ok (.goto 4, 3) := by decide +kernel
theorem dX3_guess_41 : decode cX3_guess 41 = .ok (.iload_n 2, 1) := by decide +kernel
theorem dX3_guess_42 : decode cX3_guess 42 = .ok (.ireturn, 1) := by decide +kernel
theorem dX4_init_0 : decode cX4_init 0 = .ok (.aload_n 0, 1) := by decide +kernel
theorem dX4_init_1 : decode cX4_init 1 = .ok (.invokespecial 3, 3) := by decide +kernel
theorem dX4_init_4 : decode cX4_init 4 = .ok (.aload_n 0, 1) := by decide +kernel
theorem dX4_init_5 : decode cX4_init 5 = .ok (.iconst 4, 1) := by decide +kernel
theorem dX4_init_6 : decode cX4_init 6 = .ok (.anewarray 9, 3) := by decide +kernel
theorem dX4_init_9 : decode cX4_init 9 = .ok (.putfield 11, 3) := by decide +kernel
theorem dX4_init_12 : decode cX4_init 12 = .ok (.aload_n 0, 1) := by decide +kernel
theorem dX4_init_13 : decode cX4_init 13 = .ok (.iconst 0, 1) := by decide +kernel
theorem dX4_init_14 : decode cX4_init 14 = .ok (.putfield 15, 3) := by decide +kernel
theorem dX4_init_17 : decode cX4_init 17 = .ok (.aload_n 0, 1) := by decide +kernel
theorem dX4_init_18 : decode cX4_init 18 = .ok (.iconst 0, 1) := by decide +kernel
theorem dX4_init_19 : decode cX4_init 19 = .ok (.putfield 19, 3) := by decide +kernel
theorem dX4_init_22 : decode cX4_init 22 = .ok (.aload_n 0, 1) := by decide +kernel
theorem dX4_init_23 : decode cX4_init 23 = .ok (.bipush 16, 2) := by decide +kernel
theorem dX4_init_25 : decode cX4_init 25 = .ok (.anewarray 22, 3) := by decide +kernel
theorem dX4_init_28 : decode cX4_init 28 = .ok (.putfield 24, 3) := by decide +kernel
theorem dX4_init_31 : decode cX4_init 31 = .ok (.aload_n 0, 1) := by decide +kernel
theorem dX4_init_32 : decode cX4_init 32 = .ok (.iconst 0, 1) := by decide +kernel
theorem dX4_init_33 : decode cX4_init 33 = .ok (.putfield 28, 3) := by decide +kernel
theorem dX4_init_36 : decode cX4_init 36 = .ok (.aload_n 0, 1) := by decide +kernel
theorem dX4_init_37 : decode cX4_init 37 = .ok (.new 22, 3) := by decide +kernel
theorem dX4_init_40 : decode cX4_init 40 = .ok (.dup, 1) := by decide +kernel
theorem dX4_init_41 : decode cX4_init 41 = .ok (.invokespecial 31, 3) := by decide +kernel
theorem dX4_init_44 : decode cX4_init 44 = .ok (.putfield 32, 3) := by decide +kernel
theorem dX4_init_47 : decode cX4_init 47 = .ok (.aload_n 0, 1) := by decide +kernel
theorem dX4_init_48 : decode cX4_init 48 = .ok (.iconst 3, 1) := by decide +kernel
theorem dX4_init_49 : decode cX4_init 49 = .ok (.anewarray 36, 3) := by decide +kernel
theorem dX4_init_52 : decode cX4_init 52 = .ok (.putfield 38, 3) := by decide +kernel
theorem dX4_init_55 : decode cX4_init 55 = .ok (.aload_n 0, 1) := by decide +kernel
theorem dX4_init_56 : decode cX4_init 56 = .ok (.iconst 4, 1) := by decide +kernel
theorem dX4_init_57 : decode cX4_init 57 = .ok (.newarray .int, 2) := by decide +kernel
theorem dX4_init_59 : decode cX4_init 59 = .ok (.putfield 42, 3) := by decide +kernel
theorem dX4_init_62 : decode cX4_init 62 = .ok (.aload_n 0, 1) := by decide +kernel
theorem dX4_init_63 : decode cX4_init 63 = .ok (.iconst 0, 1) := by decide +kernel
theorem dX4_init_64 : decode cX4_init 64 = .ok (.putfield 46, 3) := by decide +kernel
theorem dX4_init_67 : decode cX4_init 67 = .ok (.aload_n 0, 1) := by decide +kernel
theorem dX4_init_68 : decode cX4_init 68 = .ok (.iconst 0, 1) := by decide +kernel
theorem dX4_init_69 : decode cX4_init 69 = .ok (.putfield 49, 3) := by decide +kernel
theorem dX4_init_72 : decode cX4_init 72 = .ok (.aload_n 0, 1) := by decide +kernel
theorem dX4_init_73 : decode cX4_init 73 = .ok (.iconst 0, 1) := by decide +kernel
theorem dX4_init_74 : decode cX4_init 74 = .ok (.putfield 52, 3) := by decide +kernel
theorem dX4_init_77 : decode cX4_init 77 = .ok (.aload_n 0, 1) := by decide +kernel
theorem dX4_init_78 : decode cX4_init 78 = .ok (.iconst 0, 1) := by decide +kernel
theorem dX4_init_79 : decode cX4_init 79 = .ok (.putfield 55, 3) := by decide +kernel
theorem dX4_init_82 : decode cX4_init 82 = .ok (.iconst 0, 1) := by decide +kernel
theorem dX4_init_83 : decode cX4_init 83 = .ok (.istore_n 1, 1) := by decide +kernel
theorem dX4_init_84 : decode cX4_init 84 = .ok (.iload_n 1, 1) := by decide +kernel
theorem dX4_init_85 : decode cX4_init 85 = .ok (.aload_n 0, 1) := by decide +kernel
theorem dX4_init_86 : decode cX4_init 86 = .ok (.getfield 11, 3) := by decide +kernel
theorem dX4_init_89 : decode cX4_init 89 = .ok (.arraylength, 1) := by decide +kernel
theorem dX4_init_90 : decode cX4_init 90 = .ok (.if_icmp .ge 22, 3) := by decide +kernel
theorem dX4_init_93 : decode cX4_init 93 = .ok (.aload_n 0, 1) := by decide +kernel
theorem dX4_init_94 : decode cX4_init 94 = .ok (.getfield 11, 3) := by decide +kernel
theorem dX4_init_97 : decode cX4_init 97 = .ok (.iload_n 1, 1) := by decide +kernel
theorem dX4_init_98 : decode cX4_init 98 = .ok (.new 9, 3) := by decide +kernel
theorem dX4_init_101 : decode cX4_init 101 = .ok (.dup, 1) := by decide +kernel
theorem dX4_init_102 : decode cX4_init 102 = .ok (.invokespecial 58, 3) := by decide +kernel
theorem dX4_init_105 : decode cX4_init 105 = .ok (.aastore, 1) := by decide +kernel
theorem dX4_init_106 : decode cX4_init 106 = .ok (.iinc 1 1, 3) := by decide +kernel
theorem dX4_init_109 : decode cX4_init 109 = .ok (.goto (-25), 3) := by decide +kernel
theorem dX4_init_112 : decode cX4_init 112 = .ok (.iconst 0, 1) := by decide +kernel
theorem dX4_init_113 : decode cX4_init 113 = .ok (.istore_n 1, 1) := by decide +kernel
theorem dX4_init_114 : decode cX4_init 114 = .ok (.iload_n 1, 1) := by decide +kernel
theorem dX4_init_115 : decode cX4_init 115 = .ok (.aload_n 0, 1) := by decide +kernel
theorem dX4_init_116 : decode cX4_init 116 = .ok (.getfield 24, 3) := by decide +kernel
theorem dX4_init_119 : decode cX4_init 119 = .ok (.arraylength, 1) := by decide +kernel
theorem dX4_init_120 : decode cX4_init 120 = .ok (.if_icmp .ge 22, 3) := by decide +kernel
theorem dX4_init_123 : decode cX4_init 123 = .ok (.aload_n 0, 1) := by decide +kernel
theorem dX4_init_124 : decode cX4_init 124 = .ok (.getfield 24, 3) := by decide +kernel
theorem dX4_init_127 : decode cX4_init 127 = .ok (.iload_n 1, 1) := by decide +kernel
theorem dX4_init_128 : decode cX4_init 128 = .ok (.new 22, 3) := by decide +kernel
theorem dX4_init_131 : decode cX4_init 131 = .ok (.dup, 1) := by decide +kernel
theorem dX4_init_132 : decode cX4_init 132 = .ok (.invokespecial 31, 3) := by decide +kernel
theorem dX4_init_135 : decode cX4_init 135 = .ok (.aastore, 1) := by decide +kernel
theorem dX4_init_136 : decode cX4_init 136 = .ok (.iinc 1 1, 3) := by decide +kernel
theorem dX4_init_139 : decode cX4_init 139 = .ok (.goto (-25), 3) := by decide +kernel
theorem dX4_init_142 : decode cX4_init 142 = .ok (.iconst 0, 1) := by decide +kernel
theorem dX4_init_143 : decode cX4_init 143 = .ok (.istore_n 1, 1) := by decide +kernel
theorem dX4_init_144 : decode cX4_init 144 = .ok (.iload_n 1, 1) := by decide +kernel
theorem dX4_init_145 : decode cX4_init 145 = .ok (.aload_n 0, 1) := by decide +kernel
theorem dX4_init_146 : decode cX4_init 146 = .ok (.getfield 38, 3) := by decide +kernel
theorem dX4_init_149 : decode cX4_init 149 = .ok (.arraylength, 1) := by decide +kernel
theorem dX4_init_150 : decode cX4_init 150 = .ok (.if_icmp .ge 22, 3) := by decide +kernel
theorem dX4_init_153 : decode cX4_init 153 = .ok (.aload_n 0, 1) := by decide +kernel
theorem dX4_init_154 : decode cX4_init 154 = .ok (.getfield 38, 3) := by decide +kernel
theorem dX4_init_157 : decode cX4_init 157 = .ok (.iload_n 1, 1) := by decide +kernel
theorem dX4_init_158 : decode cX4_init 158 = .ok (.new 36, 3) := by decide +kernel
theorem dX4_init_161 : decode cX4_init 161 = .ok (.dup, 1) := by decide +kernel
theorem dX4_init_162 : decode cX4_init 162 = .ok (.invokespecial 59, 3) := by decide +kernel
theorem dX4_init_165 : decode cX4_init 165 = .ok (.aastore, 1) := by decide +kernel
theorem dX4_init_166 : decode cX4_init 166 = .ok (.iinc 1 1, 3) := by decide +kernel
theorem dX4_init_169 : decode cX4_init 169 = .ok (.goto (-25), 3) := by decide +kernel
theorem dX4_init_172 : decode cX4_init 172 = .ok (.return_, 1) := by decide +kernel
theorem dX4_section_0 : decode cX4_section 0 = .ok (.iload_n 1, 1) := by decide +kernel
theorem dX4_section_1 : decode cX4_section 1 = .ok (.iconst 1, 1) := by decide +kernel
theorem dX4_section_2 : decode cX4_section 2 = .ok (.bipush 9, 2) := by decide +kernel
theorem dX4_section_4 : decode cX4_section 4 = .ok (.invokestatic 60, 3) := by decide +kernel
theorem dX4_section_7 : decode cX4_section 7 = .ok (.iload_n 2, 1) := by decide +kernel
theorem dX4_section_8 : decode cX4_section 8 = .ok (.iconst 0, 1) := by decide +kernel
theorem dX4_section_9 : decode cX4_section 9 = .ok (.iconst 2, 1) := by decide +kernel
theorem dX4_section_10 : decode cX4_section 10 = .ok (.invokestatic 60, 3) := by decide +kernel
theorem dX4_section_13 : decode cX4_section 13 = .ok (.aload_n 0, 1) := by decide +kernel
theorem dX4_section_14 : decode cX4_section 14 = .ok (.getfield 15, 3) := by decide +kernel
theorem dX4_section_17 : decode cX4_section 17 = .ok (.iconst 4, 1) := by decide +kernel
theorem dX4_section_18 : decode cX4_section 18 = .ok (.if_icmp .ge 7, 3) := by decide +kernel
theorem dX4_section_21 : decode cX4_section 21 = .ok (.iconst 1, 1) := by decide +kernel
theorem dX4_section_22 : decode cX4_section 22 = .ok (.goto 4, 3) := by decide +kernel
theorem dX4_section_25 : decode cX4_section 25 = .ok (.iconst 0, 1) := by decide +kernel
theorem dX4_section_26 : decode cX4_section 26 = .ok (.invokestatic 64, 3) := by decide +kernel
theorem dX4_section_29 : decode cX4_section 29 = .ok (.aload_n 0, 1) := by decide +kernel
theorem dX4_section_30 : decode cX4_section 30 = .ok (.getfield 11, 3) := by decide +kernel
theorem dX4_section_33 : decode cX4_section 33 = .ok (.aload_n 0, 1) := by decide +kernel
theorem dX4_section_34 : decode cX4_section 34 = .ok (.getfield 15, 3) := by decide +kernel
theorem dX4_section_37 : decode cX4_section 37 = .ok (.aaload, 1) := by decide +kernel
theorem dX4_section_38 : decode cX4_section 38 = .ok (.astore_n 3, 1) := by decide +kernel
theorem dX4_section_39 : decode cX4_section 39 = .ok (.aload_n 3, 1) := by decide +kernel
theorem dX4_section_40 : decode cX4_section 40 = .ok (.iload_n 1, 1) := by decide +kernel
theorem dX4_section_41 : decode cX4_section 41 = .ok (.putfield 68, 3) := by decide +kernel
theorem dX4_section_44 : decode cX4_section 44 = .ok (.aload_n 3, 1) := by decide +kernel
theorem dX4_section_45 : decode cX4_section 45 = .ok (.iload_n 2, 1) := by decide +kernel
theorem dX4_section_46 : decode cX4_section 46 = .ok (.putfield 71, 3) := by decide +kernel
theorem dX4_section_49 : decode cX4_section 49 = .ok (.aload_n 0, 1) := by decide +kernel
theorem dX4_section_50 : decode cX4_section 50 = .ok (.dup, 1) := by decide +kernel
theorem dX4_section_51 : decode cX4_section 51 = .ok (.getfield 15, 3) := by decide +kernel
theorem dX4_section_54 : decode cX4_section 54 = .ok (.iconst 1, 1) := by decide +kernel
theorem dX4_section_55 : decode cX4_section 55 = .ok (.iadd, 1) := by decide +kernel
theorem dX4_section_56 : decode cX4_section 56 = .ok (.putfield 15, 3) := by decide +kernel
theorem dX4_section_59 : decode cX4_section 59 = .ok (.aload_n 0, 1) := by decide +kernel
theorem dX4_section_60 : decode cX4_section 60 = .ok (.getfield 15, 3) := by decide +kernel
theorem dX4_section_63 : decode cX4_section 63 = .ok (.iconst 1, 1) := by decide +kernel
theorem dX4_section_64 : decode cX4_section 64 = .ok (.isub, 1) := by decide +kernel
theorem dX4_section_65 : decode cX4_section 65 = .ok (.ireturn, 1) := by decide +kernel
theorem dX4_pass_0 : decode cX4_pass 0 = .ok (.iload_n 1, 1) := by decide +kernel
theorem dX4_pass_1 : decode cX4_pass 1 = .ok (.iconst 0, 1) := by decide +kernel
theorem dX4_pass_2 : decode cX4_pass 2 = .ok (.bipush 6, 2) := by decide +kernel
theorem dX4_pass_4 : decode cX4_pass 4 = .ok (.invokestatic 60, 3) := by decide +kernel
theorem dX4_pass_7 : decode cX4_pass 7 = .ok (.iload_n 2, 1) := by decide +kernel
theorem dX4_pass_8 : decode cX4_pass 8 = .ok (.iconst 0, 1) := by decide +kernel
theorem dX4_pass_9 : decode cX4_pass 9 = .ok (.bipush 6, 2) := by decide +kernel
theorem dX4_pass_11 : decode cX4_pass 11 = .ok (.invokestatic 60, 3) := by decide +kernel
theorem dX4_pass_14 : decode cX4_pass 14 = .ok (.iload_n 3, 1) := by decide +kernel
theorem dX4_pass_15 : decode cX4_pass 15 = .ok (.iconst 1, 1) := by decide +kernel
theorem dX4_pass_16 : decode cX4_pass 16 = .ok (.bipush 30, 2) := by decide +kernel
theorem dX4_pass_18 : decode cX4_pass 18 = .ok (.invokestatic 60, 3) := by decide +kernel
theorem dX4_pass_21 : decode cX4_pass 21 = .ok (.iconst 0, 1) := by decide +kernel
theorem dX4_pass_22 : decode cX4_pass 22 = .ok (.istore 4, 2) := by decide +kernel
theorem dX4_pass_24 : decode cX4_pass 24 = .ok (.iconst 0, 1) := by decide +kernel
theorem dX4_pass_25 : decode cX4_pass 25 = .ok (.istore 5, 2) := by decide +kernel
theorem dX4_pass_27 : decode cX4_pass 27 = .ok (.iload 5, 2) := by decide +kernel
theorem dX4_pass_29 : decode cX4_pass 29 = .ok (.iload_n 3, 1) := by decide +kernel
theorem dX4_pass_30 : decode cX4_pass 30 = .ok (.if_icmp .ge 54, 3) := by decide +kernel
theorem dX4_pass_33 : decode cX4_pass 33 = .ok (.aload_n 0, 1) := by decide +kernel
theorem dX4_pass_34 : decode cX4_pass 34 = .ok (.dup, 1) := by decide +kernel
theorem dX4_pass_35 : decode cX4_pass 35 = .ok (.getfield 19, 3) := by decide +kernel
theorem dX4_pass_38 : decode cX4_pass 38 = .ok (.iconst 1, 1) := by decide +kernel
theorem dX4_pass_39 : decode cX4_pass 39 = .ok (.iadd, 1) := by decide +kernel
theorem dX4_pass_40 : decode cX4_pass 40 = .ok (.putfield 19, 3) := by decide +kernel
theorem dX4_pass_43 : decode cX4_pass 43 = .ok (.iconst 0, 1) := by decide +kernel
theorem dX4_pass_44 : decode cX4_pass 44 = .ok (.istore 6, 2) := by decide +kernel
theorem dX4_pass_46 : decode cX4_pass 46 = .ok (.iload 6, 2) := by decide +kernel
theorem dX4_pass_48 : decode cX4_pass 48 = .ok (.aload_n 0, 1) := by decide +kernel
theorem dX4_pass_49 : decode cX4_pass 49 = .ok (.getfield 15, 3) := by decide +kernel
theorem dX4_pass_52 : decode cX4_pass 52 = .ok (.if_icmp .ge 26, 3) := by decide +kernel
theorem dX4_pass_55 : decode cX4_pass 55 = .ok (.iload 4, 2) := by decide +kernel
theorem dX4_pass_57 : decode cX4_pass 57 = .ok (.aload_n 0, 1) := by decide +kernel
theorem dX4_pass_58 : decode cX4_pass 58 = .ok (.getfield 11, 3) := by decide +kernel
theorem dX4_pass_61 : decode cX4_pass 61 = .ok (.iload 6, 2) := by decide +kernel
theorem dX4_pass_63 : decode cX4_pass 63 = .ok (.aaload, 1) := by decide +kernel
theorem dX4_pass_64 : decode cX4_pass 64 = .ok (.iload_n 1, 1) := by decide +kernel
theorem dX4_pass_65 : decode cX4_pass 65 = .ok (.iload_n 2, 1) := by decide +kernel
theorem dX4_pass_66 : decode cX4_pass 66 = .ok (.invokevirtual 74, 3) := by decide +kernel
theorem dX4_pass_69 : decode cX4_pass 69 = .ok (.iadd, 1) := by decide +kernel
theorem dX4_pass_70 : decode cX4_pass 70 = .ok (.istore 4, 2) := by decide +kernel
theorem dX4_pass_72 : decode cX4_pass 72 = .ok (.iinc 6 1, 3) := by decide +kernel
theorem dX4_pass_75 : decode cX4_pass 75 = .ok (.goto (-29), 3) := by decide +kernel
theorem dX4_pass_78 : decode cX4_pass 78 = .ok (.iinc 5 1, 3) := by decide +kernel
theorem dX4_pass_81 : decode cX4_pass 81 = .ok (.goto (-54), 3) := by decide +kernel
theorem dX4_pass_84 : decode cX4_pass 84 = .ok (.iload 4, 2) := by decide +kernel
theorem dX4_pass_86 : decode cX4_pass 86 = .ok (.ireturn, 1) := by decide +kernel
theorem dX4_spray_0 : decode cX4_spray 0 = .ok (.aload_n 0, 1) := by decide +kernel
theorem dX4_spray_1 : decode cX4_spray 1 = .ok (.iload_n 1, 1) := by decide +kernel
theorem dX4_spray_2 : decode cX4_spray 2 = .ok (.invokevirtual 78, 3) := by decide +kernel
theorem dX4_spray_5 : decode cX4_spray 5 = .ok (.astore_n 2, 1) := by decide +kernel
theorem dX4_spray_6 : decode cX4_spray 6 = .ok (.aload_n 2, 1) := by decide +kernel
theorem dX4_spray_7 : decode cX4_spray 7 = .ok (.getfield 86, 3) := by decide +kernel
theorem dX4_spray_10 : decode cX4_spray 10 = .ok (.istore_n 3, 1) := by decide +kernel
theorem dX4_spray_11 : decode cX4_spray 11 = .ok (.aload_n 2, 1) := by decide +kernel
theorem dX4_spray_12 : decode cX4_spray 12 = .ok (.iconst 0, 1) := by decide +kernel
theorem dX4_spray_13 : decode cX4_spray 13 = .ok (.putfield 86, 3) := by decide +kernel
theorem dX4_spray_16 : decode cX4_spray 16 = .ok (.aload_n 2, 1) := by decide +kernel
theorem dX4_spray_17 : decode cX4_spray 17 = .ok (.iconst 3, 1) := by decide +kernel
theorem dX4_spray_18 : decode cX4_spray 18 = .ok (.putfield 89, 3) := by decide +kernel
theorem dX4_spray_21 : decode cX4_spray 21 = .ok (.iload_n 3, 1) := by decide +kernel
theorem dX4_spray_22 : decode cX4_spray 22 = .ok (.ireturn, 1) := by decide +kernel
theorem dX4_pluck_0 : decode cX4_pluck 0 = .ok (.aload_n 0, 1) := by decide +kernel
theorem dX4_pluck_1 : decode cX4_pluck 1 = .ok (.iload_n 1, 1) := by decide +kernel
theorem dX4_pluck_2 : decode cX4_pluck 2 = .ok (.invokevirtual 78, 3) := by decide +kernel
theorem dX4_pluck_5 : decode cX4_pluck 5 = .ok (.astore 4, 2) := by decide +kernel
theorem dX4_pluck_7 : decode cX4_pluck 7 = .ok (.iload_n 2, 1) := by decide +kernel
theorem dX4_pluck_8 : decode cX4_pluck 8 = .ok (.iconst 1, 1) := by decide +kernel
theorem dX4_pluck_9 : decode cX4_pluck 9 = .ok (.iconst 3, 1) := by decide +kernel
theorem dX4_pluck_10 : decode cX4_pluck 10 = .ok (.invokestatic 60, 3) := by decide +kernel
theorem dX4_pluck_13 : decode cX4_pluck 13 = .ok (.iload_n 3, 1) := by decide +kernel
theorem dX4_pluck_14 : decode cX4_pluck 14 = .ok (.iconst 1, 1) := by decide +kernel
theorem dX4_pluck_15 : decode cX4_pluck 15 = .ok (.bipush 9, 2) := by decide +kernel
theorem dX4_pluck_17 : decode cX4_pluck 17 = .ok (.invokestatic 60, 3) := by decide +kernel
theorem dX4_pluck_20 : decode cX4_pluck 20 = .ok (.bipush 8, 2) := by decide +kernel
theorem dX4_pluck_22 : decode cX4_pluck 22 = .ok (.iload_n 3, 1) := by decide +kernel
theorem dX4_pluck_23 : decode cX4_pluck 23 = .ok (.imul, 1) := by decide +kernel
theorem dX4_pluck_24 : decode cX4_pluck 24 = .ok (.istore 5, 2) := by decide +kernel
theorem dX4_pluck_26 : decode cX4_pluck 26 = .ok (.iload_n 2, 1) := by decide +kernel
theorem dX4_pluck_27 : decode cX4_pluck 27 = .ok (.iconst 3, 1) := by decide +kernel
theorem dX4_pluck_28 : decode cX4_pluck 28 = .ok (.if_icmp .ge 7, 3) := by decide +kernel
theorem dX4_pluck_31 : decode cX4_pluck 31 = .ok (.iconst 0, 1) := by decide +kernel
theorem dX4_pluck_32 : decode cX4_pluck 32 = .ok (.goto 13, 3) := by decide +kernel
theorem dX4_pluck_35 : decode cX4_pluck 35 = .ok (.iload 5, 2) := by decide +kernel
theorem dX4_pluck_37 : decode cX4_pluck 37 = .ok (.aload 4, 2) := by decide +kernel
theorem dX4_pluck_39 : decode cX4_pluck 39 = .ok (.getfield 92, 3) := by decide +kernel
theorem dX4_pluck_42 : decode cX4_pluck 42 = .ok (.invokestatic 95, 3) := by decide +kernel
theorem dX4_pluck_45 : decode cX4_pluck 45 = .ok (.istore 6, 2) := by decide +kernel
theorem dX4_pluck_47 : decode cX4_pluck 47 = .ok (.iload_n 2, 1) := by decide +kernel
theorem dX4_pluck_48 : decode cX4_pluck 48 = .ok (.iconst 2, 1) := by decide +kernel
theorem dX4_pluck_49 : decode cX4_pluck 49 = .ok (.if_icmp .ge 7, 3) := by decide +kernel
theorem dX4_pluck_52 : decode cX4_pluck 52 = .ok (.iconst 0, 1) := by decide +kernel
theorem dX4_pluck_53 : decode cX4_pluck 53 = .ok (.goto 18, 3) := by decide +kernel
theorem dX4_pluck_56 : decode cX4_pluck 56 = .ok (.iload 5, 2) := by decide +kernel
theorem dX4_pluck_58 : decode cX4_pluck 58 = .ok (.iload 6, 2) := by decide +kernel
theorem dX4_pluck_60 : decode cX4_pluck 60 = .ok (.isub, 1) := by decide +kernel
theorem dX4_pluck_61 : decode cX4_pluck 61 = .ok (.aload 4, 2) := by decide +kernel
theorem dX4_pluck_63 : decode cX4_pluck 63 = .ok (.getfield 100, 3) := by decide +kernel
theorem dX4_pluck_66 : decode cX4_pluck 66 = .ok (.iconst 3, 1) := by decide +kernel
theorem dX4_pluck_67 : decode cX4_pluck 67 = .ok (.iaload, 1) := by decide +kernel
theorem dX4_pluck_68 : decode cX4_pluck 68 = .ok (.invokestatic 95, 3) := by decide +kernel
theorem dX4_pluck_71 : decode cX4_pluck 71 = .ok (.istore 7, 2) := by decide +kernel
theorem dX4_pluck_73 : decode cX4_pluck 73 = .ok (.iload 5, 2) := by decide +kernel
theorem dX4_pluck_75 : decode cX4_pluck 75 = .ok (.iload 6, 2) := by decide +kernel
theorem dX4_pluck_77 : decode cX4_pluck 77 = .ok (.isub, 1) := by decide +kernel
theorem dX4_pluck_78 : decode cX4_pluck 78 = .ok (.iload 7, 2) := by decide +kernel
theorem dX4_pluck_80 : decode cX4_pluck 80 = .ok (.isub, 1) := by decide +kernel
theorem dX4_pluck_81 : decode cX4_pluck 81 = .ok (.aload 4, 2) := by decide +kernel
theorem dX4_pluck_83 : decode cX4_pluck 83 = .ok (.getfield 100, 3) := by decide +kernel
theorem dX4_pluck_86 : decode cX4_pluck 86 = .ok (.iconst 2, 1) := by decide +kernel
theorem dX4_pluck_87 : decode cX4_pluck 87 = .ok (.iaload, 1) := by decide +kernel
theorem dX4_pluck_88 : decode cX4_pluck 88 = .ok (.invokestatic 95, 3) := by decide +kernel
theorem dX4_pluck_91 : decode cX4_pluck 91 = .ok (.istore 8, 2) := by decide +kernel
theorem dX4_pluck_93 : decode cX4_pluck 93 = .ok (.iload 6, 2) := by decide +kernel
theorem dX4_pluck_95 : decode cX4_pluck 95 = .ok (.iload 7, 2) := by decide +kernel
theorem dX4_pluck_97 : decode cX4_pluck 97 = .ok (.iadd, 1) := by decide +kernel
theorem dX4_pluck_98 : decode cX4_pluck 98 = .ok (.iload 8, 2) := by decide +kernel
theorem dX4_pluck_100 : decode cX4_pluck 100 = .ok (.iadd, 1) := by decide +kernel
theorem dX4_pluck_101 : decode cX4_pluck 101 = .ok (.ifCond .le 7, 3) := by decide +kernel
theorem dX4_pluck_104 : decode cX4_pluck 104 = .ok (.iconst 1, 1) := by decide +kernel
theorem dX4_pluck_105 : decode cX4_pluck 105 = .ok (.goto 4, 3) := by decide +kernel
theorem dX4_pluck_108 : decode cX4_pluck 108 = .ok (.iconst 0, 1) := by decide +kernel
theorem dX4_pluck_109 : decode cX4_pluck 109 = .ok (.invokestatic 64, 3) := by decide +kernel
theorem dX4_pluck_112 : decode cX4_pluck 112 = .ok (.aload_n 0, 1) := by decide +kernel
theorem dX4_pluck_113 : decode cX4_pluck 113 = .ok (.invokevirtual 103, 3) := by decide +kernel
theorem dX4_pluck_116 : decode cX4_pluck 116 = .ok (.astore 9, 2) := by decide +kernel
theorem dX4_pluck_118 : decode cX4_pluck 118 = .ok (.aload 4, 2) := by decide +kernel
theorem dX4_pluck_120 : decode cX4_pluck 120 = .ok (.dup, 1) := by decide +kernel
theorem dX4_pluck_121 : decode cX4_pluck 121 = .ok (.getfield 92, 3) := by decide +kernel
theorem dX4_pluck_124 : decode cX4_pluck 124 = .ok (.iload 6, 2) := by decide +kernel
theorem dX4_pluck_126 : decode cX4_pluck 126 = .ok (.isub, 1) := by decide +kernel
theorem dX4_pluck_127 : decode cX4_pluck 127 = .ok (.putfield 92, 3) := by decide +kernel
theorem dX4_pluck_130 : decode cX4_pluck 130 = .ok (.aload 4, 2) := by decide +kernel
theorem dX4_pluck_132 : decode cX4_pluck 132 = .ok (.getfield 100, 3) := by decide +kernel
theorem dX4_pluck_135 : decode cX4_pluck 135 = .ok (.iconst 3, 1) := by decide +kernel
theorem dX4_pluck_136 : decode cX4_pluck 136 = .ok (.dup2, 1) := by decide +kernel
theorem dX4_pluck_137 : decode cX4_pluck 137 = .ok (.iaload, 1) := by decide +kernel
theorem dX4_pluck_138 : decode cX4_pluck 138 = .ok (.iload 7, 2) := by decide +kernel
theorem dX4_pluck_140 : decode cX4_pluck 140 = .ok (.isub, 1) := by decide +kernel
theorem dX4_pluck_141 : decode cX4_pluck 141 = .ok (.iastore, 1) := by decide +kernel
theorem dX4_pluck_142 : decode cX4_pluck 142 = .ok (.aload 4, 2) := by decide +kernel
theorem dX4_pluck_144 : decode cX4_pluck 144 = .ok (.getfield 100, 3) := by decide +kernel
theorem dX4_pluck_147 : decode cX4_pluck 147 = .ok (.iconst 2, 1) := by decide +kernel
theorem dX4_pluck_148 : decode cX4_pluck 148 = .ok (.dup2, 1) := by decide +kernel
theorem dX4_pluck_149 : decode cX4_pluck 149 = .ok (.iaload, 1) := by decide +kernel
theorem dX4_pluck_150 : decode cX4_pluck 150 = .ok (.iload 8, 2) := by decide +kernel
theorem dX4_pluck_152 : decode cX4_pluck 152 = .ok (.isub, 1) := by decide +kernel
theorem dX4_pluck_153 : decode cX4_pluck 153 = .ok (.iastore, 1) := by decide +kernel
theorem dX4_pluck_154 : decode cX4_pluck 154 = .ok (.aload 9, 2) := by decide +kernel
theorem dX4_pluck_156 : decode cX4_pluck 156 = .ok (.iconst 0, 1) := by decide +kernel
theorem dX4_pluck_157 : decode cX4_pluck 157 = .ok (.putfield 107, 3) := by decide +kernel
theorem dX4_pluck_160 : decode cX4_pluck 160 = .ok (.aload 9, 2) := by decide +kernel
theorem dX4_pluck_162 : decode cX4_pluck 162 = .ok (.iconst 3, 1) := by decide +kernel
theorem dX4_pluck_163 : decode cX4_pluck 163 = .ok (.iload 8, 2) := by decide +kernel
theorem dX4_pluck_165 : decode cX4_pluck 165 = .ok (.imul, 1) := by decide +kernel
theorem dX4_pluck_166 : decode cX4_pluck 166 = .ok (.putfield 110, 3) := by decide +kernel
theorem dX4_pluck_169 : decode cX4_pluck 169 = .ok (.aload 9, 2) := by decide +kernel
theorem dX4_pluck_171 : decode cX4_pluck 171 = .ok (.iconst 5, 1) := by decide +kernel
theorem dX4_pluck_172 : decode cX4_pluck 172 = .ok (.iload 6, 2) := by decide +kernel
theorem dX4_pluck_174 : decode cX4_pluck 174 = .ok (.imul, 1) := by decide +kernel
theorem dX4_pluck_175 : decode cX4_pluck 175 = .ok (.iconst 4, 1) := by decide +kernel
theorem dX4_pluck_176 : decode cX4_pluck 176 = .ok (.iload 7, 2) := by decide +kernel
theorem dX4_pluck_178 : decode cX4_pluck 178 = .ok (.imul, 1) := by decide +kernel
theorem dX4_pluck_179 : decode cX4_pluck 179 = .ok (.iadd, 1) := by decide +kernel
theorem dX4_pluck_180 : decode cX4_pluck 180 = .ok (.aload 9, 2) := by decide +kernel
theorem dX4_pluck_182 : decode cX4_pluck 182 = .ok (.getfield 110, 3) := by decide +kernel
theorem dX4_pluck_185 : decode cX4_pluck 185 = .ok (.iadd, 1) := by decide +kernel
theorem dX4_pluck_186 : decode cX4_pluck 186 = .ok (.putfield 113, 3) := by decide +kernel
theorem dX4_pluck_189 : decode cX4_pluck 189 = .ok (.aload 9, 2) := by decide +kernel
theorem dX4_pluck_191 : decode cX4_pluck 191 = .ok (.getfield 116, 3) := by decide +kernel
theorem dX4_pluck_194 : decode cX4_pluck 194 = .ok (.iload_n 1, 1) := by decide +kernel
theorem dX4_pluck_195 : decode cX4_pluck 195 = .ok (.aload 9, 2) := by decide +kernel
theorem dX4_pluck_197 : decode cX4_pluck 197 = .ok (.getfield 113, 3) := by decide +kernel
theorem dX4_pluck_200 : decode cX4_pluck 200 = .ok (.iastore, 1) := by decide +kernel
theorem dX4_pluck_201 : decode cX4_pluck 201 = .ok (.aload 9, 2) := by decide +kernel
theorem dX4_pluck_203 : decode cX4_pluck 203 = .ok (.iconst 3, 1) := by decide +kernel
theorem dX4_pluck_204 : decode cX4_pluck 204 = .ok (.aload 9, 2) := by decide +kernel
theorem dX4_pluck_206 : decode cX4_pluck 206 = .ok (.getfield 113, 3) := by decide +kernel
theorem dX4_pluck_209 : decode cX4_pluck 209 = .ok (.imul, 1) := by decide +kernel
theorem dX4_pluck_210 : decode cX4_pluck 210 = .ok (.putfield 119, 3) := by decide +kernel
theorem dX4_pluck_213 : decode cX4_pluck 213 = .ok (.aload 9, 2) := by decide +kernel
theorem dX4_pluck_215 : decode cX4_pluck 215 = .ok (.aload 4, 2) := by decide +kernel
theorem dX4_pluck_217 : decode cX4_pluck 217 = .ok (.getfield 89, 3) := by decide +kernel
theorem dX4_pluck_220 : decode cX4_pluck 220 = .ok (.ifCond .le 7, 3) := by decide +kernel
theorem dX4_pluck_223 : decode cX4_pluck 223 = .ok (.iconst 1, 1) := by decide +kernel
theorem dX4_pluck_224 : decode cX4_pluck 224 = .ok (.goto 4, 3) := by decide +kernel
theorem dX4_pluck_227 : decode cX4_pluck 227 = .ok (.iconst 0, 1) := by decide +kernel
theorem dX4_pluck_228 : decode cX4_pluck 228 = .ok (.putfield 122, 3) := by decide +kernel
theorem dX4_pluck_231 : decode cX4_pluck 231 = .ok (.aload_n 0, 1) := by decide +kernel
theorem dX4_pluck_232 : decode cX4_pluck 232 = .ok (.dup, 1) := by decide +kernel
theorem dX4_pluck_233 : decode cX4_pluck 233 = .ok (.getfield 46, 3) := by decide +kernel
theorem dX4_pluck_236 : decode cX4_pluck 236 = .ok (.iconst 2, 1) := by decide +kernel
theorem dX4_pluck_237 : decode cX4_pluck 237 = .ok (.iload_n 3, 1) := by decide +kernel
theorem dX4_pluck_238 : decode cX4_pluck 238 = .ok (.imul, 1) := by decide +kernel
theorem dX4_pluck_239 : decode cX4_pluck 239 = .ok (.isub, 1) := by decide +kernel
theorem dX4_pluck_240 : decode cX4_pluck 240 = .ok (.putfield 46, 3) := by decide +kernel
theorem dX4_pluck_243 : decode cX4_pluck 243 = .ok (.aload_n 0, 1) := by decide +kernel
theorem dX4_pluck_244 : decode cX4_pluck 244 = .ok (.dup, 1) := by decide +kernel
theorem dX4_pluck_245 : decode cX4_pluck 245 = .ok (.getfield 55, 3) := by decide +kernel
theorem dX4_pluck_248 : decode cX4_pluck 248 = .ok (.aload 9, 2) := by decide +kernel
theorem dX4_pluck_250 : decode cX4_pluck 250 = .ok (.getfield 113, 3) := by decide +kernel
theorem dX4_pluck_253 : decode cX4_pluck 253 = .ok (.iadd, 1) := by decide +kernel
theorem dX4_pluck_254 : decode cX4_pluck 254 = .ok (.putfield 55, 3) := by decide +kernel
theorem dX4_pluck_257 : decode cX4_pluck 257 = .ok (.aload_n 0, 1) := by decide +kernel
theorem dX4_pluck_258 : decode cX4_pluck 258 = .ok (.getfield 28, 3) := by decide +kernel
theorem dX4_pluck_261 : decode cX4_pluck 261 = .ok (.iconst 1, 1) := by decide +kernel
theorem dX4_pluck_262 : decode cX4_pluck 262 = .ok (.isub, 1) := by decide +kernel
theorem dX4_pluck_263 : decode cX4_pluck 263 = .ok (.ireturn, 1) := by decide +kernel
theorem dX4_wither_0 : decode cX4_wither 0 = .ok (.aload_n 0, 1) := by decide +kernel
theorem dX4_wither_1 : decode cX4_wither 1 = .ok (.iload_n 1, 1) := by decide +kernel
theorem dX4_wither_2 : decode cX4_wither 2 = .ok (.invokevirtual 126, 3) := by decide +kernel
theorem dX4_wither_5 : decode cX4_wither 5 = .ok (.astore 4, 2) := by decide +kernel
theorem dX4_wither_7 : decode cX4_wither 7 = .ok (.iload_n 2, 1) := by decide +kernel
theorem dX4_wither_8 : decode cX4_wither 8 = .ok (.iconst 1, 1) := by decide +kernel
theorem dX4_wither_9 : decode cX4_wither 9 = .ok (.bipush 20, 2) := by decide +kernel
theorem dX4_wither_11 : decode cX4_wither 11 = .ok (.invokestatic 60, 3) := by decide +kernel
theorem dX4_wither_14 : decode cX4_wither 14 = .ok (.iload_n 3, 1) := by decide +kernel
theorem dX4_wither_15 : decode cX4_wither 15 = .ok (.iconst 1, 1) := by decide +kernel
theorem dX4_wither_16 : decode cX4_wither 16 = .ok (.iconst 3, 1) := by decide +kernel
theorem dX4_wither_17 : decode cX4_wither 17 = .ok (.invokestatic 60, 3) := by decide +kernel
theorem dX4_wither_20 : decode cX4_wither 20 = .ok (.aload 4, 2) := by decide +kernel
theorem dX4_wither_22 : decode cX4_wither 22 = .ok (.getfield 107, 3) := by decide +kernel
theorem dX4_wither_25 : decode cX4_wither 25 = .ok (.ifCond .ne 15, 3) := by decide +kernel
theorem dX4_wither_28 : decode cX4_wither 28 = .ok (.aload 4, 2) := by decide +kernel
theorem dX4_wither_30 : decode cX4_wither 30 = .ok (.getfield 137, 3) := by decide +kernel
theorem dX4_wither_33 : decode cX4_wither 33 = .ok (.ifCond .ne 7, 3) := by decide +kernel
theorem dX4_wither_36 : decode cX4_wither 36 = .ok (.iconst 1, 1) := by decide +kernel
theorem dX4_wither_37 : decode cX4_wither 37 = .ok (.goto 4, 3) := by decide +kernel
theorem dX4_wither_40 : decode cX4_wither 40 = .ok (.iconst 0, 1) := by decide +kernel
theorem dX4_wither_41 : decode cX4_wither 41 = .ok (.invokestatic 64, 3) := by decide +kernel
theorem dX4_wither_44 : decode cX4_wither 44 = .ok (.iconst 0, 1) := by decide +kernel
theorem dX4_wither_45 : decode cX4_wither 45 = .ok (.istore 5, 2) := by decide +kernel
theorem dX4_wither_47 : decode cX4_wither 47 = .ok (.iload 5, 2) := by decide +kernel
theorem dX4_wither_49 : decode cX4_wither 49 = .ok (.iload_n 2, 1) := by decide +kernel
theorem dX4_wither_50 : decode cX4_wither 50 = .ok (.if_icmp .ge 52, 3) := by decide +kernel
theorem dX4_wither_53 : decode cX4_wither 53 = .ok (.aload 4, 2) := by decide +kernel
theorem dX4_wither_55 : decode cX4_wither 55 = .ok (.aload 4, 2) := by decide +kernel
theorem dX4_wither_57 : decode cX4_wither 57 = .ok (.getfield 113, 3) := by decide +kernel
theorem dX4_wither_60 : decode cX4_wither 60 = .ok (.aload 4, 2) := by decide +kernel
theorem dX4_wither_62 : decode cX4_wither 62 = .ok (.getfield 119, 3) := by decide +kernel
theorem dX4_wither_65 : decode cX4_wither 65 = .ok (.aload 4, 2) := by decide +kernel
theorem dX4_wither_67 : decode cX4_wither 67 = .ok (.getfield 119, 3) := by decide +kernel
theorem dX4_wither_70 : decode cX4_wither 70 = .ok (.iload_n 3, 1) := by decide +kernel
theorem dX4_wither_71 : decode cX4_wither 71 = .ok (.imul, 1) := by decide +kernel
theorem dX4_wither_72 : decode cX4_wither 72 = .ok (.bipush 9, 2) := by decide +kernel
theorem dX4_wither_74 : decode cX4_wither 74 = .ok (.iadd, 1) := by decide +kernel
theorem dX4_wither_75 : decode cX4_wither 75 = .ok (.bipush 10, 2) := by decide +kernel
theorem dX4_wither_77 : decode cX4_wither 77 = .ok (.idiv, 1) := by decide +kernel
theorem dX4_wither_78 : decode cX4_wither 78 = .ok (.isub, 1) := by decide +kernel
theorem dX4_wither_79 : decode cX4_wither 79 = .ok (.invokestatic 143, 3) := by decide +kernel
theorem dX4_wither_82 : decode cX4_wither 82 = .ok (.putfield 119, 3) := by decide +kernel
theorem dX4_wither_85 : decode cX4_wither 85 = .ok (.aload 4, 2) := by decide +kernel
theorem dX4_wither_87 : decode cX4_wither 87 = .ok (.dup, 1) := by decide +kernel
theorem dX4_wither_88 : decode cX4_wither 88 = .ok (.getfield 134, 3) := by decide +kernel
theorem dX4_wither_91 : decode cX4_wither 91 = .ok (.iconst 1, 1) := by decide +kernel
theorem dX4_wither_92 : decode cX4_wither 92 = .ok (.iadd, 1) := by decide +kernel
theorem dX4_wither_93 : decode cX4_wither 93 = .ok (.putfield 134, 3) := by decide +kernel
theorem dX4_wither_96 : decode cX4_wither 96 = .ok (.iinc 5 1, 3) := by decide +kernel
theorem dX4_wither_99 : decode cX4_wither 99 = .ok (.goto (-52), 3) := by decide +kernel
theorem dX4_wither_102 : decode cX4_wither 102 = .ok (.aload 4, 2) := by decide +kernel
theorem dX4_wither_104 : decode cX4_wither 104 = .ok (.getfield 119, 3) := by decide +kernel
theorem dX4_wither_107 : decode cX4_wither 107 = .ok (.ireturn, 1) := by decide +kernel
theorem dX4_kill_0 : decode cX4_kill 0 = .ok (.aload_n 0, 1) := by decide +kernel
theorem dX4_kill_1 : decode cX4_kill 1 = .ok (.iload_n 1, 1) := by decide +kernel
theorem dX4_kill_2 : decode cX4_kill 2 = .ok (.invokevirtual 126, 3) := by decide +kernel
theorem dX4_kill_5 : decode cX4_kill 5 = .ok (.astore_n 2, 1) := by decide +kernel
theorem dX4_kill_6 : decode cX4_kill 6 = .ok (.aload_n 2, 1) := by decide +kernel
theorem dX4_kill_7 : decode cX4_kill 7 = .ok (.getfield 107, 3) := by decide +kernel
theorem dX4_kill_10 : decode cX4_kill 10 = .ok (.ifCond .ne 14, 3) := by decide +kernel
theorem dX4_kill_13 : decode cX4_kill 13 = .ok (.aload_n 2, 1) := by decide +kernel
theorem dX4_kill_14 : decode cX4_kill 14 = .ok (.getfield 137, 3) := by decide +kernel
theorem dX4_kill_17 : decode cX4_kill 17 = .ok (.ifCond .ne 7, 3) := by decide +kernel
theorem dX4_kill_20 : decode cX4_kill 20 = .ok (.iconst 1, 1) := by decide +kernel
theorem dX4_kill_21 : decode cX4_kill 21 = .ok (.goto 4, 3) := by decide +kernel
theorem dX4_kill_24 : decode cX4_kill 24 = .ok (.iconst 0, 1) := by decide +kernel
theorem dX4_kill_25 : decode cX4_kill 25 = .ok (.invokestatic 64, 3) := by decide +kernel
theorem dX4_kill_28 : decode cX4_kill 28 = .ok (.aload_n 2, 1) := by decide +kernel
theorem dX4_kill_29 : decode cX4_kill 29 = .ok (.dup, 1) := by decide +kernel
theorem dX4_kill_30 : decode cX4_kill 30 = .ok (.getfield 119, 3) := by decide +kernel
theorem dX4_kill_33 : decode cX4_kill 33 = .ok (.aload_n 2, 1) := by decide +kernel
theorem dX4_kill_34 : decode cX4_kill 34 = .ok (.getfield 119, 3) := by decide +kernel
theorem dX4_kill_37 : decode cX4_kill 37 = .ok (.iconst 5, 1) := by decide +kernel
theorem dX4_kill_38 : decode cX4_kill 38 = .ok (.idiv, 1) := by decide +kernel
theorem dX4_kill_39 : decode cX4_kill 39 = .ok (.isub, 1) := by decide +kernel
theorem dX4_kill_40 : decode cX4_kill 40 = .ok (.putfield 119, 3) := by decide +kernel
theorem dX4_kill_43 : decode cX4_kill 43 = .ok (.aload_n 2, 1) := by decide +kernel
theorem dX4_kill_44 : decode cX4_kill 44 = .ok (.iconst 1, 1) := by decide +kernel
theorem dX4_kill_45 : decode cX4_kill 45 = .ok (.putfield 137, 3) := by decide +kernel
theorem dX4_kill_48 : decode cX4_kill 48 = .ok (.aload_n 2, 1) := by decide +kernel
theorem dX4_kill_49 : decode cX4_kill 49 = .ok (.getfield 119, 3) := by decide +kernel
theorem dX4_kill_52 : decode cX4_kill 52 = .ok (.ireturn, 1) := by decide +kernel
theorem dX4_roll_0 : decode cX4_roll 0 = .ok (.aload_n 0, 1) := by decide +kernel
theorem dX4_roll_1 : decode cX4_roll 1 = .ok (.iload_n 1, 1) := by decide +kernel
theorem dX4_roll_2 : decode cX4_roll 2 = .ok (.invokevirtual 126, 3) := by decide +kernel
theorem dX4_roll_5 : decode cX4_roll 5 = .ok (.astore_n 3, 1) := by decide +kernel
theorem dX4_roll_6 : decode cX4_roll 6 = .ok (.iload_n 2, 1) := by decide +kernel
theorem dX4_roll_7 : decode cX4_roll 7 = .ok (.iconst 1, 1) := by decide +kernel
theorem dX4_roll_8 : decode cX4_roll 8 = .ok (.iconst 5, 1) := by decide +kernel
theorem dX4_roll_9 : decode cX4_roll 9 = .ok (.invokestatic 60, 3) := by decide +kernel
theorem dX4_roll_12 : decode cX4_roll 12 = .ok (.aload_n 3, 1) := by decide +kernel
theorem dX4_roll_13 : decode cX4_roll 13 = .ok (.getfield 107, 3) := by decide +kernel
theorem dX4_roll_16 : decode cX4_roll 16 = .ok (.ifCond .eq 11, 3) := by decide +kernel
theorem dX4_roll_19 : decode cX4_roll 19 = .ok (.aload_n 3, 1) := by decide +kernel
theorem dX4_roll_20 : decode cX4_roll 20 = .ok (.getfield 107, 3) := by decide +kernel
theorem dX4_roll_23 : decode cX4_roll 23 = .ok (.iconst 1, 1) := by decide +kernel
theorem dX4_roll_24 : decode cX4_roll 24 = .ok (.if_icmp .ne 7, 3) := by decide +kernel
theorem dX4_roll_27 : decode cX4_roll 27 = .ok (.iconst 1, 1) := by decide +kernel
theorem dX4_roll_28 : decode cX4_roll 28 = .ok (.goto 4, 3) := by decide +kernel
theorem dX4_roll_31 : decode cX4_roll 31 = .ok (.iconst 0, 1) := by decide +kernel
theorem dX4_roll_32 : decode cX4_roll 32 = .ok (.invokestatic 64, 3) := by decide +kernel
theorem dX4_roll_35 : decode cX4_roll 35 = .ok (.aload_n 3, 1) := by decide +kernel
theorem dX4_roll_36 : decode cX4_roll 36 = .ok (.getfield 119, 3) := by decide +kernel
theorem dX4_roll_39 : decode cX4_roll 39 = .ok (.iconst 2, 1) := by decide +kernel
theorem dX4_roll_40 : decode cX4_roll 40 = .ok (.aload_n 3, 1) := by decide +kernel
theorem dX4_roll_41 : decode cX4_roll 41 = .ok (.getfield 113, 3) := by decide +kernel
theorem dX4_roll_44 : decode cX4_roll 44 = .ok (.imul, 1) := by decide +kernel
theorem dX4_roll_45 : decode cX4_roll 45 = .ok (.if_icmp .gt 7, 3) := by decide +kernel
theorem dX4_roll_48 : decode cX4_roll 48 = .ok (.iconst 1, 1) := by decide +kernel
theorem dX4_roll_49 : decode cX4_roll 49 = .ok (.goto 4, 3) := by decide +kernel
theorem dX4_roll_52 : decode cX4_roll 52 = .ok (.iconst 0, 1) := by decide +kernel
theorem dX4_roll_53 : decode cX4_roll 53 = .ok (.invokestatic 64, 3) := by decide +kernel
theorem dX4_roll_56 : decode cX4_roll 56 = .ok (.aload_n 3, 1) := by decide +kernel
theorem dX4_roll_57 : decode cX4_roll 57 = .ok (.dup, 1) := by decide +kernel
theorem dX4_roll_58 : decode cX4_roll 58 = .ok (.getfield 146, 3) := by decide +kernel
theorem dX4_roll_61 : decode cX4_roll 61 = .ok (.iload_n 2, 1) := by decide +kernel
theorem dX4_roll_62 : decode cX4_roll 62 = .ok (.iadd, 1) := by decide +kernel
theorem dX4_roll_63 : decode cX4_roll 63 = .ok (.putfield 146, 3) := by decide +kernel
theorem dX4_roll_66 : decode cX4_roll 66 = .ok (.aload_n 3, 1) := by decide +kernel
theorem dX4_roll_67 : decode cX4_roll 67 = .ok (.iconst 1, 1) := by decide +kernel
theorem dX4_roll_68 : decode cX4_roll 68 = .ok (.putfield 107, 3) := by decide +kernel
theorem dX4_roll_71 : decode cX4_roll 71 = .ok (.aload_n 3, 1) := by decide +kernel
theorem dX4_roll_72 : decode cX4_roll 72 = .ok (.getfield 146, 3) := by decide +kernel
theorem dX4_roll_75 : decode cX4_roll 75 = .ok (.ireturn, 1) := by decide +kernel
theorem dX4_rest_0 : decode cX4_rest 0 = .ok (.aload_n 0, 1) := by decide +kernel
theorem dX4_rest_1 : decode cX4_rest 1 = .ok (.iload_n 1, 1) := by decide +kernel
theorem dX4_rest_2 : decode cX4_rest 2 = .ok (.invokevirtual 126, 3) := by decide +kernel
theorem dX4_rest_5 : decode cX4_rest 5 = .ok (.astore 4, 2) := by decide +kernel
theorem dX4_rest_7 : decode cX4_rest 7 = .ok (.iload_n 2, 1) := by decide +kernel
theorem dX4_rest_8 : decode cX4_rest 8 = .ok (.iconst 1, 1) := by decide +kernel
theorem dX4_rest_9 : decode cX4_rest 9 = .ok (.bipush 20, 2) := by decide +kernel
theorem dX4_rest_11 : decode cX4_rest 11 = .ok (.invokestatic 60, 3) := by decide +kernel
theorem dX4_rest_14 : decode cX4_rest 14 = .ok (.iload_n 3, 1) := by decide +kernel
theorem dX4_rest_15 : decode cX4_rest 15 = .ok (.iconst 1, 1) := by decide +kernel
theorem dX4_rest_16 : decode cX4_rest 16 = .ok (.iconst 4, 1) := by decide +kernel
theorem dX4_rest_17 : decode cX4_rest 17 = .ok (.invokestatic 60, 3) := by decide +kernel
theorem dX4_rest_20 : decode cX4_rest 20 = .ok (.aload 4, 2) := by decide +kernel
theorem dX4_rest_22 : decode cX4_rest 22 = .ok (.getfield 107, 3) := by decide +kernel
theorem dX4_rest_25 : decode cX4_rest 25 = .ok (.iconst 1, 1) := by decide +kernel
theorem dX4_rest_26 : decode cX4_rest 26 = .ok (.if_icmp .ne 15, 3) := by decide +kernel
theorem dX4_rest_29 : decode cX4_rest 29 = .ok (.aload 4, 2) := by decide +kernel
theorem dX4_rest_31 : decode cX4_rest 31 = .ok (.getfield 137, 3) := by decide +kernel
theorem dX4_rest_34 : decode cX4_rest 34 = .ok (.ifCond .ne 7, 3) := by decide +kernel
theorem dX4_rest_37 : decode cX4_rest 37 = .ok (.iconst 1, 1) := by decide +kernel
theorem dX4_rest_38 : decode cX4_rest 38 = .ok (.goto 4, 3) := by decide +kernel
theorem dX4_rest_41 : decode cX4_rest 41 = .ok (.iconst 0, 1) := by decide +kernel
theorem dX4_rest_42 : decode cX4_rest 42 = .ok (.invokestatic 64, 3) := by decide +kernel
theorem dX4_rest_45 : decode cX4_rest 45 = .ok (.aload 4, 2) := by decide +kernel
theorem dX4_rest_47 : decode cX4_rest 47 = .ok (.bipush 60, 2) := by decide +kernel
theorem dX4_rest_49 : decode cX4_rest 49 = .ok (.aload 4, 2) := by decide +kernel
theorem dX4_rest_51 : decode cX4_rest 51 = .ok (.getfield 149, 3) := by decide +kernel
theorem dX4_rest_54 : decode cX4_rest 54 = .ok (.iload_n 2, 1) := by decide +kernel
theorem dX4_rest_55 : decode cX4_rest 55 = .ok (.iload_n 3, 1) := by decide +kernel
theorem dX4_rest_56 : decode cX4_rest 56 = .ok (.imul, 1) := by decide +kernel
theorem dX4_rest_57 : decode cX4_rest 57 = .ok (.iadd, 1) := by decide +kernel
theorem dX4_rest_58 : decode cX4_rest 58 = .ok (.invokestatic 95, 3) := by decide +kernel
theorem dX4_rest_61 : decode cX4_rest 61 = .ok (.putfield 149, 3) := by decide +kernel
theorem dX4_rest_64 : decode cX4_rest 64 = .ok (.aload 4, 2) := by decide +kernel
theorem dX4_rest_66 : decode cX4_rest 66 = .ok (.getfield 149, 3) := by decide +kernel
theorem dX4_rest_69 : decode cX4_rest 69 = .ok (.ireturn, 1) := by decide +kernel
theorem dX4_fire_0 : decode cX4_fire 0 = .ok (.aload_n 0, 1) := by decide +kernel
theorem dX4_fire_1 : decode cX4_fire 1 = .ok (.iload_n 1, 1) := by decide +kernel
theorem dX4_fire_2 : decode cX4_fire 2 = .ok (.invokevirtual 126, 3) := by decide +kernel
theorem dX4_fire_5 : decode cX4_fire 5 = .ok (.astore 4, 2) := by decide +kernel
theorem dX4_fire_7 : decode cX4_fire 7 = .ok (.iload_n 2, 1) := by decide +kernel
theorem dX4_fire_8 : decode cX4_fire 8 = .ok (.iconst 1, 1) := by decide +kernel
theorem dX4_fire_9 : decode cX4_fire 9 = .ok (.iconst 5, 1) := by decide +kernel
theorem dX4_fire_10 : decode cX4_fire 10 = .ok (.invokestatic 60, 3) := by decide +kernel
theorem dX4_fire_13 : decode cX4_fire 13 = .ok (.iload_n 3, 1) := by decide +kernel
theorem dX4_fire_14 : decode cX4_fire 14 = .ok (.iconst 1, 1) := by decide +kernel
theorem dX4_fire_15 : decode cX4_fire 15 = .ok (.bipush 30, 2) := by decide +kernel
theorem dX4_fire_17 : decode cX4_fire 17 = .ok (.invokestatic 60, 3) := by decide +kernel
theorem dX4_fire_20 : decode cX4_fire 20 = .ok (.aload 4, 2) := by decide +kernel
theorem dX4_fire_22 : decode cX4_fire 22 = .ok (.getfield 107, 3) := by decide +kernel
theorem dX4_fire_25 : decode cX4_fire 25 = .ok (.iconst 1, 1) := by decide +kernel
theorem dX4_fire_26 : decode cX4_fire 26 = .ok (.if_icmp .ne 7, 3) := by decide +kernel
theorem dX4_fire_29 : decode cX4_fire 29 = .ok (.iconst 1, 1) := by decide +kernel
theorem dX4_fire_30 : decode cX4_fire 30 = .ok (.goto 4, 3) := by decide +kernel
theorem dX4_fire_33 : decode cX4_fire 33 = .ok (.iconst 0, 1) := by decide +kernel
theorem dX4_fire_34 : decode cX4_fire 34 = .ok (.invokestatic 64, 3) := by decide +kernel
theorem dX4_fire_37 : decode cX4_fire 37 = .ok (.iconst 0, 1) := by decide +kernel
theorem dX4_fire_38 : decode cX4_fire 38 = .ok (.istore 5, 2) := by decide +kernel
theorem dX4_fire_40 : decode cX4_fire 40 = .ok (.iload 5, 2) := by decide +kernel
theorem dX4_fire_42 : decode cX4_fire 42 = .ok (.iload_n 3, 1) := by decide +kernel
theorem dX4_fire_43 : decode cX4_fire 43 = .ok (.if_icmp .ge 15, 3) := by decide +kernel
theorem dX4_fire_46 : decode cX4_fire 46 = .ok (.aload 4, 2) := by decide +kernel
theorem dX4_fire_48 : decode cX4_fire 48 = .ok (.iload_n 2, 1) := by decide +kernel
theorem dX4_fire_49 : decode cX4_fire 49 = .ok (.invokevirtual 152, 3) := by decide +kernel
theorem dX4_fire_52 : decode cX4_fire 52 = .ok (.iinc 5 1, 3) := by decide +kernel
theorem dX4_fire_55 : decode cX4_fire 55 = .ok (.goto (-15), 3) := by decide +kernel
theorem dX4_fire_58 : decode cX4_fire 58 = .ok (.aload 4, 2) := by decide +kernel
theorem dX4_fire_60 : decode cX4_fire 60 = .ok (.invokevirtual 156, 3) := by decide +kernel
theorem dX4_fire_63 : decode cX4_fire 63 = .ok (.ifCond .eq 9, 3) := by decide +kernel
theorem dX4_fire_66 : decode cX4_fire 66 = .ok (.aload 4, 2) := by decide +kernel
theorem dX4_fire_68 : decode cX4_fire 68 = .ok (.iconst 2, 1) := by decide +kernel
theorem dX4_fire_69 : decode cX4_fire 69 = .ok (.putfield 107, 3) := by decide +kernel
theorem dX4_fire_72 : decode cX4_fire 72 = .ok (.aload 4, 2) := by decide +kernel
theorem dX4_fire_74 : decode cX4_fire 74 = .ok (.getfield 119, 3) := by decide +kernel
theorem dX4_fire_77 : decode cX4_fire 77 = .ok (.ireturn, 1) := by decide +kernel
theorem dX4_sort_0 : decode cX4_sort 0 = .ok (.aload_n 0, 1) := by decide +kernel
theorem dX4_sort_1 : decode cX4_sort 1 = .ok (.iload_n 1, 1) := by decide +kernel
theorem dX4_sort_2 : decode cX4_sort 2 = .ok (.invokevirtual 126, 3) := by decide +kernel
theorem dX4_sort_5 : decode cX4_sort 5 = .ok (.astore_n 2, 1) := by decide +kernel
theorem dX4_sort_6 : decode cX4_sort 6 = .ok (.aload_n 2, 1) := by decide +kernel
theorem dX4_sort_7 : decode cX4_sort 7 = .ok (.invokevirtual 160, 3) := by decide +kernel
theorem dX4_sort_10 : decode cX4_sort 10 = .ok (.ifCond .eq 22, 3) := by decide +kernel
theorem dX4_sort_13 : decode cX4_sort 13 = .ok (.aload_n 2, 1) := by decide +kernel
theorem dX4_sort_14 : decode cX4_sort 14 = .ok (.getfield 163, 3) := by decide +kernel
theorem dX4_sort_17 : decode cX4_sort 17 = .ok (.iconst (-1), 1) := by decide +kernel
theorem dX4_sort_18 : decode cX4_sort 18 = .ok (.if_icmp .ne 14, 3) := by decide +kernel
theorem dX4_sort_21 : decode cX4_sort 21 = .ok (.aload_n 2, 1) := by decide +kernel
theorem dX4_sort_22 : decode cX4_sort 22 = .ok (.getfield 166, 3) := by decide +kernel
theorem dX4_sort_25 : decode cX4_sort 25 = .ok (.ifCond .ne 7, 3) := by decide +kernel
theorem dX4_sort_28 : decode cX4_sort 28 = .ok (.iconst 1, 1) := by decide +kernel
theorem dX4_sort_29 : decode cX4_sort 29 = .ok (.goto 4, 3) := by decide +kernel
theorem dX4_sort_32 : decode cX4_sort 32 = .ok (.iconst 0, 1) := by decide +kernel
theorem dX4_sort_33 : decode cX4_sort 33 = .ok (.invokestatic 64, 3) := by decide +kernel
theorem dX4_sort_36 : decode cX4_sort 36 = .ok (.iconst 0, 1) := by decide +kernel
theorem dX4_sort_37 : decode cX4_sort 37 = .ok (.istore_n 3, 1) := by decide +kernel
theorem dX4_sort_38 : decode cX4_sort 38 = .ok (.iconst 0, 1) := by decide +kernel
theorem dX4_sort_39 : decode cX4_sort 39 = .ok (.istore 4, 2) := by decide +kernel
theorem dX4_sort_41 : decode cX4_sort 41 = .ok (.iload 4, 2) := by decide +kernel
theorem dX4_sort_43 : decode cX4_sort 43 = .ok (.iconst 3, 1) := by decide +kernel
theorem dX4_sort_44 : decode cX4_sort 44 = .ok (.if_icmp .ge 21, 3) := by decide +kernel
theorem dX4_sort_47 : decode cX4_sort 47 = .ok (.aload_n 2, 1) := by decide +kernel
theorem dX4_sort_48 : decode cX4_sort 48 = .ok (.iload 4, 2) := by decide +kernel
theorem dX4_sort_50 : decode cX4_sort 50 = .ok (.invokevirtual 169, 3) := by decide +kernel
theorem dX4_sort_53 : decode cX4_sort 53 = .ok (.ifCond .le 6, 3) := by decide +kernel
theorem dX4_sort_56 : decode cX4_sort 56 = .ok (.iinc 3 1, 3) := by decide +kernel
theorem dX4_sort_59 : decode cX4_sort 59 = .ok (.iinc 4 1, 3) := by decide +kernel
theorem dX4_sort_62 : decode cX4_sort 62 = .ok (.goto (-21), 3) := by decide +kernel
theorem dX4_sort_65 : decode cX4_sort 65 = .ok (.aload_n 0, 1) := by decide +kernel
theorem dX4_sort_66 : decode cX4_sort 66 = .ok (.getfield 28, 3) := by decide +kernel
theorem dX4_sort_69 : decode cX4_sort 69 = .ok (.iload_n 3, 1) := by decide +kernel
theorem dX4_sort_70 : decode cX4_sort 70 = .ok (.iadd, 1) := by decide +kernel
theorem dX4_sort_71 : decode cX4_sort 71 = .ok (.bipush 16, 2) := by decide +kernel
theorem dX4_sort_73 : decode cX4_sort 73 = .ok (.if_icmp .gt 7, 3) := by decide +kernel
theorem dX4_sort_76 : decode cX4_sort 76 = .ok (.iconst 1, 1) := by decide +kernel
theorem dX4_sort_77 : decode cX4_sort 77 = .ok (.goto 4, 3) := by decide +kernel
theorem dX4_sort_80 : decode cX4_sort 80 = .ok (.iconst 0, 1) := by decide +kernel
theorem dX4_sort_81 : decode cX4_sort 81 = .ok (.invokestatic 64, 3) := by decide +kernel
theorem dX4_sort_84 : decode cX4_sort 84 = .ok (.iconst 0, 1) := by decide +kernel
theorem dX4_sort_85 : decode cX4_sort 85 = .ok (.istore 4, 2) := by decide +kernel
theorem dX4_sort_87 : decode cX4_sort 87 = .ok (.iload 4, 2) := by decide +kernel
theorem dX4_sort_89 : decode cX4_sort 89 = .ok (.iconst 3, 1) := by decide +kernel
theorem dX4_sort_90 : decode cX4_sort 90 = .ok (.if_icmp .ge 28, 3) := by decide +kernel
theorem dX4_sort_93 : decode cX4_sort 93 = .ok (.aload_n 2, 1) := by decide +kernel
theorem dX4_sort_94 : decode cX4_sort 94 = .ok (.iload 4, 2) := by decide +kernel
theorem dX4_sort_96 : decode cX4_sort 96 = .ok (.invokevirtual 169, 3) := by decide +kernel
theorem dX4_sort_99 : decode cX4_sort 99 = .ok (.ifCond .le 13, 3) := by decide +kernel
theorem dX4_sort_102 : decode cX4_sort 102 = .ok (.aload_n 0, 1) := by decide +kernel
theorem dX4_sort_103 : decode cX4_sort 103 = .ok (.invokevirtual 103, 3) := by decide +kernel
theorem dX4_sort_106 : decode cX4_sort 106 = .ok (.aload_n 2, 1) := by decide +kernel
theorem dX4_sort_107 : decode cX4_sort 107 = .ok (.iload 4, 2) := by decide +kernel
theorem dX4_sort_109 : decode cX4_sort 109 = .ok (.invokevirtual 173, 3) := by decide +kernel
theorem dX4_sort_112 : decode cX4_sort 112 = .ok (.iinc 4 1, 3) := by decide +kernel
theorem dX4_sort_115 : decode cX4_sort 115 = .ok (.goto (-28), 3) := by decide +kernel
theorem dX4_sort_118 : decode cX4_sort 118 = .ok (.aload_n 2, 1) := by decide +kernel
theorem dX4_sort_119 : decode cX4_sort 119 = .ok (.invokevirtual 140, 3) := by decide +kernel
theorem dX4_sort_122 : decode cX4_sort 122 = .ok (.iload_n 3, 1) := by decide +kernel
theorem dX4_sort_123 : decode cX4_sort 123 = .ok (.ireturn, 1) := by decide +kernel
theorem dX4_mix_0 : decode cX4_mix 0 = .ok (.aload_n 0, 1) := by decide +kernel
theorem dX4_mix_1 : decode cX4_mix 1 = .ok (.iload_n 1, 1) := by decide +kernel
theorem dX4_mix_2 : decode cX4_mix 2 = .ok (.invokevirtual 126, 3) := by decide +kernel
theorem dX4_mix_5 : decode cX4_mix 5 = .ok (.astore 5, 2) := by decide +kernel
theorem dX4_mix_7 : decode cX4_mix 7 = .ok (.aload_n 0, 1) := by decide +kernel
theorem dX4_mix_8 : decode cX4_mix 8 = .ok (.iload_n 3, 1) := by decide +kernel
theorem dX4_mix_9 : decode cX4_mix 9 = .ok (.invokevirtual 126, 3) := by decide +kernel
theorem dX4_mix_12 : decode cX4_mix 12 = .ok (.astore 6, 2) := by decide +kernel
theorem dX4_mix_14 : decode cX4_mix 14 = .ok (.iload_n 1, 1) := by decide +kernel
theorem dX4_mix_15 : decode cX4_mix 15 = .ok (.iload_n 3, 1) := by decide +kernel
theorem dX4_mix_16 : decode cX4_mix 16 = .ok (.invokestatic 130, 3) := by decide +kernel
theorem dX4_mix_19 : decode cX4_mix 19 = .ok (.aload 5, 2) := by decide +kernel
theorem dX4_mix_21 : decode cX4_mix 21 = .ok (.invokevirtual 160, 3) := by decide +kernel
theorem dX4_mix_24 : decode cX4_mix 24 = .ok (.ifCond .eq 21, 3) := by decide +kernel
theorem dX4_mix_27 : decode cX4_mix 27 = .ok (.iload_n 2, 1) := by decide +kernel
theorem dX4_mix_28 : decode cX4_mix 28 = .ok (.iconst 1, 1) := by decide +kernel
theorem dX4_mix_29 : decode cX4_mix 29 = .ok (.if_icmp .lt 16, 3) := by decide +kernel
theorem dX4_mix_32 : decode cX4_mix 32 = .ok (.iload_n 2, 1) := by decide +kernel
theorem dX4_mix_33 : decode cX4_mix 33 = .ok (.aload 5, 2) := by decide +kernel
theorem dX4_mix_35 : decode cX4_mix 35 = .ok (.getfield 113, 3) := by decide +kernel
theorem dX4_mix_38 : decode cX4_mix 38 = .ok (.if_icmp .gt 7, 3) := by decide +kernel
theorem dX4_mix_41 : decode cX4_mix 41 = .ok (.iconst 1, 1) := by decide +kernel
theorem dX4_mix_42 : decode cX4_mix 42 = .ok (.goto 4, 3) := by decide +kernel
theorem dX4_mix_45 : decode cX4_mix 45 = .ok (.iconst 0, 1) := by decide +kernel
theorem dX4_mix_46 : decode cX4_mix 46 = .ok (.invokestatic 64, 3) := by decide +kernel
theorem dX4_mix_49 : decode cX4_mix 49 = .ok (.aload 6, 2) := by decide +kernel
theorem dX4_mix_51 : decode cX4_mix 51 = .ok (.invokevirtual 160, 3) := by decide +kernel
theorem dX4_mix_54 : decode cX4_mix 54 = .ok (.ifCond .eq 23, 3) := by decide +kernel
theorem dX4_mix_57 : decode cX4_mix 57 = .ok (.iload 4, 2) := by decide +kernel
theorem dX4_mix_59 : decode cX4_mix 59 = .ok (.iconst 1, 1) := by decide +kernel
theorem dX4_mix_60 : decode cX4_mix 60 = .ok (.if_icmp .lt 17, 3) := by decide +kernel
theorem dX4_mix_63 : decode cX4_mix 63 = .ok (.iload 4, 2) := by decide +kernel
theorem dX4_mix_65 : decode cX4_mix 65 = .ok (.aload 6, 2) := by decide +kernel
theorem dX4_mix_67 : decode cX4_mix 67 = .ok (.getfield 113, 3) := by decide +kernel
theorem dX4_mix_70 : decode cX4_mix 70 = .ok (.if_icmp .gt 7, 3) := by decide +kernel
theorem dX4_mix_73 : decode cX4_mix 73 = .ok (.iconst 1, 1) := by decide +kernel
theorem dX4_mix_74 : decode cX4_mix 74 = .ok (.goto 4, 3) := by decide +kernel
theorem dX4_mix_77 : decode cX4_mix 77 = .ok (.iconst 0, 1) := by decide +kernel
theorem dX4_mix_78 : decode cX4_mix 78 = .ok (.invokestatic 64, 3) := by decide +kernel
theorem dX4_mix_81 : decode cX4_mix 81 = .ok (.aload_n 0, 1) := by decide +kernel
theorem dX4_mix_82 : decode cX4_mix 82 = .ok (.invokevirtual 103, 3) := by decide +kernel
theorem dX4_mix_85 : decode cX4_mix 85 = .ok (.astore 7, 2) := by decide +kernel
theorem dX4_mix_87 : decode cX4_mix 87 = .ok (.aload 7, 2) := by decide +kernel
theorem dX4_mix_89 : decode cX4_mix 89 = .ok (.iconst 2, 1) := by decide +kernel
theorem dX4_mix_90 : decode cX4_mix 90 = .ok (.putfield 107, 3) := by decide +kernel
theorem dX4_mix_93 : decode cX4_mix 93 = .ok (.aload 7, 2) := by decide +kernel
theorem dX4_mix_95 : decode cX4_mix 95 = .ok (.iconst 1, 1) := by decide +kernel
theorem dX4_mix_96 : decode cX4_mix 96 = .ok (.putfield 166, 3) := by decide +kernel
theorem dX4_mix_99 : decode cX4_mix 99 = .ok (.aload 7, 2) := by decide +kernel
theorem dX4_mix_101 : decode cX4_mix 101 = .ok (.aload 5, 2) := by decide +kernel
theorem dX4_mix_103 : decode cX4_mix 103 = .ok (.getfield 122, 3) := by decide +kernel
theorem dX4_mix_106 : decode cX4_mix 106 = .ok (.ifCond .ne 11, 3) := by decide +kernel
theorem dX4_mix_109 : decode cX4_mix 109 = .ok (.aload 6, 2) := by decide +kernel
theorem dX4_mix_111 : decode cX4_mix 111 = .ok (.getfield 122, 3) := by decide +kernel
theorem dX4_mix_114 : decode cX4_mix 114 = .ok (.ifCond .eq 7, 3) := by decide +kernel
theorem dX4_mix_117 : decode cX4_mix 117 = .ok (.iconst 1, 1) := by decide +kernel
theorem dX4_mix_118 : decode cX4_mix 118 = .ok (.goto 4, 3) := by decide +kernel
theorem dX4_mix_121 : decode cX4_mix 121 = .ok (.iconst 0, 1) := by decide +kernel
theorem dX4_mix_122 : decode cX4_mix 122 = .ok (.putfield 122, 3) := by decide +kernel
theorem dX4_mix_125 : decode cX4_mix 125 = .ok (.iload_n 2, 1) := by decide +kernel
theorem dX4_mix_126 : decode cX4_mix 126 = .ok (.iload 4, 2) := by decide +kernel
theorem dX4_mix_128 : decode cX4_mix 128 = .ok (.iadd, 1) := by decide +kernel
theorem dX4_mix_129 : decode cX4_mix 129 = .ok (.istore 8, 2) := by decide +kernel
theorem dX4_mix_131 : decode cX4_mix 131 = .ok (.iconst 0, 1) := by decide +kernel
theorem dX4_mix_132 : decode cX4_mix 132 = .ok (.istore 9, 2) := by decide +kernel
theorem dX4_mix_134 : decode cX4_mix 134 = .ok (.iload 9, 2) := by decide +kernel
theorem dX4_mix_136 : decode cX4_mix 136 = .ok (.iconst 3, 1) := by decide +kernel
theorem dX4_mix_137 : decode cX4_mix 137 = .ok (.if_icmp .ge 40, 3) := by decide +kernel
theorem dX4_mix_140 : decode cX4_mix 140 = .ok (.aload 7, 2) := by decide +kernel
theorem dX4_mix_142 : decode cX4_mix 142 = .ok (.getfield 177, 3) := by decide +kernel
theorem dX4_mix_145 : decode cX4_mix 145 = .ok (.iload 9, 2) := by decide +kernel
theorem dX4_mix_147 : decode cX4_mix 147 = .ok (.aload 5, 2) := by decide +kernel
theorem dX4_mix_149 : decode cX4_mix 149 = .ok (.iload 9, 2) := by decide +kernel
theorem dX4_mix_151 : decode cX4_mix 151 = .ok (.invokevirtual 180, 3) := by decide +kernel
theorem dX4_mix_154 : decode cX4_mix 154 = .ok (.iload_n 2, 1) := by decide +kernel
theorem dX4_mix_155 : decode cX4_mix 155 = .ok (.imul, 1) := by decide +kernel
theorem dX4_mix_156 : decode cX4_mix 156 = .ok (.aload 6, 2) := by decide +kernel
theorem dX4_mix_158 : decode cX4_mix 158 = .ok (.iload 9, 2) := by decide +kernel
theorem dX4_mix_160 : decode cX4_mix 160 = .ok (.invokevirtual 180, 3) := by decide +kernel
theorem dX4_mix_163 : decode cX4_mix 163 = .ok (.iload 4, 2) := by decide +kernel
theorem dX4_mix_165 : decode cX4_mix 165 = .ok (.imul, 1) := by decide +kernel
theorem dX4_mix_166 : decode cX4_mix 166 = .ok (.iadd, 1) := by decide +kernel
theorem dX4_mix_167 : decode cX4_mix 167 = .ok (.iload 8, 2) := by decide +kernel
theorem dX4_mix_169 : decode cX4_mix 169 = .ok (.idiv, 1) := by decide +kernel
theorem dX4_mix_170 : decode cX4_mix 170 = .ok (.iastore, 1) := by decide +kernel
theorem dX4_mix_171 : decode cX4_mix 171 = .ok (.iinc 9 1, 3) := by decide +kernel
theorem dX4_mix_174 : decode cX4_mix 174 = .ok (.goto (-40), 3) := by decide +kernel
theorem dX4_mix_177 : decode cX4_mix 177 = .ok (.aload 7, 2) := by decide +kernel
theorem dX4_mix_179 : decode cX4_mix 179 = .ok (.aload 5, 2) := by decide +kernel
theorem dX4_mix_181 : decode cX4_mix 181 = .ok (.iload_n 2, 1) := by decide +kernel
theorem dX4_mix_182 : decode cX4_mix 182 = .ok (.invokevirtual 183, 3) := by decide +kernel
theorem dX4_mix_185 : decode cX4_mix 185 = .ok (.aload 7, 2) := by decide +kernel
theorem dX4_mix_187 : decode cX4_mix 187 = .ok (.aload 6, 2) := by decide +kernel
theorem dX4_mix_189 : decode cX4_mix 189 = .ok (.iload 4, 2) := by decide +kernel
theorem dX4_mix_191 : decode cX4_mix 191 = .ok (.invokevirtual 183, 3) := by decide +kernel
theorem dX4_mix_194 : decode cX4_mix 194 = .ok (.aload_n 0, 1) := by decide +kernel
theorem dX4_mix_195 : decode cX4_mix 195 = .ok (.getfield 28, 3) := by decide +kernel
theorem dX4_mix_198 : decode cX4_mix 198 = .ok (.iconst 1, 1) := by decide +kernel
theorem dX4_mix_199 : decode cX4_mix 199 = .ok (.isub, 1) := by decide +kernel
theorem dX4_mix_200 : decode cX4_mix 200 = .ok (.ireturn, 1) := by decide +kernel
theorem dX4_lean_0 : decode cX4_lean 0 = .ok (.aload_n 0, 1) := by decide +kernel
theorem dX4_lean_1 : decode cX4_lean 1 = .ok (.iload_n 1, 1) := by decide +kernel
theorem dX4_lean_2 : decode cX4_lean 2 = .ok (.invokevirtual 186, 3) := by decide +kernel
theorem dX4_lean_5 : decode cX4_lean 5 = .ok (.astore_n 3, 1) := by decide +kernel
theorem dX4_lean_6 : decode cX4_lean 6 = .ok (.iload_n 2, 1) := by decide +kernel
theorem dX4_lean_7 : decode cX4_lean 7 = .ok (.bipush (-2), 2) := by decide +kernel
theorem dX4_lean_9 : decode cX4_lean 9 = .ok (.iconst 2, 1) := by decide +kernel
theorem dX4_lean_10 : decode cX4_lean 10 = .ok (.invokestatic 60, 3) := by decide +kernel
theorem dX4_lean_13 : decode cX4_lean 13 = .ok (.aload_n 3, 1) := by decide +kernel
theorem dX4_lean_14 : decode cX4_lean 14 = .ok (.getfield 190, 3) := by decide +kernel
theorem dX4_lean_17 : decode cX4_lean 17 = .ok (.istore 4, 2) := by decide +kernel
theorem dX4_lean_19 : decode cX4_lean 19 = .ok (.aload_n 3, 1) := by decide +kernel
theorem dX4_lean_20 : decode cX4_lean 20 = .ok (.iload_n 2, 1) := by decide +kernel
theorem dX4_lean_21 : decode cX4_lean 21 = .ok (.putfield 190, 3) := by decide +kernel
theorem dX4_lean_24 : decode cX4_lean 24 = .ok (.iload 4, 2) := by decide +kernel
theorem dX4_lean_26 : decode cX4_lean 26 = .ok (.ireturn, 1) := by decide +kernel
theorem dX4_repeat_0 : decode cX4_repeat 0 = .ok (.aload_n 0, 1) := by decide +kernel
theorem dX4_repeat_1 : decode cX4_repeat 1 = .ok (.iload_n 1, 1) := by decide +kernel
theorem dX4_repeat_2 : decode cX4_repeat 2 = .ok (.invokevirtual 186, 3) := by decide +kernel
theorem dX4_repeat_5 : decode cX4_repeat 5 = .ok (.astore_n 3, 1) := by decide +kernel
theorem dX4_repeat_6 : decode cX4_repeat 6 = .ok (.aload_n 0, 1) := by decide +kernel
theorem dX4_repeat_7 : decode cX4_repeat 7 = .ok (.iload_n 2, 1) := by decide +kernel
theorem dX4_repeat_8 : decode cX4_repeat 8 = .ok (.invokevirtual 193, 3) := by decide +kernel
theorem dX4_repeat_11 : decode cX4_repeat 11 = .ok (.astore 4, 2) := by decide +kernel
theorem dX4_repeat_13 : decode cX4_repeat 13 = .ok (.iconst 0, 1) := by decide +kernel
theorem dX4_repeat_14 : decode cX4_repeat 14 = .ok (.istore 5, 2) := by decide +kernel
theorem dX4_repeat_16 : decode cX4_repeat 16 = .ok (.iload 5, 2) := by decide +kernel
theorem dX4_repeat_18 : decode cX4_repeat 18 = .ok (.iconst 3, 1) := by decide +kernel
theorem dX4_repeat_19 : decode cX4_repeat 19 = .ok (.if_icmp .ge 36, 3) := by decide +kernel
theorem dX4_repeat_22 : decode cX4_repeat 22 = .ok (.aload 4, 2) := by decide +kernel
theorem dX4_repeat_24 : decode cX4_repeat 24 = .ok (.iload 5, 2) := by decide +kernel
theorem dX4_repeat_26 : decode cX4_repeat 26 = .ok (.invokevirtual 180, 3) := by decide +kernel
theorem dX4_repeat_29 : decode cX4_repeat 29 = .ok (.istore 6, 2) := by decide +kernel
theorem dX4_repeat_31 : decode cX4_repeat 31 = .ok (.aload_n 3, 1) := by decide +kernel
theorem dX4_repeat_32 : decode cX4_repeat 32 = .ok (.dup, 1) := by decide +kernel
theorem dX4_repeat_33 : decode cX4_repeat 33 = .ok (.getfield 196, 3) := by decide +kernel
theorem dX4_repeat_36 : decode cX4_repeat 36 = .ok (.aload_n 3, 1) := by decide +kernel
theorem dX4_repeat_37 : decode cX4_repeat 37 = .ok (.iload 6, 2) := by decide +kernel
theorem dX4_repeat_39 : decode cX4_repeat 39 = .ok (.invokevirtual 199, 3) := by decide +kernel
theorem dX4_repeat_42 : decode cX4_repeat 42 = .ok (.iload 6, 2) := by decide +kernel
theorem dX4_repeat_44 : decode cX4_repeat 44 = .ok (.isub, 1) := by decide +kernel
theorem dX4_repeat_45 : decode cX4_repeat 45 = .ok (.iadd, 1) := by decide +kernel
theorem dX4_repeat_46 : decode cX4_repeat 46 = .ok (.putfield 196, 3) := by decide +kernel
theorem dX4_repeat_49 : decode cX4_repeat 49 = .ok (.iinc 5 1, 3) := by decide +kernel
theorem dX4_repeat_52 : decode cX4_repeat 52 = .ok (.goto (-36), 3) := by decide +kernel
theorem dX4_repeat_55 : decode cX4_repeat 55 = .ok (.aload_n 3, 1) := by decide +kernel
theorem dX4_repeat_56 : decode cX4_repeat 56 = .ok (.dup, 1) := by decide +kernel
theorem dX4_repeat_57 : decode cX4_repeat 57 = .ok (.getfield 202, 3) := by decide +kernel
theorem dX4_repeat_60 : decode cX4_repeat 60 = .ok (.iconst 1, 1) := by decide +kernel
theorem dX4_repeat_61 : decode cX4_repeat 61 = .ok (.iadd, 1) := by decide +kernel
theorem dX4_repeat_62 : decode cX4_repeat 62 = .ok (.putfield 202, 3) := by decide +kernel
theorem dX4_repeat_65 : decode cX4_repeat 65 = .ok (.aload_n 3, 1) := by decide +kernel
theorem dX4_repeat_66 : decode cX4_repeat 66 = .ok (.invokevirtual 205, 3) := by decide +kernel
theorem dX4_repeat_69 : decode cX4_repeat 69 = .ok (.ireturn, 1) := by decide +kernel
theorem dX4_purse_0 : decode cX4_purse 0 = .ok (.iload_n 1, 1) := by decide +kernel
theorem dX4_purse_1 : decode cX4_purse 1 = .ok (.iconst 4, 1) := by decide +kernel
theorem dX4_purse_2 : decode cX4_purse 2 = .ok (.invokestatic 208, 3) := by decide +kernel
theorem dX4_purse_5 : decode cX4_purse 5 = .ok (.iload_n 2, 1) := by decide +kernel
theorem dX4_purse_6 : decode cX4_purse 6 = .ok (.iconst 1, 1) := by decide +kernel
theorem dX4_purse_7 : decode cX4_purse 7 = .ok (.sipush 9999, 3) := by decide +kernel
theorem dX4_purse_10 : decode cX4_purse 10 = .ok (.invokestatic 60, 3) := by decide +kernel
theorem dX4_purse_13 : decode cX4_purse 13 = .ok (.aload_n 0, 1) := by decide +kernel
theorem dX4_purse_14 : decode cX4_purse 14 = .ok (.getfield 42, 3) := by decide +kernel
theorem dX4_purse_17 : decode cX4_purse 17 = .ok (.iload_n 1, 1) := by decide +kernel
theorem dX4_purse_18 : decode cX4_purse 18 = .ok (.dup2, 1) := by decide +kernel
theorem dX4_purse_19 : decode cX4_purse 19 = .ok (.iaload, 1) := by decide +kernel
theorem dX4_purse_20 : decode cX4_purse 20 = .ok (.iload_n 2, 1) := by decide +kernel
theorem dX4_purse_21 : decode cX4_purse 21 = .ok (.iadd, 1) := by decide +kernel
theorem dX4_purse_22 : decode cX4_purse 22 = .ok (.iastore, 1) := by decide +kernel
theorem dX4_purse_23 : decode cX4_purse 23 = .ok (.aload_n 0, 1) := by decide +kernel
theorem dX4_purse_24 : decode cX4_purse 24 = .ok (.getfield 42, 3) := by decide +kernel
theorem dX4_purse_27 : decode cX4_purse 27 = .ok (.iload_n 1, 1) := by decide +kernel
theorem dX4_purse_28 : decode cX4_purse 28 = .ok (.iaload, 1) := by decide +kernel
theorem dX4_purse_29 : decode cX4_purse 29 = .ok (.ireturn, 1) := by decide +kernel
theorem dX4_offer_0 : decode cX4_offer 0 = .ok (.aload_n 0, 1) := by decide +kernel
theorem dX4_offer_1 : decode cX4_offer 1 = .ok (.iload_n 1, 1) := by decide +kernel
theorem dX4_offer_2 : decode cX4_offer 2 = .ok (.invokevirtual 126, 3) := by decide +kernel
theorem dX4_offer_5 : decode cX4_offer 5 = .ok (.astore_n 3, 1) := by decide +kernel
theorem dX4_offer_6 : decode cX4_offer 6 = .ok (.iload_n 2, 1) := by decide +kernel
theorem dX4_offer_7 : decode cX4_offer 7 = .ok (.iconst 1, 1) := by decide +kernel
theorem dX4_offer_8 : decode cX4_offer 8 = .ok (.bipush 99, 2) := by decide +kernel
theorem dX4_offer_10 : decode cX4_offer 10 = .ok (.invokestatic 60, 3) := by decide +kernel
theorem dX4_offer_13 : decode cX4_offer 13 = .ok (.aload_n 3, 1) := by decide +kernel
theorem dX4_offer_14 : decode cX4_offer 14 = .ok (.getfield 107, 3) := by decide +kernel
theorem dX4_offer_17 : decode cX4_offer 17 = .ok (.iconst 2, 1) := by decide +kernel
theorem dX4_offer_18 : decode cX4_offer 18 = .ok (.if_icmp .ne 7, 3) := by decide +kernel
theorem dX4_offer_21 : decode cX4_offer 21 = .ok (.iconst 1, 1) := by decide +kernel
theorem dX4_offer_22 : decode cX4_offer 22 = .ok (.goto 4, 3) := by decide +kernel
theorem dX4_offer_25 : decode cX4_offer 25 = .ok (.iconst 0, 1) := by decide +kernel
theorem dX4_offer_26 : decode cX4_offer 26 = .ok (.invokestatic 64, 3) := by decide +kernel
theorem dX4_offer_29 : decode cX4_offer 29 = .ok (.aload_n 3, 1) := by decide +kernel
theorem dX4_offer_30 : decode cX4_offer 30 = .ok (.getfield 211, 3) := by decide +kernel
theorem dX4_offer_33 : decode cX4_offer 33 = .ok (.iload_n 2, 1) := by decide +kernel
theorem dX4_offer_34 : decode cX4_offer 34 = .ok (.putfield 215, 3) := by decide +kernel
theorem dX4_offer_37 : decode cX4_offer 37 = .ok (.iconst 0, 1) := by decide +kernel
theorem dX4_offer_38 : decode cX4_offer 38 = .ok (.istore 4, 2) := by decide +kernel
theorem dX4_offer_40 : decode cX4_offer 40 = .ok (.iconst 0, 1) := by decide +kernel
theorem dX4_offer_41 : decode cX4_offer 41 = .ok (.istore 5, 2) := by decide +kernel
theorem dX4_offer_43 : decode cX4_offer 43 = .ok (.iload 5, 2) := by decide +kernel
theorem dX4_offer_45 : decode cX4_offer 45 = .ok (.aload_n 0, 1) := by decide +kernel
theorem dX4_offer_46 : decode cX4_offer 46 = .ok (.getfield 28, 3) := by decide +kernel
theorem dX4_offer_49 : decode cX4_offer 49 = .ok (.if_icmp .ge 28, 3) := by decide +kernel
theorem dX4_offer_52 : decode cX4_offer 52 = .ok (.aload_n 0, 1) := by decide +kernel
theorem dX4_offer_53 : decode cX4_offer 53 = .ok (.getfield 24, 3) := by decide +kernel
theorem dX4_offer_56 : decode cX4_offer 56 = .ok (.iload 5, 2) := by decide +kernel
theorem dX4_offer_58 : decode cX4_offer 58 = .ok (.aaload, 1) := by decide +kernel
theorem dX4_offer_59 : decode cX4_offer 59 = .ok (.getfield 211, 3) := by decide +kernel
theorem dX4_offer_62 : decode cX4_offer 62 = .ok (.invokevirtual 220, 3) := by decide +kernel
theorem dX4_offer_65 : decode cX4_offer 65 = .ok (.ifCond .eq 6, 3) := by decide +kernel
theorem dX4_offer_68 : decode cX4_offer 68 = .ok (.iinc 4 1, 3) := by decide +kernel
theorem dX4_offer_71 : decode cX4_offer 71 = .ok (.iinc 5 1, 3) := by decide +kernel
theorem dX4_offer_74 : decode cX4_offer 74 = .ok (.goto (-31), 3) := by decide +kernel
theorem dX4_offer_77 : decode cX4_offer 77 = .ok (.iload 4, 2) := by decide +kernel
theorem dX4_offer_79 : decode cX4_offer 79 = .ok (.ireturn, 1) := by decide +kernel
theorem dX4_bid_0 : decode cX4_bid 0 = .ok (.iload_n 1, 1) := by decide +kernel
theorem dX4_bid_1 : decode cX4_bid 1 = .ok (.iconst 4, 1) := by decide +kernel
theorem dX4_bid_2 : decode cX4_bid 2 = .ok (.invokestatic 208, 3) := by decide +kernel
theorem dX4_bid_5 : decode cX4_bid 5 = .ok (.aload_n 0, 1) := by decide +kernel
theorem dX4_bid_6 : decode cX4_bid 6 = .ok (.iload_n 2, 1) := by decide +kernel
theorem dX4_bid_7 : decode cX4_bid 7 = .ok (.invokevirtual 126, 3) := by decide +kernel
theorem dX4_bid_10 : decode cX4_bid 10 = .ok (.astore 4, 2) := by decide +kernel
theorem dX4_bid_12 : decode cX4_bid 12 = .ok (.iload_n 3, 1) := by decide +kernel
theorem dX4_bid_13 : decode cX4_bid 13 = .ok (.iconst 1, 1) := by decide +kernel
theorem dX4_bid_14 : decode cX4_bid 14 = .ok (.bipush 99, 2) := by decide +kernel
theorem dX4_bid_16 : decode cX4_bid 16 = .ok (.invokestatic 60, 3) := by decide +kernel
theorem dX4_bid_19 : decode cX4_bid 19 = .ok (.aload 4, 2) := by decide +kernel
theorem dX4_bid_21 : decode cX4_bid 21 = .ok (.getfield 211, 3) := by decide +kernel
theorem dX4_bid_24 : decode cX4_bid 24 = .ok (.invokevirtual 220, 3) := by decide +kernel
theorem dX4_bid_27 : decode cX4_bid 27 = .ok (.invokestatic 64, 3) := by decide +kernel
theorem dX4_bid_30 : decode cX4_bid 30 = .ok (.aload 4, 2) := by decide +kernel
theorem dX4_bid_32 : decode cX4_bid 32 = .ok (.getfield 211, 3) := by decide +kernel
theorem dX4_bid_35 : decode cX4_bid 35 = .ok (.iload_n 1, 1) := by decide +kernel
theorem dX4_bid_36 : decode cX4_bid 36 = .ok (.iload_n 3, 1) := by decide +kernel
theorem dX4_bid_37 : decode cX4_bid 37 = .ok (.invokevirtual 223, 3) := by decide +kernel
theorem dX4_bid_40 : decode cX4_bid 40 = .ok (.aload 4, 2) := by decide +kernel
theorem dX4_bid_42 : decode cX4_bid 42 = .ok (.getfield 211, 3) := by decide +kernel
theorem dX4_bid_45 : decode cX4_bid 45 = .ok (.invokevirtual 226, 3) := by decide +kernel
theorem dX4_bid_48 : decode cX4_bid 48 = .ok (.ireturn, 1) := by decide +kernel
theorem dX4_knock_0 : decode cX4_knock 0 = .ok (.aload_n 0, 1) := by decide +kernel
theorem dX4_knock_1 : decode cX4_knock 1 = .ok (.iload_n 1, 1) := by decide +kernel
theorem dX4_knock_2 : decode cX4_knock 2 = .ok (.invokevirtual 126, 3) := by decide +kernel
theorem dX4_knock_5 : decode cX4_knock 5 = .ok (.astore_n 2, 1) := by decide +kernel
theorem dX4_knock_6 : decode cX4_knock 6 = .ok (.aload_n 2, 1) := by decide +kernel
theorem dX4_knock_7 : decode cX4_knock 7 = .ok (.getfield 211, 3) := by decide +kernel
theorem dX4_knock_10 : decode cX4_knock 10 = .ok (.invokevirtual 220, 3) := by decide +kernel
theorem dX4_knock_13 : decode cX4_knock 13 = .ok (.invokestatic 64, 3) := by decide +kernel
theorem dX4_knock_16 : decode cX4_knock 16 = .ok (.aload_n 0, 1) := by decide +kernel
theorem dX4_knock_17 : decode cX4_knock 17 = .ok (.aload_n 2, 1) := by decide +kernel
theorem dX4_knock_18 : decode cX4_knock 18 = .ok (.invokevirtual 229, 3) := by decide +kernel
theorem dX4_knock_21 : decode cX4_knock 21 = .ok (.istore_n 3, 1) := by decide +kernel
theorem dX4_knock_22 : decode cX4_knock 22 = .ok (.iload_n 3, 1) := by decide +kernel
theorem dX4_knock_23 : decode cX4_knock 23 = .ok (.iconst (-1), 1) := by decide +kernel
theorem dX4_knock_24 : decode cX4_knock 24 = .ok (.if_icmp .eq 64, 3) := by decide +kernel
theorem dX4_knock_27 : decode cX4_knock 27 = .ok (.aload_n 2, 1) := by decide +kernel
theorem dX4_knock_28 : decode cX4_knock 28 = .ok (.aload_n 0, 1) := by decide +kernel
theorem dX4_knock_29 : decode cX4_knock 29 = .ok (.aload_n 2, 1) := by decide +kernel
theorem dX4_knock_30 : decode cX4_knock 30 = .ok (.iload_n 3, 1) := by decide +kernel
theorem dX4_knock_31 : decode cX4_knock 31 = .ok (.invokevirtual 233, 3) := by decide +kernel
theorem dX4_knock_34 : decode cX4_knock 34 = .ok (.invokestatic 237, 3) := by decide +kernel
theorem dX4_knock_37 : decode cX4_knock 37 = .ok (.istore 4, 2) := by decide +kernel
theorem dX4_knock_39 : decode cX4_knock 39 = .ok (.aload_n 0, 1) := by decide +kernel
theorem dX4_knock_40 : decode cX4_knock 40 = .ok (.getfield 42, 3) := by decide +kernel
theorem dX4_knock_43 : decode cX4_knock 43 = .ok (.iload_n 3, 1) := by decide +kernel
theorem dX4_knock_44 : decode cX4_knock 44 = .ok (.dup2, 1) := by decide +kernel
theorem dX4_knock_45 : decode cX4_knock 45 = .ok (.iaload, 1) := by decide +kernel
theorem dX4_knock_46 : decode cX4_knock 46 = .ok (.iload 4, 2) := by decide +kernel
theorem dX4_knock_48 : decode cX4_knock 48 = .ok (.isub, 1) := by decide +kernel
theorem dX4_knock_49 : decode cX4_knock 49 = .ok (.iastore, 1) := by decide +kernel
theorem dX4_knock_50 : decode cX4_knock 50 = .ok (.aload_n 0, 1) := by decide +kernel
theorem dX4_knock_51 : decode cX4_knock 51 = .ok (.dup, 1) := by decide +kernel
theorem dX4_knock_52 : decode cX4_knock 52 = .ok (.getfield 46, 3) := by decide +kernel
theorem dX4_knock_55 : decode cX4_knock 55 = .ok (.iload 4, 2) := by decide +kernel
theorem dX4_knock_57 : decode cX4_knock 57 = .ok (.iadd, 1) := by decide +kernel
theorem dX4_knock_58 : decode cX4_knock 58 = .ok (.putfield 46, 3) := by decide +kernel
theorem dX4_knock_61 : decode cX4_knock 61 = .ok (.aload_n 0, 1) := by decide +kernel
theorem dX4_knock_62 : decode cX4_knock 62 = .ok (.dup, 1) := by decide +kernel
theorem dX4_knock_63 : decode cX4_knock 63 = .ok (.getfield 49, 3) := by decide +kernel
theorem dX4_knock_66 : decode cX4_knock 66 = .ok (.iconst 1, 1) := by decide +kernel
theorem dX4_knock_67 : decode cX4_knock 67 = .ok (.iadd, 1) := by decide +kernel
theorem dX4_knock_68 : decode cX4_knock 68 = .ok (.putfield 49, 3) := by decide +kernel
theorem dX4_knock_71 : decode cX4_knock 71 = .ok (.aload_n 0, 1) := by decide +kernel
theorem dX4_knock_72 : decode cX4_knock 72 = .ok (.dup, 1) := by decide +kernel
theorem dX4_knock_73 : decode cX4_knock 73 = .ok (.getfield 52, 3) := by decide +kernel
theorem dX4_knock_76 : decode cX4_knock 76 = .ok (.aload_n 2, 1) := by decide +kernel
theorem dX4_knock_77 : decode cX4_knock 77 = .ok (.getfield 113, 3) := by decide +kernel
theorem dX4_knock_80 : decode cX4_knock 80 = .ok (.iadd, 1) := by decide +kernel
theorem dX4_knock_81 : decode cX4_knock 81 = .ok (.putfield 52, 3) := by decide +kernel
theorem dX4_knock_84 : decode cX4_knock 84 = .ok (.aload_n 2, 1) := by decide +kernel
theorem dX4_knock_85 : decode cX4_knock 85 = .ok (.invokevirtual 140, 3) := by decide +kernel
theorem dX4_knock_88 : decode cX4_knock 88 = .ok (.aload_n 2, 1) := by decide +kernel
theorem dX4_knock_89 : decode cX4_knock 89 = .ok (.getfield 211, 3) := by decide +kernel
theorem dX4_knock_92 : decode cX4_knock 92 = .ok (.invokevirtual 240, 3) := by decide +kernel
theorem dX4_knock_95 : decode cX4_knock 95 = .ok (.iload_n 3, 1) := by decide +kernel
theorem dX4_knock_96 : decode cX4_knock 96 = .ok (.ireturn, 1) := by decide +kernel
theorem dX4_ofSection_0 : decode cX4_ofSection 0 = .ok (.aload_n 0, 1) := by decide +kernel
theorem dX4_ofSection_1 : decode cX4_ofSection 1 = .ok (.iload_n 1, 1) := by decide +kernel
theorem dX4_ofSection_2 : decode cX4_ofSection 2 = .ok (.invokevirtual 78, 3) := by decide +kernel
theorem dX4_ofSection_5 : decode cX4_ofSection 5 = .ok (.astore_n 3, 1) := by decide +kernel
theorem dX4_ofSection_6 : decode cX4_ofSection 6 = .ok (.iload_n 2, 1) := by decide +kernel
theorem dX4_ofSection_7 : decode cX4_ofSection 7 = .ok (.iconst 0, 1) := by decide +kernel
theorem dX4_ofSection_8 : decode cX4_ofSection 8 = .ok (.bipush 10, 2) := by decide +kernel
theorem dX4_ofSection_10 : decode cX4_ofSection 10 = .ok (.invokestatic 60, 3) := by decide +kernel
theorem dX4_ofSection_13 : decode cX4_ofSection 13 = .ok (.iload_n 2, 1) := by decide +kernel
theorem dX4_ofSection_14 : decode cX4_ofSection 14 = .ok (.tableswitch 93 0 10 #[58, 63, 68, 73, 78, 83, 93, 93, 93, 93, 88], 58) := by decide +kernel
theorem dX4_ofSection_72 : decode cX4_ofSection 72 = .ok (.aload_n 3, 1) := by decide +kernel
theorem dX4_ofSection_73 : decode cX4_ofSection 73 = .ok (.getfield 68, 3) := by decide +kernel
theorem dX4_ofSection_76 : decode cX4_ofSection 76 = .ok (.ireturn, 1) := by decide +kernel
theorem dX4_ofSection_77 : decode cX4_ofSection 77 = .ok (.aload_n 3, 1) := by decide +kernel
theorem dX4_ofSection_78 : decode cX4_ofSection 78 = .ok (.getfield 71, 3) := by decide +kernel
theorem dX4_ofSection_81 : decode cX4_ofSection 81 = .ok (.ireturn, 1) := by decide +kernel
theorem dX4_ofSection_82 : decode cX4_ofSection 82 = .ok (.aload_n 3, 1) := by decide +kernel
theorem dX4_ofSection_83 : decode cX4_ofSection 83 = .ok (.getfield 243, 3) := by decide +kernel
theorem dX4_ofSection_86 : decode cX4_ofSection 86 = .ok (.ireturn, 1) := by decide +kernel
theorem dX4_ofSection_87 : decode cX4_ofSection 87 = .ok (.aload_n 3, 1) := by decide +kernel
theorem dX4_ofSection_88 : decode cX4_ofSection 88 = .ok (.getfield 246, 3) := by decide +kernel
theorem dX4_ofSection_91 : decode cX4_ofSection 91 = .ok (.ireturn, 1) := by decide +kernel
theorem dX4_ofSection_92 : decode cX4_ofSection 92 = .ok (.aload_n 3, 1) := by decide +kernel
theorem dX4_ofSection_93 : decode cX4_ofSection 93 = .ok (.getfield 86, 3) := by decide +kernel
theorem dX4_ofSection_96 : decode cX4_ofSection 96 = .ok (.ireturn, 1) := by decide +kernel
theorem dX4_ofSection_97 : decode cX4_ofSection 97 = .ok (.aload_n 3, 1) := by decide +kernel
theorem dX4_ofSection_98 : decode cX4_ofSection 98 = .ok (.getfield 89, 3) := by decide +kernel
theorem dX4_ofSection_101 : decode cX4_ofSection 101 = .ok (.ireturn, 1) := by decide +kernel
theorem dX4_ofSection_102 : decode cX4_ofSection 102 = .ok (.aload_n 3, 1) := by decide +kernel
theorem dX4_ofSection_103 : decode cX4_ofSection 103 = .ok (.getfield 92, 3) := by decide +kernel
theorem dX4_ofSection_106 : decode cX4_ofSection 106 = .ok (.ireturn, 1) := by decide +kernel
theorem dX4_ofSection_107 : decode cX4_ofSection 107 = .ok (.aload_n 3, 1) := by decide +kernel
theorem dX4_ofSection_108 : decode cX4_ofSection 108 = .ok (.getfield 100, 3) := by decide +kernel
theorem dX4_ofSection_111 : decode cX4_ofSection 111 = .ok (.iload_n 2, 1) := by decide +kernel
theorem dX4_ofSection_112 : decode cX4_ofSection 112 = .ok (.bipush 6, 2) := by decide +kernel
theorem dX4_ofSection_114 : decode cX4_ofSection 114 = .ok (.isub, 1) := by decide +kernel
theorem dX4_ofSection_115 : decode cX4_ofSection 115 = .ok (.iaload, 1) := by decide +kernel
theorem dX4_ofSection_116 : decode cX4_ofSection 116 = .ok (.ireturn, 1) := by decide +kernel
theorem dX4_ofLot_0 : decode cX4_ofLot 0 = .ok (.aload_n 0, 1) := by decide +kernel
theorem dX4_ofLot_1 : decode cX4_ofLot 1 = .ok (.iload_n 1, 1) := by decide +kernel
theorem dX4_ofLot_2 : decode cX4_ofLot 2 = .ok (.invokevirtual 126, 3) := by decide +kernel
theorem dX4_ofLot_5 : decode cX4_ofLot 5 = .ok (.astore_n 3, 1) := by decide +kernel
theorem dX4_ofLot_6 : decode cX4_ofLot 6 = .ok (.iload_n 2, 1) := by decide +kernel
theorem dX4_ofLot_7 : decode cX4_ofLot 7 = .ok (.iconst 0, 1) := by decide +kernel
theorem dX4_ofLot_8 : decode cX4_ofLot 8 = .ok (.bipush 17, 2) := by decide +kernel
theorem dX4_ofLot_10 : decode cX4_ofLot 10 = .ok (.invokestatic 60, 3) := by decide +kernel
theorem dX4_ofLot_13 : decode cX4_ofLot 13 = .ok (.iload_n 2, 1) := by decide +kernel
theorem dX4_ofLot_14 : decode cX4_ofLot 14 = .ok (.tableswitch 167 0 13 #[70, 75, 80, 85, 90, 95, 100, 105, 110, 115, 120, 133, 146, 159], 70) := by decide +kernel
theorem dX4_ofLot_84 : decode cX4_ofLot 84 = .ok (.aload_n 3, 1) := by decide +kernel
theorem dX4_ofLot_85 : decode cX4_ofLot 85 = .ok (.getfield 107, 3) := by decide +kernel
theorem dX4_ofLot_88 : decode cX4_ofLot 88 = .ok (.ireturn, 1) := by decide +kernel
theorem dX4_ofLot_89 : decode cX4_ofLot 89 = .ok (.aload_n 3, 1) := by decide +kernel
theorem dX4_ofLot_90 : decode cX4_ofLot 90 = .ok (.getfield 113, 3) := by decide +kernel
theorem dX4_ofLot_93 : decode cX4_ofLot 93 = .ok (.ireturn, 1) := by decide +kernel
theorem dX4_ofLot_94 : decode cX4_ofLot 94 = .ok (.aload_n 3, 1) := by decide +kernel
theorem dX4_ofLot_95 : decode cX4_ofLot 95 = .ok (.getfield 110, 3) := by decide +kernel
theorem dX4_ofLot_98 : decode cX4_ofLot 98 = .ok (.ireturn, 1) := by decide +kernel
theorem dX4_ofLot_99 : decode cX4_ofLot 99 = .ok (.aload_n 3, 1) := by decide +kernel
theorem dX4_ofLot_100 : decode cX4_ofLot 100 = .ok (.getfield 119, 3) := by decide +kernel
theorem dX4_ofLot_103 : decode cX4_ofLot 103 = .ok (.ireturn, 1) := by decide +kernel
theorem dX4_ofLot_104 : decode cX4_ofLot 104 = .ok (.aload_n 3, 1) := by decide +kernel
theorem dX4_ofLot_105 : decode cX4_ofLot 105 = .ok (.getfield 134, 3) := by decide +kernel
theorem dX4_ofLot_108 : decode cX4_ofLot 108 = .ok (.ireturn, 1) := by decide +kernel
theorem dX4_ofLot_109 : decode cX4_ofLot 109 = .ok (.aload_n 3, 1) := by decide +kernel
theorem dX4_ofLot_110 : decode cX4_ofLot 110 = .ok (.getfield 146, 3) := by decide +kernel
theorem dX4_ofLot_113 : decode cX4_ofLot 113 = .ok (.ireturn, 1) := by decide +kernel
theorem dX4_ofLot_114 : decode cX4_ofLot 114 = .ok (.aload_n 3, 1) := by decide +kernel
theorem dX4_ofLot_115 : decode cX4_ofLot 115 = .ok (.getfield 149, 3) := by decide +kernel
theorem dX4_ofLot_118 : decode cX4_ofLot 118 = .ok (.ireturn, 1) := by decide +kernel
theorem dX4_ofLot_119 : decode cX4_ofLot 119 = .ok (.aload_n 3, 1) := by decide +kernel
theorem dX4_ofLot_120 : decode cX4_ofLot 120 = .ok (.getfield 249, 3) := by decide +kernel
theorem dX4_ofLot_123 : decode cX4_ofLot 123 = .ok (.ireturn, 1) := by decide +kernel
theorem dX4_ofLot_124 : decode cX4_ofLot 124 = .ok (.aload_n 3, 1) := by decide +kernel
theorem dX4_ofLot_125 : decode cX4_ofLot 125 = .ok (.getfield 252, 3) := by decide +kernel
theorem dX4_ofLot_128 : decode cX4_ofLot 128 = .ok (.ireturn, 1) := by decide +kernel
theorem dX4_ofLot_129 : decode cX4_ofLot 129 = .ok (.aload_n 3, 1) := by decide +kernel
theorem dX4_ofLot_130 : decode cX4_ofLot 130 = .ok (.getfield 163, 3) := by decide +kernel
theorem dX4_ofLot_133 : decode cX4_ofLot 133 = .ok (.ireturn, 1) := by decide +kernel
theorem dX4_ofLot_134 : decode cX4_ofLot 134 = .ok (.aload_n 3, 1) := by decide +kernel
theorem dX4_ofLot_135 : decode cX4_ofLot 135 = .ok (.getfield 137, 3) := by decide +kernel
theorem dX4_ofLot_138 : decode cX4_ofLot 138 = .ok (.ifCond .eq 7, 3) := by decide +kernel
theorem dX4_ofLot_141 : decode cX4_ofLot 141 = .ok (.iconst 1, 1) := by decide +kernel
theorem dX4_ofLot_142 : decode cX4_ofLot 142 = .ok (.goto 4, 3) := by decide +kernel
theorem dX4_ofLot_145 : decode cX4_ofLot 145 = .ok (.iconst 0, 1) := by decide +kernel
theorem dX4_ofLot_146 : decode cX4_ofLot 146 = .ok (.ireturn, 1) := by decide +kernel
theorem dX4_ofLot_147 : decode cX4_ofLot 147 = .ok (.aload_n 3, 1) := by decide +kernel
theorem dX4_ofLot_148 : decode cX4_ofLot 148 = .ok (.getfield 122, 3) := by decide +kernel
theorem dX4_ofLot_151 : decode cX4_ofLot 151 = .ok (.ifCond .eq 7, 3) := by decide +kernel
theorem dX4_ofLot_154 : decode cX4_ofLot 154 = .ok (.iconst 1, 1) := by decide +kernel
theorem dX4_ofLot_155 : decode cX4_ofLot 155 = .ok (.goto 4, 3) := by decide +kernel
theorem dX4_ofLot_158 : decode cX4_ofLot 158 = .ok (.iconst 0, 1) := by decide +kernel
theorem dX4_ofLot_159 : decode cX4_ofLot 159 = .ok (.ireturn, 1) := by decide +kernel
theorem dX4_ofLot_160 : decode cX4_ofLot 160 = .ok (.aload_n 3, 1) := by decide +kernel
theorem dX4_ofLot_161 : decode cX4_ofLot 161 = .ok (.getfield 166, 3) := by decide +kernel
theorem dX4_ofLot_164 : decode cX4_ofLot 164 = .ok (.ifCond .eq 7, 3) := by decide +kernel
theorem dX4_ofLot_167 : decode cX4_ofLot 167 = .ok (.iconst 1, 1) := by decide +kernel
theorem dX4_ofLot_168 : decode cX4_ofLot 168 = .ok (.goto 4, 3) := by decide +kernel
theorem dX4_ofLot_171 : decode cX4_ofLot 171 = .ok (.iconst 0, 1) := by decide +kernel
theorem dX4_ofLot_172 : decode cX4_ofLot 172 = .ok (.ireturn, 1) := by decide +kernel
theorem dX4_ofLot_173 : decode cX4_ofLot 173 = .ok (.aload_n 3, 1) := by decide +kernel
theorem dX4_ofLot_174 : decode cX4_ofLot 174 = .ok (.getfield 211, 3) := by decide +kernel
theorem dX4_ofLot_177 : decode cX4_ofLot 177 = .ok (.getfield 215, 3) := by decide +kernel
theorem dX4_ofLot_180 : decode cX4_ofLot 180 = .ok (.ireturn, 1) := by decide +kernel
theorem dX4_ofLot_181 : decode cX4_ofLot 181 = .ok (.aload_n 3, 1) := by decide +kernel
theorem dX4_ofLot_182 : decode cX4_ofLot 182 = .ok (.getfield 116, 3) := by decide +kernel
theorem dX4_ofLot_185 : decode cX4_ofLot 185 = .ok (.iload_n 2, 1) := by decide +kernel
theorem dX4_ofLot_186 : decode cX4_ofLot 186 = .ok (.bipush 14, 2) := by decide +kernel
theorem dX4_ofLot_188 : decode cX4_ofLot 188 = .ok (.isub, 1) := by decide +kernel
theorem dX4_ofLot_189 : decode cX4_ofLot 189 = .ok (.iaload, 1) := by decide +kernel
theorem dX4_ofLot_190 : decode cX4_ofLot 190 = .ok (.ireturn, 1) := by decide +kernel
theorem dX4_note_0 : decode cX4_note 0 = .ok (.aload_n 0, 1) := by decide +kernel
theorem dX4_note_1 : decode cX4_note 1 = .ok (.iload_n 1, 1) := by decide +kernel
theorem dX4_note_2 : decode cX4_note 2 = .ok (.invokevirtual 126, 3) := by decide +kernel
theorem dX4_note_5 : decode cX4_note 5 = .ok (.astore_n 3, 1) := by decide +kernel
theorem dX4_note_6 : decode cX4_note 6 = .ok (.iload_n 2, 1) := by decide +kernel
theorem dX4_note_7 : decode cX4_note 7 = .ok (.iconst 0, 1) := by decide +kernel
theorem dX4_note_8 : decode cX4_note 8 = .ok (.iconst 2, 1) := by decide +kernel
theorem dX4_note_9 : decode cX4_note 9 = .ok (.invokestatic 60, 3) := by decide +kernel
theorem dX4_note_12 : decode cX4_note 12 = .ok (.aload_n 3, 1) := by decide +kernel
theorem dX4_note_13 : decode cX4_note 13 = .ok (.getfield 107, 3) := by decide +kernel
theorem dX4_note_16 : decode cX4_note 16 = .ok (.iconst 2, 1) := by decide +kernel
theorem dX4_note_17 : decode cX4_note 17 = .ok (.if_icmp .ne 7, 3) := by decide +kernel
theorem dX4_note_20 : decode cX4_note 20 = .ok (.iconst 1, 1) := by decide +kernel
theorem dX4_note_21 : decode cX4_note 21 = .ok (.goto 4, 3) := by decide +kernel
theorem dX4_note_24 : decode cX4_note 24 = .ok (.iconst 0, 1) := by decide +kernel
theorem dX4_note_25 : decode cX4_note 25 = .ok (.invokestatic 64, 3) := by decide +kernel
theorem dX4_note_28 : decode cX4_note 28 = .ok (.aload_n 3, 1) := by decide +kernel
theorem dX4_note_29 : decode cX4_note 29 = .ok (.iload_n 2, 1) := by decide +kernel
theorem dX4_note_30 : decode cX4_note 30 = .ok (.invokevirtual 180, 3) := by decide +kernel
theorem dX4_note_33 : decode cX4_note 33 = .ok (.ireturn, 1) := by decide +kernel
theorem dX4_taste_0 : decode cX4_taste 0 = .ok (.aload_n 0, 1) := by decide +kernel
theorem dX4_taste_1 : decode cX4_taste 1 = .ok (.iload_n 1, 1) := by decide +kernel
theorem dX4_taste_2 : decode cX4_taste 2 = .ok (.iload_n 2, 1) := by decide +kernel
theorem dX4_taste_3 : decode cX4_taste 3 = .ok (.invokevirtual 255, 3) := by decide +kernel
theorem dX4_taste_6 : decode cX4_taste 6 = .ok (.istore_n 3, 1) := by decide +kernel
theorem dX4_taste_7 : decode cX4_taste 7 = .ok (.iconst 0, 1) := by decide +kernel
theorem dX4_taste_8 : decode cX4_taste 8 = .ok (.istore 4, 2) := by decide +kernel
theorem dX4_taste_10 : decode cX4_taste 10 = .ok (.iconst 0, 1) := by decide +kernel
theorem dX4_taste_11 : decode cX4_taste 11 = .ok (.istore 5, 2) := by decide +kernel
theorem dX4_taste_13 : decode cX4_taste 13 = .ok (.iload 5, 2) := by decide +kernel
theorem dX4_taste_15 : decode cX4_taste 15 = .ok (.aload_n 0, 1) := by decide +kernel
theorem dX4_taste_16 : decode cX4_taste 16 = .ok (.getfield 38, 3) := by decide +kernel
theorem dX4_taste_19 : decode cX4_taste 19 = .ok (.arraylength, 1) := by decide +kernel
theorem dX4_taste_20 : decode cX4_taste 20 = .ok (.if_icmp .ge 36, 3) := by decide +kernel
theorem dX4_taste_23 : decode cX4_taste 23 = .ok (.iload 4, 2) := by decide +kernel
theorem dX4_taste_25 : decode cX4_taste 25 = .ok (.aload_n 0, 1) := by decide +kernel
theorem dX4_taste_26 : decode cX4_taste 26 = .ok (.getfield 38, 3) := by decide +kernel
theorem dX4_taste_29 : decode cX4_taste 29 = .ok (.iload 5, 2) := by decide +kernel
theorem dX4_taste_31 : decode cX4_taste 31 = .ok (.aaload, 1) := by decide +kernel
theorem dX4_taste_32 : decode cX4_taste 32 = .ok (.iload_n 3, 1) := by decide +kernel
theorem dX4_taste_33 : decode cX4_taste 33 = .ok (.invokevirtual 199, 3) := by decide +kernel
theorem dX4_taste_36 : decode cX4_taste 36 = .ok (.aload_n 0, 1) := by decide +kernel
theorem dX4_taste_37 : decode cX4_taste 37 = .ok (.getfield 38, 3) := by decide +kernel
theorem dX4_taste_40 : decode cX4_taste 40 = .ok (.iload 5, 2) := by decide +kernel
theorem dX4_taste_42 : decode cX4_taste 42 = .ok (.aaload, 1) := by decide +kernel
theorem dX4_taste_43 : decode cX4_taste 43 = .ok (.invokevirtual 205, 3) := by decide +kernel
theorem dX4_taste_46 : decode cX4_taste 46 = .ok (.isub, 1) := by decide +kernel
theorem dX4_taste_47 : decode cX4_taste 47 = .ok (.iadd, 1) := by decide +kernel
theorem dX4_taste_48 : decode cX4_taste 48 = .ok (.istore 4, 2) := by decide +kernel
theorem dX4_taste_50 : decode cX4_taste 50 = .ok (.iinc 5 1, 3) := by decide +kernel
theorem dX4_taste_53 : decode cX4_taste 53 = .ok (.goto (-40), 3) := by decide +kernel
theorem dX4_taste_56 : decode cX4_taste 56 = .ok (.iload 4, 2) := by decide +kernel
theorem dX4_taste_58 : decode cX4_taste 58 = .ok (.iconst 3, 1) := by decide +kernel
theorem dX4_taste_59 : decode cX4_taste 59 = .ok (.idiv, 1) := by decide +kernel
theorem dX4_taste_60 : decode cX4_taste 60 = .ok (.invokestatic 258, 3) := by decide +kernel
theorem dX4_taste_63 : decode cX4_taste 63 = .ok (.ireturn, 1) := by decide +kernel
theorem dX4_ofTaster_0 : decode cX4_ofTaster 0 = .ok (.aload_n 0, 1) := by decide +kernel
theorem dX4_ofTaster_1 : decode cX4_ofTaster 1 = .ok (.iload_n 1, 1) := by decide +kernel
theorem dX4_ofTaster_2 : decode cX4_ofTaster 2 = .ok (.invokevirtual 186, 3) := by decide +kernel
theorem dX4_ofTaster_5 : decode cX4_ofTaster 5 = .ok (.astore_n 3, 1) := by decide +kernel
theorem dX4_ofTaster_6 : decode cX4_ofTaster 6 = .ok (.iload_n 2, 1) := by decide +kernel
theorem dX4_ofTaster_7 : decode cX4_ofTaster 7 = .ok (.iconst 0, 1) := by decide +kernel
theorem dX4_ofTaster_8 : decode cX4_ofTaster 8 = .ok (.iconst 1, 1) := by decide +kernel
theorem dX4_ofTaster_9 : decode cX4_ofTaster 9 = .ok (.invokestatic 60, 3) := by decide +kernel
theorem dX4_ofTaster_12 : decode cX4_ofTaster 12 = .ok (.iload_n 2, 1) := by decide +kernel
theorem dX4_ofTaster_13 : decode cX4_ofTaster 13 = .ok (.ifCond .ne 10, 3) := by decide +kernel
theorem dX4_ofTaster_16 : decode cX4_ofTaster 16 = .ok (.aload_n 3, 1) := by decide +kernel
theorem dX4_ofTaster_17 : decode cX4_ofTaster 17 = .ok (.invokevirtual 205, 3) := by decide +kernel
theorem dX4_ofTaster_20 : decode cX4_ofTaster 20 = .ok (.goto 7, 3) := by decide +kernel
theorem dX4_ofTaster_23 : decode cX4_ofTaster 23 = .ok (.aload_n 3, 1) := by decide +kernel
theorem dX4_ofTaster_24 : decode cX4_ofTaster 24 = .ok (.getfield 202, 3) := by decide +kernel
theorem dX4_ofTaster_27 : decode cX4_ofTaster 27 = .ok (.ireturn, 1) := by decide +kernel
theorem dX4_bidOf_0 : decode cX4_bidOf 0 = .ok (.iload_n 1, 1) := by decide +kernel
theorem dX4_bidOf_1 : decode cX4_bidOf 1 = .ok (.iconst 4, 1) := by decide +kernel
theorem dX4_bidOf_2 : decode cX4_bidOf 2 = .ok (.invokestatic 208, 3) := by decide +kernel
theorem dX4_bidOf_5 : decode cX4_bidOf 5 = .ok (.aload_n 0, 1) := by decide +kernel
theorem dX4_bidOf_6 : decode cX4_bidOf 6 = .ok (.iload_n 2, 1) := by decide +kernel
theorem dX4_bidOf_7 : decode cX4_bidOf 7 = .ok (.invokevirtual 126, 3) := by decide +kernel
theorem dX4_bidOf_10 : decode cX4_bidOf 10 = .ok (.astore_n 3, 1) := by decide +kernel
theorem dX4_bidOf_11 : decode cX4_bidOf 11 = .ok (.aload_n 3, 1) := by decide +kernel
theorem dX4_bidOf_12 : decode cX4_bidOf 12 = .ok (.getfield 211, 3) := by decide +kernel
theorem dX4_bidOf_15 : decode cX4_bidOf 15 = .ok (.iload_n 1, 1) := by decide +kernel
theorem dX4_bidOf_16 : decode cX4_bidOf 16 = .ok (.invokevirtual 261, 3) := by decide +kernel
theorem dX4_bidOf_19 : decode cX4_bidOf 19 = .ok (.ifCond .eq 15, 3) := by decide +kernel
theorem dX4_bidOf_22 : decode cX4_bidOf 22 = .ok (.aload_n 3, 1) := by decide +kernel
theorem dX4_bidOf_23 : decode cX4_bidOf 23 = .ok (.getfield 211, 3) := by decide +kernel
theorem dX4_bidOf_26 : decode cX4_bidOf 26 = .ok (.getfield 265, 3) := by decide +kernel
theorem dX4_bidOf_29 : decode cX4_bidOf 29 = .ok (.iload_n 1, 1) := by decide +kernel
theorem dX4_bidOf_30 : decode cX4_bidOf 30 = .ok (.iaload, 1) := by decide +kernel
theorem dX4_bidOf_31 : decode cX4_bidOf 31 = .ok (.goto 4, 3) := by decide +kernel
theorem dX4_bidOf_34 : decode cX4_bidOf 34 = .ok (.iconst (-1), 1) := by decide +kernel
theorem dX4_bidOf_35 : decode cX4_bidOf 35 = .ok (.ireturn, 1) := by decide +kernel
theorem dX4_many_0 : decode cX4_many 0 = .ok (.iload_n 1, 1) := by decide +kernel
theorem dX4_many_1 : decode cX4_many 1 = .ok (.iconst 0, 1) := by decide +kernel
theorem dX4_many_2 : decode cX4_many 2 = .ok (.bipush 14, 2) := by decide +kernel
theorem dX4_many_4 : decode cX4_many 4 = .ok (.invokestatic 60, 3) := by decide +kernel
theorem dX4_many_7 : decode cX4_many 7 = .ok (.iload_n 1, 1) := by decide +kernel
theorem dX4_many_8 : decode cX4_many 8 = .ok (.tableswitch 118 0 10 #[60, 65, 70, 75, 81, 87, 93, 98, 103, 108, 113], 60) := by decide +kernel
theorem dX4_many_68 : decode cX4_many 68 = .ok (.aload_n 0, 1) := by decide +kernel
theorem dX4_many_69 : decode cX4_many 69 = .ok (.getfield 15, 3) := by decide +kernel
theorem dX4_many_72 : decode cX4_many 72 = .ok (.ireturn, 1) := by decide +kernel
theorem dX4_many_73 : decode cX4_many 73 = .ok (.aload_n 0, 1) := by decide +kernel
theorem dX4_many_74 : decode cX4_many 74 = .ok (.getfield 19, 3) := by decide +kernel
theorem dX4_many_77 : decode cX4_many 77 = .ok (.ireturn, 1) := by decide +kernel
theorem dX4_many_78 : decode cX4_many 78 = .ok (.aload_n 0, 1) := by decide +kernel
theorem dX4_many_79 : decode cX4_many 79 = .ok (.getfield 28, 3) := by decide +kernel
theorem dX4_many_82 : decode cX4_many 82 = .ok (.ireturn, 1) := by decide +kernel
theorem dX4_many_83 : decode cX4_many 83 = .ok (.aload_n 0, 1) := by decide +kernel
theorem dX4_many_84 : decode cX4_many 84 = .ok (.iconst 0, 1) := by decide +kernel
theorem dX4_many_85 : decode cX4_many 85 = .ok (.invokevirtual 268, 3) := by decide +kernel
theorem dX4_many_88 : decode cX4_many 88 = .ok (.ireturn, 1) := by decide +kernel
theorem dX4_many_89 : decode cX4_many 89 = .ok (.aload_n 0, 1) := by decide +kernel
theorem dX4_many_90 : decode cX4_many 90 = .ok (.iconst 1, 1) := by decide +kernel
theorem dX4_many_91 : decode cX4_many 91 = .ok (.invokevirtual 268, 3) := by decide +kernel
theorem dX4_many_94 : decode cX4_many 94 = .ok (.ireturn, 1) := by decide +kernel
theorem dX4_many_95 : decode cX4_many 95 = .ok (.aload_n 0, 1) := by decide +kernel
theorem dX4_many_96 : decode cX4_many 96 = .ok (.iconst 2, 1) := by decide +kernel
theorem dX4_many_97 : decode cX4_many 97 = .ok (.invokevirtual 268, 3) := by decide +kernel
theorem dX4_many_100 : decode cX4_many 100 = .ok (.ireturn, 1) := by decide +kernel
theorem dX4_many_101 : decode cX4_many 101 = .ok (.aload_n 0, 1) := by decide +kernel
theorem dX4_many_102 : decode cX4_many 102 = .ok (.getfield 46, 3) := by decide +kernel
theorem dX4_many_105 : decode cX4_many 105 = .ok (.ireturn, 1) := by decide +kernel
theorem dX4_many_106 : decode cX4_many 106 = .ok (.aload_n 0, 1) := by decide +kernel
theorem dX4_many_107 : decode cX4_many 107 = .ok (.getfield 49, 3) := by decide +kernel
theorem dX4_many_110 : decode cX4_many 110 = .ok (.ireturn, 1) := by decide +kernel
theorem dX4_many_111 : decode cX4_many 111 = .ok (.aload_n 0, 1) := by decide +kernel
theorem dX4_many_112 : decode cX4_many 112 = .ok (.invokevirtual 271, 3) := by decide +kernel
theorem dX4_many_115 : decode cX4_many 115 = .ok (.ireturn, 1) := by decide +kernel
theorem dX4_many_116 : decode cX4_many 116 = .ok (.aload_n 0, 1) := by decide +kernel
theorem dX4_many_117 : decode cX4_many 117 = .ok (.getfield 55, 3) := by decide +kernel
theorem dX4_many_120 : decode cX4_many 120 = .ok (.ireturn, 1) := by decide +kernel
theorem dX4_many_121 : decode cX4_many 121 = .ok (.aload_n 0, 1) := by decide +kernel
theorem dX4_many_122 : decode cX4_many 122 = .ok (.getfield 52, 3) := by decide +kernel
theorem dX4_many_125 : decode cX4_many 125 = .ok (.ireturn, 1) := by decide +kernel
theorem dX4_many_126 : decode cX4_many 126 = .ok (.aload_n 0, 1) := by decide +kernel
theorem dX4_many_127 : decode cX4_many 127 = .ok (.getfield 42, 3) := by decide +kernel
theorem dX4_many_130 : decode cX4_many 130 = .ok (.iload_n 1, 1) := by decide +kernel
theorem dX4_many_131 : decode cX4_many 131 = .ok (.bipush 11, 2) := by decide +kernel
theorem dX4_many_133 : decode cX4_many 133 = .ok (.isub, 1) := by decide +kernel
theorem dX4_many_134 : decode cX4_many 134 = .ok (.iaload, 1) := by decide +kernel
theorem dX4_many_135 : decode cX4_many 135 = .ok (.ireturn, 1) := by decide +kernel
theorem dX4_meanNotes_0 : decode cX4_meanNotes 0 = .ok (.iconst 0, 1) := by decide +kernel
theorem dX4_meanNotes_1 : decode cX4_meanNotes 1 = .ok (.istore_n 1, 1) := by decide +kernel
theorem dX4_meanNotes_2 : decode cX4_meanNotes 2 = .ok (.iconst 0, 1) := by decide +kernel
theorem dX4_meanNotes_3 : decode cX4_meanNotes 3 = .ok (.istore_n 2, 1) := by decide +kernel
theorem dX4_meanNotes_4 : decode cX4_meanNotes 4 = .ok (.iconst 0, 1) := by decide +kernel
theorem dX4_meanNotes_5 : decode cX4_meanNotes 5 = .ok (.istore_n 3, 1) := by decide +kernel
theorem dX4_meanNotes_6 : decode cX4_meanNotes 6 = .ok (.iload_n 3, 1) := by decide +kernel
theorem dX4_meanNotes_7 : decode cX4_meanNotes 7 = .ok (.aload_n 0, 1) := by decide +kernel
theorem dX4_meanNotes_8 : decode cX4_meanNotes 8 = .ok (.getfield 28, 3) := by decide +kernel
theorem dX4_meanNotes_11 : decode cX4_meanNotes 11 = .ok (.if_icmp .ge 56, 3) := by decide +kernel
theorem dX4_meanNotes_14 : decode cX4_meanNotes 14 = .ok (.aload_n 0, 1) := by decide +kernel
theorem dX4_meanNotes_15 : decode cX4_meanNotes 15 = .ok (.getfield 24, 3) := by decide +kernel
theorem dX4_meanNotes_18 : decode cX4_meanNotes 18 = .ok (.iload_n 3, 1) := by decide +kernel
theorem dX4_meanNotes_19 : decode cX4_meanNotes 19 = .ok (.aaload, 1) := by decide +kernel
theorem dX4_meanNotes_20 : decode cX4_meanNotes 20 = .ok (.getfield 107, 3) := by decide +kernel
theorem dX4_meanNotes_23 : decode cX4_meanNotes 23 = .ok (.iconst 2, 1) := by decide +kernel
theorem dX4_meanNotes_24 : decode cX4_meanNotes 24 = .ok (.if_icmp .ne 37, 3) := by decide +kernel
theorem dX4_meanNotes_27 : decode cX4_meanNotes 27 = .ok (.iload_n 1, 1) := by decide +kernel
theorem dX4_meanNotes_28 : decode cX4_meanNotes 28 = .ok (.aload_n 0, 1) := by decide +kernel
theorem dX4_meanNotes_29 : decode cX4_meanNotes 29 = .ok (.getfield 24, 3) := by decide +kernel
theorem dX4_meanNotes_32 : decode cX4_meanNotes 32 = .ok (.iload_n 3, 1) := by decide +kernel
theorem dX4_meanNotes_33 : decode cX4_meanNotes 33 = .ok (.aaload, 1) := by decide +kernel
theorem dX4_meanNotes_34 : decode cX4_meanNotes 34 = .ok (.getfield 113, 3) := by decide +kernel
theorem dX4_meanNotes_37 : decode cX4_meanNotes 37 = .ok (.iadd, 1) := by decide +kernel
theorem dX4_meanNotes_38 : decode cX4_meanNotes 38 = .ok (.istore_n 1, 1) := by decide +kernel
theorem dX4_meanNotes_39 : decode cX4_meanNotes 39 = .ok (.iload_n 2, 1) := by decide +kernel
theorem dX4_meanNotes_40 : decode cX4_meanNotes 40 = .ok (.aload_n 0, 1) := by decide +kernel
theorem dX4_meanNotes_41 : decode cX4_meanNotes 41 = .ok (.getfield 24, 3) := by decide +kernel
theorem dX4_meanNotes_44 : decode cX4_meanNotes 44 = .ok (.iload_n 3, 1) := by decide +kernel
theorem dX4_meanNotes_45 : decode cX4_meanNotes 45 = .ok (.aaload, 1) := by decide +kernel
theorem dX4_meanNotes_46 : decode cX4_meanNotes 46 = .ok (.getfield 113, 3) := by decide +kernel
theorem dX4_meanNotes_49 : decode cX4_meanNotes 49 = .ok (.aload_n 0, 1) := by decide +kernel
theorem dX4_meanNotes_50 : decode cX4_meanNotes 50 = .ok (.getfield 24, 3) := by decide +kernel
theorem dX4_meanNotes_53 : decode cX4_meanNotes 53 = .ok (.iload_n 3, 1) := by decide +kernel
theorem dX4_meanNotes_54 : decode cX4_meanNotes 54 = .ok (.aaload, 1) := by decide +kernel
theorem dX4_meanNotes_55 : decode cX4_meanNotes 55 = .ok (.invokevirtual 274, 3) := by decide +kernel
theorem dX4_meanNotes_58 : decode cX4_meanNotes 58 = .ok (.imul, 1) := by decide +kernel
theorem dX4_meanNotes_59 : decode cX4_meanNotes 59 = .ok (.iadd, 1) := by decide +kernel
theorem dX4_meanNotes_60 : decode cX4_meanNotes 60 = .ok (.istore_n 2, 1) := by decide +kernel
theorem dX4_meanNotes_61 : decode cX4_meanNotes 61 = .ok (.iinc 3 1, 3) := by decide +kernel
theorem dX4_meanNotes_64 : decode cX4_meanNotes 64 = .ok (.goto (-58), 3) := by decide +kernel
theorem dX4_meanNotes_67 : decode cX4_meanNotes 67 = .ok (.iload_n 1, 1) := by decide +kernel
theorem dX4_meanNotes_68 : decode cX4_meanNotes 68 = .ok (.ifCond .le 11, 3) := by decide +kernel
theorem dX4_meanNotes_71 : decode cX4_meanNotes 71 = .ok (.iload_n 2, 1) := by decide +kernel
theorem dX4_meanNotes_72 : decode cX4_meanNotes 72 = .ok (.i2d, 1) := by decide +kernel
theorem dX4_meanNotes_73 : decode cX4_meanNotes 73 = .ok (.iload_n 1, 1) := by decide +kernel
theorem dX4_meanNotes_74 : decode cX4_meanNotes 74 = .ok (.i2d, 1) := by decide +kernel
theorem dX4_meanNotes_75 : decode cX4_meanNotes 75 = .ok (.ddiv, 1) := by decide +kernel
theorem dX4_meanNotes_76 : decode cX4_meanNotes 76 = .ok (.goto 4, 3) := by decide +kernel
theorem dX4_meanNotes_79 : decode cX4_meanNotes 79 = .ok (.dconst 0, 1) := by decide +kernel
theorem dX4_meanNotes_80 : decode cX4_meanNotes 80 = .ok (.dreturn, 1) := by decide +kernel
theorem dX4_flushIn_0 : decode cX4_flushIn 0 = .ok (.aload_n 0, 1) := by decide +kernel
theorem dX4_flushIn_1 : decode cX4_flushIn 1 = .ok (.iload_n 1, 1) := by decide +kernel
theorem dX4_flushIn_2 : decode cX4_flushIn 2 = .ok (.invokevirtual 78, 3) := by decide +kernel
theorem dX4_flushIn_5 : decode cX4_flushIn 5 = .ok (.astore 4, 2) := by decide +kernel
theorem dX4_flushIn_7 : decode cX4_flushIn 7 = .ok (.iload_n 2, 1) := by decide +kernel
theorem dX4_flushIn_8 : decode cX4_flushIn 8 = .ok (.iconst 0, 1) := by decide +kernel
theorem dX4_flushIn_9 : decode cX4_flushIn 9 = .ok (.bipush 6, 2) := by decide +kernel
theorem dX4_flushIn_11 : decode cX4_flushIn 11 = .ok (.invokestatic 60, 3) := by decide +kernel
theorem dX4_flushIn_14 : decode cX4_flushIn 14 = .ok (.iload_n 3, 1) := by decide +kernel
theorem dX4_flushIn_15 : decode cX4_flushIn 15 = .ok (.iconst 0, 1) := by decide +kernel
theorem dX4_flushIn_16 : decode cX4_flushIn 16 = .ok (.bipush 6, 2) := by decide +kernel
theorem dX4_flushIn_18 : decode cX4_flushIn 18 = .ok (.invokestatic 60, 3) := by decide +kernel
theorem dX4_flushIn_21 : decode cX4_flushIn 21 = .ok (.aload 4, 2) := by decide +kernel
theorem dX4_flushIn_23 : decode cX4_flushIn 23 = .ok (.getfield 243, 3) := by decide +kernel
theorem dX4_flushIn_26 : decode cX4_flushIn 26 = .ok (.istore 5, 2) := by decide +kernel
theorem dX4_flushIn_28 : decode cX4_flushIn 28 = .ok (.iconst 1, 1) := by decide +kernel
theorem dX4_flushIn_29 : decode cX4_flushIn 29 = .ok (.istore 6, 2) := by decide +kernel
theorem dX4_flushIn_31 : decode cX4_flushIn 31 = .ok (.iload 6, 2) := by decide +kernel
theorem dX4_flushIn_33 : decode cX4_flushIn 33 = .ok (.bipush 30, 2) := by decide +kernel
theorem dX4_flushIn_35 : decode cX4_flushIn 35 = .ok (.if_icmp .gt 40, 3) := by decide +kernel
theorem dX4_flushIn_38 : decode cX4_flushIn 38 = .ok (.iload 6, 2) := by decide +kernel
theorem dX4_flushIn_40 : decode cX4_flushIn 40 = .ok (.aload 4, 2) := by decide +kernel
theorem dX4_flushIn_42 : decode cX4_flushIn 42 = .ok (.getfield 246, 3) := by decide +kernel
theorem dX4_flushIn_45 : decode cX4_flushIn 45 = .ok (.if_icmp .le 15, 3) := by decide +kernel
theorem dX4_flushIn_48 : decode cX4_flushIn 48 = .ok (.iload 5, 2) := by decide +kernel
theorem dX4_flushIn_50 : decode cX4_flushIn 50 = .ok (.aload 4, 2) := by decide +kernel
theorem dX4_flushIn_52 : decode cX4_flushIn 52 = .ok (.iload_n 2, 1) := by decide +kernel
theorem dX4_flushIn_53 : decode cX4_flushIn 53 = .ok (.iload_n 3, 1) := by decide +kernel
theorem dX4_flushIn_54 : decode cX4_flushIn 54 = .ok (.invokevirtual 277, 3) := by decide +kernel
theorem dX4_flushIn_57 : decode cX4_flushIn 57 = .ok (.iadd, 1) := by decide +kernel
theorem dX4_flushIn_58 : decode cX4_flushIn 58 = .ok (.istore 5, 2) := by decide +kernel
theorem dX4_flushIn_60 : decode cX4_flushIn 60 = .ok (.iload 5, 2) := by decide +kernel
theorem dX4_flushIn_62 : decode cX4_flushIn 62 = .ok (.iconst 5, 1) := by decide +kernel
theorem dX4_flushIn_63 : decode cX4_flushIn 63 = .ok (.if_icmp .lt 6, 3) := by decide +kernel
theorem dX4_flushIn_66 : decode cX4_flushIn 66 = .ok (.iload 6, 2) := by decide +kernel
theorem dX4_flushIn_68 : decode cX4_flushIn 68 = .ok (.ireturn, 1) := by decide +kernel
theorem dX4_flushIn_69 : decode cX4_flushIn 69 = .ok (.iinc 6 1, 3) := by decide +kernel
theorem dX4_flushIn_72 : decode cX4_flushIn 72 = .ok (.goto (-41), 3) := by decide +kernel
theorem dX4_flushIn_75 : decode cX4_flushIn 75 = .ok (.iconst (-1), 1) := by decide +kernel
theorem dX4_flushIn_76 : decode cX4_flushIn 76 = .ok (.ireturn, 1) := by decide +kernel
theorem dX4_bestFire_0 : decode cX4_bestFire 0 = .ok (.aload_n 0, 1) := by decide +kernel
theorem dX4_bestFire_1 : decode cX4_bestFire 1 = .ok (.iload_n 1, 1) := by decide +kernel
theorem dX4_bestFire_2 : decode cX4_bestFire 2 = .ok (.invokevirtual 126, 3) := by decide +kernel
theorem dX4_bestFire_5 : decode cX4_bestFire 5 = .ok (.astore_n 2, 1) := by decide +kernel
theorem dX4_bestFire_6 : decode cX4_bestFire 6 = .ok (.aload_n 2, 1) := by decide +kernel
theorem dX4_bestFire_7 : decode cX4_bestFire 7 = .ok (.getfield 107, 3) := by decide +kernel
theorem dX4_bestFire_10 : decode cX4_bestFire 10 = .ok (.iconst 1, 1) := by decide +kernel
theorem dX4_bestFire_11 : decode cX4_bestFire 11 = .ok (.if_icmp .ne 7, 3) := by decide +kernel
theorem dX4_bestFire_14 : decode cX4_bestFire 14 = .ok (.iconst 1, 1) := by decide +kernel
theorem dX4_bestFire_15 : decode cX4_bestFire 15 = .ok (.goto 4, 3) := by decide +kernel
theorem dX4_bestFire_18 : decode cX4_bestFire 18 = .ok (.iconst 0, 1) := by decide +kernel
theorem dX4_bestFire_19 : decode cX4_bestFire 19 = .ok (.invokestatic 64, 3) := by decide +kernel
theorem dX4_bestFire_22 : decode cX4_bestFire 22 = .ok (.iconst (-1), 1) := by decide +kernel
theorem dX4_bestFire_23 : decode cX4_bestFire 23 = .ok (.istore_n 3, 1) := by decide +kernel
theorem dX4_bestFire_24 : decode cX4_bestFire 24 = .ok (.iconst (-1), 1) := by decide +kernel
theorem dX4_bestFire_25 : decode cX4_bestFire 25 = .ok (.istore 4, 2) := by decide +kernel
theorem dX4_bestFire_27 : decode cX4_bestFire 27 = .ok (.iconst 1, 1) := by decide +kernel
theorem dX4_bestFire_28 : decode cX4_bestFire 28 = .ok (.istore 5, 2) := by decide +kernel
theorem dX4_bestFire_30 : decode cX4_bestFire 30 = .ok (.iload 5, 2) := by decide +kernel
theorem dX4_bestFire_32 : decode cX4_bestFire 32 = .ok (.iconst 5, 1) := by decide +kernel
theorem dX4_bestFire_33 : decode cX4_bestFire 33 = .ok (.if_icmp .gt 85, 3) := by decide +kernel
theorem dX4_bestFire_36 : decode cX4_bestFire 36 = .ok (.aload_n 0, 1) := by decide +kernel
theorem dX4_bestFire_37 : decode cX4_bestFire 37 = .ok (.getfield 32, 3) := by decide +kernel
theorem dX4_bestFire_40 : decode cX4_bestFire 40 = .ok (.aload_n 2, 1) := by decide +kernel
theorem dX4_bestFire_41 : decode cX4_bestFire 41 = .ok (.invokevirtual 280, 3) := by decide +kernel
theorem dX4_bestFire_44 : decode cX4_bestFire 44 = .ok (.iconst 1, 1) := by decide +kernel
theorem dX4_bestFire_45 : decode cX4_bestFire 45 = .ok (.istore 6, 2) := by decide +kernel
theorem dX4_bestFire_47 : decode cX4_bestFire 47 = .ok (.iload 6, 2) := by decide +kernel
theorem dX4_bestFire_49 : decode cX4_bestFire 49 = .ok (.bipush 30, 2) := by decide +kernel
theorem dX4_bestFire_51 : decode cX4_bestFire 51 = .ok (.if_icmp .gt 61, 3) := by decide +kernel
theorem dX4_bestFire_54 : decode cX4_bestFire 54 = .ok (.aload_n 0, 1) := by decide +kernel
theorem dX4_bestFire_55 : decode cX4_bestFire 55 = .ok (.getfield 32, 3) := by decide +kernel
theorem dX4_bestFire_58 : decode cX4_bestFire 58 = .ok (.iload 5, 2) := by decide +kernel
theorem dX4_bestFire_60 : decode cX4_bestFire 60 = .ok (.invokevirtual 152, 3) := by decide +kernel
theorem dX4_bestFire_63 : decode cX4_bestFire 63 = .ok (.aload_n 0, 1) := by decide +kernel
theorem dX4_bestFire_64 : decode cX4_bestFire 64 = .ok (.getfield 32, 3) := by decide +kernel
theorem dX4_bestFire_67 : decode cX4_bestFire 67 = .ok (.invokevirtual 156, 3) := by decide +kernel
theorem dX4_bestFire_70 : decode cX4_bestFire 70 = .ok (.ifCond .eq 13, 3) := by decide +kernel
theorem dX4_bestFire_73 : decode cX4_bestFire 73 = .ok (.aload_n 0, 1) := by decide +kernel
theorem dX4_bestFire_74 : decode cX4_bestFire 74 = .ok (.getfield 32, 3) := by decide +kernel
theorem dX4_bestFire_77 : decode cX4_bestFire 77 = .ok (.invokevirtual 274, 3) := by decide +kernel
theorem dX4_bestFire_80 : decode cX4_bestFire 80 = .ok (.goto 4, 3) := by decide +kernel
theorem dX4_bestFire_83 : decode cX4_bestFire 83 = .ok (.iconst (-1), 1) := by decide +kernel
theorem dX4_bestFire_84 : decode cX4_bestFire 84 = .ok (.istore 7, 2) := by decide +kernel
theorem dX4_bestFire_86 : decode cX4_bestFire 86 = .ok (.iload 7, 2) := by decide +kernel
theorem dX4_bestFire_88 : decode cX4_bestFire 88 = .ok (.iload 4, 2) := by decide +kernel
theorem dX4_bestFire_90 : decode cX4_bestFire 90 = .ok (.if_icmp .le 16, 3) := by decide +kernel
theorem dX4_bestFire_93 : decode cX4_bestFire 93 = .ok (.iload 7, 2) := by decide +kernel
theorem dX4_bestFire_95 : decode cX4_bestFire 95 = .ok (.istore 4, 2) := by decide +kernel
theorem dX4_bestFire_97 : decode cX4_bestFire 97 = .ok (.bipush 100, 2) := by decide +kernel
theorem dX4_bestFire_99 : decode cX4_bestFire 99 = .ok (.iload 5, 2) := by decide +kernel
theorem dX4_bestFire_101 : decode cX4_bestFire 101 = .ok (.imul, 1) := by decide +kernel
theorem dX4_bestFire_102 : decode cX4_bestFire 102 = .ok (.iload 6, 2) := by decide +kernel
theorem dX4_bestFire_104 : decode cX4_bestFire 104 = .ok (.iadd, 1) := by decide +kernel
theorem dX4_bestFire_105 : decode cX4_bestFire 105 = .ok (.istore_n 3, 1) := by decide +kernel
theorem dX4_bestFire_106 : decode cX4_bestFire 106 = .ok (.iinc 6 1, 3) := by decide +kernel
theorem dX4_bestFire_109 : decode cX4_bestFire 109 = .ok (.goto (-62), 3) := by decide +kernel
theorem dX4_bestFire_112 : decode cX4_bestFire 112 = .ok (.iinc 5 1, 3) := by decide +kernel
theorem dX4_bestFire_115 : decode cX4_bestFire 115 = .ok (.goto (-85), 3) := by decide +kernel
theorem dX4_bestFire_118 : decode cX4_bestFire 118 = .ok (.iload_n 3, 1) := by decide +kernel
theorem dX4_bestFire_119 : decode cX4_bestFire 119 = .ok (.ireturn, 1) := by decide +kernel
theorem dX4_bestMix_0 : decode cX4_bestMix 0 = .ok (.iload_n 1, 1) := by decide +kernel
theorem dX4_bestMix_1 : decode cX4_bestMix 1 = .ok (.iconst 0, 1) := by decide +kernel
theorem dX4_bestMix_2 : decode cX4_bestMix 2 = .ok (.bipush 9, 2) := by decide +kernel
theorem dX4_bestMix_4 : decode cX4_bestMix 4 = .ok (.invokestatic 60, 3) := by decide +kernel
theorem dX4_bestMix_7 : decode cX4_bestMix 7 = .ok (.iload_n 2, 1) := by decide +kernel
theorem dX4_bestMix_8 : decode cX4_bestMix 8 = .ok (.iconst 0, 1) := by decide +kernel
theorem dX4_bestMix_9 : decode cX4_bestMix 9 = .ok (.bipush 9, 2) := by decide +kernel
theorem dX4_bestMix_11 : decode cX4_bestMix 11 = .ok (.invokestatic 60, 3) := by decide +kernel
theorem dX4_bestMix_14 : decode cX4_bestMix 14 = .ok (.iload_n 3, 1) := by decide +kernel
theorem dX4_bestMix_15 : decode cX4_bestMix 15 = .ok (.iconst 0, 1) := by decide +kernel
theorem dX4_bestMix_16 : decode cX4_bestMix 16 = .ok (.bipush 9, 2) := by decide +kernel
theorem dX4_bestMix_18 : decode cX4_bestMix 18 = .ok (.invokestatic 60, 3) := by decide +kernel
theorem dX4_bestMix_21 : decode cX4_bestMix 21 = .ok (.ldc_w 284, 3) := by decide +kernel
theorem dX4_bestMix_24 : decode cX4_bestMix 24 = .ok (.istore 4, 2) := by decide +kernel
theorem dX4_bestMix_26 : decode cX4_bestMix 26 = .ok (.iconst 0, 1) := by decide +kernel
theorem dX4_bestMix_27 : decode cX4_bestMix 27 = .ok (.istore 5, 2) := by decide +kernel
theorem dX4_bestMix_29 : decode cX4_bestMix 29 = .ok (.iload 5, 2) := by decide +kernel
theorem dX4_bestMix_31 : decode cX4_bestMix 31 = .ok (.aload_n 0, 1) := by decide +kernel
theorem dX4_bestMix_32 : decode cX4_bestMix 32 = .ok (.getfield 28, 3) := by decide +kernel
theorem dX4_bestMix_35 : decode cX4_bestMix 35 = .ok (.if_icmp .ge 99, 3) := by decide +kernel
theorem dX4_bestMix_38 : decode cX4_bestMix 38 = .ok (.iload 5, 2) := by decide +kernel
theorem dX4_bestMix_40 : decode cX4_bestMix 40 = .ok (.iconst 1, 1) := by decide +kernel
theorem dX4_bestMix_41 : decode cX4_bestMix 41 = .ok (.iadd, 1) := by decide +kernel
theorem dX4_bestMix_42 : decode cX4_bestMix 42 = .ok (.istore 6, 2) := by decide +kernel
theorem dX4_bestMix_44 : decode cX4_bestMix 44 = .ok (.iload 6, 2) := by decide +kernel
theorem dX4_bestMix_46 : decode cX4_bestMix 46 = .ok (.aload_n 0, 1) := by decide +kernel
theorem dX4_bestMix_47 : decode cX4_bestMix 47 = .ok (.getfield 28, 3) := by decide +kernel
theorem dX4_bestMix_50 : decode cX4_bestMix 50 = .ok (.if_icmp .ge 78, 3) := by decide +kernel
theorem dX4_bestMix_53 : decode cX4_bestMix 53 = .ok (.aload_n 0, 1) := by decide +kernel
theorem dX4_bestMix_54 : decode cX4_bestMix 54 = .ok (.getfield 24, 3) := by decide +kernel
theorem dX4_bestMix_57 : decode cX4_bestMix 57 = .ok (.iload 5, 2) := by decide +kernel
theorem dX4_bestMix_59 : decode cX4_bestMix 59 = .ok (.aaload, 1) := by decide +kernel
theorem dX4_bestMix_60 : decode cX4_bestMix 60 = .ok (.invokevirtual 160, 3) := by decide +kernel
theorem dX4_bestMix_63 : decode cX4_bestMix 63 = .ok (.ifCond .eq 59, 3) := by decide +kernel
theorem dX4_bestMix_66 : decode cX4_bestMix 66 = .ok (.aload_n 0, 1) := by decide +kernel
theorem dX4_bestMix_67 : decode cX4_bestMix 67 = .ok (.getfield 24, 3) := by decide +kernel
theorem dX4_bestMix_70 : decode cX4_bestMix 70 = .ok (.iload 6, 2) := by decide +kernel
theorem dX4_bestMix_72 : decode cX4_bestMix 72 = .ok (.aaload, 1) := by decide +kernel
theorem dX4_bestMix_73 : decode cX4_bestMix 73 = .ok (.invokevirtual 160, 3) := by decide +kernel
theorem dX4_bestMix_76 : decode cX4_bestMix 76 = .ok (.ifCond .eq 46, 3) := by decide +kernel
theorem dX4_bestMix_79 : decode cX4_bestMix 79 = .ok (.sipush 1000, 3) := by decide +kernel
theorem dX4_bestMix_82 : decode cX4_bestMix 82 = .ok (.iload 5, 2) := by decide +kernel
theorem dX4_bestMix_84 : decode cX4_bestMix 84 = .ok (.imul, 1) := by decide +kernel
theorem dX4_bestMix_85 : decode cX4_bestMix 85 = .ok (.bipush 10, 2) := by decide +kernel
theorem dX4_bestMix_87 : decode cX4_bestMix 87 = .ok (.iload 6, 2) := by decide +kernel
theorem dX4_bestMix_89 : decode cX4_bestMix 89 = .ok (.imul, 1) := by decide +kernel
theorem dX4_bestMix_90 : decode cX4_bestMix 90 = .ok (.iadd, 1) := by decide +kernel
theorem dX4_bestMix_91 : decode cX4_bestMix 91 = .ok (.istore 7, 2) := by decide +kernel
theorem dX4_bestMix_93 : decode cX4_bestMix 93 = .ok (.iload 4, 2) := by decide +kernel
theorem dX4_bestMix_95 : decode cX4_bestMix 95 = .ok (.iload 7, 2) := by decide +kernel
theorem dX4_bestMix_97 : decode cX4_bestMix 97 = .ok (.aload_n 0, 1) := by decide +kernel
theorem dX4_bestMix_98 : decode cX4_bestMix 98 = .ok (.getfield 24, 3) := by decide +kernel
theorem dX4_bestMix_101 : decode cX4_bestMix 101 = .ok (.iload 5, 2) := by decide +kernel
theorem dX4_bestMix_103 : decode cX4_bestMix 103 = .ok (.aaload, 1) := by decide +kernel
theorem dX4_bestMix_104 : decode cX4_bestMix 104 = .ok (.aload_n 0, 1) := by decide +kernel
theorem dX4_bestMix_105 : decode cX4_bestMix 105 = .ok (.getfield 24, 3) := by decide +kernel
theorem dX4_bestMix_108 : decode cX4_bestMix 108 = .ok (.iload 6, 2) := by decide +kernel
theorem dX4_bestMix_110 : decode cX4_bestMix 110 = .ok (.aaload, 1) := by decide +kernel
theorem dX4_bestMix_111 : decode cX4_bestMix 111 = .ok (.iload_n 1, 1) := by decide +kernel
theorem dX4_bestMix_112 : decode cX4_bestMix 112 = .ok (.iload_n 2, 1) := by decide +kernel
theorem dX4_bestMix_113 : decode cX4_bestMix 113 = .ok (.iload_n 3, 1) := by decide +kernel
theorem dX4_bestMix_114 : decode cX4_bestMix 114 = .ok (.invokestatic 285, 3) := by decide +kernel
theorem dX4_bestMix_117 : decode cX4_bestMix 117 = .ok (.invokestatic 95, 3) := by decide +kernel
theorem dX4_bestMix_120 : decode cX4_bestMix 120 = .ok (.istore 4, 2) := by decide +kernel
theorem dX4_bestMix_122 : decode cX4_bestMix 122 = .ok (.iinc 6 1, 3) := by decide +kernel
theorem dX4_bestMix_125 : decode cX4_bestMix 125 = .ok (.goto (-81), 3) := by decide +kernel
theorem dX4_bestMix_128 : decode cX4_bestMix 128 = .ok (.iinc 5 1, 3) := by decide +kernel
theorem dX4_bestMix_131 : decode cX4_bestMix 131 = .ok (.goto (-102), 3) := by decide +kernel
theorem dX4_bestMix_134 : decode cX4_bestMix 134 = .ok (.iload 4, 2) := by decide +kernel
theorem dX4_bestMix_136 : decode cX4_bestMix 136 = .ok (.ldc_w 284, 3) := by decide +kernel
theorem dX4_bestMix_139 : decode cX4_bestMix 139 = .ok (.if_icmp .ne 7, 3) := by decide +kernel
theorem dX4_bestMix_142 : decode cX4_bestMix 142 = .ok (.iconst (-1), 1) := by decide +kernel
theorem dX4_bestMix_143 : decode cX4_bestMix 143 = .ok (.goto 9, 3) := by decide +kernel
theorem dX4_bestMix_146 : decode cX4_bestMix 146 = .ok (.iload 4, 2) := by decide +kernel
theorem dX4_bestMix_148 : decode cX4_bestMix 148 = .ok (.ldc_w 289, 3) := by decide +kernel
theorem dX4_bestMix_151 : decode cX4_bestMix 151 = .ok (.irem, 1) := by decide +kernel
theorem dX4_bestMix_152 : decode cX4_bestMix 152 = .ok (.ireturn, 1) := by decide +kernel
theorem dX4_wouldPay_0 : decode cX4_wouldPay 0 = .ok (.aload_n 0, 1) := by decide +kernel
theorem dX4_wouldPay_1 : decode cX4_wouldPay 1 = .ok (.iload_n 1, 1) := by decide +kernel
theorem dX4_wouldPay_2 : decode cX4_wouldPay 2 = .ok (.invokevirtual 126, 3) := by decide +kernel
theorem dX4_wouldPay_5 : decode cX4_wouldPay 5 = .ok (.astore_n 2, 1) := by decide +kernel
theorem dX4_wouldPay_6 : decode cX4_wouldPay 6 = .ok (.aload_n 2, 1) := by decide +kernel
theorem dX4_wouldPay_7 : decode cX4_wouldPay 7 = .ok (.getfield 211, 3) := by decide +kernel
theorem dX4_wouldPay_10 : decode cX4_wouldPay 10 = .ok (.invokevirtual 220, 3) := by decide +kernel
theorem dX4_wouldPay_13 : decode cX4_wouldPay 13 = .ok (.invokestatic 64, 3) := by decide +kernel
theorem dX4_wouldPay_16 : decode cX4_wouldPay 16 = .ok (.aload_n 0, 1) := by decide +kernel
theorem dX4_wouldPay_17 : decode cX4_wouldPay 17 = .ok (.aload_n 2, 1) := by decide +kernel
theorem dX4_wouldPay_18 : decode cX4_wouldPay 18 = .ok (.invokevirtual 229, 3) := by decide +kernel
theorem dX4_wouldPay_21 : decode cX4_wouldPay 21 = .ok (.istore_n 3, 1) := by decide +kernel
theorem dX4_wouldPay_22 : decode cX4_wouldPay 22 = .ok (.iload_n 3, 1) := by decide +kernel
theorem dX4_wouldPay_23 : decode cX4_wouldPay 23 = .ok (.iconst (-1), 1) := by decide +kernel
theorem dX4_wouldPay_24 : decode cX4_wouldPay 24 = .ok (.if_icmp .ne 7, 3) := by decide +kernel
theorem dX4_wouldPay_27 : decode cX4_wouldPay 27 = .ok (.iconst 0, 1) := by decide +kernel
theorem dX4_wouldPay_28 : decode cX4_wouldPay 28 = .ok (.goto 13, 3) := by decide +kernel
theorem dX4_wouldPay_31 : decode cX4_wouldPay 31 = .ok (.aload_n 2, 1) := by decide +kernel
theorem dX4_wouldPay_32 : decode cX4_wouldPay 32 = .ok (.aload_n 0, 1) := by decide +kernel
theorem dX4_wouldPay_33 : decode cX4_wouldPay 33 = .ok (.aload_n 2, 1) := by decide +kernel
theorem dX4_wouldPay_34 : decode cX4_wouldPay 34 = .ok (.iload_n 3, 1) := by decide +kernel
theorem dX4_wouldPay_35 : decode cX4_wouldPay 35 = .ok (.invokevirtual 233, 3) := by decide +kernel
theorem dX4_wouldPay_38 : decode cX4_wouldPay 38 = .ok (.invokestatic 237, 3) := by decide +kernel
theorem dX4_wouldPay_41 : decode cX4_wouldPay 41 = .ok (.ireturn, 1) := by decide +kernel
theorem dX4_digest_0 : decode cX4_digest 0 = .ok (.ldc2_w 290, 3) := by decide +kernel
theorem dX4_digest_3 : decode cX4_digest 3 = .ok (.lstore_n 1, 1) := by decide +kernel
theorem dX4_digest_4 : decode cX4_digest 4 = .ok (.iconst 0, 1) := by decide +kernel
theorem dX4_digest_5 : decode cX4_digest 5 = .ok (.istore_n 3, 1) := by decide +kernel
theorem dX4_digest_6 : decode cX4_digest 6 = .ok (.iload_n 3, 1) := by decide +kernel
theorem dX4_digest_7 : decode cX4_digest 7 = .ok (.bipush 14, 2) := by decide +kernel
theorem dX4_digest_9 : decode cX4_digest 9 = .ok (.if_icmp .gt 22, 3) := by decide +kernel
theorem dX4_digest_12 : decode cX4_digest 12 = .ok (.lload_n 1, 1) := by decide +kernel
theorem dX4_digest_13 : decode cX4_digest 13 = .ok (.ldc2_w 292, 3) := by decide +kernel
theorem dX4_digest_16 : decode cX4_digest 16 = .ok (.lmul, 1) := by decide +kernel
theorem dX4_digest_17 : decode cX4_digest 17 = .ok (.aload_n 0, 1) := by decide +kernel
theorem dX4_digest_18 : decode cX4_digest 18 = .ok (.iload_n 3, 1) := by decide +kernel
theorem dX4_digest_19 : decode cX4_digest 19 = .ok (.invokevirtual 294, 3) := by decide +kernel
theorem dX4_digest_22 : decode cX4_digest 22 = .ok (.i2l, 1) := by decide +kernel
theorem dX4_digest_23 : decode cX4_digest 23 = .ok (.ladd, 1) := by decide +kernel
theorem dX4_digest_24 : decode cX4_digest 24 = .ok (.lstore_n 1, 1) := by decide +kernel
theorem dX4_digest_25 : decode cX4_digest 25 = .ok (.iinc 3 1, 3) := by decide +kernel
theorem dX4_digest_28 : decode cX4_digest 28 = .ok (.goto (-22), 3) := by decide +kernel
theorem dX4_digest_31 : decode cX4_digest 31 = .ok (.iconst 0, 1) := by decide +kernel
theorem dX4_digest_32 : decode cX4_digest 32 = .ok (.istore_n 3, 1) := by decide +kernel
theorem dX4_digest_33 : decode cX4_digest 33 = .ok (.iload_n 3, 1) := by decide +kernel
theorem dX4_digest_34 : decode cX4_digest 34 = .ok (.aload_n 0, 1) := by decide +kernel
theorem dX4_digest_35 : decode cX4_digest 35 = .ok (.getfield 15, 3) := by decide +kernel
theorem dX4_digest_38 : decode cX4_digest 38 = .ok (.if_icmp .ge 55, 3) := by decide +kernel
theorem dX4_digest_41 : decode cX4_digest 41 = .ok (.iconst 0, 1) := by decide +kernel
theorem dX4_digest_42 : decode cX4_digest 42 = .ok (.istore 4, 2) := by decide +kernel
theorem dX4_digest_44 : decode cX4_digest 44 = .ok (.iload 4, 2) := by decide +kernel
theorem dX4_digest_46 : decode cX4_digest 46 = .ok (.bipush 10, 2) := by decide +kernel
theorem dX4_digest_48 : decode cX4_digest 48 = .ok (.if_icmp .gt 24, 3) := by decide +kernel
theorem dX4_digest_51 : decode cX4_digest 51 = .ok (.lload_n 1, 1) := by decide +kernel
theorem dX4_digest_52 : decode cX4_digest 52 = .ok (.ldc2_w 292, 3) := by decide +kernel
theorem dX4_digest_55 : decode cX4_digest 55 = .ok (.lmul, 1) := by decide +kernel
theorem dX4_digest_56 : decode cX4_digest 56 = .ok (.aload_n 0, 1) := by decide +kernel
theorem dX4_digest_57 : decode cX4_digest 57 = .ok (.iload_n 3, 1) := by decide +kernel
theorem dX4_digest_58 : decode cX4_digest 58 = .ok (.iload 4, 2) := by decide +kernel
theorem dX4_digest_60 : decode cX4_digest 60 = .ok (.invokevirtual 297, 3) := by decide +kernel
theorem dX4_digest_63 : decode cX4_digest 63 = .ok (.i2l, 1) := by decide +kernel
theorem dX4_digest_64 : decode cX4_digest 64 = .ok (.ladd, 1) := by decide +kernel
theorem dX4_digest_65 : decode cX4_digest 65 = .ok (.lstore_n 1, 1) := by decide +kernel
theorem dX4_digest_66 : decode cX4_digest 66 = .ok (.iinc 4 1, 3) := by decide +kernel
theorem dX4_digest_69 : decode cX4_digest 69 = .ok (.goto (-25), 3) := by decide +kernel
theorem dX4_digest_72 : decode cX4_digest 72 = .ok (.lload_n 1, 1) := by decide +kernel
theorem dX4_digest_73 : decode cX4_digest 73 = .ok (.ldc2_w 292, 3) := by decide +kernel
theorem dX4_digest_76 : decode cX4_digest 76 = .ok (.lmul, 1) := by decide +kernel
theorem dX4_digest_77 : decode cX4_digest 77 = .ok (.aload_n 0, 1) := by decide +kernel
theorem dX4_digest_78 : decode cX4_digest 78 = .ok (.iload_n 3, 1) := by decide +kernel
theorem dX4_digest_79 : decode cX4_digest 79 = .ok (.iconst 3, 1) := by decide +kernel
theorem dX4_digest_80 : decode cX4_digest 80 = .ok (.iconst 2, 1) := by decide +kernel
theorem dX4_digest_81 : decode cX4_digest 81 = .ok (.invokevirtual 300, 3) := by decide +kernel
theorem dX4_digest_84 : decode cX4_digest 84 = .ok (.i2l, 1) := by decide +kernel
theorem dX4_digest_85 : decode cX4_digest 85 = .ok (.ladd, 1) := by decide +kernel
theorem dX4_digest_86 : decode cX4_digest 86 = .ok (.lstore_n 1, 1) := by decide +kernel
theorem dX4_digest_87 : decode cX4_digest 87 = .ok (.iinc 3 1, 3) := by decide +kernel
theorem dX4_digest_90 : decode cX4_digest 90 = .ok (.goto (-57), 3) := by decide +kernel
theorem dX4_digest_93 : decode cX4_digest 93 = .ok (.iconst 0, 1) := by decide +kernel
theorem dX4_digest_94 : decode cX4_digest 94 = .ok (.istore_n 3, 1) := by decide +kernel
theorem dX4_digest_95 : decode cX4_digest 95 = .ok (.iload_n 3, 1) := by decide +kernel
theorem dX4_digest_96 : decode cX4_digest 96 = .ok (.aload_n 0, 1) := by decide +kernel
theorem dX4_digest_97 : decode cX4_digest 97 = .ok (.getfield 28, 3) := by decide +kernel
theorem dX4_digest_100 : decode cX4_digest 100 = .ok (.if_icmp .ge 16, 3) := by decide +kernel
theorem dX4_digest_103 : decode cX4_digest 103 = .ok (.aload_n 0, 1) := by decide +kernel
theorem dX4_digest_104 : decode cX4_digest 104 = .ok (.lload_n 1, 1) := by decide +kernel
theorem dX4_digest_105 : decode cX4_digest 105 = .ok (.iload_n 3, 1) := by decide +kernel
theorem dX4_digest_106 : decode cX4_digest 106 = .ok (.invokevirtual 304, 3) := by decide +kernel
theorem dX4_digest_109 : decode cX4_digest 109 = .ok (.lstore_n 1, 1) := by decide +kernel
theorem dX4_digest_110 : decode cX4_digest 110 = .ok (.iinc 3 1, 3) := by decide +kernel
theorem dX4_digest_113 : decode cX4_digest 113 = .ok (.goto (-18), 3) := by decide +kernel
theorem dX4_digest_116 : decode cX4_digest 116 = .ok (.iconst 0, 1) := by decide +kernel
theorem dX4_digest_117 : decode cX4_digest 117 = .ok (.istore_n 3, 1) := by decide +kernel
theorem dX4_digest_118 : decode cX4_digest 118 = .ok (.iload_n 3, 1) := by decide +kernel
theorem dX4_digest_119 : decode cX4_digest 119 = .ok (.iconst 3, 1) := by decide +kernel
theorem dX4_digest_120 : decode cX4_digest 120 = .ok (.if_icmp .ge 37, 3) := by decide +kernel
theorem dX4_digest_123 : decode cX4_digest 123 = .ok (.lload_n 1, 1) := by decide +kernel
theorem dX4_digest_124 : decode cX4_digest 124 = .ok (.ldc2_w 292, 3) := by decide +kernel
theorem dX4_digest_127 : decode cX4_digest 127 = .ok (.lmul, 1) := by decide +kernel
theorem dX4_digest_128 : decode cX4_digest 128 = .ok (.aload_n 0, 1) := by decide +kernel
theorem dX4_digest_129 : decode cX4_digest 129 = .ok (.iload_n 3, 1) := by decide +kernel
theorem dX4_digest_130 : decode cX4_digest 130 = .ok (.iconst 0, 1) := by decide +kernel
theorem dX4_digest_131 : decode cX4_digest 131 = .ok (.invokevirtual 308, 3) := by decide +kernel
theorem dX4_digest_134 : decode cX4_digest 134 = .ok (.i2l, 1) := by decide +kernel
theorem dX4_digest_135 : decode cX4_digest 135 = .ok (.ladd, 1) := by decide +kernel
theorem dX4_digest_136 : decode cX4_digest 136 = .ok (.lstore_n 1, 1) := by decide +kernel
theorem dX4_digest_137 : decode cX4_digest 137 = .ok (.lload_n 1, 1) := by decide +kernel
theorem dX4_digest_138 : decode cX4_digest 138 = .ok (.ldc2_w 292, 3) := by decide +kernel
theorem dX4_digest_141 : decode cX4_digest 141 = .ok (.lmul, 1) := by decide +kernel
theorem dX4_digest_142 : decode cX4_digest 142 = .ok (.aload_n 0, 1) := by decide +kernel
theorem dX4_digest_143 : decode cX4_digest 143 = .ok (.iload_n 3, 1) := by decide +kernel
theorem dX4_digest_144 : decode cX4_digest 144 = .ok (.iconst 1, 1) := by decide +kernel
theorem dX4_digest_145 : decode cX4_digest 145 = .ok (.invokevirtual 308, 3) := by decide +kernel
theorem dX4_digest_148 : decode cX4_digest 148 = .ok (.i2l, 1) := by decide +kernel
theorem dX4_digest_149 : decode cX4_digest 149 = .ok (.ladd, 1) := by decide +kernel
theorem dX4_digest_150 : decode cX4_digest 150 = .ok (.lstore_n 1, 1) := by decide +kernel
theorem dX4_digest_151 : decode cX4_digest 151 = .ok (.iinc 3 1, 3) := by decide +kernel
theorem dX4_digest_154 : decode cX4_digest 154 = .ok (.goto (-36), 3) := by decide +kernel
theorem dX4_digest_157 : decode cX4_digest 157 = .ok (.lload_n 1, 1) := by decide +kernel
theorem dX4_digest_158 : decode cX4_digest 158 = .ok (.ldc2_w 292, 3) := by decide +kernel
theorem dX4_digest_161 : decode cX4_digest 161 = .ok (.lmul, 1) := by decide +kernel
theorem dX4_digest_162 : decode cX4_digest 162 = .ok (.aload_n 0, 1) := by decide +kernel
theorem dX4_digest_163 : decode cX4_digest 163 = .ok (.iconst 3, 1) := by decide +kernel
theorem dX4_digest_164 : decode cX4_digest 164 = .ok (.iconst 3, 1) := by decide +kernel
theorem dX4_digest_165 : decode cX4_digest 165 = .ok (.iconst 3, 1) := by decide +kernel
theorem dX4_digest_166 : decode cX4_digest 166 = .ok (.invokevirtual 311, 3) := by decide +kernel
theorem dX4_digest_169 : decode cX4_digest 169 = .ok (.i2l, 1) := by decide +kernel
theorem dX4_digest_170 : decode cX4_digest 170 = .ok (.ladd, 1) := by decide +kernel
theorem dX4_digest_171 : decode cX4_digest 171 = .ok (.lreturn, 1) := by decide +kernel
theorem dX4_digestLot_0 : decode cX4_digestLot 0 = .ok (.lload_n 1, 1) := by decide +kernel
theorem dX4_digestLot_1 : decode cX4_digestLot 1 = .ok (.lstore 4, 2) := by decide +kernel
theorem dX4_digestLot_3 : decode cX4_digestLot 3 = .ok (.iconst 0, 1) := by decide +kernel
theorem dX4_digestLot_4 : decode cX4_digestLot 4 = .ok (.istore 6, 2) := by decide +kernel
theorem dX4_digestLot_6 : decode cX4_digestLot 6 = .ok (.iload 6, 2) := by decide +kernel
theorem dX4_digestLot_8 : decode cX4_digestLot 8 = .ok (.bipush 17, 2) := by decide +kernel
theorem dX4_digestLot_10 : decode cX4_digestLot 10 = .ok (.if_icmp .gt 26, 3) := by decide +kernel
theorem dX4_digestLot_13 : decode cX4_digestLot 13 = .ok (.lload 4, 2) := by decide +kernel
theorem dX4_digestLot_15 : decode cX4_digestLot 15 = .ok (.ldc2_w 292, 3) := by decide +kernel
theorem dX4_digestLot_18 : decode cX4_digestLot 18 = .ok (.lmul, 1) := by decide +kernel
theorem dX4_digestLot_19 : decode cX4_digestLot 19 = .ok (.aload_n 0, 1) := by decide +kernel
theorem dX4_digestLot_20 : decode cX4_digestLot 20 = .ok (.iload_n 3, 1) := by decide +kernel
theorem dX4_digestLot_21 : decode cX4_digestLot 21 = .ok (.iload 6, 2) := by decide +kernel
theorem dX4_digestLot_23 : decode cX4_digestLot 23 = .ok (.invokevirtual 314, 3) := by decide +kernel
theorem dX4_digestLot_26 : decode cX4_digestLot 26 = .ok (.i2l, 1) := by decide +kernel
theorem dX4_digestLot_27 : decode cX4_digestLot 27 = .ok (.ladd, 1) := by decide +kernel
theorem dX4_digestLot_28 : decode cX4_digestLot 28 = .ok (.lstore 4, 2) := by decide +kernel
theorem dX4_digestLot_30 : decode cX4_digestLot 30 = .ok (.iinc 6 1, 3) := by decide +kernel
theorem dX4_digestLot_33 : decode cX4_digestLot 33 = .ok (.goto (-27), 3) := by decide +kernel
theorem dX4_digestLot_36 : decode cX4_digestLot 36 = .ok (.aload_n 0, 1) := by decide +kernel
theorem dX4_digestLot_37 : decode cX4_digestLot 37 = .ok (.iload_n 3, 1) := by decide +kernel
theorem dX4_digestLot_38 : decode cX4_digestLot 38 = .ok (.invokevirtual 126, 3) := by decide +kernel
theorem dX4_digestLot_41 : decode cX4_digestLot 41 = .ok (.astore 6, 2) := by decide +kernel
theorem dX4_digestLot_43 : decode cX4_digestLot 43 = .ok (.iconst 0, 1) := by decide +kernel
theorem dX4_digestLot_44 : decode cX4_digestLot 44 = .ok (.istore 7, 2) := by decide +kernel
theorem dX4_digestLot_46 : decode cX4_digestLot 46 = .ok (.aload 6, 2) := by decide +kernel
theorem dX4_digestLot_48 : decode cX4_digestLot 48 = .ok (.getfield 107, 3) := by decide +kernel
theorem dX4_digestLot_51 : decode cX4_digestLot 51 = .ok (.iconst 2, 1) := by decide +kernel
theorem dX4_digestLot_52 : decode cX4_digestLot 52 = .ok (.if_icmp .ne 32, 3) := by decide +kernel
theorem dX4_digestLot_55 : decode cX4_digestLot 55 = .ok (.iload 7, 2) := by decide +kernel
theorem dX4_digestLot_57 : decode cX4_digestLot 57 = .ok (.iconst 3, 1) := by decide +kernel
theorem dX4_digestLot_58 : decode cX4_digestLot 58 = .ok (.if_icmp .ge 26, 3) := by decide +kernel
theorem dX4_digestLot_61 : decode cX4_digestLot 61 = .ok (.lload 4, 2) := by decide +kernel
theorem dX4_digestLot_63 : decode cX4_digestLot 63 = .ok (.ldc2_w 292, 3) := by decide +kernel
theorem dX4_digestLot_66 : decode cX4_digestLot 66 = .ok (.lmul, 1) := by decide +kernel
theorem dX4_digestLot_67 : decode cX4_digestLot 67 = .ok (.aload_n 0, 1) := by decide +kernel
theorem dX4_digestLot_68 : decode cX4_digestLot 68 = .ok (.iload_n 3, 1) := by decide +kernel
theorem dX4_digestLot_69 : decode cX4_digestLot 69 = .ok (.iload 7, 2) := by decide +kernel
theorem dX4_digestLot_71 : decode cX4_digestLot 71 = .ok (.invokevirtual 255, 3) := by decide +kernel
theorem dX4_digestLot_74 : decode cX4_digestLot 74 = .ok (.i2l, 1) := by decide +kernel
theorem dX4_digestLot_75 : decode cX4_digestLot 75 = .ok (.ladd, 1) := by decide +kernel
theorem dX4_digestLot_76 : decode cX4_digestLot 76 = .ok (.lstore 4, 2) := by decide +kernel
theorem dX4_digestLot_78 : decode cX4_digestLot 78 = .ok (.iinc 7 1, 3) := by decide +kernel
theorem dX4_digestLot_81 : decode cX4_digestLot 81 = .ok (.goto (-35), 3) := by decide +kernel
theorem dX4_digestLot_84 : decode cX4_digestLot 84 = .ok (.iconst 0, 1) := by decide +kernel
theorem dX4_digestLot_85 : decode cX4_digestLot 85 = .ok (.istore 7, 2) := by decide +kernel
theorem dX4_digestLot_87 : decode cX4_digestLot 87 = .ok (.aload 6, 2) := by decide +kernel
theorem dX4_digestLot_89 : decode cX4_digestLot 89 = .ok (.getfield 107, 3) := by decide +kernel
theorem dX4_digestLot_92 : decode cX4_digestLot 92 = .ok (.iconst 2, 1) := by decide +kernel
theorem dX4_digestLot_93 : decode cX4_digestLot 93 = .ok (.if_icmp .ne 32, 3) := by decide +kernel
theorem dX4_digestLot_96 : decode cX4_digestLot 96 = .ok (.iload 7, 2) := by decide +kernel
theorem dX4_digestLot_98 : decode cX4_digestLot 98 = .ok (.iconst 3, 1) := by decide +kernel
theorem dX4_digestLot_99 : decode cX4_digestLot 99 = .ok (.if_icmp .ge 26, 3) := by decide +kernel
theorem dX4_digestLot_102 : decode cX4_digestLot 102 = .ok (.lload 4, 2) := by decide +kernel
theorem dX4_digestLot_104 : decode cX4_digestLot 104 = .ok (.ldc2_w 292, 3) := by decide +kernel
theorem dX4_digestLot_107 : decode cX4_digestLot 107 = .ok (.lmul, 1) := by decide +kernel
theorem dX4_digestLot_108 : decode cX4_digestLot 108 = .ok (.aload_n 0, 1) := by decide +kernel
theorem dX4_digestLot_109 : decode cX4_digestLot 109 = .ok (.iload_n 3, 1) := by decide +kernel
theorem dX4_digestLot_110 : decode cX4_digestLot 110 = .ok (.iload 7, 2) := by decide +kernel
theorem dX4_digestLot_112 : decode cX4_digestLot 112 = .ok (.invokevirtual 317, 3) := by decide +kernel
theorem dX4_digestLot_115 : decode cX4_digestLot 115 = .ok (.i2l, 1) := by decide +kernel
theorem dX4_digestLot_116 : decode cX4_digestLot 116 = .ok (.ladd, 1) := by decide +kernel
theorem dX4_digestLot_117 : decode cX4_digestLot 117 = .ok (.lstore 4, 2) := by decide +kernel
theorem dX4_digestLot_119 : decode cX4_digestLot 119 = .ok (.iinc 7 1, 3) := by decide +kernel
theorem dX4_digestLot_122 : decode cX4_digestLot 122 = .ok (.goto (-35), 3) := by decide +kernel
theorem dX4_digestLot_125 : decode cX4_digestLot 125 = .ok (.aload 6, 2) := by decide +kernel
theorem dX4_digestLot_127 : decode cX4_digestLot 127 = .ok (.getfield 107, 3) := by decide +kernel
theorem dX4_digestLot_130 : decode cX4_digestLot 130 = .ok (.iconst 1, 1) := by decide +kernel
theorem dX4_digestLot_131 : decode cX4_digestLot 131 = .ok (.if_icmp .ne 18, 3) := by decide +kernel
theorem dX4_digestLot_134 : decode cX4_digestLot 134 = .ok (.lload 4, 2) := by decide +kernel
theorem dX4_digestLot_136 : decode cX4_digestLot 136 = .ok (.ldc2_w 292, 3) := by decide +kernel
theorem dX4_digestLot_139 : decode cX4_digestLot 139 = .ok (.lmul, 1) := by decide +kernel
theorem dX4_digestLot_140 : decode cX4_digestLot 140 = .ok (.aload_n 0, 1) := by decide +kernel
theorem dX4_digestLot_141 : decode cX4_digestLot 141 = .ok (.iload_n 3, 1) := by decide +kernel
theorem dX4_digestLot_142 : decode cX4_digestLot 142 = .ok (.invokevirtual 320, 3) := by decide +kernel
theorem dX4_digestLot_145 : decode cX4_digestLot 145 = .ok (.i2l, 1) := by decide +kernel
theorem dX4_digestLot_146 : decode cX4_digestLot 146 = .ok (.ladd, 1) := by decide +kernel
theorem dX4_digestLot_147 : decode cX4_digestLot 147 = .ok (.lstore 4, 2) := by decide +kernel
theorem dX4_digestLot_149 : decode cX4_digestLot 149 = .ok (.aload 6, 2) := by decide +kernel
theorem dX4_digestLot_151 : decode cX4_digestLot 151 = .ok (.getfield 211, 3) := by decide +kernel
theorem dX4_digestLot_154 : decode cX4_digestLot 154 = .ok (.invokevirtual 220, 3) := by decide +kernel
theorem dX4_digestLot_157 : decode cX4_digestLot 157 = .ok (.ifCond .eq 50, 3) := by decide +kernel
theorem dX4_digestLot_160 : decode cX4_digestLot 160 = .ok (.lload 4, 2) := by decide +kernel
theorem dX4_digestLot_162 : decode cX4_digestLot 162 = .ok (.ldc2_w 292, 3) := by decide +kernel
theorem dX4_digestLot_165 : decode cX4_digestLot 165 = .ok (.lmul, 1) := by decide +kernel
theorem dX4_digestLot_166 : decode cX4_digestLot 166 = .ok (.aload_n 0, 1) := by decide +kernel
theorem dX4_digestLot_167 : decode cX4_digestLot 167 = .ok (.iload_n 3, 1) := by decide +kernel
theorem dX4_digestLot_168 : decode cX4_digestLot 168 = .ok (.invokevirtual 323, 3) := by decide +kernel
theorem dX4_digestLot_171 : decode cX4_digestLot 171 = .ok (.i2l, 1) := by decide +kernel
theorem dX4_digestLot_172 : decode cX4_digestLot 172 = .ok (.ladd, 1) := by decide +kernel
theorem dX4_digestLot_173 : decode cX4_digestLot 173 = .ok (.lstore 4, 2) := by decide +kernel
theorem dX4_digestLot_175 : decode cX4_digestLot 175 = .ok (.iconst 0, 1) := by decide +kernel
theorem dX4_digestLot_176 : decode cX4_digestLot 176 = .ok (.istore 7, 2) := by decide +kernel
theorem dX4_digestLot_178 : decode cX4_digestLot 178 = .ok (.iload 7, 2) := by decide +kernel
theorem dX4_digestLot_180 : decode cX4_digestLot 180 = .ok (.iconst 4, 1) := by decide +kernel
theorem dX4_digestLot_181 : decode cX4_digestLot 181 = .ok (.if_icmp .ge 26, 3) := by decide +kernel
theorem dX4_digestLot_184 : decode cX4_digestLot 184 = .ok (.lload 4, 2) := by decide +kernel
theorem dX4_digestLot_186 : decode cX4_digestLot 186 = .ok (.ldc2_w 292, 3) := by decide +kernel
theorem dX4_digestLot_189 : decode cX4_digestLot 189 = .ok (.lmul, 1) := by decide +kernel
theorem dX4_digestLot_190 : decode cX4_digestLot 190 = .ok (.aload_n 0, 1) := by decide +kernel
theorem dX4_digestLot_191 : decode cX4_digestLot 191 = .ok (.iload 7, 2) := by decide +kernel
theorem dX4_digestLot_193 : decode cX4_digestLot 193 = .ok (.iload_n 3, 1) := by decide +kernel
theorem dX4_digestLot_194 : decode cX4_digestLot 194 = .ok (.invokevirtual 326, 3) := by decide +kernel
theorem dX4_digestLot_197 : decode cX4_digestLot 197 = .ok (.i2l, 1) := by decide +kernel
theorem dX4_digestLot_198 : decode cX4_digestLot 198 = .ok (.ladd, 1) := by decide +kernel
theorem dX4_digestLot_199 : decode cX4_digestLot 199 = .ok (.lstore 4, 2) := by decide +kernel
theorem dX4_digestLot_201 : decode cX4_digestLot 201 = .ok (.iinc 7 1, 3) := by decide +kernel
theorem dX4_digestLot_204 : decode cX4_digestLot 204 = .ok (.goto (-26), 3) := by decide +kernel
theorem dX4_digestLot_207 : decode cX4_digestLot 207 = .ok (.lload 4, 2) := by decide +kernel
theorem dX4_digestLot_209 : decode cX4_digestLot 209 = .ok (.lreturn, 1) := by decide +kernel
theorem dX4_requireArgument_0 : decode cX4_requireArgument 0 = .ok (.iload_n 0, 1) := by decide +kernel
theorem dX4_requireArgument_1 : decode cX4_requireArgument 1 = .ok (.iload_n 1, 1) := by decide +kernel
theorem dX4_requireArgument_2 : decode cX4_requireArgument 2 = .ok (.if_icmp .lt 8, 3) := by decide +kernel
theorem dX4_requireArgument_5 : decode cX4_requireArgument 5 = .ok (.iload_n 0, 1) := by decide +kernel
theorem dX4_requireArgument_6 : decode cX4_requireArgument 6 = .ok (.iload_n 2, 1) := by decide +kernel
theorem dX4_requireArgument_7 : decode cX4_requireArgument 7 = .ok (.if_icmp .le 11, 3) := by decide +kernel
theorem dX4_requireArgument_10 : decode cX4_requireArgument 10 = .ok (.new 329, 3) := by decide +kernel
theorem dX4_requireArgument_13 : decode cX4_requireArgument 13 = .ok (.dup, 1) := by decide +kernel
theorem dX4_requireArgument_14 : decode cX4_requireArgument 14 = .ok (.invokespecial 331, 3) := by decide +kernel
theorem dX4_requireArgument_17 : decode cX4_requireArgument 17 = .ok (.athrow, 1) := by decide +kernel
theorem dX4_requireArgument_18 : decode cX4_requireArgument 18 = .ok (.return_, 1) := by decide +kernel
theorem dX4_requireDifferent_0 : decode cX4_requireDifferent 0 = .ok (.iload_n 0, 1) := by decide +kernel
theorem dX4_requireDifferent_1 : decode cX4_requireDifferent 1 = .ok (.iload_n 1, 1) := by decide +kernel
theorem dX4_requireDifferent_2 : decode cX4_requireDifferent 2 = .ok (.if_icmp .ne 11, 3) := by decide +kernel
theorem dX4_requireDifferent_5 : decode cX4_requireDifferent 5 = .ok (.new 329, 3) := by decide +kernel
theorem dX4_requireDifferent_8 : decode cX4_requireDifferent 8 = .ok (.dup, 1) := by decide +kernel
theorem dX4_requireDifferent_9 : decode cX4_requireDifferent 9 = .ok (.invokespecial 331, 3) := by decide +kernel
theorem dX4_requireDifferent_12 : decode cX4_requireDifferent 12 = .ok (.athrow, 1) := by decide +kernel
theorem dX4_requireDifferent_13 : decode cX4_requireDifferent 13 = .ok (.return_, 1) := by decide +kernel
theorem dX4_requireIndex_0 : decode cX4_requireIndex 0 = .ok (.iload_n 0, 1) := by decide +kernel
theorem dX4_requireIndex_1 : decode cX4_requireIndex 1 = .ok (.ifCond .lt 8, 3) := by decide +kernel
theorem dX4_requireIndex_4 : decode cX4_requireIndex 4 = .ok (.iload_n 0, 1) := by decide +kernel
theorem dX4_requireIndex_5 : decode cX4_requireIndex 5 = .ok (.iload_n 1, 1) := by decide +kernel
theorem dX4_requireIndex_6 : decode cX4_requireIndex 6 = .ok (.if_icmp .lt 11, 3) := by decide +kernel
theorem dX4_requireIndex_9 : decode cX4_requireIndex 9 = .ok (.new 332, 3) := by decide +kernel
theorem dX4_requireIndex_12 : decode cX4_requireIndex 12 = .ok (.dup, 1) := by decide +kernel
theorem dX4_requireIndex_13 : decode cX4_requireIndex 13 = .ok (.invokespecial 334, 3) := by decide +kernel
theorem dX4_requireIndex_16 : decode cX4_requireIndex 16 = .ok (.athrow, 1) := by decide +kernel
theorem dX4_requireIndex_17 : decode cX4_requireIndex 17 = .ok (.return_, 1) := by decide +kernel
theorem dX4_requireState_0 : decode cX4_requireState 0 = .ok (.iload_n 0, 1) := by decide +kernel
theorem dX4_requireState_1 : decode cX4_requireState 1 = .ok (.ifCond .ne 11, 3) := by decide +kernel
theorem dX4_requireState_4 : decode cX4_requireState 4 = .ok (.new 335, 3) := by decide +kernel
theorem dX4_requireState_7 : decode cX4_requireState 7 = .ok (.dup, 1) := by decide +kernel
theorem dX4_requireState_8 : decode cX4_requireState 8 = .ok (.invokespecial 337, 3) := by decide +kernel
theorem dX4_requireState_11 : decode cX4_requireState 11 = .ok (.athrow, 1) := by decide +kernel
theorem dX4_requireState_12 : decode cX4_requireState 12 = .ok (.return_, 1) := by decide +kernel
theorem dX4_heldNote_0 : decode cX4_heldNote 0 = .ok (.iconst 0, 1) := by decide +kernel
theorem dX4_heldNote_1 : decode cX4_heldNote 1 = .ok (.bipush 9, 2) := by decide +kernel
theorem dX4_heldNote_3 : decode cX4_heldNote 3 = .ok (.iload_n 0, 1) := by decide +kernel
theorem dX4_heldNote_4 : decode cX4_heldNote 4 = .ok (.invokestatic 95, 3) := by decide +kernel
theorem dX4_heldNote_7 : decode cX4_heldNote 7 = .ok (.invokestatic 143, 3) := by decide +kernel
theorem dX4_heldNote_10 : decode cX4_heldNote 10 = .ok (.ireturn, 1) := by decide +kernel
theorem dX4_sectionAt_0 : decode cX4_sectionAt 0 = .ok (.iload_n 1, 1) := by decide +kernel
theorem dX4_sectionAt_1 : decode cX4_sectionAt 1 = .ok (.aload_n 0, 1) := by decide +kernel
theorem dX4_sectionAt_2 : decode cX4_sectionAt 2 = .ok (.getfield 15, 3) := by decide +kernel
theorem dX4_sectionAt_5 : decode cX4_sectionAt 5 = .ok (.invokestatic 208, 3) := by decide +kernel
theorem dX4_sectionAt_8 : decode cX4_sectionAt 8 = .ok (.aload_n 0, 1) := by decide +kernel
theorem dX4_sectionAt_9 : decode cX4_sectionAt 9 = .ok (.getfield 11, 3) := by decide +kernel
theorem dX4_sectionAt_12 : decode cX4_sectionAt 12 = .ok (.iload_n 1, 1) := by decide +kernel
theorem dX4_sectionAt_13 : decode cX4_sectionAt 13 = .ok (.aaload, 1) := by decide +kernel
theorem dX4_sectionAt_14 : decode cX4_sectionAt 14 = .ok (.areturn, 1) := by decide +kernel
theorem dX4_lotAt_0 : decode cX4_lotAt 0 = .ok (.iload_n 1, 1) := by decide +kernel
theorem dX4_lotAt_1 : decode cX4_lotAt 1 = .ok (.aload_n 0, 1) := by decide +kernel
theorem dX4_lotAt_2 : decode cX4_lotAt 2 = .ok (.getfield 28, 3) := by decide +kernel
theorem dX4_lotAt_5 : decode cX4_lotAt 5 = .ok (.invokestatic 208, 3) := by decide +kernel
theorem dX4_lotAt_8 : decode cX4_lotAt 8 = .ok (.aload_n 0, 1) := by decide +kernel
theorem dX4_lotAt_9 : decode cX4_lotAt 9 = .ok (.getfield 24, 3) := by decide +kernel
theorem dX4_lotAt_12 : decode cX4_lotAt 12 = .ok (.iload_n 1, 1) := by decide +kernel
theorem dX4_lotAt_13 : decode cX4_lotAt 13 = .ok (.aaload, 1) := by decide +kernel
theorem dX4_lotAt_14 : decode cX4_lotAt 14 = .ok (.areturn, 1) := by decide +kernel
theorem dX4_madeLotAt_0 : decode cX4_madeLotAt 0 = .ok (.aload_n 0, 1) := by decide +kernel
theorem dX4_madeLotAt_1 : decode cX4_madeLotAt 1 = .ok (.iload_n 1, 1) := by decide +kernel
theorem dX4_madeLotAt_2 : decode cX4_madeLotAt 2 = .ok (.invokevirtual 126, 3) := by decide +kernel
theorem dX4_madeLotAt_5 : decode cX4_madeLotAt 5 = .ok (.astore_n 2, 1) := by decide +kernel
theorem dX4_madeLotAt_6 : decode cX4_madeLotAt 6 = .ok (.aload_n 2, 1) := by decide +kernel
theorem dX4_madeLotAt_7 : decode cX4_madeLotAt 7 = .ok (.getfield 107, 3) := by decide +kernel
theorem dX4_madeLotAt_10 : decode cX4_madeLotAt 10 = .ok (.iconst 2, 1) := by decide +kernel
theorem dX4_madeLotAt_11 : decode cX4_madeLotAt 11 = .ok (.if_icmp .ne 7, 3) := by decide +kernel
theorem dX4_madeLotAt_14 : decode cX4_madeLotAt 14 = .ok (.iconst 1, 1) := by decide +kernel
theorem dX4_madeLotAt_15 : decode cX4_madeLotAt 15 = .ok (.goto 4, 3) := by decide +kernel
theorem dX4_madeLotAt_18 : decode cX4_madeLotAt 18 = .ok (.iconst 0, 1) := by decide +kernel
theorem dX4_madeLotAt_19 : decode cX4_madeLotAt 19 = .ok (.invokestatic 64, 3) := by decide +kernel
theorem dX4_madeLotAt_22 : decode cX4_madeLotAt 22 = .ok (.aload_n 2, 1) := by decide +kernel
theorem dX4_madeLotAt_23 : decode cX4_madeLotAt 23 = .ok (.areturn, 1) := by decide +kernel
theorem dX4_tasterAt_0 : decode cX4_tasterAt 0 = .ok (.iload_n 1, 1) := by decide +kernel
theorem dX4_tasterAt_1 : decode cX4_tasterAt 1 = .ok (.iconst 3, 1) := by decide +kernel
theorem dX4_tasterAt_2 : decode cX4_tasterAt 2 = .ok (.invokestatic 208, 3) := by decide +kernel
theorem dX4_tasterAt_5 : decode cX4_tasterAt 5 = .ok (.aload_n 0, 1) := by decide +kernel
theorem dX4_tasterAt_6 : decode cX4_tasterAt 6 = .ok (.getfield 38, 3) := by decide +kernel
theorem dX4_tasterAt_9 : decode cX4_tasterAt 9 = .ok (.iload_n 1, 1) := by decide +kernel
theorem dX4_tasterAt_10 : decode cX4_tasterAt 10 = .ok (.aaload, 1) := by decide +kernel
theorem dX4_tasterAt_11 : decode cX4_tasterAt 11 = .ok (.areturn, 1) := by decide +kernel
theorem dX4_newLot_0 : decode cX4_newLot 0 = .ok (.aload_n 0, 1) := by decide +kernel
theorem dX4_newLot_1 : decode cX4_newLot 1 = .ok (.getfield 28, 3) := by decide +kernel
theorem dX4_newLot_4 : decode cX4_newLot 4 = .ok (.bipush 16, 2) := by decide +kernel
theorem dX4_newLot_6 : decode cX4_newLot 6 = .ok (.if_icmp .ge 7, 3) := by decide +kernel
theorem dX4_newLot_9 : decode cX4_newLot 9 = .ok (.iconst 1, 1) := by decide +kernel
theorem dX4_newLot_10 : decode cX4_newLot 10 = .ok (.goto 4, 3) := by decide +kernel
theorem dX4_newLot_13 : decode cX4_newLot 13 = .ok (.iconst 0, 1) := by decide +kernel
theorem dX4_newLot_14 : decode cX4_newLot 14 = .ok (.invokestatic 64, 3) := by decide +kernel
theorem dX4_newLot_17 : decode cX4_newLot 17 = .ok (.aload_n 0, 1) := by decide +kernel
theorem dX4_newLot_18 : decode cX4_newLot 18 = .ok (.getfield 24, 3) := by decide +kernel
theorem dX4_newLot_21 : decode cX4_newLot 21 = .ok (.aload_n 0, 1) := by decide +kernel
theorem dX4_newLot_22 : decode cX4_newLot 22 = .ok (.getfield 28, 3) := by decide +kernel
theorem dX4_newLot_25 : decode cX4_newLot 25 = .ok (.aaload, 1) := by decide +kernel
theorem dX4_newLot_26 : decode cX4_newLot 26 = .ok (.astore_n 1, 1) := by decide +kernel
theorem dX4_newLot_27 : decode cX4_newLot 27 = .ok (.aload_n 0, 1) := by decide +kernel
theorem dX4_newLot_28 : decode cX4_newLot 28 = .ok (.dup, 1) := by decide +kernel
theorem dX4_newLot_29 : decode cX4_newLot 29 = .ok (.getfield 28, 3) := by decide +kernel
theorem dX4_newLot_32 : decode cX4_newLot 32 = .ok (.iconst 1, 1) := by decide +kernel
theorem dX4_newLot_33 : decode cX4_newLot 33 = .ok (.iadd, 1) := by decide +kernel
theorem dX4_newLot_34 : decode cX4_newLot 34 = .ok (.putfield 28, 3) := by decide +kernel
theorem dX4_newLot_37 : decode cX4_newLot 37 = .ok (.aload_n 1, 1) := by decide +kernel
theorem dX4_newLot_38 : decode cX4_newLot 38 = .ok (.areturn, 1) := by decide +kernel
theorem dX4_countLots_0 : decode cX4_countLots 0 = .ok (.iconst 0, 1) := by decide +kernel
theorem dX4_countLots_1 : decode cX4_countLots 1 = .ok (.istore_n 2, 1) := by decide +kernel
theorem dX4_countLots_2 : decode cX4_countLots 2 = .ok (.iconst 0, 1) := by decide +kernel
theorem dX4_countLots_3 : decode cX4_countLots 3 = .ok (.istore_n 3, 1) := by decide +kernel
theorem dX4_countLots_4 : decode cX4_countLots 4 = .ok (.iload_n 3, 1) := by decide +kernel
theorem dX4_countLots_5 : decode cX4_countLots 5 = .ok (.aload_n 0, 1) := by decide +kernel
theorem dX4_countLots_6 : decode cX4_countLots 6 = .ok (.getfield 28, 3) := by decide +kernel
theorem dX4_countLots_9 : decode cX4_countLots 9 = .ok (.if_icmp .ge 25, 3) := by decide +kernel
theorem dX4_countLots_12 : decode cX4_countLots 12 = .ok (.aload_n 0, 1) := by decide +kernel
theorem dX4_countLots_13 : decode cX4_countLots 13 = .ok (.getfield 24, 3) := by decide +kernel
theorem dX4_countLots_16 : decode cX4_countLots 16 = .ok (.iload_n 3, 1) := by decide +kernel
theorem dX4_countLots_17 : decode cX4_countLots 17 = .ok (.aaload, 1) := by decide +kernel
theorem dX4_countLots_18 : decode cX4_countLots 18 = .ok (.getfield 107, 3) := by decide +kernel
theorem dX4_countLots_21 : decode cX4_countLots 21 = .ok (.iload_n 1, 1) := by decide +kernel
theorem dX4_countLots_22 : decode cX4_countLots 22 = .ok (.if_icmp .ne 6, 3) := by decide +kernel
theorem dX4_countLots_25 : decode cX4_countLots 25 = .ok (.iinc 2 1, 3) := by decide +kernel
theorem dX4_countLots_28 : decode cX4_countLots 28 = .ok (.iinc 3 1, 3) := by decide +kernel
theorem dX4_countLots_31 : decode cX4_countLots 31 = .ok (.goto (-27), 3) := by decide +kernel
theorem dX4_countLots_34 : decode cX4_countLots 34 = .ok (.iload_n 2, 1) := by decide +kernel
theorem dX4_countLots_35 : decode cX4_countLots 35 = .ok (.ireturn, 1) := by decide +kernel
theorem dX4_dryOfAll_0 : decode cX4_dryOfAll 0 = .ok (.iconst 0, 1) := by decide +kernel
theorem dX4_dryOfAll_1 : decode cX4_dryOfAll 1 = .ok (.istore_n 1, 1) := by decide +kernel
theorem dX4_dryOfAll_2 : decode cX4_dryOfAll 2 = .ok (.iconst 0, 1) := by decide +kernel
theorem dX4_dryOfAll_3 : decode cX4_dryOfAll 3 = .ok (.istore_n 2, 1) := by decide +kernel
theorem dX4_dryOfAll_4 : decode cX4_dryOfAll 4 = .ok (.iload_n 2, 1) := by decide +kernel
theorem dX4_dryOfAll_5 : decode cX4_dryOfAll 5 = .ok (.aload_n 0, 1) := by decide +kernel
theorem dX4_dryOfAll_6 : decode cX4_dryOfAll 6 = .ok (.getfield 28, 3) := by decide +kernel
theorem dX4_dryOfAll_9 : decode cX4_dryOfAll 9 = .ok (.if_icmp .ge 21, 3) := by decide +kernel
theorem dX4_dryOfAll_12 : decode cX4_dryOfAll 12 = .ok (.iload_n 1, 1) := by decide +kernel
theorem dX4_dryOfAll_13 : decode cX4_dryOfAll 13 = .ok (.aload_n 0, 1) := by decide +kernel
theorem dX4_dryOfAll_14 : decode cX4_dryOfAll 14 = .ok (.getfield 24, 3) := by decide +kernel
theorem dX4_dryOfAll_17 : decode cX4_dryOfAll 17 = .ok (.iload_n 2, 1) := by decide +kernel
theorem dX4_dryOfAll_18 : decode cX4_dryOfAll 18 = .ok (.aaload, 1) := by decide +kernel
theorem dX4_dryOfAll_19 : decode cX4_dryOfAll 19 = .ok (.getfield 113, 3) := by decide +kernel
theorem dX4_dryOfAll_22 : decode cX4_dryOfAll 22 = .ok (.iadd, 1) := by decide +kernel
theorem dX4_dryOfAll_23 : decode cX4_dryOfAll 23 = .ok (.istore_n 1, 1) := by decide +kernel
theorem dX4_dryOfAll_24 : decode cX4_dryOfAll 24 = .ok (.iinc 2 1, 3) := by decide +kernel
theorem dX4_dryOfAll_27 : decode cX4_dryOfAll 27 = .ok (.goto (-23), 3) := by decide +kernel
theorem dX4_dryOfAll_30 : decode cX4_dryOfAll 30 = .ok (.iload_n 1, 1) := by decide +kernel
theorem dX4_dryOfAll_31 : decode cX4_dryOfAll 31 = .ok (.ireturn, 1) := by decide +kernel
theorem dX4_costOf_0 : decode cX4_costOf 0 = .ok (.iload_n 1, 1) := by decide +kernel
theorem dX4_costOf_1 : decode cX4_costOf 1 = .ok (.aload_n 0, 1) := by decide +kernel
theorem dX4_costOf_2 : decode cX4_costOf 2 = .ok (.getfield 113, 3) := by decide +kernel
theorem dX4_costOf_5 : decode cX4_costOf 5 = .ok (.imul, 1) := by decide +kernel
theorem dX4_costOf_6 : decode cX4_costOf 6 = .ok (.bipush 10, 2) := by decide +kernel
theorem dX4_costOf_8 : decode cX4_costOf 8 = .ok (.idiv, 1) := by decide +kernel
theorem dX4_costOf_9 : decode cX4_costOf 9 = .ok (.ireturn, 1) := by decide +kernel
theorem dX4_mayBuy_0 : decode cX4_mayBuy 0 = .ok (.aload_n 1, 1) := by decide +kernel
theorem dX4_mayBuy_1 : decode cX4_mayBuy 1 = .ok (.getfield 211, 3) := by decide +kernel
theorem dX4_mayBuy_4 : decode cX4_mayBuy 4 = .ok (.getfield 265, 3) := by decide +kernel
theorem dX4_mayBuy_7 : decode cX4_mayBuy 7 = .ok (.iload_n 2, 1) := by decide +kernel
theorem dX4_mayBuy_8 : decode cX4_mayBuy 8 = .ok (.iaload, 1) := by decide +kernel
theorem dX4_mayBuy_9 : decode cX4_mayBuy 9 = .ok (.istore_n 3, 1) := by decide +kernel
theorem dX4_mayBuy_10 : decode cX4_mayBuy 10 = .ok (.aload_n 1, 1) := by decide +kernel
theorem dX4_mayBuy_11 : decode cX4_mayBuy 11 = .ok (.getfield 211, 3) := by decide +kernel
theorem dX4_mayBuy_14 : decode cX4_mayBuy 14 = .ok (.iload_n 2, 1) := by decide +kernel
theorem dX4_mayBuy_15 : decode cX4_mayBuy 15 = .ok (.invokevirtual 261, 3) := by decide +kernel
theorem dX4_mayBuy_18 : decode cX4_mayBuy 18 = .ok (.ifCond .eq 32, 3) := by decide +kernel
theorem dX4_mayBuy_21 : decode cX4_mayBuy 21 = .ok (.iload_n 3, 1) := by decide +kernel
theorem dX4_mayBuy_22 : decode cX4_mayBuy 22 = .ok (.aload_n 1, 1) := by decide +kernel
theorem dX4_mayBuy_23 : decode cX4_mayBuy 23 = .ok (.getfield 211, 3) := by decide +kernel
theorem dX4_mayBuy_26 : decode cX4_mayBuy 26 = .ok (.getfield 215, 3) := by decide +kernel
theorem dX4_mayBuy_29 : decode cX4_mayBuy 29 = .ok (.if_icmp .lt 21, 3) := by decide +kernel
theorem dX4_mayBuy_32 : decode cX4_mayBuy 32 = .ok (.aload_n 0, 1) := by decide +kernel
theorem dX4_mayBuy_33 : decode cX4_mayBuy 33 = .ok (.getfield 42, 3) := by decide +kernel
theorem dX4_mayBuy_36 : decode cX4_mayBuy 36 = .ok (.iload_n 2, 1) := by decide +kernel
theorem dX4_mayBuy_37 : decode cX4_mayBuy 37 = .ok (.iaload, 1) := by decide +kernel
theorem dX4_mayBuy_38 : decode cX4_mayBuy 38 = .ok (.aload_n 1, 1) := by decide +kernel
theorem dX4_mayBuy_39 : decode cX4_mayBuy 39 = .ok (.iload_n 3, 1) := by decide +kernel
theorem dX4_mayBuy_40 : decode cX4_mayBuy 40 = .ok (.invokestatic 237, 3) := by decide +kernel
theorem dX4_mayBuy_43 : decode cX4_mayBuy 43 = .ok (.if_icmp .lt 7, 3) := by decide +kernel
theorem dX4_mayBuy_46 : decode cX4_mayBuy 46 = .ok (.iconst 1, 1) := by decide +kernel
theorem dX4_mayBuy_47 : decode cX4_mayBuy 47 = .ok (.goto 4, 3) := by decide +kernel
theorem dX4_mayBuy_50 : decode cX4_mayBuy 50 = .ok (.iconst 0, 1) := by decide +kernel
theorem dX4_mayBuy_51 : decode cX4_mayBuy 51 = .ok (.ireturn, 1) := by decide +kernel
theorem dX4_winnerOf_0 : decode cX4_winnerOf 0 = .ok (.iconst (-1), 1) := by decide +kernel
theorem dX4_winnerOf_1 : decode cX4_winnerOf 1 = .ok (.istore_n 2, 1) := by decide +kernel
theorem dX4_winnerOf_2 : decode cX4_winnerOf 2 = .ok (.iconst 0, 1) := by decide +kernel
theorem dX4_winnerOf_3 : decode cX4_winnerOf 3 = .ok (.istore_n 3, 1) := by decide +kernel
theorem dX4_winnerOf_4 : decode cX4_winnerOf 4 = .ok (.iload_n 3, 1) := by decide +kernel
theorem dX4_winnerOf_5 : decode cX4_winnerOf 5 = .ok (.iconst 4, 1) := by decide +kernel
theorem dX4_winnerOf_6 : decode cX4_winnerOf 6 = .ok (.if_icmp .ge 37, 3) := by decide +kernel
theorem dX4_winnerOf_9 : decode cX4_winnerOf 9 = .ok (.aload_n 0, 1) := by decide +kernel
theorem dX4_winnerOf_10 : decode cX4_winnerOf 10 = .ok (.aload_n 1, 1) := by decide +kernel
theorem dX4_winnerOf_11 : decode cX4_winnerOf 11 = .ok (.iload_n 3, 1) := by decide +kernel
theorem dX4_winnerOf_12 : decode cX4_winnerOf 12 = .ok (.invokevirtual 338, 3) := by decide +kernel
theorem dX4_winnerOf_15 : decode cX4_winnerOf 15 = .ok (.ifCond .eq 22, 3) := by decide +kernel
theorem dX4_winnerOf_18 : decode cX4_winnerOf 18 = .ok (.iload_n 2, 1) := by decide +kernel
theorem dX4_winnerOf_19 : decode cX4_winnerOf 19 = .ok (.iconst (-1), 1) := by decide +kernel
theorem dX4_winnerOf_20 : decode cX4_winnerOf 20 = .ok (.if_icmp .eq 15, 3) := by decide +kernel
theorem dX4_winnerOf_23 : decode cX4_winnerOf 23 = .ok (.aload_n 1, 1) := by decide +kernel
theorem dX4_winnerOf_24 : decode cX4_winnerOf 24 = .ok (.getfield 211, 3) := by decide +kernel
theorem dX4_winnerOf_27 : decode cX4_winnerOf 27 = .ok (.iload_n 3, 1) := by decide +kernel
theorem dX4_winnerOf_28 : decode cX4_winnerOf 28 = .ok (.iload_n 2, 1) := by decide +kernel
theorem dX4_winnerOf_29 : decode cX4_winnerOf 29 = .ok (.invokevirtual 342, 3) := by decide +kernel
theorem dX4_winnerOf_32 : decode cX4_winnerOf 32 = .ok (.ifCond .eq 5, 3) := by decide +kernel
theorem dX4_winnerOf_35 : decode cX4_winnerOf 35 = .ok (.iload_n 3, 1) := by decide +kernel
theorem dX4_winnerOf_36 : decode cX4_winnerOf 36 = .ok (.istore_n 2, 1) := by decide +kernel
theorem dX4_winnerOf_37 : decode cX4_winnerOf 37 = .ok (.iinc 3 1, 3) := by decide +kernel
theorem dX4_winnerOf_40 : decode cX4_winnerOf 40 = .ok (.goto (-36), 3) := by decide +kernel
theorem dX4_winnerOf_43 : decode cX4_winnerOf 43 = .ok (.iload_n 2, 1) := by decide +kernel
theorem dX4_winnerOf_44 : decode cX4_winnerOf 44 = .ok (.ireturn, 1) := by decide +kernel
theorem dX4_priceFor_0 : decode cX4_priceFor 0 = .ok (.iconst (-1), 1) := by decide +kernel
theorem dX4_priceFor_1 : decode cX4_priceFor 1 = .ok (.istore_n 3, 1) := by decide +kernel
theorem dX4_priceFor_2 : decode cX4_priceFor 2 = .ok (.iconst 0, 1) := by decide +kernel
theorem dX4_priceFor_3 : decode cX4_priceFor 3 = .ok (.istore 4, 2) := by decide +kernel
theorem dX4_priceFor_5 : decode cX4_priceFor 5 = .ok (.iload 4, 2) := by decide +kernel
theorem dX4_priceFor_7 : decode cX4_priceFor 7 = .ok (.iconst 4, 1) := by decide +kernel
theorem dX4_priceFor_8 : decode cX4_priceFor 8 = .ok (.if_icmp .ge 40, 3) := by decide +kernel
theorem dX4_priceFor_11 : decode cX4_priceFor 11 = .ok (.iload 4, 2) := by decide +kernel
theorem dX4_priceFor_13 : decode cX4_priceFor 13 = .ok (.iload_n 2, 1) := by decide +kernel
theorem dX4_priceFor_14 : decode cX4_priceFor 14 = .ok (.if_icmp .eq 28, 3) := by decide +kernel
theorem dX4_priceFor_17 : decode cX4_priceFor 17 = .ok (.aload_n 0, 1) := by decide +kernel
theorem dX4_priceFor_18 : decode cX4_priceFor 18 = .ok (.aload_n 1, 1) := by decide +kernel
theorem dX4_priceFor_19 : decode cX4_priceFor 19 = .ok (.iload 4, 2) := by decide +kernel
theorem dX4_priceFor_21 : decode cX4_priceFor 21 = .ok (.invokevirtual 338, 3) := by decide +kernel
theorem dX4_priceFor_24 : decode cX4_priceFor 24 = .ok (.ifCond .eq 18, 3) := by decide +kernel
theorem dX4_priceFor_27 : decode cX4_priceFor 27 = .ok (.iload_n 3, 1) := by decide +kernel
theorem dX4_priceFor_28 : decode cX4_priceFor 28 = .ok (.aload_n 1, 1) := by decide +kernel
theorem dX4_priceFor_29 : decode cX4_priceFor 29 = .ok (.getfield 211, 3) := by decide +kernel
theorem dX4_priceFor_32 : decode cX4_priceFor 32 = .ok (.getfield 265, 3) := by decide +kernel
theorem dX4_priceFor_35 : decode cX4_priceFor 35 = .ok (.iload 4, 2) := by decide +kernel
theorem dX4_priceFor_37 : decode cX4_priceFor 37 = .ok (.iaload, 1) := by decide +kernel
theorem dX4_priceFor_38 : decode cX4_priceFor 38 = .ok (.invokestatic 143, 3) := by decide +kernel
theorem dX4_priceFor_41 : decode cX4_priceFor 41 = .ok (.istore_n 3, 1) := by decide +kernel
theorem dX4_priceFor_42 : decode cX4_priceFor 42 = .ok (.iinc 4 1, 3) := by decide +kernel
theorem dX4_priceFor_45 : decode cX4_priceFor 45 = .ok (.goto (-40), 3) := by decide +kernel
theorem dX4_priceFor_48 : decode cX4_priceFor 48 = .ok (.iload_n 3, 1) := by decide +kernel
theorem dX4_priceFor_49 : decode cX4_priceFor 49 = .ok (.iconst (-1), 1) := by decide +kernel
theorem dX4_priceFor_50 : decode cX4_priceFor 50 = .ok (.if_icmp .ne 13, 3) := by decide +kernel
theorem dX4_priceFor_53 : decode cX4_priceFor 53 = .ok (.aload_n 1, 1) := by decide +kernel
theorem dX4_priceFor_54 : decode cX4_priceFor 54 = .ok (.getfield 211, 3) := by decide +kernel
theorem dX4_priceFor_57 : decode cX4_priceFor 57 = .ok (.getfield 215, 3) := by decide +kernel
theorem dX4_priceFor_60 : decode cX4_priceFor 60 = .ok (.goto 18, 3) := by decide +kernel
theorem dX4_priceFor_63 : decode cX4_priceFor 63 = .ok (.aload_n 1, 1) := by decide +kernel
theorem dX4_priceFor_64 : decode cX4_priceFor 64 = .ok (.getfield 211, 3) := by decide +kernel
theorem dX4_priceFor_67 : decode cX4_priceFor 67 = .ok (.getfield 265, 3) := by decide +kernel
theorem dX4_priceFor_70 : decode cX4_priceFor 70 = .ok (.iload_n 2, 1) := by decide +kernel
theorem dX4_priceFor_71 : decode cX4_priceFor 71 = .ok (.iaload, 1) := by decide +kernel
theorem dX4_priceFor_72 : decode cX4_priceFor 72 = .ok (.iload_n 3, 1) := by decide +kernel
theorem dX4_priceFor_73 : decode cX4_priceFor 73 = .ok (.iconst 1, 1) := by decide +kernel
theorem dX4_priceFor_74 : decode cX4_priceFor 74 = .ok (.iadd, 1) := by decide +kernel
theorem dX4_priceFor_75 : decode cX4_priceFor 75 = .ok (.invokestatic 95, 3) := by decide +kernel
theorem dX4_priceFor_78 : decode cX4_priceFor 78 = .ok (.ireturn, 1) := by decide +kernel
theorem dX4_leastMix_0 : decode cX4_leastMix 0 = .ok (.aload_n 1, 1) := by decide +kernel
theorem dX4_leastMix_1 : decode cX4_leastMix 1 = .ok (.iconst 0, 1) := by decide +kernel
theorem dX4_leastMix_2 : decode cX4_leastMix 2 = .ok (.invokevirtual 180, 3) := by decide +kernel
theorem dX4_leastMix_5 : decode cX4_leastMix 5 = .ok (.istore 6, 2) := by decide +kernel
theorem dX4_leastMix_7 : decode cX4_leastMix 7 = .ok (.aload_n 1, 1) := by decide +kernel
theorem dX4_leastMix_8 : decode cX4_leastMix 8 = .ok (.iconst 1, 1) := by decide +kernel
theorem dX4_leastMix_9 : decode cX4_leastMix 9 = .ok (.invokevirtual 180, 3) := by decide +kernel
theorem dX4_leastMix_12 : decode cX4_leastMix 12 = .ok (.istore 7, 2) := by decide +kernel
theorem dX4_leastMix_14 : decode cX4_leastMix 14 = .ok (.aload_n 1, 1) := by decide +kernel
theorem dX4_leastMix_15 : decode cX4_leastMix 15 = .ok (.iconst 2, 1) := by decide +kernel
theorem dX4_leastMix_16 : decode cX4_leastMix 16 = .ok (.invokevirtual 180, 3) := by decide +kernel
theorem dX4_leastMix_19 : decode cX4_leastMix 19 = .ok (.istore 8, 2) := by decide +kernel
theorem dX4_leastMix_21 : decode cX4_leastMix 21 = .ok (.aload_n 2, 1) := by decide +kernel
theorem dX4_leastMix_22 : decode cX4_leastMix 22 = .ok (.iconst 0, 1) := by decide +kernel
theorem dX4_leastMix_23 : decode cX4_leastMix 23 = .ok (.invokevirtual 180, 3) := by decide +kernel
theorem dX4_leastMix_26 : decode cX4_leastMix 26 = .ok (.istore 9, 2) := by decide +kernel
theorem dX4_leastMix_28 : decode cX4_leastMix 28 = .ok (.aload_n 2, 1) := by decide +kernel
theorem dX4_leastMix_29 : decode cX4_leastMix 29 = .ok (.iconst 1, 1) := by decide +kernel
theorem dX4_leastMix_30 : decode cX4_leastMix 30 = .ok (.invokevirtual 180, 3) := by decide +kernel
theorem dX4_leastMix_33 : decode cX4_leastMix 33 = .ok (.istore 10, 2) := by decide +kernel
theorem dX4_leastMix_35 : decode cX4_leastMix 35 = .ok (.aload_n 2, 1) := by decide +kernel
theorem dX4_leastMix_36 : decode cX4_leastMix 36 = .ok (.iconst 2, 1) := by decide +kernel
theorem dX4_leastMix_37 : decode cX4_leastMix 37 = .ok (.invokevirtual 180, 3) := by decide +kernel
theorem dX4_leastMix_40 : decode cX4_leastMix 40 = .ok (.istore 11, 2) := by decide +kernel
theorem dX4_leastMix_42 : decode cX4_leastMix 42 = .ok (.ldc_w 284, 3) := by decide +kernel
theorem dX4_leastMix_45 : decode cX4_leastMix 45 = .ok (.istore 12, 2) := by decide +kernel
theorem dX4_leastMix_47 : decode cX4_leastMix 47 = .ok (.iconst 1, 1) := by decide +kernel
theorem dX4_leastMix_48 : decode cX4_leastMix 48 = .ok (.istore 13, 2) := by decide +kernel
theorem dX4_leastMix_50 : decode cX4_leastMix 50 = .ok (.iload 13, 2) := by decide +kernel
theorem dX4_leastMix_52 : decode cX4_leastMix 52 = .ok (.bipush 9, 2) := by decide +kernel
theorem dX4_leastMix_54 : decode cX4_leastMix 54 = .ok (.if_icmp .gt 114, 3) := by decide +kernel
theorem dX4_leastMix_57 : decode cX4_leastMix 57 = .ok (.iload 13, 2) := by decide +kernel
theorem dX4_leastMix_59 : decode cX4_leastMix 59 = .ok (.iload 6, 2) := by decide +kernel
theorem dX4_leastMix_61 : decode cX4_leastMix 61 = .ok (.imul, 1) := by decide +kernel
theorem dX4_leastMix_62 : decode cX4_leastMix 62 = .ok (.bipush 10, 2) := by decide +kernel
theorem dX4_leastMix_64 : decode cX4_leastMix 64 = .ok (.iload 13, 2) := by decide +kernel
theorem dX4_leastMix_66 : decode cX4_leastMix 66 = .ok (.isub, 1) := by decide +kernel
theorem dX4_leastMix_67 : decode cX4_leastMix 67 = .ok (.iload 9, 2) := by decide +kernel
theorem dX4_leastMix_69 : decode cX4_leastMix 69 = .ok (.imul, 1) := by decide +kernel
theorem dX4_leastMix_70 : decode cX4_leastMix 70 = .ok (.iadd, 1) := by decide +kernel
theorem dX4_leastMix_71 : decode cX4_leastMix 71 = .ok (.istore 14, 2) := by decide +kernel
theorem dX4_leastMix_73 : decode cX4_leastMix 73 = .ok (.iload 13, 2) := by decide +kernel
theorem dX4_leastMix_75 : decode cX4_leastMix 75 = .ok (.iload 7, 2) := by decide +kernel
theorem dX4_leastMix_77 : decode cX4_leastMix 77 = .ok (.imul, 1) := by decide +kernel
theorem dX4_leastMix_78 : decode cX4_leastMix 78 = .ok (.bipush 10, 2) := by decide +kernel
theorem dX4_leastMix_80 : decode cX4_leastMix 80 = .ok (.iload 13, 2) := by decide +kernel
theorem dX4_leastMix_82 : decode cX4_leastMix 82 = .ok (.isub, 1) := by decide +kernel
theorem dX4_leastMix_83 : decode cX4_leastMix 83 = .ok (.iload 10, 2) := by decide +kernel
theorem dX4_leastMix_85 : decode cX4_leastMix 85 = .ok (.imul, 1) := by decide +kernel
theorem dX4_leastMix_86 : decode cX4_leastMix 86 = .ok (.iadd, 1) := by decide +kernel
theorem dX4_leastMix_87 : decode cX4_leastMix 87 = .ok (.istore 15, 2) := by decide +kernel
theorem dX4_leastMix_89 : decode cX4_leastMix 89 = .ok (.iload 13, 2) := by decide +kernel
theorem dX4_leastMix_91 : decode cX4_leastMix 91 = .ok (.iload 8, 2) := by decide +kernel
theorem dX4_leastMix_93 : decode cX4_leastMix 93 = .ok (.imul, 1) := by decide +kernel
theorem dX4_leastMix_94 : decode cX4_leastMix 94 = .ok (.bipush 10, 2) := by decide +kernel
theorem dX4_leastMix_96 : decode cX4_leastMix 96 = .ok (.iload 13, 2) := by decide +kernel
theorem dX4_leastMix_98 : decode cX4_leastMix 98 = .ok (.isub, 1) := by decide +kernel
theorem dX4_leastMix_99 : decode cX4_leastMix 99 = .ok (.iload 11, 2) := by decide +kernel
theorem dX4_leastMix_101 : decode cX4_leastMix 101 = .ok (.imul, 1) := by decide +kernel
theorem dX4_leastMix_102 : decode cX4_leastMix 102 = .ok (.iadd, 1) := by decide +kernel
theorem dX4_leastMix_103 : decode cX4_leastMix 103 = .ok (.istore 16, 2) := by decide +kernel
theorem dX4_leastMix_105 : decode cX4_leastMix 105 = .ok (.iload 14, 2) := by decide +kernel
theorem dX4_leastMix_107 : decode cX4_leastMix 107 = .ok (.bipush 10, 2) := by decide +kernel
theorem dX4_leastMix_109 : decode cX4_leastMix 109 = .ok (.idiv, 1) := by decide +kernel
theorem dX4_leastMix_110 : decode cX4_leastMix 110 = .ok (.iload_n 3, 1) := by decide +kernel
theorem dX4_leastMix_111 : decode cX4_leastMix 111 = .ok (.if_icmp .lt 51, 3) := by decide +kernel
theorem dX4_leastMix_114 : decode cX4_leastMix 114 = .ok (.iload 15, 2) := by decide +kernel
theorem dX4_leastMix_116 : decode cX4_leastMix 116 = .ok (.bipush 10, 2) := by decide +kernel
theorem dX4_leastMix_118 : decode cX4_leastMix 118 = .ok (.idiv, 1) := by decide +kernel
theorem dX4_leastMix_119 : decode cX4_leastMix 119 = .ok (.iload 4, 2) := by decide +kernel
theorem dX4_leastMix_121 : decode cX4_leastMix 121 = .ok (.if_icmp .lt 41, 3) := by decide +kernel
theorem dX4_leastMix_124 : decode cX4_leastMix 124 = .ok (.iload 16, 2) := by decide +kernel
theorem dX4_leastMix_126 : decode cX4_leastMix 126 = .ok (.bipush 10, 2) := by decide +kernel
theorem dX4_leastMix_128 : decode cX4_leastMix 128 = .ok (.idiv, 1) := by decide +kernel
theorem dX4_leastMix_129 : decode cX4_leastMix 129 = .ok (.iload 5, 2) := by decide +kernel
theorem dX4_leastMix_131 : decode cX4_leastMix 131 = .ok (.if_icmp .lt 31, 3) := by decide +kernel
theorem dX4_leastMix_134 : decode cX4_leastMix 134 = .ok (.iload 14, 2) := by decide +kernel
theorem dX4_leastMix_136 : decode cX4_leastMix 136 = .ok (.iload 15, 2) := by decide +kernel
theorem dX4_leastMix_138 : decode cX4_leastMix 138 = .ok (.iadd, 1) := by decide +kernel
theorem dX4_leastMix_139 : decode cX4_leastMix 139 = .ok (.iload 16, 2) := by decide +kernel
theorem dX4_leastMix_141 : decode cX4_leastMix 141 = .ok (.iadd, 1) := by decide +kernel
theorem dX4_leastMix_142 : decode cX4_leastMix 142 = .ok (.istore 17, 2) := by decide +kernel
theorem dX4_leastMix_144 : decode cX4_leastMix 144 = .ok (.iload 12, 2) := by decide +kernel
theorem dX4_leastMix_146 : decode cX4_leastMix 146 = .ok (.iload 17, 2) := by decide +kernel
theorem dX4_leastMix_148 : decode cX4_leastMix 148 = .ok (.ldc_w 289, 3) := by decide +kernel
theorem dX4_leastMix_151 : decode cX4_leastMix 151 = .ok (.imul, 1) := by decide +kernel
theorem dX4_leastMix_152 : decode cX4_leastMix 152 = .ok (.iload_n 0, 1) := by decide +kernel
theorem dX4_leastMix_153 : decode cX4_leastMix 153 = .ok (.iadd, 1) := by decide +kernel
theorem dX4_leastMix_154 : decode cX4_leastMix 154 = .ok (.iload 13, 2) := by decide +kernel
theorem dX4_leastMix_156 : decode cX4_leastMix 156 = .ok (.iadd, 1) := by decide +kernel
theorem dX4_leastMix_157 : decode cX4_leastMix 157 = .ok (.invokestatic 95, 3) := by decide +kernel
theorem dX4_leastMix_160 : decode cX4_leastMix 160 = .ok (.istore 12, 2) := by decide +kernel
theorem dX4_leastMix_162 : decode cX4_leastMix 162 = .ok (.iinc 13 1, 3) := by decide +kernel
theorem dX4_leastMix_165 : decode cX4_leastMix 165 = .ok (.goto (-115), 3) := by decide +kernel
theorem dX4_leastMix_168 : decode cX4_leastMix 168 = .ok (.iload 12, 2) := by decide +kernel
theorem dX4_leastMix_170 : decode cX4_leastMix 170 = .ok (.ireturn, 1) := by decide +kernel
theorem dJ9_abs_0f7a4_0 : decode cJ9_abs_0f7a4 0 = .ok (.iload_n 0, 1) := by decide +kernel
theorem dJ9_abs_0f7a4_1 : decode cJ9_abs_0f7a4 1 = .ok (.ifCond .ge 8, 3) := by decide +kernel
theorem dJ9_abs_0f7a4_4 : decode cJ9_abs_0f7a4 4 = .ok (.iload_n 0, 1) := by decide +kernel
theorem dJ9_abs_0f7a4_5 : decode cJ9_abs_0f7a4 5 = .ok (.ineg, 1) := by decide +kernel
theorem dJ9_abs_0f7a4_6 : decode cJ9_abs_0f7a4 6 = .ok (.goto 4, 3) := by decide +kernel
theorem dJ9_abs_0f7a4_9 : decode cJ9_abs_0f7a4 9 = .ok (.iload_n 0, 1) := by decide +kernel
theorem dJ9_abs_0f7a4_10 : decode cJ9_abs_0f7a4 10 = .ok (.ireturn, 1) := by decide +kernel
theorem dJ9_max_7cf53_0 : decode cJ9_max_7cf53 0 = .ok (.iload_n 0, 1) := by decide +kernel
theorem dJ9_max_7cf53_1 : decode cJ9_max_7cf53 1 = .ok (.iload_n 1, 1) := by decide +kernel
theorem dJ9_max_7cf53_2 : decode cJ9_max_7cf53 2 = .ok (.if_icmp .lt 7, 3) := by decide +kernel
theorem dJ9_max_7cf53_5 : decode cJ9_max_7cf53 5 = .ok (.iload_n 0, 1) := by decide +kernel
theorem dJ9_max_7cf53_6 : decode cJ9_max_7cf53 6 = .ok (.goto 4, 3) := by decide +kernel
theorem dJ9_max_7cf53_9 : decode cJ9_max_7cf53 9 = .ok (.iload_n 1, 1) := by decide +kernel
theorem dJ9_max_7cf53_10 : decode cJ9_max_7cf53 10 = .ok (.ireturn, 1) := by decide +kernel
theorem dJ9_min_7cf53_0 : decode cJ9_min_7cf53 0 = .ok (.iload_n 0, 1) := by decide +kernel
theorem dJ9_min_7cf53_1 : decode cJ9_min_7cf53 1 = .ok (.iload_n 1, 1) := by decide +kernel
theorem dJ9_min_7cf53_2 : decode cJ9_min_7cf53 2 = .ok (.if_icmp .gt 7, 3) := by decide +kernel
theorem dJ9_min_7cf53_5 : decode cJ9_min_7cf53 5 = .ok (.iload_n 0, 1) := by decide +kernel
theorem dJ9_min_7cf53_6 : decode cJ9_min_7cf53 6 = .ok (.goto 4, 3) := by decide +kernel
theorem dJ9_min_7cf53_9 : decode cJ9_min_7cf53 9 = .ok (.iload_n 1, 1) := by decide +kernel
theorem dJ9_min_7cf53_10 : decode cJ9_min_7cf53 10 = .ok (.ireturn, 1) := by decide +kernel
theorem dL_below_0 : decode cL_below 0 = .ok (.iload_n 0, 1) := by decide +kernel
theorem dL_below_1 : decode cL_below 1 = .ok (.ldc 7, 2) := by decide +kernel
theorem dL_below_3 : decode cL_below 3 = .ok (.iand, 1) := by decide +kernel
theorem dL_below_4 : decode cL_below 4 = .ok (.iload_n 1, 1) := by decide +kernel
theorem dL_below_5 : decode cL_below 5 = .ok (.irem, 1) := by decide +kernel
theorem dL_below_6 : decode cL_below 6 = .ok (.ireturn, 1) := by decide +kernel
theorem dL_cell_0 : decode cL_cell 0 = .ok (.iload_n 1, 1) := by decide +kernel
theorem dL_cell_1 : decode cL_cell 1 = .ok (.aload_n 0, 1) := by decide +kernel
theorem dL_cell_2 : decode cL_cell 2 = .ok (.arraylength, 1) := by decide +kernel
theorem dL_cell_3 : decode cL_cell 3 = .ok (.if_icmp .ge 9, 3) := by decide +kernel
theorem dL_cell_6 : decode cL_cell 6 = .ok (.aload_n 0, 1) := by decide +kernel
theorem dL_cell_7 : decode cL_cell 7 = .ok (.iload_n 1, 1) := by decide +kernel
theorem dL_cell_8 : decode cL_cell 8 = .ok (.iaload, 1) := by decide +kernel
theorem dL_cell_9 : decode cL_cell 9 = .ok (.goto 9, 3) := by decide +kernel
theorem dL_cell_12 : decode cL_cell 12 = .ok (.ldc 8, 2) := by decide +kernel
theorem dL_cell_14 : decode cL_cell 14 = .ok (.iload_n 1, 1) := by decide +kernel
theorem dL_cell_15 : decode cL_cell 15 = .ok (.iconst 3, 1) := by decide +kernel
theorem dL_cell_16 : decode cL_cell 16 = .ok (.iadd, 1) := by decide +kernel
theorem dL_cell_17 : decode cL_cell 17 = .ok (.imul, 1) := by decide +kernel
theorem dL_cell_18 : decode cL_cell 18 = .ok (.ireturn, 1) := by decide +kernel
theorem dL_law_0 : decode cL_law 0 = .ok (.new 9, 3) := by decide +kernel
theorem dL_law_3 : decode cL_law 3 = .ok (.dup, 1) := by decide +kernel
theorem dL_law_4 : decode cL_law 4 = .ok (.invokespecial 11, 3) := by decide +kernel
theorem dL_law_7 : decode cL_law 7 = .ok (.astore_n 1, 1) := by decide +kernel
theorem dL_law_8 : decode cL_law 8 = .ok (.iconst 1, 1) := by decide +kernel
theorem dL_law_9 : decode cL_law 9 = .ok (.aload_n 0, 1) := by decide +kernel
theorem dL_law_10 : decode cL_law 10 = .ok (.iconst 0, 1) := by decide +kernel
theorem dL_law_11 : decode cL_law 11 = .ok (.invokestatic 12, 3) := by decide +kernel
theorem dL_law_14 : decode cL_law 14 = .ok (.iconst 4, 1) := by decide +kernel
theorem dL_law_15 : decode cL_law 15 = .ok (.invokestatic 18, 3) := by decide +kernel
theorem dL_law_18 : decode cL_law 18 = .ok (.iadd, 1) := by decide +kernel
theorem dL_law_19 : decode cL_law 19 = .ok (.istore_n 2, 1) := by decide +kernel
theorem dL_law_20 : decode cL_law 20 = .ok (.iconst 0, 1) := by decide +kernel
theorem dL_law_21 : decode cL_law 21 = .ok (.istore_n 3, 1) := by decide +kernel
theorem dL_law_22 : decode cL_law 22 = .ok (.iload_n 3, 1) := by decide +kernel
theorem dL_law_23 : decode cL_law 23 = .ok (.iload_n 2, 1) := by decide +kernel
theorem dL_law_24 : decode cL_law 24 = .ok (.if_icmp .ge 44, 3) := by decide +kernel
theorem dL_law_27 : decode cL_law 27 = .ok (.aload_n 1, 1) := by decide +kernel
theorem dL_law_28 : decode cL_law 28 = .ok (.iconst 1, 1) := by decide +kernel
theorem dL_law_29 : decode cL_law 29 = .ok (.aload_n 0, 1) := by decide +kernel
theorem dL_law_30 : decode cL_law 30 = .ok (.iload_n 3, 1) := by decide +kernel
theorem dL_law_31 : decode cL_law 31 = .ok (.iconst 1, 1) := by decide +kernel
theorem dL_law_32 : decode cL_law 32 = .ok (.iadd, 1) := by decide +kernel
theorem dL_law_33 : decode cL_law 33 = .ok (.invokestatic 12, 3) := by decide +kernel
theorem dL_law_36 : decode cL_law 36 = .ok (.bipush 9, 2) := by decide +kernel
theorem dL_law_38 : decode cL_law 38 = .ok (.invokestatic 18, 3) := by decide +kernel
theorem dL_law_41 : decode cL_law 41 = .ok (.iadd, 1) := by decide +kernel
theorem dL_law_42 : decode cL_law 42 = .ok (.aload_n 0, 1) := by decide +kernel
theorem dL_law_43 : decode cL_law 43 = .ok (.iload_n 3, 1) := by decide +kernel
theorem dL_law_44 : decode cL_law 44 = .ok (.iconst 2, 1) := by decide +kernel
theorem dL_law_45 : decode cL_law 45 = .ok (.iadd, 1) := by decide +kernel
theorem dL_law_46 : decode cL_law 46 = .ok (.invokestatic 12, 3) := by decide +kernel
theorem dL_law_49 : decode cL_law 49 = .ok (.iconst 3, 1) := by decide +kernel
theorem dL_law_50 : decode cL_law 50 = .ok (.invokestatic 18, 3) := by decide +kernel
theorem dL_law_53 : decode cL_law 53 = .ok (.invokevirtual 22, 3) := by decide +kernel
theorem dL_law_56 : decode cL_law 56 = .ok (.iload_n 3, 1) := by decide +kernel
theorem dL_law_57 : decode cL_law 57 = .ok (.if_icmp .eq 5, 3) := by decide +kernel
theorem dL_law_60 : decode cL_law 60 = .ok (.iconst 0, 1) := by decide +kernel
theorem dL_law_61 : decode cL_law 61 = .ok (.ireturn, 1) := by decide +kernel
theorem dL_law_62 : decode cL_law 62 = .ok (.iinc 3 1, 3) := by decide +kernel
theorem dL_law_65 : decode cL_law 65 = .ok (.goto (-43), 3) := by decide +kernel
theorem dL_law_68 : decode cL_law 68 = .ok (.iconst 0, 1) := by decide +kernel
theorem dL_law_69 : decode cL_law 69 = .ok (.istore_n 3, 1) := by decide +kernel
theorem dL_law_70 : decode cL_law 70 = .ok (.iconst 0, 1) := by decide +kernel
theorem dL_law_71 : decode cL_law 71 = .ok (.istore 4, 2) := by decide +kernel
theorem dL_law_73 : decode cL_law 73 = .ok (.iconst 0, 1) := by decide +kernel
theorem dL_law_74 : decode cL_law 74 = .ok (.istore 5, 2) := by decide +kernel
theorem dL_law_76 : decode cL_law 76 = .ok (.iload 5, 2) := by decide +kernel
theorem dL_law_78 : decode cL_law 78 = .ok (.bipush 48, 2) := by decide +kernel
theorem dL_law_80 : decode cL_law 80 = .ok (.if_icmp .ge 598, 3) := by decide +kernel
theorem dL_law_83 : decode cL_law 83 = .ok (.aload_n 0, 1) := by decide +kernel
theorem dL_law_84 : decode cL_law 84 = .ok (.iload 5, 2) := by decide +kernel
theorem dL_law_86 : decode cL_law 86 = .ok (.bipush 16, 2) := by decide +kernel
theorem dL_law_88 : decode cL_law 88 = .ok (.irem, 1) := by decide +kernel
theorem dL_law_89 : decode cL_law 89 = .ok (.invokestatic 12, 3) := by decide +kernel
theorem dL_law_92 : decode cL_law 92 = .ok (.bipush 37, 2) := by decide +kernel
theorem dL_law_94 : decode cL_law 94 = .ok (.iload 5, 2) := by decide +kernel
theorem dL_law_96 : decode cL_law 96 = .ok (.imul, 1) := by decide +kernel
theorem dL_law_97 : decode cL_law 97 = .ok (.iadd, 1) := by decide +kernel
theorem dL_law_98 : decode cL_law 98 = .ok (.istore 6, 2) := by decide +kernel
theorem dL_law_100 : decode cL_law 100 = .ok (.aload_n 0, 1) := by decide +kernel
theorem dL_law_101 : decode cL_law 101 = .ok (.iconst 3, 1) := by decide +kernel
theorem dL_law_102 : decode cL_law 102 = .ok (.iload 5, 2) := by decide +kernel
theorem dL_law_104 : decode cL_law 104 = .ok (.imul, 1) := by decide +kernel
theorem dL_law_105 : decode cL_law 105 = .ok (.iconst 1, 1) := by decide +kernel
theorem dL_law_106 : decode cL_law 106 = .ok (.iadd, 1) := by decide +kernel
theorem dL_law_107 : decode cL_law 107 = .ok (.bipush 16, 2) := by decide +kernel
theorem dL_law_109 : decode cL_law 109 = .ok (.irem, 1) := by decide +kernel
theorem dL_law_110 : decode cL_law 110 = .ok (.invokestatic 12, 3) := by decide +kernel
theorem dL_law_113 : decode cL_law 113 = .ok (.iconst 5, 1) := by decide +kernel
theorem dL_law_114 : decode cL_law 114 = .ok (.iload 5, 2) := by decide +kernel
theorem dL_law_116 : decode cL_law 116 = .ok (.imul, 1) := by decide +kernel
theorem dL_law_117 : decode cL_law 117 = .ok (.iadd, 1) := by decide +kernel
theorem dL_law_118 : decode cL_law 118 = .ok (.istore 7, 2) := by decide +kernel
theorem dL_law_120 : decode cL_law 120 = .ok (.iload 7, 2) := by decide +kernel
theorem dL_law_122 : decode cL_law 122 = .ok (.iload_n 2, 1) := by decide +kernel
theorem dL_law_123 : decode cL_law 123 = .ok (.invokestatic 18, 3) := by decide +kernel
theorem dL_law_126 : decode cL_law 126 = .ok (.istore 8, 2) := by decide +kernel
theorem dL_law_128 : decode cL_law 128 = .ok (.aload_n 1, 1) := by decide +kernel
theorem dL_law_129 : decode cL_law 129 = .ok (.iconst 2, 1) := by decide +kernel
theorem dL_law_130 : decode cL_law 130 = .ok (.invokevirtual 25, 3) := by decide +kernel
theorem dL_law_133 : decode cL_law 133 = .ok (.ifCond .ne 7, 3) := by decide +kernel
theorem dL_law_136 : decode cL_law 136 = .ok (.iconst (-1), 1) := by decide +kernel
theorem dL_law_137 : decode cL_law 137 = .ok (.goto 15, 3) := by decide +kernel
theorem dL_law_140 : decode cL_law 140 = .ok (.iload 7, 2) := by decide +kernel
theorem dL_law_142 : decode cL_law 142 = .ok (.iconst 3, 1) := by decide +kernel
theorem dL_law_143 : decode cL_law 143 = .ok (.ishr, 1) := by decide +kernel
theorem dL_law_144 : decode cL_law 144 = .ok (.aload_n 1, 1) := by decide +kernel
theorem dL_law_145 : decode cL_law 145 = .ok (.iconst 2, 1) := by decide +kernel
theorem dL_law_146 : decode cL_law 146 = .ok (.invokevirtual 25, 3) := by decide +kernel
theorem dL_law_149 : decode cL_law 149 = .ok (.invokestatic 18, 3) := by decide +kernel
theorem dL_law_152 : decode cL_law 152 = .ok (.istore 9, 2) := by decide +kernel
theorem dL_law_154 : decode cL_law 154 = .ok (.iload 9, 2) := by decide +kernel
theorem dL_law_156 : decode cL_law 156 = .ok (.ifCond .ge 7, 3) := by decide +kernel
theorem dL_law_159 : decode cL_law 159 = .ok (.iconst (-1), 1) := by decide +kernel
theorem dL_law_160 : decode cL_law 160 = .ok (.goto 10, 3) := by decide +kernel
theorem dL_law_163 : decode cL_law 163 = .ok (.aload_n 1, 1) := by decide +kernel
theorem dL_law_164 : decode cL_law 164 = .ok (.iload 9, 2) := by decide +kernel
theorem dL_law_166 : decode cL_law 166 = .ok (.iconst 0, 1) := by decide +kernel
theorem dL_law_167 : decode cL_law 167 = .ok (.invokevirtual 29, 3) := by decide +kernel
theorem dL_law_170 : decode cL_law 170 = .ok (.istore 10, 2) := by decide +kernel
theorem dL_law_172 : decode cL_law 172 = .ok (.iload 6, 2) := by decide +kernel
theorem dL_law_174 : decode cL_law 174 = .ok (.bipush 14, 2) := by decide +kernel
theorem dL_law_176 : decode cL_law 176 = .ok (.invokestatic 18, 3) := by decide +kernel
theorem dL_law_179 : decode cL_law 179 = .ok (.tableswitch 453 0 8 #[49, 49, 79, 79, 79, 210, 242, 383, 420], 49) := by decide +kernel
theorem dL_law_228 : decode cL_law 228 = .ok (.aload_n 1, 1) := by decide +kernel
theorem dL_law_229 : decode cL_law 229 = .ok (.iload 8, 2) := by decide +kernel
theorem dL_law_231 : decode cL_law 231 = .ok (.iload 6, 2) := by decide +kernel
theorem dL_law_233 : decode cL_law 233 = .ok (.iconst 4, 1) := by decide +kernel
theorem dL_law_234 : decode cL_law 234 = .ok (.ishr, 1) := by decide +kernel
theorem dL_law_235 : decode cL_law 235 = .ok (.bipush 7, 2) := by decide +kernel
theorem dL_law_237 : decode cL_law 237 = .ok (.invokestatic 18, 3) := by decide +kernel
theorem dL_law_240 : decode cL_law 240 = .ok (.iload 6, 2) := by decide +kernel
theorem dL_law_242 : decode cL_law 242 = .ok (.bipush 7, 2) := by decide +kernel
theorem dL_law_244 : decode cL_law 244 = .ok (.ishr, 1) := by decide +kernel
theorem dL_law_245 : decode cL_law 245 = .ok (.bipush 7, 2) := by decide +kernel
theorem dL_law_247 : decode cL_law 247 = .ok (.invokestatic 18, 3) := by decide +kernel
theorem dL_law_250 : decode cL_law 250 = .ok (.invokestatic 32, 3) := by decide +kernel
theorem dL_law_253 : decode cL_law 253 = .ok (.ifCond .ne 405, 3) := by decide +kernel
theorem dL_law_256 : decode cL_law 256 = .ok (.iconst 0, 1) := by decide +kernel
theorem dL_law_257 : decode cL_law 257 = .ok (.ireturn, 1) := by decide +kernel
theorem dL_law_258 : decode cL_law 258 = .ok (.aload_n 1, 1) := by decide +kernel
theorem dL_law_259 : decode cL_law 259 = .ok (.iconst 2, 1) := by decide +kernel
theorem dL_law_260 : decode cL_law 260 = .ok (.invokevirtual 25, 3) := by decide +kernel
theorem dL_law_263 : decode cL_law 263 = .ok (.bipush 12, 2) := by decide +kernel
theorem dL_law_265 : decode cL_law 265 = .ok (.if_icmp .gt 393, 3) := by decide +kernel
theorem dL_law_268 : decode cL_law 268 = .ok (.aload_n 1, 1) := by decide +kernel
theorem dL_law_269 : decode cL_law 269 = .ok (.iload 8, 2) := by decide +kernel
theorem dL_law_271 : decode cL_law 271 = .ok (.bipush 8, 2) := by decide +kernel
theorem dL_law_273 : decode cL_law 273 = .ok (.invokevirtual 36, 3) := by decide +kernel
theorem dL_law_276 : decode cL_law 276 = .ok (.ifCond .ne 6, 3) := by decide +kernel
theorem dL_law_279 : decode cL_law 279 = .ok (.goto 379, 3) := by decide +kernel
theorem dL_law_282 : decode cL_law 282 = .ok (.iconst 1, 1) := by decide +kernel
theorem dL_law_283 : decode cL_law 283 = .ok (.iload 6, 2) := by decide +kernel
theorem dL_law_285 : decode cL_law 285 = .ok (.iconst 4, 1) := by decide +kernel
theorem dL_law_286 : decode cL_law 286 = .ok (.ishr, 1) := by decide +kernel
theorem dL_law_287 : decode cL_law 287 = .ok (.bipush 9, 2) := by decide +kernel
theorem dL_law_289 : decode cL_law 289 = .ok (.invokestatic 18, 3) := by decide +kernel
theorem dL_law_292 : decode cL_law 292 = .ok (.iadd, 1) := by decide +kernel
theorem dL_law_293 : decode cL_law 293 = .ok (.istore 11, 2) := by decide +kernel
theorem dL_law_295 : decode cL_law 295 = .ok (.aload_n 1, 1) := by decide +kernel
theorem dL_law_296 : decode cL_law 296 = .ok (.iload 8, 2) := by decide +kernel
theorem dL_law_298 : decode cL_law 298 = .ok (.iconst 1, 1) := by decide +kernel
theorem dL_law_299 : decode cL_law 299 = .ok (.iload 6, 2) := by decide +kernel
theorem dL_law_301 : decode cL_law 301 = .ok (.bipush 7, 2) := by decide +kernel
theorem dL_law_303 : decode cL_law 303 = .ok (.ishr, 1) := by decide +kernel
theorem dL_law_304 : decode cL_law 304 = .ok (.iconst 3, 1) := by decide +kernel
theorem dL_law_305 : decode cL_law 305 = .ok (.invokestatic 18, 3) := by decide +kernel
theorem dL_law_308 : decode cL_law 308 = .ok (.iadd, 1) := by decide +kernel
theorem dL_law_309 : decode cL_law 309 = .ok (.iload 11, 2) := by decide +kernel
theorem dL_law_311 : decode cL_law 311 = .ok (.invokevirtual 39, 3) := by decide +kernel
theorem dL_law_314 : decode cL_law 314 = .ok (.aload_n 1, 1) := by decide +kernel
theorem dL_law_315 : decode cL_law 315 = .ok (.iconst 2, 1) := by decide +kernel
theorem dL_law_316 : decode cL_law 316 = .ok (.invokevirtual 25, 3) := by decide +kernel
theorem dL_law_319 : decode cL_law 319 = .ok (.iconst 1, 1) := by decide +kernel
theorem dL_law_320 : decode cL_law 320 = .ok (.isub, 1) := by decide +kernel
theorem dL_law_321 : decode cL_law 321 = .ok (.if_icmp .ne 54, 3) := by decide +kernel
theorem dL_law_324 : decode cL_law 324 = .ok (.aload_n 1, 1) := by decide +kernel
theorem dL_law_325 : decode cL_law 325 = .ok (.aload_n 1, 1) := by decide +kernel
theorem dL_law_326 : decode cL_law 326 = .ok (.iconst 2, 1) := by decide +kernel
theorem dL_law_327 : decode cL_law 327 = .ok (.invokevirtual 25, 3) := by decide +kernel
theorem dL_law_330 : decode cL_law 330 = .ok (.iconst 1, 1) := by decide +kernel
theorem dL_law_331 : decode cL_law 331 = .ok (.isub, 1) := by decide +kernel
theorem dL_law_332 : decode cL_law 332 = .ok (.bipush 14, 2) := by decide +kernel
theorem dL_law_334 : decode cL_law 334 = .ok (.iload 8, 2) := by decide +kernel
theorem dL_law_336 : decode cL_law 336 = .ok (.iadd, 1) := by decide +kernel
theorem dL_law_337 : decode cL_law 337 = .ok (.invokevirtual 29, 3) := by decide +kernel
theorem dL_law_340 : decode cL_law 340 = .ok (.aload_n 1, 1) := by decide +kernel
theorem dL_law_341 : decode cL_law 341 = .ok (.aload_n 1, 1) := by decide +kernel
theorem dL_law_342 : decode cL_law 342 = .ok (.iconst 2, 1) := by decide +kernel
theorem dL_law_343 : decode cL_law 343 = .ok (.invokevirtual 25, 3) := by decide +kernel
theorem dL_law_346 : decode cL_law 346 = .ok (.iconst 1, 1) := by decide +kernel
theorem dL_law_347 : decode cL_law 347 = .ok (.isub, 1) := by decide +kernel
theorem dL_law_348 : decode cL_law 348 = .ok (.iconst 1, 1) := by decide +kernel
theorem dL_law_349 : decode cL_law 349 = .ok (.invokevirtual 29, 3) := by decide +kernel
theorem dL_law_352 : decode cL_law 352 = .ok (.if_icmp .ne 23, 3) := by decide +kernel
theorem dL_law_355 : decode cL_law 355 = .ok (.aload_n 1, 1) := by decide +kernel
theorem dL_law_356 : decode cL_law 356 = .ok (.aload_n 1, 1) := by decide +kernel
theorem dL_law_357 : decode cL_law 357 = .ok (.iconst 2, 1) := by decide +kernel
theorem dL_law_358 : decode cL_law 358 = .ok (.invokevirtual 25, 3) := by decide +kernel
theorem dL_law_361 : decode cL_law 361 = .ok (.iconst 1, 1) := by decide +kernel
theorem dL_law_362 : decode cL_law 362 = .ok (.isub, 1) := by decide +kernel
theorem dL_law_363 : decode cL_law 363 = .ok (.iconst 1, 1) := by decide +kernel
theorem dL_law_364 : decode cL_law 364 = .ok (.invokevirtual 29, 3) := by decide +kernel
theorem dL_law_367 : decode cL_law 367 = .ok (.bipush 40, 2) := by decide +kernel
theorem dL_law_369 : decode cL_law 369 = .ok (.iload 11, 2) := by decide +kernel
theorem dL_law_371 : decode cL_law 371 = .ok (.imul, 1) := by decide +kernel
theorem dL_law_372 : decode cL_law 372 = .ok (.if_icmp .le 5, 3) := by decide +kernel
theorem dL_law_375 : decode cL_law 375 = .ok (.iconst 0, 1) := by decide +kernel
theorem dL_law_376 : decode cL_law 376 = .ok (.ireturn, 1) := by decide +kernel
theorem dL_law_377 : decode cL_law 377 = .ok (.iload 4, 2) := by decide +kernel
theorem dL_law_379 : decode cL_law 379 = .ok (.iconst 2, 1) := by decide +kernel
theorem dL_law_380 : decode cL_law 380 = .ok (.iload 11, 2) := by decide +kernel
theorem dL_law_382 : decode cL_law 382 = .ok (.imul, 1) := by decide +kernel
theorem dL_law_383 : decode cL_law 383 = .ok (.iadd, 1) := by decide +kernel
theorem dL_law_384 : decode cL_law 384 = .ok (.istore 4, 2) := by decide +kernel
theorem dL_law_386 : decode cL_law 386 = .ok (.goto 272, 3) := by decide +kernel
theorem dL_law_389 : decode cL_law 389 = .ok (.aload_n 1, 1) := by decide +kernel
theorem dL_law_390 : decode cL_law 390 = .ok (.iload 8, 2) := by decide +kernel
theorem dL_law_392 : decode cL_law 392 = .ok (.invokevirtual 43, 3) := by decide +kernel
theorem dL_law_395 : decode cL_law 395 = .ok (.ifCond .lt 24, 3) := by decide +kernel
theorem dL_law_398 : decode cL_law 398 = .ok (.aload_n 1, 1) := by decide +kernel
theorem dL_law_399 : decode cL_law 399 = .ok (.iload 8, 2) := by decide +kernel
theorem dL_law_401 : decode cL_law 401 = .ok (.iconst 4, 1) := by decide +kernel
theorem dL_law_402 : decode cL_law 402 = .ok (.invokevirtual 36, 3) := by decide +kernel
theorem dL_law_405 : decode cL_law 405 = .ok (.ifCond .ne 14, 3) := by decide +kernel
theorem dL_law_408 : decode cL_law 408 = .ok (.aload_n 1, 1) := by decide +kernel
theorem dL_law_409 : decode cL_law 409 = .ok (.iload 8, 2) := by decide +kernel
theorem dL_law_411 : decode cL_law 411 = .ok (.iconst 5, 1) := by decide +kernel
theorem dL_law_412 : decode cL_law 412 = .ok (.invokevirtual 36, 3) := by decide +kernel
theorem dL_law_415 : decode cL_law 415 = .ok (.iconst 3, 1) := by decide +kernel
theorem dL_law_416 : decode cL_law 416 = .ok (.if_icmp .eq 242, 3) := by decide +kernel
theorem dL_law_419 : decode cL_law 419 = .ok (.iconst 0, 1) := by decide +kernel
theorem dL_law_420 : decode cL_law 420 = .ok (.ireturn, 1) := by decide +kernel
theorem dL_law_421 : decode cL_law 421 = .ok (.iload 6, 2) := by decide +kernel
theorem dL_law_423 : decode cL_law 423 = .ok (.iconst 4, 1) := by decide +kernel
theorem dL_law_424 : decode cL_law 424 = .ok (.ishr, 1) := by decide +kernel
theorem dL_law_425 : decode cL_law 425 = .ok (.iconst 4, 1) := by decide +kernel
theorem dL_law_426 : decode cL_law 426 = .ok (.invokestatic 18, 3) := by decide +kernel
theorem dL_law_429 : decode cL_law 429 = .ok (.istore 12, 2) := by decide +kernel
theorem dL_law_431 : decode cL_law 431 = .ok (.iconst 1, 1) := by decide +kernel
theorem dL_law_432 : decode cL_law 432 = .ok (.iload 6, 2) := by decide +kernel
theorem dL_law_434 : decode cL_law 434 = .ok (.bipush 6, 2) := by decide +kernel
theorem dL_law_436 : decode cL_law 436 = .ok (.ishr, 1) := by decide +kernel
theorem dL_law_437 : decode cL_law 437 = .ok (.sipush 200, 3) := by decide +kernel
theorem dL_law_440 : decode cL_law 440 = .ok (.invokestatic 18, 3) := by decide +kernel
theorem dL_law_443 : decode cL_law 443 = .ok (.iadd, 1) := by decide +kernel
theorem dL_law_444 : decode cL_law 444 = .ok (.istore 13, 2) := by decide +kernel
theorem dL_law_446 : decode cL_law 446 = .ok (.aload_n 1, 1) := by decide +kernel
theorem dL_law_447 : decode cL_law 447 = .ok (.iload 12, 2) := by decide +kernel
theorem dL_law_449 : decode cL_law 449 = .ok (.iload 13, 2) := by decide +kernel
theorem dL_law_451 : decode cL_law 451 = .ok (.invokevirtual 46, 3) := by decide +kernel
theorem dL_law_454 : decode cL_law 454 = .ok (.aload_n 1, 1) := by decide +kernel
theorem dL_law_455 : decode cL_law 455 = .ok (.bipush 11, 2) := by decide +kernel
theorem dL_law_457 : decode cL_law 457 = .ok (.iload 12, 2) := by decide +kernel
theorem dL_law_459 : decode cL_law 459 = .ok (.iadd, 1) := by decide +kernel
theorem dL_law_460 : decode cL_law 460 = .ok (.invokevirtual 25, 3) := by decide +kernel
theorem dL_law_463 : decode cL_law 463 = .ok (.if_icmp .eq 5, 3) := by decide +kernel
theorem dL_law_466 : decode cL_law 466 = .ok (.iconst 0, 1) := by decide +kernel
theorem dL_law_467 : decode cL_law 467 = .ok (.ireturn, 1) := by decide +kernel
theorem dL_law_468 : decode cL_law 468 = .ok (.iload_n 3, 1) := by decide +kernel
theorem dL_law_469 : decode cL_law 469 = .ok (.iload 13, 2) := by decide +kernel
theorem dL_law_471 : decode cL_law 471 = .ok (.iadd, 1) := by decide +kernel
theorem dL_law_472 : decode cL_law 472 = .ok (.istore_n 3, 1) := by decide +kernel
theorem dL_law_473 : decode cL_law 473 = .ok (.iload 10, 2) := by decide +kernel
theorem dL_law_475 : decode cL_law 475 = .ok (.iconst 2, 1) := by decide +kernel
theorem dL_law_476 : decode cL_law 476 = .ok (.if_icmp .eq 6, 3) := by decide +kernel
theorem dL_law_479 : decode cL_law 479 = .ok (.goto 179, 3) := by decide +kernel
theorem dL_law_482 : decode cL_law 482 = .ok (.aload_n 1, 1) := by decide +kernel
theorem dL_law_483 : decode cL_law 483 = .ok (.iload 9, 2) := by decide +kernel
theorem dL_law_485 : decode cL_law 485 = .ok (.bipush 13, 2) := by decide +kernel
theorem dL_law_487 : decode cL_law 487 = .ok (.invokevirtual 29, 3) := by decide +kernel
theorem dL_law_490 : decode cL_law 490 = .ok (.ifCond .ne 25, 3) := by decide +kernel
theorem dL_law_493 : decode cL_law 493 = .ok (.aload_n 1, 1) := by decide +kernel
theorem dL_law_494 : decode cL_law 494 = .ok (.iload 9, 2) := by decide +kernel
theorem dL_law_496 : decode cL_law 496 = .ok (.iconst 1, 1) := by decide +kernel
theorem dL_law_497 : decode cL_law 497 = .ok (.iload 7, 2) := by decide +kernel
theorem dL_law_499 : decode cL_law 499 = .ok (.bipush 6, 2) := by decide +kernel
theorem dL_law_501 : decode cL_law 501 = .ok (.ishr, 1) := by decide +kernel
theorem dL_law_502 : decode cL_law 502 = .ok (.bipush 30, 2) := by decide +kernel
theorem dL_law_504 : decode cL_law 504 = .ok (.invokestatic 18, 3) := by decide +kernel
theorem dL_law_507 : decode cL_law 507 = .ok (.iadd, 1) := by decide +kernel
theorem dL_law_508 : decode cL_law 508 = .ok (.invokevirtual 49, 3) := by decide +kernel
theorem dL_law_511 : decode cL_law 511 = .ok (.iconst 1, 1) := by decide +kernel
theorem dL_law_512 : decode cL_law 512 = .ok (.if_icmp .lt 48, 3) := by decide +kernel
theorem dL_law_515 : decode cL_law 515 = .ok (.aload_n 1, 1) := by decide +kernel
theorem dL_law_516 : decode cL_law 516 = .ok (.iload 12, 2) := by decide +kernel
theorem dL_law_518 : decode cL_law 518 = .ok (.iload 9, 2) := by decide +kernel
theorem dL_law_520 : decode cL_law 520 = .ok (.iconst 1, 1) := by decide +kernel
theorem dL_law_521 : decode cL_law 521 = .ok (.iload 7, 2) := by decide +kernel
theorem dL_law_523 : decode cL_law 523 = .ok (.iconst 5, 1) := by decide +kernel
theorem dL_law_524 : decode cL_law 524 = .ok (.ishr, 1) := by decide +kernel
theorem dL_law_525 : decode cL_law 525 = .ok (.bipush 50, 2) := by decide +kernel
theorem dL_law_527 : decode cL_law 527 = .ok (.invokestatic 18, 3) := by decide +kernel
theorem dL_law_530 : decode cL_law 530 = .ok (.iadd, 1) := by decide +kernel
theorem dL_law_531 : decode cL_law 531 = .ok (.invokevirtual 52, 3) := by decide +kernel
theorem dL_law_534 : decode cL_law 534 = .ok (.iconst 4, 1) := by decide +kernel
theorem dL_law_535 : decode cL_law 535 = .ok (.if_icmp .gt 25, 3) := by decide +kernel
theorem dL_law_538 : decode cL_law 538 = .ok (.aload_n 1, 1) := by decide +kernel
theorem dL_law_539 : decode cL_law 539 = .ok (.iload 12, 2) := by decide +kernel
theorem dL_law_541 : decode cL_law 541 = .ok (.iload 9, 2) := by decide +kernel
theorem dL_law_543 : decode cL_law 543 = .ok (.invokevirtual 55, 3) := by decide +kernel
theorem dL_law_546 : decode cL_law 546 = .ok (.iconst 1, 1) := by decide +kernel
theorem dL_law_547 : decode cL_law 547 = .ok (.iload 7, 2) := by decide +kernel
theorem dL_law_549 : decode cL_law 549 = .ok (.iconst 5, 1) := by decide +kernel
theorem dL_law_550 : decode cL_law 550 = .ok (.ishr, 1) := by decide +kernel
theorem dL_law_551 : decode cL_law 551 = .ok (.bipush 50, 2) := by decide +kernel
theorem dL_law_553 : decode cL_law 553 = .ok (.invokestatic 18, 3) := by decide +kernel
theorem dL_law_556 : decode cL_law 556 = .ok (.iadd, 1) := by decide +kernel
theorem dL_law_557 : decode cL_law 557 = .ok (.if_icmp .eq 101, 3) := by decide +kernel
theorem dL_law_560 : decode cL_law 560 = .ok (.iconst 0, 1) := by decide +kernel
theorem dL_law_561 : decode cL_law 561 = .ok (.ireturn, 1) := by decide +kernel
theorem dL_law_562 : decode cL_law 562 = .ok (.iload 10, 2) := by decide +kernel
theorem dL_law_564 : decode cL_law 564 = .ok (.iconst 2, 1) := by decide +kernel
theorem dL_law_565 : decode cL_law 565 = .ok (.if_icmp .ne 93, 3) := by decide +kernel
theorem dL_law_568 : decode cL_law 568 = .ok (.aload_n 1, 1) := by decide +kernel
theorem dL_law_569 : decode cL_law 569 = .ok (.iload 9, 2) := by decide +kernel
theorem dL_law_571 : decode cL_law 571 = .ok (.bipush 13, 2) := by decide +kernel
theorem dL_law_573 : decode cL_law 573 = .ok (.invokevirtual 29, 3) := by decide +kernel
theorem dL_law_576 : decode cL_law 576 = .ok (.ifCond .le 82, 3) := by decide +kernel
theorem dL_law_579 : decode cL_law 579 = .ok (.iload 7, 2) := by decide +kernel
theorem dL_law_581 : decode cL_law 581 = .ok (.iconst 2, 1) := by decide +kernel
theorem dL_law_582 : decode cL_law 582 = .ok (.invokestatic 18, 3) := by decide +kernel
theorem dL_law_585 : decode cL_law 585 = .ok (.ifCond .ne 73, 3) := by decide +kernel
theorem dL_law_588 : decode cL_law 588 = .ok (.aload_n 1, 1) := by decide +kernel
theorem dL_law_589 : decode cL_law 589 = .ok (.iload 9, 2) := by decide +kernel
theorem dL_law_591 : decode cL_law 591 = .ok (.invokestatic 58, 3) := by decide +kernel
theorem dL_law_594 : decode cL_law 594 = .ok (.ifCond .ne 64, 3) := by decide +kernel
theorem dL_law_597 : decode cL_law 597 = .ok (.iconst 0, 1) := by decide +kernel
theorem dL_law_598 : decode cL_law 598 = .ok (.ireturn, 1) := by decide +kernel
theorem dL_law_599 : decode cL_law 599 = .ok (.iload 10, 2) := by decide +kernel
theorem dL_law_601 : decode cL_law 601 = .ok (.iconst 2, 1) := by decide +kernel
theorem dL_law_602 : decode cL_law 602 = .ok (.if_icmp .ne 56, 3) := by decide +kernel
theorem dL_law_605 : decode cL_law 605 = .ok (.aload_n 1, 1) := by decide +kernel
theorem dL_law_606 : decode cL_law 606 = .ok (.iload 6, 2) := by decide +kernel
theorem dL_law_608 : decode cL_law 608 = .ok (.iconst 4, 1) := by decide +kernel
theorem dL_law_609 : decode cL_law 609 = .ok (.ishr, 1) := by decide +kernel
theorem dL_law_610 : decode cL_law 610 = .ok (.iconst 3, 1) := by decide +kernel
theorem dL_law_611 : decode cL_law 611 = .ok (.invokestatic 18, 3) := by decide +kernel
theorem dL_law_614 : decode cL_law 614 = .ok (.iload 9, 2) := by decide +kernel
theorem dL_law_616 : decode cL_law 616 = .ok (.iload 7, 2) := by decide +kernel
theorem dL_law_618 : decode cL_law 618 = .ok (.iconst 5, 1) := by decide +kernel
theorem dL_law_619 : decode cL_law 619 = .ok (.invokestatic 18, 3) := by decide +kernel
theorem dL_law_622 : decode cL_law 622 = .ok (.iconst 2, 1) := by decide +kernel
theorem dL_law_623 : decode cL_law 623 = .ok (.isub, 1) := by decide +kernel
theorem dL_law_624 : decode cL_law 624 = .ok (.invokestatic 62, 3) := by decide +kernel
theorem dL_law_627 : decode cL_law 627 = .ok (.ifCond .ne 31, 3) := by decide +kernel
theorem dL_law_630 : decode cL_law 630 = .ok (.iconst 0, 1) := by decide +kernel
theorem dL_law_631 : decode cL_law 631 = .ok (.ireturn, 1) := by decide +kernel
theorem dL_law_632 : decode cL_law 632 = .ok (.iload 9, 2) := by decide +kernel
theorem dL_law_634 : decode cL_law 634 = .ok (.ifCond .lt 24, 3) := by decide +kernel
theorem dL_law_637 : decode cL_law 637 = .ok (.aload_n 1, 1) := by decide +kernel
theorem dL_law_638 : decode cL_law 638 = .ok (.iload 9, 2) := by decide +kernel
theorem dL_law_640 : decode cL_law 640 = .ok (.iload 10, 2) := by decide +kernel
theorem dL_law_642 : decode cL_law 642 = .ok (.iload 6, 2) := by decide +kernel
theorem dL_law_644 : decode cL_law 644 = .ok (.iconst 3, 1) := by decide +kernel
theorem dL_law_645 : decode cL_law 645 = .ok (.ishr, 1) := by decide +kernel
theorem dL_law_646 : decode cL_law 646 = .ok (.iload 7, 2) := by decide +kernel
theorem dL_law_648 : decode cL_law 648 = .ok (.iconst 5, 1) := by decide +kernel
theorem dL_law_649 : decode cL_law 649 = .ok (.ishr, 1) := by decide +kernel
theorem dL_law_650 : decode cL_law 650 = .ok (.invokestatic 65, 3) := by decide +kernel
theorem dL_law_653 : decode cL_law 653 = .ok (.ifCond .ne 5, 3) := by decide +kernel
theorem dL_law_656 : decode cL_law 656 = .ok (.iconst 0, 1) := by decide +kernel
theorem dL_law_657 : decode cL_law 657 = .ok (.ireturn, 1) := by decide +kernel
theorem dL_law_658 : decode cL_law 658 = .ok (.aload_n 1, 1) := by decide +kernel
theorem dL_law_659 : decode cL_law 659 = .ok (.iload_n 2, 1) := by decide +kernel
theorem dL_law_660 : decode cL_law 660 = .ok (.iload_n 3, 1) := by decide +kernel
theorem dL_law_661 : decode cL_law 661 = .ok (.iload 4, 2) := by decide +kernel
theorem dL_law_663 : decode cL_law 663 = .ok (.isub, 1) := by decide +kernel
theorem dL_law_664 : decode cL_law 664 = .ok (.invokestatic 69, 3) := by decide +kernel
theorem dL_law_667 : decode cL_law 667 = .ok (.ifCond .ne 5, 3) := by decide +kernel
theorem dL_law_670 : decode cL_law 670 = .ok (.iconst 0, 1) := by decide +kernel
theorem dL_law_671 : decode cL_law 671 = .ok (.ireturn, 1) := by decide +kernel
theorem dL_law_672 : decode cL_law 672 = .ok (.iinc 5 1, 3) := by decide +kernel
theorem dL_law_675 : decode cL_law 675 = .ok (.goto (-599), 3) := by decide +kernel
theorem dL_law_678 : decode cL_law 678 = .ok (.aload_n 1, 1) := by decide +kernel
theorem dL_law_679 : decode cL_law 679 = .ok (.invokevirtual 73, 3) := by decide +kernel
theorem dL_law_682 : decode cL_law 682 = .ok (.lstore 5, 2) := by decide +kernel
theorem dL_law_684 : decode cL_law 684 = .ok (.aload_n 1, 1) := by decide +kernel
theorem dL_law_685 : decode cL_law 685 = .ok (.iconst 0, 1) := by decide +kernel
theorem dL_law_686 : decode cL_law 686 = .ok (.iconst 0, 1) := by decide +kernel
theorem dL_law_687 : decode cL_law 687 = .ok (.iconst 0, 1) := by decide +kernel
theorem dL_law_688 : decode cL_law 688 = .ok (.invokevirtual 77, 3) := by decide +kernel
theorem dL_law_691 : decode cL_law 691 = .ok (.iconst (-1), 1) := by decide +kernel
theorem dL_law_692 : decode cL_law 692 = .ok (.if_icmp .lt 37, 3) := by decide +kernel
theorem dL_law_695 : decode cL_law 695 = .ok (.aload_n 1, 1) := by decide +kernel
theorem dL_law_696 : decode cL_law 696 = .ok (.iconst 0, 1) := by decide +kernel
theorem dL_law_697 : decode cL_law 697 = .ok (.bipush 6, 2) := by decide +kernel
theorem dL_law_699 : decode cL_law 699 = .ok (.bipush 6, 2) := by decide +kernel
theorem dL_law_701 : decode cL_law 701 = .ok (.invokevirtual 80, 3) := by decide +kernel
theorem dL_law_704 : decode cL_law 704 = .ok (.bipush 30, 2) := by decide +kernel
theorem dL_law_706 : decode cL_law 706 = .ok (.if_icmp .gt 23, 3) := by decide +kernel
theorem dL_law_709 : decode cL_law 709 = .ok (.aload_n 1, 1) := by decide +kernel
theorem dL_law_710 : decode cL_law 710 = .ok (.invokevirtual 83, 3) := by decide +kernel
theorem dL_law_713 : decode cL_law 713 = .ok (.dconst 0, 1) := by decide +kernel
theorem dL_law_714 : decode cL_law 714 = .ok (.dcmp .g, 1) := by decide +kernel
theorem dL_law_715 : decode cL_law 715 = .ok (.ifCond .lt 14, 3) := by decide +kernel
theorem dL_law_718 : decode cL_law 718 = .ok (.aload_n 1, 1) := by decide +kernel
theorem dL_law_719 : decode cL_law 719 = .ok (.invokevirtual 83, 3) := by decide +kernel
theorem dL_law_722 : decode cL_law 722 = .ok (.ldc2_w 87, 3) := by decide +kernel
theorem dL_law_725 : decode cL_law 725 = .ok (.dcmp .l, 1) := by decide +kernel
theorem dL_law_726 : decode cL_law 726 = .ok (.ifCond .le 5, 3) := by decide +kernel
theorem dL_law_729 : decode cL_law 729 = .ok (.iconst 0, 1) := by decide +kernel
theorem dL_law_730 : decode cL_law 730 = .ok (.ireturn, 1) := by decide +kernel
theorem dL_law_731 : decode cL_law 731 = .ok (.aload_n 1, 1) := by decide +kernel
theorem dL_law_732 : decode cL_law 732 = .ok (.invokevirtual 73, 3) := by decide +kernel
theorem dL_law_735 : decode cL_law 735 = .ok (.lload 5, 2) := by decide +kernel
theorem dL_law_737 : decode cL_law 737 = .ok (.lcmp, 1) := by decide +kernel
theorem dL_law_738 : decode cL_law 738 = .ok (.ifCond .ne 7, 3) := by decide +kernel
theorem dL_law_741 : decode cL_law 741 = .ok (.iconst 1, 1) := by decide +kernel
theorem dL_law_742 : decode cL_law 742 = .ok (.goto 4, 3) := by decide +kernel
theorem dL_law_745 : decode cL_law 745 = .ok (.iconst 0, 1) := by decide +kernel
theorem dL_law_746 : decode cL_law 746 = .ok (.ireturn, 1) := by decide +kernel
theorem dL_isGrown_0 : decode cL_isGrown 0 = .ok (.aload_n 0, 1) := by decide +kernel
theorem dL_isGrown_1 : decode cL_isGrown 1 = .ok (.iload_n 1, 1) := by decide +kernel
theorem dL_isGrown_2 : decode cL_isGrown 2 = .ok (.iload_n 2, 1) := by decide +kernel
theorem dL_isGrown_3 : decode cL_isGrown 3 = .ok (.iload_n 3, 1) := by decide +kernel
theorem dL_isGrown_4 : decode cL_isGrown 4 = .ok (.invokevirtual 80, 3) := by decide +kernel
theorem dL_isGrown_7 : decode cL_isGrown 7 = .ok (.istore 4, 2) := by decide +kernel
theorem dL_isGrown_9 : decode cL_isGrown 9 = .ok (.aload_n 0, 1) := by decide +kernel
theorem dL_isGrown_10 : decode cL_isGrown 10 = .ok (.iload_n 1, 1) := by decide +kernel
theorem dL_isGrown_11 : decode cL_isGrown 11 = .ok (.bipush 6, 2) := by decide +kernel
theorem dL_isGrown_13 : decode cL_isGrown 13 = .ok (.invokevirtual 36, 3) := by decide +kernel
theorem dL_isGrown_16 : decode cL_isGrown 16 = .ok (.istore 5, 2) := by decide +kernel
theorem dL_isGrown_18 : decode cL_isGrown 18 = .ok (.aload_n 0, 1) := by decide +kernel
theorem dL_isGrown_19 : decode cL_isGrown 19 = .ok (.iload_n 1, 1) := by decide +kernel
theorem dL_isGrown_20 : decode cL_isGrown 20 = .ok (.bipush 9, 2) := by decide +kernel
theorem dL_isGrown_22 : decode cL_isGrown 22 = .ok (.invokevirtual 36, 3) := by decide +kernel
theorem dL_isGrown_25 : decode cL_isGrown 25 = .ok (.aload_n 0, 1) := by decide +kernel
theorem dL_isGrown_26 : decode cL_isGrown 26 = .ok (.iload_n 1, 1) := by decide +kernel
theorem dL_isGrown_27 : decode cL_isGrown 27 = .ok (.bipush 10, 2) := by decide +kernel
theorem dL_isGrown_29 : decode cL_isGrown 29 = .ok (.invokevirtual 36, 3) := by decide +kernel
theorem dL_isGrown_32 : decode cL_isGrown 32 = .ok (.iadd, 1) := by decide +kernel
theorem dL_isGrown_33 : decode cL_isGrown 33 = .ok (.istore 6, 2) := by decide +kernel
theorem dL_isGrown_35 : decode cL_isGrown 35 = .ok (.iload 4, 2) := by decide +kernel
theorem dL_isGrown_37 : decode cL_isGrown 37 = .ok (.ifCond .ge 51, 3) := by decide +kernel
theorem dL_isGrown_40 : decode cL_isGrown 40 = .ok (.aload_n 0, 1) := by decide +kernel
theorem dL_isGrown_41 : decode cL_isGrown 41 = .ok (.iload_n 2, 1) := by decide +kernel
theorem dL_isGrown_42 : decode cL_isGrown 42 = .ok (.iload_n 3, 1) := by decide +kernel
theorem dL_isGrown_43 : decode cL_isGrown 43 = .ok (.iconst 1, 1) := by decide +kernel
theorem dL_isGrown_44 : decode cL_isGrown 44 = .ok (.invokevirtual 89, 3) := by decide +kernel
theorem dL_isGrown_47 : decode cL_isGrown 47 = .ok (.ifCond .lt 39, 3) := by decide +kernel
theorem dL_isGrown_50 : decode cL_isGrown 50 = .ok (.aload_n 0, 1) := by decide +kernel
theorem dL_isGrown_51 : decode cL_isGrown 51 = .ok (.iload_n 1, 1) := by decide +kernel
theorem dL_isGrown_52 : decode cL_isGrown 52 = .ok (.bipush 6, 2) := by decide +kernel
theorem dL_isGrown_54 : decode cL_isGrown 54 = .ok (.invokevirtual 36, 3) := by decide +kernel
theorem dL_isGrown_57 : decode cL_isGrown 57 = .ok (.iload 5, 2) := by decide +kernel
theorem dL_isGrown_59 : decode cL_isGrown 59 = .ok (.if_icmp .ne 27, 3) := by decide +kernel
theorem dL_isGrown_62 : decode cL_isGrown 62 = .ok (.aload_n 0, 1) := by decide +kernel
theorem dL_isGrown_63 : decode cL_isGrown 63 = .ok (.iload_n 1, 1) := by decide +kernel
theorem dL_isGrown_64 : decode cL_isGrown 64 = .ok (.bipush 9, 2) := by decide +kernel
theorem dL_isGrown_66 : decode cL_isGrown 66 = .ok (.invokevirtual 36, 3) := by decide +kernel
theorem dL_isGrown_69 : decode cL_isGrown 69 = .ok (.aload_n 0, 1) := by decide +kernel
theorem dL_isGrown_70 : decode cL_isGrown 70 = .ok (.iload_n 1, 1) := by decide +kernel
theorem dL_isGrown_71 : decode cL_isGrown 71 = .ok (.bipush 10, 2) := by decide +kernel
theorem dL_isGrown_73 : decode cL_isGrown 73 = .ok (.invokevirtual 36, 3) := by decide +kernel
theorem dL_isGrown_76 : decode cL_isGrown 76 = .ok (.iadd, 1) := by decide +kernel
theorem dL_isGrown_77 : decode cL_isGrown 77 = .ok (.iload 6, 2) := by decide +kernel
theorem dL_isGrown_79 : decode cL_isGrown 79 = .ok (.if_icmp .ne 7, 3) := by decide +kernel
theorem dL_isGrown_82 : decode cL_isGrown 82 = .ok (.iconst 1, 1) := by decide +kernel
theorem dL_isGrown_83 : decode cL_isGrown 83 = .ok (.goto 4, 3) := by decide +kernel
theorem dL_isGrown_86 : decode cL_isGrown 86 = .ok (.iconst 0, 1) := by decide +kernel
theorem dL_isGrown_87 : decode cL_isGrown 87 = .ok (.ireturn, 1) := by decide +kernel
theorem dL_isGrown_88 : decode cL_isGrown 88 = .ok (.iload 4, 2) := by decide +kernel
theorem dL_isGrown_90 : decode cL_isGrown 90 = .ok (.iconst 1, 1) := by decide +kernel
theorem dL_isGrown_91 : decode cL_isGrown 91 = .ok (.if_icmp .le 41, 3) := by decide +kernel
theorem dL_isGrown_94 : decode cL_isGrown 94 = .ok (.aload_n 0, 1) := by decide +kernel
theorem dL_isGrown_95 : decode cL_isGrown 95 = .ok (.iload_n 2, 1) := by decide +kernel
theorem dL_isGrown_96 : decode cL_isGrown 96 = .ok (.iload_n 3, 1) := by decide +kernel
theorem dL_isGrown_97 : decode cL_isGrown 97 = .ok (.iload 4, 2) := by decide +kernel
theorem dL_isGrown_99 : decode cL_isGrown 99 = .ok (.iconst 1, 1) := by decide +kernel
theorem dL_isGrown_100 : decode cL_isGrown 100 = .ok (.isub, 1) := by decide +kernel
theorem dL_isGrown_101 : decode cL_isGrown 101 = .ok (.invokevirtual 89, 3) := by decide +kernel
theorem dL_isGrown_104 : decode cL_isGrown 104 = .ok (.ifCond .lt 26, 3) := by decide +kernel
theorem dL_isGrown_107 : decode cL_isGrown 107 = .ok (.aload_n 0, 1) := by decide +kernel
theorem dL_isGrown_108 : decode cL_isGrown 108 = .ok (.iload_n 1, 1) := by decide +kernel
theorem dL_isGrown_109 : decode cL_isGrown 109 = .ok (.bipush 6, 2) := by decide +kernel
theorem dL_isGrown_111 : decode cL_isGrown 111 = .ok (.invokevirtual 36, 3) := by decide +kernel
theorem dL_isGrown_114 : decode cL_isGrown 114 = .ok (.iload 5, 2) := by decide +kernel
theorem dL_isGrown_116 : decode cL_isGrown 116 = .ok (.if_icmp .ne 14, 3) := by decide +kernel
theorem dL_isGrown_119 : decode cL_isGrown 119 = .ok (.aload_n 0, 1) := by decide +kernel
theorem dL_isGrown_120 : decode cL_isGrown 120 = .ok (.iload_n 1, 1) := by decide +kernel
theorem dL_isGrown_121 : decode cL_isGrown 121 = .ok (.iload_n 2, 1) := by decide +kernel
theorem dL_isGrown_122 : decode cL_isGrown 122 = .ok (.iload_n 3, 1) := by decide +kernel
theorem dL_isGrown_123 : decode cL_isGrown 123 = .ok (.invokevirtual 80, 3) := by decide +kernel
theorem dL_isGrown_126 : decode cL_isGrown 126 = .ok (.iconst 1, 1) := by decide +kernel
theorem dL_isGrown_127 : decode cL_isGrown 127 = .ok (.if_icmp .eq 5, 3) := by decide +kernel
theorem dL_isGrown_130 : decode cL_isGrown 130 = .ok (.iconst 0, 1) := by decide +kernel
theorem dL_isGrown_131 : decode cL_isGrown 131 = .ok (.ireturn, 1) := by decide +kernel
theorem dL_isGrown_132 : decode cL_isGrown 132 = .ok (.aload_n 0, 1) := by decide +kernel
theorem dL_isGrown_133 : decode cL_isGrown 133 = .ok (.iload_n 2, 1) := by decide +kernel
theorem dL_isGrown_134 : decode cL_isGrown 134 = .ok (.iload_n 3, 1) := by decide +kernel
theorem dL_isGrown_135 : decode cL_isGrown 135 = .ok (.iconst 1, 1) := by decide +kernel
theorem dL_isGrown_136 : decode cL_isGrown 136 = .ok (.invokevirtual 89, 3) := by decide +kernel
theorem dL_isGrown_139 : decode cL_isGrown 139 = .ok (.ifCond .le 37, 3) := by decide +kernel
theorem dL_isGrown_142 : decode cL_isGrown 142 = .ok (.aload_n 0, 1) := by decide +kernel
theorem dL_isGrown_143 : decode cL_isGrown 143 = .ok (.iload_n 1, 1) := by decide +kernel
theorem dL_isGrown_144 : decode cL_isGrown 144 = .ok (.iconst 2, 1) := by decide +kernel
theorem dL_isGrown_145 : decode cL_isGrown 145 = .ok (.invokevirtual 36, 3) := by decide +kernel
theorem dL_isGrown_148 : decode cL_isGrown 148 = .ok (.iconst 5, 1) := by decide +kernel
theorem dL_isGrown_149 : decode cL_isGrown 149 = .ok (.if_icmp .ge 27, 3) := by decide +kernel
theorem dL_isGrown_152 : decode cL_isGrown 152 = .ok (.aload_n 0, 1) := by decide +kernel
theorem dL_isGrown_153 : decode cL_isGrown 153 = .ok (.iload_n 1, 1) := by decide +kernel
theorem dL_isGrown_154 : decode cL_isGrown 154 = .ok (.bipush 9, 2) := by decide +kernel
theorem dL_isGrown_156 : decode cL_isGrown 156 = .ok (.invokevirtual 36, 3) := by decide +kernel
theorem dL_isGrown_159 : decode cL_isGrown 159 = .ok (.aload_n 0, 1) := by decide +kernel
theorem dL_isGrown_160 : decode cL_isGrown 160 = .ok (.iload_n 1, 1) := by decide +kernel
theorem dL_isGrown_161 : decode cL_isGrown 161 = .ok (.bipush 10, 2) := by decide +kernel
theorem dL_isGrown_163 : decode cL_isGrown 163 = .ok (.invokevirtual 36, 3) := by decide +kernel
theorem dL_isGrown_166 : decode cL_isGrown 166 = .ok (.iadd, 1) := by decide +kernel
theorem dL_isGrown_167 : decode cL_isGrown 167 = .ok (.iload 6, 2) := by decide +kernel
theorem dL_isGrown_169 : decode cL_isGrown 169 = .ok (.if_icmp .lt 7, 3) := by decide +kernel
theorem dL_isGrown_172 : decode cL_isGrown 172 = .ok (.iconst 1, 1) := by decide +kernel
theorem dL_isGrown_173 : decode cL_isGrown 173 = .ok (.goto 4, 3) := by decide +kernel
theorem dL_isGrown_176 : decode cL_isGrown 176 = .ok (.iconst 0, 1) := by decide +kernel
theorem dL_isGrown_177 : decode cL_isGrown 177 = .ok (.ireturn, 1) := by decide +kernel
theorem dL_isSold_0 : decode cL_isSold 0 = .ok (.aload_n 0, 1) := by decide +kernel
theorem dL_isSold_1 : decode cL_isSold 1 = .ok (.iload_n 1, 1) := by decide +kernel
theorem dL_isSold_2 : decode cL_isSold 2 = .ok (.invokevirtual 92, 3) := by decide +kernel
theorem dL_isSold_5 : decode cL_isSold 5 = .ok (.istore_n 2, 1) := by decide +kernel
theorem dL_isSold_6 : decode cL_isSold 6 = .ok (.aload_n 0, 1) := by decide +kernel
theorem dL_isSold_7 : decode cL_isSold 7 = .ok (.bipush 6, 2) := by decide +kernel
theorem dL_isSold_9 : decode cL_isSold 9 = .ok (.invokevirtual 25, 3) := by decide +kernel
theorem dL_isSold_12 : decode cL_isSold 12 = .ok (.istore_n 3, 1) := by decide +kernel
theorem dL_isSold_13 : decode cL_isSold 13 = .ok (.aload_n 0, 1) := by decide +kernel
theorem dL_isSold_14 : decode cL_isSold 14 = .ok (.bipush 10, 2) := by decide +kernel
theorem dL_isSold_16 : decode cL_isSold 16 = .ok (.invokevirtual 25, 3) := by decide +kernel
theorem dL_isSold_19 : decode cL_isSold 19 = .ok (.istore 4, 2) := by decide +kernel
theorem dL_isSold_21 : decode cL_isSold 21 = .ok (.aload_n 0, 1) := by decide +kernel
theorem dL_isSold_22 : decode cL_isSold 22 = .ok (.iload_n 1, 1) := by decide +kernel
theorem dL_isSold_23 : decode cL_isSold 23 = .ok (.iconst 1, 1) := by decide +kernel
theorem dL_isSold_24 : decode cL_isSold 24 = .ok (.invokevirtual 29, 3) := by decide +kernel
theorem dL_isSold_27 : decode cL_isSold 27 = .ok (.istore 5, 2) := by decide +kernel
theorem dL_isSold_29 : decode cL_isSold 29 = .ok (.aload_n 0, 1) := by decide +kernel
theorem dL_isSold_30 : decode cL_isSold 30 = .ok (.iload_n 1, 1) := by decide +kernel
theorem dL_isSold_31 : decode cL_isSold 31 = .ok (.invokevirtual 95, 3) := by decide +kernel
theorem dL_isSold_34 : decode cL_isSold 34 = .ok (.istore 6, 2) := by decide +kernel
theorem dL_isSold_36 : decode cL_isSold 36 = .ok (.aload_n 0, 1) := by decide +kernel
theorem dL_isSold_37 : decode cL_isSold 37 = .ok (.bipush 6, 2) := by decide +kernel
theorem dL_isSold_39 : decode cL_isSold 39 = .ok (.invokevirtual 25, 3) := by decide +kernel
theorem dL_isSold_42 : decode cL_isSold 42 = .ok (.iload_n 3, 1) := by decide +kernel
theorem dL_isSold_43 : decode cL_isSold 43 = .ok (.iload_n 2, 1) := by decide +kernel
theorem dL_isSold_44 : decode cL_isSold 44 = .ok (.iadd, 1) := by decide +kernel
theorem dL_isSold_45 : decode cL_isSold 45 = .ok (.if_icmp .ne 50, 3) := by decide +kernel
theorem dL_isSold_48 : decode cL_isSold 48 = .ok (.aload_n 0, 1) := by decide +kernel
theorem dL_isSold_49 : decode cL_isSold 49 = .ok (.iload_n 1, 1) := by decide +kernel
theorem dL_isSold_50 : decode cL_isSold 50 = .ok (.bipush 13, 2) := by decide +kernel
theorem dL_isSold_52 : decode cL_isSold 52 = .ok (.invokevirtual 29, 3) := by decide +kernel
theorem dL_isSold_55 : decode cL_isSold 55 = .ok (.ifCond .ne 40, 3) := by decide +kernel
theorem dL_isSold_58 : decode cL_isSold 58 = .ok (.iload 6, 2) := by decide +kernel
theorem dL_isSold_60 : decode cL_isSold 60 = .ok (.ifCond .lt 7, 3) := by decide +kernel
theorem dL_isSold_63 : decode cL_isSold 63 = .ok (.iconst 1, 1) := by decide +kernel
theorem dL_isSold_64 : decode cL_isSold 64 = .ok (.goto 4, 3) := by decide +kernel
theorem dL_isSold_67 : decode cL_isSold 67 = .ok (.iconst 0, 1) := by decide +kernel
theorem dL_isSold_68 : decode cL_isSold 68 = .ok (.aload_n 0, 1) := by decide +kernel
theorem dL_isSold_69 : decode cL_isSold 69 = .ok (.iload_n 1, 1) := by decide +kernel
theorem dL_isSold_70 : decode cL_isSold 70 = .ok (.iconst 0, 1) := by decide +kernel
theorem dL_isSold_71 : decode cL_isSold 71 = .ok (.invokevirtual 29, 3) := by decide +kernel
theorem dL_isSold_74 : decode cL_isSold 74 = .ok (.iconst 3, 1) := by decide +kernel
theorem dL_isSold_75 : decode cL_isSold 75 = .ok (.if_icmp .ne 7, 3) := by decide +kernel
theorem dL_isSold_78 : decode cL_isSold 78 = .ok (.iconst 1, 1) := by decide +kernel
theorem dL_isSold_79 : decode cL_isSold 79 = .ok (.goto 4, 3) := by decide +kernel
theorem dL_isSold_82 : decode cL_isSold 82 = .ok (.iconst 0, 1) := by decide +kernel
theorem dL_isSold_83 : decode cL_isSold 83 = .ok (.if_icmp .ne 12, 3) := by decide +kernel
theorem dL_isSold_86 : decode cL_isSold 86 = .ok (.iload 6, 2) := by decide +kernel
theorem dL_isSold_88 : decode cL_isSold 88 = .ok (.ifCond .ge 9, 3) := by decide +kernel
theorem dL_isSold_91 : decode cL_isSold 91 = .ok (.iload_n 2, 1) := by decide +kernel
theorem dL_isSold_92 : decode cL_isSold 92 = .ok (.ifCond .le 5, 3) := by decide +kernel
theorem dL_isSold_95 : decode cL_isSold 95 = .ok (.iconst 0, 1) := by decide +kernel
theorem dL_isSold_96 : decode cL_isSold 96 = .ok (.ireturn, 1) := by decide +kernel
theorem dL_isSold_97 : decode cL_isSold 97 = .ok (.iconst 0, 1) := by decide +kernel
theorem dL_isSold_98 : decode cL_isSold 98 = .ok (.istore 7, 2) := by decide +kernel
theorem dL_isSold_100 : decode cL_isSold 100 = .ok (.iload 7, 2) := by decide +kernel
theorem dL_isSold_102 : decode cL_isSold 102 = .ok (.iconst 4, 1) := by decide +kernel
theorem dL_isSold_103 : decode cL_isSold 103 = .ok (.if_icmp .ge 34, 3) := by decide +kernel
theorem dL_isSold_106 : decode cL_isSold 106 = .ok (.aload_n 0, 1) := by decide +kernel
theorem dL_isSold_107 : decode cL_isSold 107 = .ok (.iload 7, 2) := by decide +kernel
theorem dL_isSold_109 : decode cL_isSold 109 = .ok (.iload_n 1, 1) := by decide +kernel
theorem dL_isSold_110 : decode cL_isSold 110 = .ok (.invokevirtual 55, 3) := by decide +kernel
theorem dL_isSold_113 : decode cL_isSold 113 = .ok (.iconst (-1), 1) := by decide +kernel
theorem dL_isSold_114 : decode cL_isSold 114 = .ok (.if_icmp .ne 15, 3) := by decide +kernel
theorem dL_isSold_117 : decode cL_isSold 117 = .ok (.aload_n 0, 1) := by decide +kernel
theorem dL_isSold_118 : decode cL_isSold 118 = .ok (.bipush 11, 2) := by decide +kernel
theorem dL_isSold_120 : decode cL_isSold 120 = .ok (.iload 7, 2) := by decide +kernel
theorem dL_isSold_122 : decode cL_isSold 122 = .ok (.iadd, 1) := by decide +kernel
theorem dL_isSold_123 : decode cL_isSold 123 = .ok (.invokevirtual 25, 3) := by decide +kernel
theorem dL_isSold_126 : decode cL_isSold 126 = .ok (.ifCond .ge 5, 3) := by decide +kernel
theorem dL_isSold_129 : decode cL_isSold 129 = .ok (.iconst 0, 1) := by decide +kernel
theorem dL_isSold_130 : decode cL_isSold 130 = .ok (.ireturn, 1) := by decide +kernel
theorem dL_isSold_131 : decode cL_isSold 131 = .ok (.iinc 7 1, 3) := by decide +kernel
theorem dL_isSold_134 : decode cL_isSold 134 = .ok (.goto (-34), 3) := by decide +kernel
theorem dL_isSold_137 : decode cL_isSold 137 = .ok (.aload_n 0, 1) := by decide +kernel
theorem dL_isSold_138 : decode cL_isSold 138 = .ok (.bipush 10, 2) := by decide +kernel
theorem dL_isSold_140 : decode cL_isSold 140 = .ok (.invokevirtual 25, 3) := by decide +kernel
theorem dL_isSold_143 : decode cL_isSold 143 = .ok (.iload 4, 2) := by decide +kernel
theorem dL_isSold_145 : decode cL_isSold 145 = .ok (.iload 6, 2) := by decide +kernel
theorem dL_isSold_147 : decode cL_isSold 147 = .ok (.ifCond .ge 7, 3) := by decide +kernel
theorem dL_isSold_150 : decode cL_isSold 150 = .ok (.iconst 0, 1) := by decide +kernel
theorem dL_isSold_151 : decode cL_isSold 151 = .ok (.goto 5, 3) := by decide +kernel
theorem dL_isSold_154 : decode cL_isSold 154 = .ok (.iload 5, 2) := by decide +kernel
theorem dL_isSold_156 : decode cL_isSold 156 = .ok (.iadd, 1) := by decide +kernel
theorem dL_isSold_157 : decode cL_isSold 157 = .ok (.if_icmp .ne 7, 3) := by decide +kernel
theorem dL_isSold_160 : decode cL_isSold 160 = .ok (.iconst 1, 1) := by decide +kernel
theorem dL_isSold_161 : decode cL_isSold 161 = .ok (.goto 4, 3) := by decide +kernel
theorem dL_isSold_164 : decode cL_isSold 164 = .ok (.iconst 0, 1) := by decide +kernel
theorem dL_isSold_165 : decode cL_isSold 165 = .ok (.ireturn, 1) := by decide +kernel
theorem dL_isTold_0 : decode cL_isTold 0 = .ok (.aload_n 0, 1) := by decide +kernel
theorem dL_isTold_1 : decode cL_isTold 1 = .ok (.iload_n 1, 1) := by decide +kernel
theorem dL_isTold_2 : decode cL_isTold 2 = .ok (.iload_n 3, 1) := by decide +kernel
theorem dL_isTold_3 : decode cL_isTold 3 = .ok (.invokevirtual 98, 3) := by decide +kernel
theorem dL_isTold_6 : decode cL_isTold 6 = .ok (.bipush (-2), 2) := by decide +kernel
theorem dL_isTold_8 : decode cL_isTold 8 = .ok (.if_icmp .ge 5, 3) := by decide +kernel
theorem dL_isTold_11 : decode cL_isTold 11 = .ok (.iconst 0, 1) := by decide +kernel
theorem dL_isTold_12 : decode cL_isTold 12 = .ok (.ireturn, 1) := by decide +kernel
theorem dL_isTold_13 : decode cL_isTold 13 = .ok (.aload_n 0, 1) := by decide +kernel
theorem dL_isTold_14 : decode cL_isTold 14 = .ok (.iload_n 1, 1) := by decide +kernel
theorem dL_isTold_15 : decode cL_isTold 15 = .ok (.iconst 1, 1) := by decide +kernel
theorem dL_isTold_16 : decode cL_isTold 16 = .ok (.invokevirtual 101, 3) := by decide +kernel
theorem dL_isTold_19 : decode cL_isTold 19 = .ok (.istore 4, 2) := by decide +kernel
theorem dL_isTold_21 : decode cL_isTold 21 = .ok (.aload_n 0, 1) := by decide +kernel
theorem dL_isTold_22 : decode cL_isTold 22 = .ok (.iload_n 1, 1) := by decide +kernel
theorem dL_isTold_23 : decode cL_isTold 23 = .ok (.iload_n 2, 1) := by decide +kernel
theorem dL_isTold_24 : decode cL_isTold 24 = .ok (.invokevirtual 104, 3) := by decide +kernel
theorem dL_isTold_27 : decode cL_isTold 27 = .ok (.istore 5, 2) := by decide +kernel
theorem dL_isTold_29 : decode cL_isTold 29 = .ok (.aload_n 0, 1) := by decide +kernel
theorem dL_isTold_30 : decode cL_isTold 30 = .ok (.iload_n 1, 1) := by decide +kernel
theorem dL_isTold_31 : decode cL_isTold 31 = .ok (.iconst 1, 1) := by decide +kernel
theorem dL_isTold_32 : decode cL_isTold 32 = .ok (.invokevirtual 101, 3) := by decide +kernel
theorem dL_isTold_35 : decode cL_isTold 35 = .ok (.iload 4, 2) := by decide +kernel
theorem dL_isTold_37 : decode cL_isTold 37 = .ok (.iconst 1, 1) := by decide +kernel
theorem dL_isTold_38 : decode cL_isTold 38 = .ok (.iadd, 1) := by decide +kernel
theorem dL_isTold_39 : decode cL_isTold 39 = .ok (.if_icmp .ne 27, 3) := by decide +kernel
theorem dL_isTold_42 : decode cL_isTold 42 = .ok (.aload_n 0, 1) := by decide +kernel
theorem dL_isTold_43 : decode cL_isTold 43 = .ok (.iload_n 1, 1) := by decide +kernel
theorem dL_isTold_44 : decode cL_isTold 44 = .ok (.iconst 0, 1) := by decide +kernel
theorem dL_isTold_45 : decode cL_isTold 45 = .ok (.invokevirtual 101, 3) := by decide +kernel
theorem dL_isTold_48 : decode cL_isTold 48 = .ok (.iload 5, 2) := by decide +kernel
theorem dL_isTold_50 : decode cL_isTold 50 = .ok (.if_icmp .ne 16, 3) := by decide +kernel
theorem dL_isTold_53 : decode cL_isTold 53 = .ok (.iload 5, 2) := by decide +kernel
theorem dL_isTold_55 : decode cL_isTold 55 = .ok (.bipush (-2), 2) := by decide +kernel
theorem dL_isTold_57 : decode cL_isTold 57 = .ok (.if_icmp .lt 9, 3) := by decide +kernel
theorem dL_isTold_60 : decode cL_isTold 60 = .ok (.iload 5, 2) := by decide +kernel
theorem dL_isTold_62 : decode cL_isTold 62 = .ok (.iconst 2, 1) := by decide +kernel
theorem dL_isTold_63 : decode cL_isTold 63 = .ok (.if_icmp .le 5, 3) := by decide +kernel
theorem dL_isTold_66 : decode cL_isTold 66 = .ok (.iconst 0, 1) := by decide +kernel
theorem dL_isTold_67 : decode cL_isTold 67 = .ok (.ireturn, 1) := by decide +kernel
theorem dL_isTold_68 : decode cL_isTold 68 = .ok (.iconst 0, 1) := by decide +kernel
theorem dL_isTold_69 : decode cL_isTold 69 = .ok (.istore 6, 2) := by decide +kernel
theorem dL_isTold_71 : decode cL_isTold 71 = .ok (.iload 6, 2) := by decide +kernel
theorem dL_isTold_73 : decode cL_isTold 73 = .ok (.iconst 3, 1) := by decide +kernel
theorem dL_isTold_74 : decode cL_isTold 74 = .ok (.if_icmp .ge 55, 3) := by decide +kernel
theorem dL_isTold_77 : decode cL_isTold 77 = .ok (.aload_n 0, 1) := by decide +kernel
theorem dL_isTold_78 : decode cL_isTold 78 = .ok (.iload_n 2, 1) := by decide +kernel
theorem dL_isTold_79 : decode cL_isTold 79 = .ok (.iload 6, 2) := by decide +kernel
theorem dL_isTold_81 : decode cL_isTold 81 = .ok (.invokevirtual 107, 3) := by decide +kernel
theorem dL_isTold_84 : decode cL_isTold 84 = .ok (.ifCond .lt 37, 3) := by decide +kernel
theorem dL_isTold_87 : decode cL_isTold 87 = .ok (.aload_n 0, 1) := by decide +kernel
theorem dL_isTold_88 : decode cL_isTold 88 = .ok (.iload_n 2, 1) := by decide +kernel
theorem dL_isTold_89 : decode cL_isTold 89 = .ok (.iload 6, 2) := by decide +kernel
theorem dL_isTold_91 : decode cL_isTold 91 = .ok (.invokevirtual 107, 3) := by decide +kernel
theorem dL_isTold_94 : decode cL_isTold 94 = .ok (.bipush 9, 2) := by decide +kernel
theorem dL_isTold_96 : decode cL_isTold 96 = .ok (.if_icmp .gt 25, 3) := by decide +kernel
theorem dL_isTold_99 : decode cL_isTold 99 = .ok (.aload_n 0, 1) := by decide +kernel
theorem dL_isTold_100 : decode cL_isTold 100 = .ok (.iload_n 2, 1) := by decide +kernel
theorem dL_isTold_101 : decode cL_isTold 101 = .ok (.iload 6, 2) := by decide +kernel
theorem dL_isTold_103 : decode cL_isTold 103 = .ok (.invokevirtual 110, 3) := by decide +kernel
theorem dL_isTold_106 : decode cL_isTold 106 = .ok (.aload_n 0, 1) := by decide +kernel
theorem dL_isTold_107 : decode cL_isTold 107 = .ok (.iload_n 2, 1) := by decide +kernel
theorem dL_isTold_108 : decode cL_isTold 108 = .ok (.iload 6, 2) := by decide +kernel
theorem dL_isTold_110 : decode cL_isTold 110 = .ok (.invokevirtual 107, 3) := by decide +kernel
theorem dL_isTold_113 : decode cL_isTold 113 = .ok (.isub, 1) := by decide +kernel
theorem dL_isTold_114 : decode cL_isTold 114 = .ok (.invokestatic 113, 3) := by decide +kernel
theorem dL_isTold_117 : decode cL_isTold 117 = .ok (.iconst 4, 1) := by decide +kernel
theorem dL_isTold_118 : decode cL_isTold 118 = .ok (.if_icmp .le 5, 3) := by decide +kernel
theorem dL_isTold_121 : decode cL_isTold 121 = .ok (.iconst 0, 1) := by decide +kernel
theorem dL_isTold_122 : decode cL_isTold 122 = .ok (.ireturn, 1) := by decide +kernel
theorem dL_isTold_123 : decode cL_isTold 123 = .ok (.iinc 6 1, 3) := by decide +kernel
theorem dL_isTold_126 : decode cL_isTold 126 = .ok (.goto (-55), 3) := by decide +kernel
theorem dL_isTold_129 : decode cL_isTold 129 = .ok (.iconst 1, 1) := by decide +kernel
theorem dL_isTold_130 : decode cL_isTold 130 = .ok (.ireturn, 1) := by decide +kernel
theorem dL_isWorked_0 : decode cL_isWorked 0 = .ok (.aload_n 0, 1) := by decide +kernel
theorem dL_isWorked_1 : decode cL_isWorked 1 = .ok (.iload_n 1, 1) := by decide +kernel
theorem dL_isWorked_2 : decode cL_isWorked 2 = .ok (.iconst 1, 1) := by decide +kernel
theorem dL_isWorked_3 : decode cL_isWorked 3 = .ok (.invokevirtual 29, 3) := by decide +kernel
theorem dL_isWorked_6 : decode cL_isWorked 6 = .ok (.istore 5, 2) := by decide +kernel
theorem dL_isWorked_8 : decode cL_isWorked 8 = .ok (.iload_n 2, 1) := by decide +kernel
theorem dL_isWorked_9 : decode cL_isWorked 9 = .ok (.iconst 2, 1) := by decide +kernel
theorem dL_isWorked_10 : decode cL_isWorked 10 = .ok (.if_icmp .ge 20, 3) := by decide +kernel
theorem dL_isWorked_13 : decode cL_isWorked 13 = .ok (.aload_n 0, 1) := by decide +kernel
theorem dL_isWorked_14 : decode cL_isWorked 14 = .ok (.iload_n 1, 1) := by decide +kernel
theorem dL_isWorked_15 : decode cL_isWorked 15 = .ok (.iconst 3, 1) := by decide +kernel
theorem dL_isWorked_16 : decode cL_isWorked 16 = .ok (.invokevirtual 29, 3) := by decide +kernel
theorem dL_isWorked_19 : decode cL_isWorked 19 = .ok (.iconst 2, 1) := by decide +kernel
theorem dL_isWorked_20 : decode cL_isWorked 20 = .ok (.iload 5, 2) := by decide +kernel
theorem dL_isWorked_22 : decode cL_isWorked 22 = .ok (.imul, 1) := by decide +kernel
theorem dL_isWorked_23 : decode cL_isWorked 23 = .ok (.if_icmp .gt 7, 3) := by decide +kernel
theorem dL_isWorked_26 : decode cL_isWorked 26 = .ok (.iconst 1, 1) := by decide +kernel
theorem dL_isWorked_27 : decode cL_isWorked 27 = .ok (.goto 4, 3) := by decide +kernel
theorem dL_isWorked_30 : decode cL_isWorked 30 = .ok (.iconst 0, 1) := by decide +kernel
theorem dL_isWorked_31 : decode cL_isWorked 31 = .ok (.istore 6, 2) := by decide +kernel
theorem dL_isWorked_33 : decode cL_isWorked 33 = .ok (.iload_n 2, 1) := by decide +kernel
theorem dL_isWorked_34 : decode cL_isWorked 34 = .ok (.ifCond .ne 110, 3) := by decide +kernel
theorem dL_isWorked_37 : decode cL_isWorked 37 = .ok (.aload_n 0, 1) := by decide +kernel
theorem dL_isWorked_38 : decode cL_isWorked 38 = .ok (.iload_n 1, 1) := by decide +kernel
theorem dL_isWorked_39 : decode cL_isWorked 39 = .ok (.bipush 10, 2) := by decide +kernel
theorem dL_isWorked_41 : decode cL_isWorked 41 = .ok (.invokevirtual 29, 3) := by decide +kernel
theorem dL_isWorked_44 : decode cL_isWorked 44 = .ok (.ifCond .ne 100, 3) := by decide +kernel
theorem dL_isWorked_47 : decode cL_isWorked 47 = .ok (.iload 6, 2) := by decide +kernel
theorem dL_isWorked_49 : decode cL_isWorked 49 = .ok (.ifCond .ne 95, 3) := by decide +kernel
theorem dL_isWorked_52 : decode cL_isWorked 52 = .ok (.aload_n 0, 1) := by decide +kernel
theorem dL_isWorked_53 : decode cL_isWorked 53 = .ok (.iload_n 1, 1) := by decide +kernel
theorem dL_isWorked_54 : decode cL_isWorked 54 = .ok (.iconst 3, 1) := by decide +kernel
theorem dL_isWorked_55 : decode cL_isWorked 55 = .ok (.invokevirtual 29, 3) := by decide +kernel
theorem dL_isWorked_58 : decode cL_isWorked 58 = .ok (.istore 7, 2) := by decide +kernel
theorem dL_isWorked_60 : decode cL_isWorked 60 = .ok (.iload_n 3, 1) := by decide +kernel
theorem dL_isWorked_61 : decode cL_isWorked 61 = .ok (.iconst 5, 1) := by decide +kernel
theorem dL_isWorked_62 : decode cL_isWorked 62 = .ok (.invokestatic 18, 3) := by decide +kernel
theorem dL_isWorked_65 : decode cL_isWorked 65 = .ok (.ifCond .ne 35, 3) := by decide +kernel
theorem dL_isWorked_68 : decode cL_isWorked 68 = .ok (.aload_n 0, 1) := by decide +kernel
theorem dL_isWorked_69 : decode cL_isWorked 69 = .ok (.iload_n 1, 1) := by decide +kernel
theorem dL_isWorked_70 : decode cL_isWorked 70 = .ok (.invokevirtual 118, 3) := by decide +kernel
theorem dL_isWorked_73 : decode cL_isWorked 73 = .ok (.iload 7, 2) := by decide +kernel
theorem dL_isWorked_75 : decode cL_isWorked 75 = .ok (.iload 7, 2) := by decide +kernel
theorem dL_isWorked_77 : decode cL_isWorked 77 = .ok (.iconst 5, 1) := by decide +kernel
theorem dL_isWorked_78 : decode cL_isWorked 78 = .ok (.idiv, 1) := by decide +kernel
theorem dL_isWorked_79 : decode cL_isWorked 79 = .ok (.isub, 1) := by decide +kernel
theorem dL_isWorked_80 : decode cL_isWorked 80 = .ok (.if_icmp .ne 18, 3) := by decide +kernel
theorem dL_isWorked_83 : decode cL_isWorked 83 = .ok (.aload_n 0, 1) := by decide +kernel
theorem dL_isWorked_84 : decode cL_isWorked 84 = .ok (.iload_n 1, 1) := by decide +kernel
theorem dL_isWorked_85 : decode cL_isWorked 85 = .ok (.bipush 10, 2) := by decide +kernel
theorem dL_isWorked_87 : decode cL_isWorked 87 = .ok (.invokevirtual 29, 3) := by decide +kernel
theorem dL_isWorked_90 : decode cL_isWorked 90 = .ok (.iconst 1, 1) := by decide +kernel
theorem dL_isWorked_91 : decode cL_isWorked 91 = .ok (.if_icmp .ne 7, 3) := by decide +kernel
theorem dL_isWorked_94 : decode cL_isWorked 94 = .ok (.iconst 1, 1) := by decide +kernel
theorem dL_isWorked_95 : decode cL_isWorked 95 = .ok (.goto 4, 3) := by decide +kernel
theorem dL_isWorked_98 : decode cL_isWorked 98 = .ok (.iconst 0, 1) := by decide +kernel
theorem dL_isWorked_99 : decode cL_isWorked 99 = .ok (.ireturn, 1) := by decide +kernel
theorem dL_isWorked_100 : decode cL_isWorked 100 = .ok (.aload_n 0, 1) := by decide +kernel
theorem dL_isWorked_101 : decode cL_isWorked 101 = .ok (.iload_n 1, 1) := by decide +kernel
theorem dL_isWorked_102 : decode cL_isWorked 102 = .ok (.iconst 1, 1) := by decide +kernel
theorem dL_isWorked_103 : decode cL_isWorked 103 = .ok (.iload 4, 2) := by decide +kernel
theorem dL_isWorked_105 : decode cL_isWorked 105 = .ok (.iconst 4, 1) := by decide +kernel
theorem dL_isWorked_106 : decode cL_isWorked 106 = .ok (.invokestatic 18, 3) := by decide +kernel
theorem dL_isWorked_109 : decode cL_isWorked 109 = .ok (.iadd, 1) := by decide +kernel
theorem dL_isWorked_110 : decode cL_isWorked 110 = .ok (.iconst 1, 1) := by decide +kernel
theorem dL_isWorked_111 : decode cL_isWorked 111 = .ok (.iload_n 3, 1) := by decide +kernel
theorem dL_isWorked_112 : decode cL_isWorked 112 = .ok (.iconst 2, 1) := by decide +kernel
theorem dL_isWorked_113 : decode cL_isWorked 113 = .ok (.ishr, 1) := by decide +kernel
theorem dL_isWorked_114 : decode cL_isWorked 114 = .ok (.iconst 3, 1) := by decide +kernel
theorem dL_isWorked_115 : decode cL_isWorked 115 = .ok (.invokestatic 18, 3) := by decide +kernel
theorem dL_isWorked_118 : decode cL_isWorked 118 = .ok (.iadd, 1) := by decide +kernel
theorem dL_isWorked_119 : decode cL_isWorked 119 = .ok (.invokevirtual 121, 3) := by decide +kernel
theorem dL_isWorked_122 : decode cL_isWorked 122 = .ok (.iload 7, 2) := by decide +kernel
theorem dL_isWorked_124 : decode cL_isWorked 124 = .ok (.if_icmp .ge 18, 3) := by decide +kernel
theorem dL_isWorked_127 : decode cL_isWorked 127 = .ok (.aload_n 0, 1) := by decide +kernel
theorem dL_isWorked_128 : decode cL_isWorked 128 = .ok (.iload_n 1, 1) := by decide +kernel
theorem dL_isWorked_129 : decode cL_isWorked 129 = .ok (.iconst 3, 1) := by decide +kernel
theorem dL_isWorked_130 : decode cL_isWorked 130 = .ok (.invokevirtual 29, 3) := by decide +kernel
theorem dL_isWorked_133 : decode cL_isWorked 133 = .ok (.iload 5, 2) := by decide +kernel
theorem dL_isWorked_135 : decode cL_isWorked 135 = .ok (.if_icmp .lt 7, 3) := by decide +kernel
theorem dL_isWorked_138 : decode cL_isWorked 138 = .ok (.iconst 1, 1) := by decide +kernel
theorem dL_isWorked_139 : decode cL_isWorked 139 = .ok (.goto 4, 3) := by decide +kernel
theorem dL_isWorked_142 : decode cL_isWorked 142 = .ok (.iconst 0, 1) := by decide +kernel
theorem dL_isWorked_143 : decode cL_isWorked 143 = .ok (.ireturn, 1) := by decide +kernel
theorem dL_isWorked_144 : decode cL_isWorked 144 = .ok (.iload 6, 2) := by decide +kernel
theorem dL_isWorked_146 : decode cL_isWorked 146 = .ok (.ifCond .eq 64, 3) := by decide +kernel
theorem dL_isWorked_149 : decode cL_isWorked 149 = .ok (.iload_n 2, 1) := by decide +kernel
theorem dL_isWorked_150 : decode cL_isWorked 150 = .ok (.ifCond .eq 11, 3) := by decide +kernel
theorem dL_isWorked_153 : decode cL_isWorked 153 = .ok (.iload_n 3, 1) := by decide +kernel
theorem dL_isWorked_154 : decode cL_isWorked 154 = .ok (.iconst 3, 1) := by decide +kernel
theorem dL_isWorked_155 : decode cL_isWorked 155 = .ok (.invokestatic 18, 3) := by decide +kernel
theorem dL_isWorked_158 : decode cL_isWorked 158 = .ok (.ifCond .ne 52, 3) := by decide +kernel
theorem dL_isWorked_161 : decode cL_isWorked 161 = .ok (.aload_n 0, 1) := by decide +kernel
theorem dL_isWorked_162 : decode cL_isWorked 162 = .ok (.iload_n 1, 1) := by decide +kernel
theorem dL_isWorked_163 : decode cL_isWorked 163 = .ok (.iconst 5, 1) := by decide +kernel
theorem dL_isWorked_164 : decode cL_isWorked 164 = .ok (.invokevirtual 29, 3) := by decide +kernel
theorem dL_isWorked_167 : decode cL_isWorked 167 = .ok (.istore 7, 2) := by decide +kernel
theorem dL_isWorked_169 : decode cL_isWorked 169 = .ok (.iconst 1, 1) := by decide +kernel
theorem dL_isWorked_170 : decode cL_isWorked 170 = .ok (.iload 4, 2) := by decide +kernel
theorem dL_isWorked_172 : decode cL_isWorked 172 = .ok (.iconst 5, 1) := by decide +kernel
theorem dL_isWorked_173 : decode cL_isWorked 173 = .ok (.invokestatic 18, 3) := by decide +kernel
theorem dL_isWorked_176 : decode cL_isWorked 176 = .ok (.iadd, 1) := by decide +kernel
theorem dL_isWorked_177 : decode cL_isWorked 177 = .ok (.istore 8, 2) := by decide +kernel
theorem dL_isWorked_179 : decode cL_isWorked 179 = .ok (.aload_n 0, 1) := by decide +kernel
theorem dL_isWorked_180 : decode cL_isWorked 180 = .ok (.iload_n 1, 1) := by decide +kernel
theorem dL_isWorked_181 : decode cL_isWorked 181 = .ok (.iload 8, 2) := by decide +kernel
theorem dL_isWorked_183 : decode cL_isWorked 183 = .ok (.invokevirtual 124, 3) := by decide +kernel
theorem dL_isWorked_186 : decode cL_isWorked 186 = .ok (.iload 7, 2) := by decide +kernel
theorem dL_isWorked_188 : decode cL_isWorked 188 = .ok (.iload 8, 2) := by decide +kernel
theorem dL_isWorked_190 : decode cL_isWorked 190 = .ok (.iadd, 1) := by decide +kernel
theorem dL_isWorked_191 : decode cL_isWorked 191 = .ok (.if_icmp .ne 17, 3) := by decide +kernel
theorem dL_isWorked_194 : decode cL_isWorked 194 = .ok (.aload_n 0, 1) := by decide +kernel
theorem dL_isWorked_195 : decode cL_isWorked 195 = .ok (.iload_n 1, 1) := by decide +kernel
theorem dL_isWorked_196 : decode cL_isWorked 196 = .ok (.iconst 0, 1) := by decide +kernel
theorem dL_isWorked_197 : decode cL_isWorked 197 = .ok (.invokevirtual 29, 3) := by decide +kernel
theorem dL_isWorked_200 : decode cL_isWorked 200 = .ok (.iconst 1, 1) := by decide +kernel
theorem dL_isWorked_201 : decode cL_isWorked 201 = .ok (.if_icmp .ne 7, 3) := by decide +kernel
theorem dL_isWorked_204 : decode cL_isWorked 204 = .ok (.iconst 1, 1) := by decide +kernel
theorem dL_isWorked_205 : decode cL_isWorked 205 = .ok (.goto 4, 3) := by decide +kernel
theorem dL_isWorked_208 : decode cL_isWorked 208 = .ok (.iconst 0, 1) := by decide +kernel
theorem dL_isWorked_209 : decode cL_isWorked 209 = .ok (.ireturn, 1) := by decide +kernel
theorem dL_isWorked_210 : decode cL_isWorked 210 = .ok (.iload_n 2, 1) := by decide +kernel
theorem dL_isWorked_211 : decode cL_isWorked 211 = .ok (.iconst 1, 1) := by decide +kernel
theorem dL_isWorked_212 : decode cL_isWorked 212 = .ok (.if_icmp .ne 151, 3) := by decide +kernel
theorem dL_isWorked_215 : decode cL_isWorked 215 = .ok (.aload_n 0, 1) := by decide +kernel
theorem dL_isWorked_216 : decode cL_isWorked 216 = .ok (.iload_n 1, 1) := by decide +kernel
theorem dL_isWorked_217 : decode cL_isWorked 217 = .ok (.bipush 10, 2) := by decide +kernel
theorem dL_isWorked_219 : decode cL_isWorked 219 = .ok (.invokevirtual 29, 3) := by decide +kernel
theorem dL_isWorked_222 : decode cL_isWorked 222 = .ok (.ifCond .ne 46, 3) := by decide +kernel
theorem dL_isWorked_225 : decode cL_isWorked 225 = .ok (.iload_n 3, 1) := by decide +kernel
theorem dL_isWorked_226 : decode cL_isWorked 226 = .ok (.iconst 3, 1) := by decide +kernel
theorem dL_isWorked_227 : decode cL_isWorked 227 = .ok (.invokestatic 18, 3) := by decide +kernel
theorem dL_isWorked_230 : decode cL_isWorked 230 = .ok (.iconst 1, 1) := by decide +kernel
theorem dL_isWorked_231 : decode cL_isWorked 231 = .ok (.if_icmp .ne 37, 3) := by decide +kernel
theorem dL_isWorked_234 : decode cL_isWorked 234 = .ok (.aload_n 0, 1) := by decide +kernel
theorem dL_isWorked_235 : decode cL_isWorked 235 = .ok (.iload_n 1, 1) := by decide +kernel
theorem dL_isWorked_236 : decode cL_isWorked 236 = .ok (.iconst 1, 1) := by decide +kernel
theorem dL_isWorked_237 : decode cL_isWorked 237 = .ok (.iload 4, 2) := by decide +kernel
theorem dL_isWorked_239 : decode cL_isWorked 239 = .ok (.bipush 9, 2) := by decide +kernel
theorem dL_isWorked_241 : decode cL_isWorked 241 = .ok (.invokestatic 18, 3) := by decide +kernel
theorem dL_isWorked_244 : decode cL_isWorked 244 = .ok (.iadd, 1) := by decide +kernel
theorem dL_isWorked_245 : decode cL_isWorked 245 = .ok (.iconst 1, 1) := by decide +kernel
theorem dL_isWorked_246 : decode cL_isWorked 246 = .ok (.iload_n 3, 1) := by decide +kernel
theorem dL_isWorked_247 : decode cL_isWorked 247 = .ok (.iconst 2, 1) := by decide +kernel
theorem dL_isWorked_248 : decode cL_isWorked 248 = .ok (.ishr, 1) := by decide +kernel
theorem dL_isWorked_249 : decode cL_isWorked 249 = .ok (.iconst 4, 1) := by decide +kernel
theorem dL_isWorked_250 : decode cL_isWorked 250 = .ok (.invokestatic 18, 3) := by decide +kernel
theorem dL_isWorked_253 : decode cL_isWorked 253 = .ok (.iadd, 1) := by decide +kernel
theorem dL_isWorked_254 : decode cL_isWorked 254 = .ok (.invokevirtual 127, 3) := by decide +kernel
theorem dL_isWorked_257 : decode cL_isWorked 257 = .ok (.bipush 60, 2) := by decide +kernel
theorem dL_isWorked_259 : decode cL_isWorked 259 = .ok (.if_icmp .gt 7, 3) := by decide +kernel
theorem dL_isWorked_262 : decode cL_isWorked 262 = .ok (.iconst 1, 1) := by decide +kernel
theorem dL_isWorked_263 : decode cL_isWorked 263 = .ok (.goto 4, 3) := by decide +kernel
theorem dL_isWorked_266 : decode cL_isWorked 266 = .ok (.iconst 0, 1) := by decide +kernel
theorem dL_isWorked_267 : decode cL_isWorked 267 = .ok (.ireturn, 1) := by decide +kernel
theorem dL_isWorked_268 : decode cL_isWorked 268 = .ok (.aload_n 0, 1) := by decide +kernel
theorem dL_isWorked_269 : decode cL_isWorked 269 = .ok (.iload_n 1, 1) := by decide +kernel
theorem dL_isWorked_270 : decode cL_isWorked 270 = .ok (.invokevirtual 130, 3) := by decide +kernel
theorem dL_isWorked_273 : decode cL_isWorked 273 = .ok (.istore 7, 2) := by decide +kernel
theorem dL_isWorked_275 : decode cL_isWorked 275 = .ok (.iload 7, 2) := by decide +kernel
theorem dL_isWorked_277 : decode cL_isWorked 277 = .ok (.ifCond .ge 20, 3) := by decide +kernel
theorem dL_isWorked_280 : decode cL_isWorked 280 = .ok (.aload_n 0, 1) := by decide +kernel
theorem dL_isWorked_281 : decode cL_isWorked 281 = .ok (.iload_n 1, 1) := by decide +kernel
theorem dL_isWorked_282 : decode cL_isWorked 282 = .ok (.iconst 5, 1) := by decide +kernel
theorem dL_isWorked_283 : decode cL_isWorked 283 = .ok (.bipush 30, 2) := by decide +kernel
theorem dL_isWorked_285 : decode cL_isWorked 285 = .ok (.invokevirtual 133, 3) := by decide +kernel
theorem dL_isWorked_288 : decode cL_isWorked 288 = .ok (.ifCond .lt 7, 3) := by decide +kernel
theorem dL_isWorked_291 : decode cL_isWorked 291 = .ok (.iconst 1, 1) := by decide +kernel
theorem dL_isWorked_292 : decode cL_isWorked 292 = .ok (.goto 4, 3) := by decide +kernel
theorem dL_isWorked_295 : decode cL_isWorked 295 = .ok (.iconst 0, 1) := by decide +kernel
theorem dL_isWorked_296 : decode cL_isWorked 296 = .ok (.ireturn, 1) := by decide +kernel
theorem dL_isWorked_297 : decode cL_isWorked 297 = .ok (.aload_n 0, 1) := by decide +kernel
theorem dL_isWorked_298 : decode cL_isWorked 298 = .ok (.iload_n 1, 1) := by decide +kernel
theorem dL_isWorked_299 : decode cL_isWorked 299 = .ok (.iload 7, 2) := by decide +kernel
theorem dL_isWorked_301 : decode cL_isWorked 301 = .ok (.bipush 100, 2) := by decide +kernel
theorem dL_isWorked_303 : decode cL_isWorked 303 = .ok (.idiv, 1) := by decide +kernel
theorem dL_isWorked_304 : decode cL_isWorked 304 = .ok (.iload 7, 2) := by decide +kernel
theorem dL_isWorked_306 : decode cL_isWorked 306 = .ok (.bipush 100, 2) := by decide +kernel
theorem dL_isWorked_308 : decode cL_isWorked 308 = .ok (.irem, 1) := by decide +kernel
theorem dL_isWorked_309 : decode cL_isWorked 309 = .ok (.invokevirtual 133, 3) := by decide +kernel
theorem dL_isWorked_312 : decode cL_isWorked 312 = .ok (.bipush 20, 2) := by decide +kernel
theorem dL_isWorked_314 : decode cL_isWorked 314 = .ok (.imul, 1) := by decide +kernel
theorem dL_isWorked_315 : decode cL_isWorked 315 = .ok (.iload 5, 2) := by decide +kernel
theorem dL_isWorked_317 : decode cL_isWorked 317 = .ok (.if_icmp .gt 13, 3) := by decide +kernel
theorem dL_isWorked_320 : decode cL_isWorked 320 = .ok (.aload_n 0, 1) := by decide +kernel
theorem dL_isWorked_321 : decode cL_isWorked 321 = .ok (.iload_n 1, 1) := by decide +kernel
theorem dL_isWorked_322 : decode cL_isWorked 322 = .ok (.iconst 0, 1) := by decide +kernel
theorem dL_isWorked_323 : decode cL_isWorked 323 = .ok (.invokevirtual 29, 3) := by decide +kernel
theorem dL_isWorked_326 : decode cL_isWorked 326 = .ok (.iconst 2, 1) := by decide +kernel
theorem dL_isWorked_327 : decode cL_isWorked 327 = .ok (.if_icmp .eq 5, 3) := by decide +kernel
theorem dL_isWorked_330 : decode cL_isWorked 330 = .ok (.iconst 0, 1) := by decide +kernel
theorem dL_isWorked_331 : decode cL_isWorked 331 = .ok (.ireturn, 1) := by decide +kernel
theorem dL_isWorked_332 : decode cL_isWorked 332 = .ok (.aload_n 0, 1) := by decide +kernel
theorem dL_isWorked_333 : decode cL_isWorked 333 = .ok (.iload_n 1, 1) := by decide +kernel
theorem dL_isWorked_334 : decode cL_isWorked 334 = .ok (.iconst 0, 1) := by decide +kernel
theorem dL_isWorked_335 : decode cL_isWorked 335 = .ok (.invokevirtual 107, 3) := by decide +kernel
theorem dL_isWorked_338 : decode cL_isWorked 338 = .ok (.aload_n 0, 1) := by decide +kernel
theorem dL_isWorked_339 : decode cL_isWorked 339 = .ok (.iload_n 1, 1) := by decide +kernel
theorem dL_isWorked_340 : decode cL_isWorked 340 = .ok (.iconst 1, 1) := by decide +kernel
theorem dL_isWorked_341 : decode cL_isWorked 341 = .ok (.invokevirtual 107, 3) := by decide +kernel
theorem dL_isWorked_344 : decode cL_isWorked 344 = .ok (.iadd, 1) := by decide +kernel
theorem dL_isWorked_345 : decode cL_isWorked 345 = .ok (.aload_n 0, 1) := by decide +kernel
theorem dL_isWorked_346 : decode cL_isWorked 346 = .ok (.iload_n 1, 1) := by decide +kernel
theorem dL_isWorked_347 : decode cL_isWorked 347 = .ok (.iconst 2, 1) := by decide +kernel
theorem dL_isWorked_348 : decode cL_isWorked 348 = .ok (.invokevirtual 107, 3) := by decide +kernel
theorem dL_isWorked_351 : decode cL_isWorked 351 = .ok (.iadd, 1) := by decide +kernel
theorem dL_isWorked_352 : decode cL_isWorked 352 = .ok (.bipush 27, 2) := by decide +kernel
theorem dL_isWorked_354 : decode cL_isWorked 354 = .ok (.if_icmp .gt 7, 3) := by decide +kernel
theorem dL_isWorked_357 : decode cL_isWorked 357 = .ok (.iconst 1, 1) := by decide +kernel
theorem dL_isWorked_358 : decode cL_isWorked 358 = .ok (.goto 4, 3) := by decide +kernel
theorem dL_isWorked_361 : decode cL_isWorked 361 = .ok (.iconst 0, 1) := by decide +kernel
theorem dL_isWorked_362 : decode cL_isWorked 362 = .ok (.ireturn, 1) := by decide +kernel
theorem dL_isWorked_363 : decode cL_isWorked 363 = .ok (.iload_n 2, 1) := by decide +kernel
theorem dL_isWorked_364 : decode cL_isWorked 364 = .ok (.iconst 2, 1) := by decide +kernel
theorem dL_isWorked_365 : decode cL_isWorked 365 = .ok (.if_icmp .ne 13, 3) := by decide +kernel
theorem dL_isWorked_368 : decode cL_isWorked 368 = .ok (.aload_n 0, 1) := by decide +kernel
theorem dL_isWorked_369 : decode cL_isWorked 369 = .ok (.iload_n 1, 1) := by decide +kernel
theorem dL_isWorked_370 : decode cL_isWorked 370 = .ok (.bipush 13, 2) := by decide +kernel
theorem dL_isWorked_372 : decode cL_isWorked 372 = .ok (.invokevirtual 29, 3) := by decide +kernel
theorem dL_isWorked_375 : decode cL_isWorked 375 = .ok (.ifCond .le 5, 3) := by decide +kernel
theorem dL_isWorked_378 : decode cL_isWorked 378 = .ok (.iconst 1, 1) := by decide +kernel
theorem dL_isWorked_379 : decode cL_isWorked 379 = .ok (.ireturn, 1) := by decide +kernel
theorem dL_isWorked_380 : decode cL_isWorked 380 = .ok (.aload_n 0, 1) := by decide +kernel
theorem dL_isWorked_381 : decode cL_isWorked 381 = .ok (.iload_n 1, 1) := by decide +kernel
theorem dL_isWorked_382 : decode cL_isWorked 382 = .ok (.bipush 9, 2) := by decide +kernel
theorem dL_isWorked_384 : decode cL_isWorked 384 = .ok (.invokevirtual 29, 3) := by decide +kernel
theorem dL_isWorked_387 : decode cL_isWorked 387 = .ok (.ifCond .ge 55, 3) := by decide +kernel
theorem dL_isWorked_390 : decode cL_isWorked 390 = .ok (.aload_n 0, 1) := by decide +kernel
theorem dL_isWorked_391 : decode cL_isWorked 391 = .ok (.iload_n 1, 1) := by decide +kernel
theorem dL_isWorked_392 : decode cL_isWorked 392 = .ok (.bipush 12, 2) := by decide +kernel
theorem dL_isWorked_394 : decode cL_isWorked 394 = .ok (.invokevirtual 29, 3) := by decide +kernel
theorem dL_isWorked_397 : decode cL_isWorked 397 = .ok (.ifCond .ne 45, 3) := by decide +kernel
theorem dL_isWorked_400 : decode cL_isWorked 400 = .ok (.aload_n 0, 1) := by decide +kernel
theorem dL_isWorked_401 : decode cL_isWorked 401 = .ok (.iconst 2, 1) := by decide +kernel
theorem dL_isWorked_402 : decode cL_isWorked 402 = .ok (.invokevirtual 25, 3) := by decide +kernel
theorem dL_isWorked_405 : decode cL_isWorked 405 = .ok (.bipush 14, 2) := by decide +kernel
theorem dL_isWorked_407 : decode cL_isWorked 407 = .ok (.if_icmp .ge 35, 3) := by decide +kernel
theorem dL_isWorked_410 : decode cL_isWorked 410 = .ok (.iload_n 3, 1) := by decide +kernel
theorem dL_isWorked_411 : decode cL_isWorked 411 = .ok (.iconst 2, 1) := by decide +kernel
theorem dL_isWorked_412 : decode cL_isWorked 412 = .ok (.invokestatic 18, 3) := by decide +kernel
theorem dL_isWorked_415 : decode cL_isWorked 415 = .ok (.ifCond .ne 27, 3) := by decide +kernel
theorem dL_isWorked_418 : decode cL_isWorked 418 = .ok (.aload_n 0, 1) := by decide +kernel
theorem dL_isWorked_419 : decode cL_isWorked 419 = .ok (.iload_n 1, 1) := by decide +kernel
theorem dL_isWorked_420 : decode cL_isWorked 420 = .ok (.invokevirtual 136, 3) := by decide +kernel
theorem dL_isWorked_423 : decode cL_isWorked 423 = .ok (.ifCond .le 17, 3) := by decide +kernel
theorem dL_isWorked_426 : decode cL_isWorked 426 = .ok (.aload_n 0, 1) := by decide +kernel
theorem dL_isWorked_427 : decode cL_isWorked 427 = .ok (.iload_n 1, 1) := by decide +kernel
theorem dL_isWorked_428 : decode cL_isWorked 428 = .ok (.iconst 0, 1) := by decide +kernel
theorem dL_isWorked_429 : decode cL_isWorked 429 = .ok (.invokevirtual 29, 3) := by decide +kernel
theorem dL_isWorked_432 : decode cL_isWorked 432 = .ok (.iconst 3, 1) := by decide +kernel
theorem dL_isWorked_433 : decode cL_isWorked 433 = .ok (.if_icmp .ne 7, 3) := by decide +kernel
theorem dL_isWorked_436 : decode cL_isWorked 436 = .ok (.iconst 1, 1) := by decide +kernel
theorem dL_isWorked_437 : decode cL_isWorked 437 = .ok (.goto 4, 3) := by decide +kernel
theorem dL_isWorked_440 : decode cL_isWorked 440 = .ok (.iconst 0, 1) := by decide +kernel
theorem dL_isWorked_441 : decode cL_isWorked 441 = .ok (.ireturn, 1) := by decide +kernel
theorem dL_isWorked_442 : decode cL_isWorked 442 = .ok (.iload 4, 2) := by decide +kernel
theorem dL_isWorked_444 : decode cL_isWorked 444 = .ok (.aload_n 0, 1) := by decide +kernel
theorem dL_isWorked_445 : decode cL_isWorked 445 = .ok (.iconst 2, 1) := by decide +kernel
theorem dL_isWorked_446 : decode cL_isWorked 446 = .ok (.invokevirtual 25, 3) := by decide +kernel
theorem dL_isWorked_449 : decode cL_isWorked 449 = .ok (.invokestatic 18, 3) := by decide +kernel
theorem dL_isWorked_452 : decode cL_isWorked 452 = .ok (.istore 7, 2) := by decide +kernel
theorem dL_isWorked_454 : decode cL_isWorked 454 = .ok (.iload 7, 2) := by decide +kernel
theorem dL_isWorked_456 : decode cL_isWorked 456 = .ok (.iload_n 1, 1) := by decide +kernel
theorem dL_isWorked_457 : decode cL_isWorked 457 = .ok (.if_icmp .eq 35, 3) := by decide +kernel
theorem dL_isWorked_460 : decode cL_isWorked 460 = .ok (.aload_n 0, 1) := by decide +kernel
theorem dL_isWorked_461 : decode cL_isWorked 461 = .ok (.iload 7, 2) := by decide +kernel
theorem dL_isWorked_463 : decode cL_isWorked 463 = .ok (.iconst 0, 1) := by decide +kernel
theorem dL_isWorked_464 : decode cL_isWorked 464 = .ok (.invokevirtual 29, 3) := by decide +kernel
theorem dL_isWorked_467 : decode cL_isWorked 467 = .ok (.iconst 2, 1) := by decide +kernel
theorem dL_isWorked_468 : decode cL_isWorked 468 = .ok (.if_icmp .ne 24, 3) := by decide +kernel
theorem dL_isWorked_471 : decode cL_isWorked 471 = .ok (.aload_n 0, 1) := by decide +kernel
theorem dL_isWorked_472 : decode cL_isWorked 472 = .ok (.iload 7, 2) := by decide +kernel
theorem dL_isWorked_474 : decode cL_isWorked 474 = .ok (.bipush 13, 2) := by decide +kernel
theorem dL_isWorked_476 : decode cL_isWorked 476 = .ok (.invokevirtual 29, 3) := by decide +kernel
theorem dL_isWorked_479 : decode cL_isWorked 479 = .ok (.ifCond .gt 13, 3) := by decide +kernel
theorem dL_isWorked_482 : decode cL_isWorked 482 = .ok (.aload_n 0, 1) := by decide +kernel
theorem dL_isWorked_483 : decode cL_isWorked 483 = .ok (.iconst 2, 1) := by decide +kernel
theorem dL_isWorked_484 : decode cL_isWorked 484 = .ok (.invokevirtual 25, 3) := by decide +kernel
theorem dL_isWorked_487 : decode cL_isWorked 487 = .ok (.bipush 16, 2) := by decide +kernel
theorem dL_isWorked_489 : decode cL_isWorked 489 = .ok (.if_icmp .ne 5, 3) := by decide +kernel
theorem dL_isWorked_492 : decode cL_isWorked 492 = .ok (.iconst 1, 1) := by decide +kernel
theorem dL_isWorked_493 : decode cL_isWorked 493 = .ok (.ireturn, 1) := by decide +kernel
theorem dL_isWorked_494 : decode cL_isWorked 494 = .ok (.iconst 1, 1) := by decide +kernel
theorem dL_isWorked_495 : decode cL_isWorked 495 = .ok (.iload_n 3, 1) := by decide +kernel
theorem dL_isWorked_496 : decode cL_isWorked 496 = .ok (.iconst 2, 1) := by decide +kernel
theorem dL_isWorked_497 : decode cL_isWorked 497 = .ok (.ishr, 1) := by decide +kernel
theorem dL_isWorked_498 : decode cL_isWorked 498 = .ok (.iload 5, 2) := by decide +kernel
theorem dL_isWorked_500 : decode cL_isWorked 500 = .ok (.invokestatic 18, 3) := by decide +kernel
theorem dL_isWorked_503 : decode cL_isWorked 503 = .ok (.iadd, 1) := by decide +kernel
theorem dL_isWorked_504 : decode cL_isWorked 504 = .ok (.istore 8, 2) := by decide +kernel
theorem dL_isWorked_506 : decode cL_isWorked 506 = .ok (.iconst 1, 1) := by decide +kernel
theorem dL_isWorked_507 : decode cL_isWorked 507 = .ok (.iload_n 3, 1) := by decide +kernel
theorem dL_isWorked_508 : decode cL_isWorked 508 = .ok (.iconst 5, 1) := by decide +kernel
theorem dL_isWorked_509 : decode cL_isWorked 509 = .ok (.ishr, 1) := by decide +kernel
theorem dL_isWorked_510 : decode cL_isWorked 510 = .ok (.aload_n 0, 1) := by decide +kernel
theorem dL_isWorked_511 : decode cL_isWorked 511 = .ok (.iload 7, 2) := by decide +kernel
theorem dL_isWorked_513 : decode cL_isWorked 513 = .ok (.iconst 1, 1) := by decide +kernel
theorem dL_isWorked_514 : decode cL_isWorked 514 = .ok (.invokevirtual 29, 3) := by decide +kernel
theorem dL_isWorked_517 : decode cL_isWorked 517 = .ok (.invokestatic 18, 3) := by decide +kernel
theorem dL_isWorked_520 : decode cL_isWorked 520 = .ok (.iadd, 1) := by decide +kernel
theorem dL_isWorked_521 : decode cL_isWorked 521 = .ok (.istore 9, 2) := by decide +kernel
theorem dL_isWorked_523 : decode cL_isWorked 523 = .ok (.bipush 6, 2) := by decide +kernel
theorem dL_isWorked_525 : decode cL_isWorked 525 = .ok (.newarray .int, 2) := by decide +kernel
theorem dL_isWorked_527 : decode cL_isWorked 527 = .ok (.astore 10, 2) := by decide +kernel
theorem dL_isWorked_529 : decode cL_isWorked 529 = .ok (.iconst 0, 1) := by decide +kernel
theorem dL_isWorked_530 : decode cL_isWorked 530 = .ok (.istore 11, 2) := by decide +kernel
theorem dL_isWorked_532 : decode cL_isWorked 532 = .ok (.iload 11, 2) := by decide +kernel
theorem dL_isWorked_534 : decode cL_isWorked 534 = .ok (.iconst 3, 1) := by decide +kernel
theorem dL_isWorked_535 : decode cL_isWorked 535 = .ok (.if_icmp .ge 57, 3) := by decide +kernel
theorem dL_isWorked_538 : decode cL_isWorked 538 = .ok (.aload 10, 2) := by decide +kernel
theorem dL_isWorked_540 : decode cL_isWorked 540 = .ok (.iload 11, 2) := by decide +kernel
theorem dL_isWorked_542 : decode cL_isWorked 542 = .ok (.aload_n 0, 1) := by decide +kernel
theorem dL_isWorked_543 : decode cL_isWorked 543 = .ok (.iload_n 1, 1) := by decide +kernel
theorem dL_isWorked_544 : decode cL_isWorked 544 = .ok (.iload 11, 2) := by decide +kernel
theorem dL_isWorked_546 : decode cL_isWorked 546 = .ok (.invokevirtual 107, 3) := by decide +kernel
theorem dL_isWorked_549 : decode cL_isWorked 549 = .ok (.aload_n 0, 1) := by decide +kernel
theorem dL_isWorked_550 : decode cL_isWorked 550 = .ok (.iload 7, 2) := by decide +kernel
theorem dL_isWorked_552 : decode cL_isWorked 552 = .ok (.iload 11, 2) := by decide +kernel
theorem dL_isWorked_554 : decode cL_isWorked 554 = .ok (.invokevirtual 107, 3) := by decide +kernel
theorem dL_isWorked_557 : decode cL_isWorked 557 = .ok (.invokestatic 139, 3) := by decide +kernel
theorem dL_isWorked_560 : decode cL_isWorked 560 = .ok (.iastore, 1) := by decide +kernel
theorem dL_isWorked_561 : decode cL_isWorked 561 = .ok (.aload 10, 2) := by decide +kernel
theorem dL_isWorked_563 : decode cL_isWorked 563 = .ok (.iconst 3, 1) := by decide +kernel
theorem dL_isWorked_564 : decode cL_isWorked 564 = .ok (.iload 11, 2) := by decide +kernel
theorem dL_isWorked_566 : decode cL_isWorked 566 = .ok (.iadd, 1) := by decide +kernel
theorem dL_isWorked_567 : decode cL_isWorked 567 = .ok (.aload_n 0, 1) := by decide +kernel
theorem dL_isWorked_568 : decode cL_isWorked 568 = .ok (.iload_n 1, 1) := by decide +kernel
theorem dL_isWorked_569 : decode cL_isWorked 569 = .ok (.iload 11, 2) := by decide +kernel
theorem dL_isWorked_571 : decode cL_isWorked 571 = .ok (.invokevirtual 107, 3) := by decide +kernel
theorem dL_isWorked_574 : decode cL_isWorked 574 = .ok (.aload_n 0, 1) := by decide +kernel
theorem dL_isWorked_575 : decode cL_isWorked 575 = .ok (.iload 7, 2) := by decide +kernel
theorem dL_isWorked_577 : decode cL_isWorked 577 = .ok (.iload 11, 2) := by decide +kernel
theorem dL_isWorked_579 : decode cL_isWorked 579 = .ok (.invokevirtual 107, 3) := by decide +kernel
theorem dL_isWorked_582 : decode cL_isWorked 582 = .ok (.invokestatic 142, 3) := by decide +kernel
theorem dL_isWorked_585 : decode cL_isWorked 585 = .ok (.iastore, 1) := by decide +kernel
theorem dL_isWorked_586 : decode cL_isWorked 586 = .ok (.iinc 11 1, 3) := by decide +kernel
theorem dL_isWorked_589 : decode cL_isWorked 589 = .ok (.goto (-57), 3) := by decide +kernel
theorem dL_isWorked_592 : decode cL_isWorked 592 = .ok (.aload_n 0, 1) := by decide +kernel
theorem dL_isWorked_593 : decode cL_isWorked 593 = .ok (.iload_n 1, 1) := by decide +kernel
theorem dL_isWorked_594 : decode cL_isWorked 594 = .ok (.iload 8, 2) := by decide +kernel
theorem dL_isWorked_596 : decode cL_isWorked 596 = .ok (.iload 7, 2) := by decide +kernel
theorem dL_isWorked_598 : decode cL_isWorked 598 = .ok (.iload 9, 2) := by decide +kernel
theorem dL_isWorked_600 : decode cL_isWorked 600 = .ok (.invokevirtual 145, 3) := by decide +kernel
theorem dL_isWorked_603 : decode cL_isWorked 603 = .ok (.istore 11, 2) := by decide +kernel
theorem dL_isWorked_605 : decode cL_isWorked 605 = .ok (.iconst 0, 1) := by decide +kernel
theorem dL_isWorked_606 : decode cL_isWorked 606 = .ok (.istore 12, 2) := by decide +kernel
theorem dL_isWorked_608 : decode cL_isWorked 608 = .ok (.iload 12, 2) := by decide +kernel
theorem dL_isWorked_610 : decode cL_isWorked 610 = .ok (.iconst 3, 1) := by decide +kernel
theorem dL_isWorked_611 : decode cL_isWorked 611 = .ok (.if_icmp .ge 45, 3) := by decide +kernel
theorem dL_isWorked_614 : decode cL_isWorked 614 = .ok (.aload_n 0, 1) := by decide +kernel
theorem dL_isWorked_615 : decode cL_isWorked 615 = .ok (.iload 11, 2) := by decide +kernel
theorem dL_isWorked_617 : decode cL_isWorked 617 = .ok (.iload 12, 2) := by decide +kernel
theorem dL_isWorked_619 : decode cL_isWorked 619 = .ok (.invokevirtual 107, 3) := by decide +kernel
theorem dL_isWorked_622 : decode cL_isWorked 622 = .ok (.aload 10, 2) := by decide +kernel
theorem dL_isWorked_624 : decode cL_isWorked 624 = .ok (.iload 12, 2) := by decide +kernel
theorem dL_isWorked_626 : decode cL_isWorked 626 = .ok (.iaload, 1) := by decide +kernel
theorem dL_isWorked_627 : decode cL_isWorked 627 = .ok (.if_icmp .lt 21, 3) := by decide +kernel
theorem dL_isWorked_630 : decode cL_isWorked 630 = .ok (.aload_n 0, 1) := by decide +kernel
theorem dL_isWorked_631 : decode cL_isWorked 631 = .ok (.iload 11, 2) := by decide +kernel
theorem dL_isWorked_633 : decode cL_isWorked 633 = .ok (.iload 12, 2) := by decide +kernel
theorem dL_isWorked_635 : decode cL_isWorked 635 = .ok (.invokevirtual 107, 3) := by decide +kernel
theorem dL_isWorked_638 : decode cL_isWorked 638 = .ok (.aload 10, 2) := by decide +kernel
theorem dL_isWorked_640 : decode cL_isWorked 640 = .ok (.iconst 3, 1) := by decide +kernel
theorem dL_isWorked_641 : decode cL_isWorked 641 = .ok (.iload 12, 2) := by decide +kernel
theorem dL_isWorked_643 : decode cL_isWorked 643 = .ok (.iadd, 1) := by decide +kernel
theorem dL_isWorked_644 : decode cL_isWorked 644 = .ok (.iaload, 1) := by decide +kernel
theorem dL_isWorked_645 : decode cL_isWorked 645 = .ok (.if_icmp .le 5, 3) := by decide +kernel
theorem dL_isWorked_648 : decode cL_isWorked 648 = .ok (.iconst 0, 1) := by decide +kernel
theorem dL_isWorked_649 : decode cL_isWorked 649 = .ok (.ireturn, 1) := by decide +kernel
theorem dL_isWorked_650 : decode cL_isWorked 650 = .ok (.iinc 12 1, 3) := by decide +kernel
theorem dL_isWorked_653 : decode cL_isWorked 653 = .ok (.goto (-45), 3) := by decide +kernel
theorem dL_isWorked_656 : decode cL_isWorked 656 = .ok (.aload_n 0, 1) := by decide +kernel
theorem dL_isWorked_657 : decode cL_isWorked 657 = .ok (.iload 11, 2) := by decide +kernel
theorem dL_isWorked_659 : decode cL_isWorked 659 = .ok (.iconst 1, 1) := by decide +kernel
theorem dL_isWorked_660 : decode cL_isWorked 660 = .ok (.invokevirtual 29, 3) := by decide +kernel
theorem dL_isWorked_663 : decode cL_isWorked 663 = .ok (.iload 8, 2) := by decide +kernel
theorem dL_isWorked_665 : decode cL_isWorked 665 = .ok (.iload 9, 2) := by decide +kernel
theorem dL_isWorked_667 : decode cL_isWorked 667 = .ok (.iadd, 1) := by decide +kernel
theorem dL_isWorked_668 : decode cL_isWorked 668 = .ok (.if_icmp .ne 21, 3) := by decide +kernel
theorem dL_isWorked_671 : decode cL_isWorked 671 = .ok (.aload_n 0, 1) := by decide +kernel
theorem dL_isWorked_672 : decode cL_isWorked 672 = .ok (.iload_n 1, 1) := by decide +kernel
theorem dL_isWorked_673 : decode cL_isWorked 673 = .ok (.iconst 1, 1) := by decide +kernel
theorem dL_isWorked_674 : decode cL_isWorked 674 = .ok (.invokevirtual 29, 3) := by decide +kernel
theorem dL_isWorked_677 : decode cL_isWorked 677 = .ok (.iload 5, 2) := by decide +kernel
theorem dL_isWorked_679 : decode cL_isWorked 679 = .ok (.iload 8, 2) := by decide +kernel
theorem dL_isWorked_681 : decode cL_isWorked 681 = .ok (.isub, 1) := by decide +kernel
theorem dL_isWorked_682 : decode cL_isWorked 682 = .ok (.if_icmp .ne 7, 3) := by decide +kernel
theorem dL_isWorked_685 : decode cL_isWorked 685 = .ok (.iconst 1, 1) := by decide +kernel
theorem dL_isWorked_686 : decode cL_isWorked 686 = .ok (.goto 4, 3) := by decide +kernel
theorem dL_isWorked_689 : decode cL_isWorked 689 = .ok (.iconst 0, 1) := by decide +kernel
theorem dL_isWorked_690 : decode cL_isWorked 690 = .ok (.ireturn, 1) := by decide +kernel
theorem dL_isSound_0 : decode cL_isSound 0 = .ok (.iconst 4, 1) := by decide +kernel
theorem dL_isSound_1 : decode cL_isSound 1 = .ok (.newarray .int, 2) := by decide +kernel
theorem dL_isSound_3 : decode cL_isSound 3 = .ok (.astore_n 3, 1) := by decide +kernel
theorem dL_isSound_4 : decode cL_isSound 4 = .ok (.iconst 0, 1) := by decide +kernel
theorem dL_isSound_5 : decode cL_isSound 5 = .ok (.istore 4, 2) := by decide +kernel
theorem dL_isSound_7 : decode cL_isSound 7 = .ok (.iconst 0, 1) := by decide +kernel
theorem dL_isSound_8 : decode cL_isSound 8 = .ok (.istore 5, 2) := by decide +kernel
theorem dL_isSound_10 : decode cL_isSound 10 = .ok (.iload 5, 2) := by decide +kernel
theorem dL_isSound_12 : decode cL_isSound 12 = .ok (.aload_n 0, 1) := by decide +kernel
theorem dL_isSound_13 : decode cL_isSound 13 = .ok (.iconst 2, 1) := by decide +kernel
theorem dL_isSound_14 : decode cL_isSound 14 = .ok (.invokevirtual 25, 3) := by decide +kernel
theorem dL_isSound_17 : decode cL_isSound 17 = .ok (.if_icmp .ge 175, 3) := by decide +kernel
theorem dL_isSound_20 : decode cL_isSound 20 = .ok (.aload_n 0, 1) := by decide +kernel
theorem dL_isSound_21 : decode cL_isSound 21 = .ok (.iload 5, 2) := by decide +kernel
theorem dL_isSound_23 : decode cL_isSound 23 = .ok (.iconst 0, 1) := by decide +kernel
theorem dL_isSound_24 : decode cL_isSound 24 = .ok (.invokevirtual 29, 3) := by decide +kernel
theorem dL_isSound_27 : decode cL_isSound 27 = .ok (.istore 6, 2) := by decide +kernel
theorem dL_isSound_29 : decode cL_isSound 29 = .ok (.aload_n 3, 1) := by decide +kernel
theorem dL_isSound_30 : decode cL_isSound 30 = .ok (.iload 6, 2) := by decide +kernel
theorem dL_isSound_32 : decode cL_isSound 32 = .ok (.dup2, 1) := by decide +kernel
theorem dL_isSound_33 : decode cL_isSound 33 = .ok (.iaload, 1) := by decide +kernel
theorem dL_isSound_34 : decode cL_isSound 34 = .ok (.iconst 1, 1) := by decide +kernel
theorem dL_isSound_35 : decode cL_isSound 35 = .ok (.iadd, 1) := by decide +kernel
theorem dL_isSound_36 : decode cL_isSound 36 = .ok (.iastore, 1) := by decide +kernel
theorem dL_isSound_37 : decode cL_isSound 37 = .ok (.iconst 0, 1) := by decide +kernel
theorem dL_isSound_38 : decode cL_isSound 38 = .ok (.istore 7, 2) := by decide +kernel
theorem dL_isSound_40 : decode cL_isSound 40 = .ok (.iconst 0, 1) := by decide +kernel
theorem dL_isSound_41 : decode cL_isSound 41 = .ok (.istore 8, 2) := by decide +kernel
theorem dL_isSound_43 : decode cL_isSound 43 = .ok (.iload 8, 2) := by decide +kernel
theorem dL_isSound_45 : decode cL_isSound 45 = .ok (.iconst 4, 1) := by decide +kernel
theorem dL_isSound_46 : decode cL_isSound 46 = .ok (.if_icmp .ge 47, 3) := by decide +kernel
theorem dL_isSound_49 : decode cL_isSound 49 = .ok (.iload 7, 2) := by decide +kernel
theorem dL_isSound_51 : decode cL_isSound 51 = .ok (.aload_n 0, 1) := by decide +kernel
theorem dL_isSound_52 : decode cL_isSound 52 = .ok (.iload 5, 2) := by decide +kernel
theorem dL_isSound_54 : decode cL_isSound 54 = .ok (.bipush 14, 2) := by decide +kernel
theorem dL_isSound_56 : decode cL_isSound 56 = .ok (.iload 8, 2) := by decide +kernel
theorem dL_isSound_58 : decode cL_isSound 58 = .ok (.iadd, 1) := by decide +kernel
theorem dL_isSound_59 : decode cL_isSound 59 = .ok (.invokevirtual 29, 3) := by decide +kernel
theorem dL_isSound_62 : decode cL_isSound 62 = .ok (.iadd, 1) := by decide +kernel
theorem dL_isSound_63 : decode cL_isSound 63 = .ok (.istore 7, 2) := by decide +kernel
theorem dL_isSound_65 : decode cL_isSound 65 = .ok (.iload 8, 2) := by decide +kernel
theorem dL_isSound_67 : decode cL_isSound 67 = .ok (.iload_n 1, 1) := by decide +kernel
theorem dL_isSound_68 : decode cL_isSound 68 = .ok (.if_icmp .lt 19, 3) := by decide +kernel
theorem dL_isSound_71 : decode cL_isSound 71 = .ok (.aload_n 0, 1) := by decide +kernel
theorem dL_isSound_72 : decode cL_isSound 72 = .ok (.iload 5, 2) := by decide +kernel
theorem dL_isSound_74 : decode cL_isSound 74 = .ok (.bipush 14, 2) := by decide +kernel
theorem dL_isSound_76 : decode cL_isSound 76 = .ok (.iload 8, 2) := by decide +kernel
theorem dL_isSound_78 : decode cL_isSound 78 = .ok (.iadd, 1) := by decide +kernel
theorem dL_isSound_79 : decode cL_isSound 79 = .ok (.invokevirtual 29, 3) := by decide +kernel
theorem dL_isSound_82 : decode cL_isSound 82 = .ok (.ifCond .le 5, 3) := by decide +kernel
theorem dL_isSound_85 : decode cL_isSound 85 = .ok (.iconst 0, 1) := by decide +kernel
theorem dL_isSound_86 : decode cL_isSound 86 = .ok (.ireturn, 1) := by decide +kernel
theorem dL_isSound_87 : decode cL_isSound 87 = .ok (.iinc 8 1, 3) := by decide +kernel
theorem dL_isSound_90 : decode cL_isSound 90 = .ok (.goto (-47), 3) := by decide +kernel
theorem dL_isSound_93 : decode cL_isSound 93 = .ok (.iload 4, 2) := by decide +kernel
theorem dL_isSound_95 : decode cL_isSound 95 = .ok (.iload 7, 2) := by decide +kernel
theorem dL_isSound_97 : decode cL_isSound 97 = .ok (.iadd, 1) := by decide +kernel
theorem dL_isSound_98 : decode cL_isSound 98 = .ok (.istore 4, 2) := by decide +kernel
theorem dL_isSound_100 : decode cL_isSound 100 = .ok (.iload 7, 2) := by decide +kernel
theorem dL_isSound_102 : decode cL_isSound 102 = .ok (.aload_n 0, 1) := by decide +kernel
theorem dL_isSound_103 : decode cL_isSound 103 = .ok (.iload 5, 2) := by decide +kernel
theorem dL_isSound_105 : decode cL_isSound 105 = .ok (.iconst 1, 1) := by decide +kernel
theorem dL_isSound_106 : decode cL_isSound 106 = .ok (.invokevirtual 29, 3) := by decide +kernel
theorem dL_isSound_109 : decode cL_isSound 109 = .ok (.if_icmp .ne 75, 3) := by decide +kernel
theorem dL_isSound_112 : decode cL_isSound 112 = .ok (.iload 7, 2) := by decide +kernel
theorem dL_isSound_114 : decode cL_isSound 114 = .ok (.ifCond .ne 7, 3) := by decide +kernel
theorem dL_isSound_117 : decode cL_isSound 117 = .ok (.iconst 1, 1) := by decide +kernel
theorem dL_isSound_118 : decode cL_isSound 118 = .ok (.goto 4, 3) := by decide +kernel
theorem dL_isSound_121 : decode cL_isSound 121 = .ok (.iconst 0, 1) := by decide +kernel
theorem dL_isSound_122 : decode cL_isSound 122 = .ok (.iload 6, 2) := by decide +kernel
theorem dL_isSound_124 : decode cL_isSound 124 = .ok (.iconst 3, 1) := by decide +kernel
theorem dL_isSound_125 : decode cL_isSound 125 = .ok (.if_icmp .ne 7, 3) := by decide +kernel
theorem dL_isSound_128 : decode cL_isSound 128 = .ok (.iconst 1, 1) := by decide +kernel
theorem dL_isSound_129 : decode cL_isSound 129 = .ok (.goto 4, 3) := by decide +kernel
theorem dL_isSound_132 : decode cL_isSound 132 = .ok (.iconst 0, 1) := by decide +kernel
theorem dL_isSound_133 : decode cL_isSound 133 = .ok (.if_icmp .ne 51, 3) := by decide +kernel
theorem dL_isSound_136 : decode cL_isSound 136 = .ok (.iload 6, 2) := by decide +kernel
theorem dL_isSound_138 : decode cL_isSound 138 = .ok (.iconst 3, 1) := by decide +kernel
theorem dL_isSound_139 : decode cL_isSound 139 = .ok (.if_icmp .ge 15, 3) := by decide +kernel
theorem dL_isSound_142 : decode cL_isSound 142 = .ok (.aload_n 0, 1) := by decide +kernel
theorem dL_isSound_143 : decode cL_isSound 143 = .ok (.iload 5, 2) := by decide +kernel
theorem dL_isSound_145 : decode cL_isSound 145 = .ok (.iconst 2, 1) := by decide +kernel
theorem dL_isSound_146 : decode cL_isSound 146 = .ok (.invokevirtual 29, 3) := by decide +kernel
theorem dL_isSound_149 : decode cL_isSound 149 = .ok (.iload 7, 2) := by decide +kernel
theorem dL_isSound_151 : decode cL_isSound 151 = .ok (.if_icmp .gt 33, 3) := by decide +kernel
theorem dL_isSound_154 : decode cL_isSound 154 = .ok (.iload 6, 2) := by decide +kernel
theorem dL_isSound_156 : decode cL_isSound 156 = .ok (.iconst 2, 1) := by decide +kernel
theorem dL_isSound_157 : decode cL_isSound 157 = .ok (.if_icmp .eq 14, 3) := by decide +kernel
theorem dL_isSound_160 : decode cL_isSound 160 = .ok (.aload_n 0, 1) := by decide +kernel
theorem dL_isSound_161 : decode cL_isSound 161 = .ok (.iload 5, 2) := by decide +kernel
theorem dL_isSound_163 : decode cL_isSound 163 = .ok (.bipush 13, 2) := by decide +kernel
theorem dL_isSound_165 : decode cL_isSound 165 = .ok (.invokevirtual 29, 3) := by decide +kernel
theorem dL_isSound_168 : decode cL_isSound 168 = .ok (.ifCond .gt 16, 3) := by decide +kernel
theorem dL_isSound_171 : decode cL_isSound 171 = .ok (.aload_n 0, 1) := by decide +kernel
theorem dL_isSound_172 : decode cL_isSound 172 = .ok (.iload 5, 2) := by decide +kernel
theorem dL_isSound_174 : decode cL_isSound 174 = .ok (.bipush 6, 2) := by decide +kernel
theorem dL_isSound_176 : decode cL_isSound 176 = .ok (.invokevirtual 29, 3) := by decide +kernel
theorem dL_isSound_179 : decode cL_isSound 179 = .ok (.bipush 60, 2) := by decide +kernel
theorem dL_isSound_181 : decode cL_isSound 181 = .ok (.if_icmp .le 5, 3) := by decide +kernel
theorem dL_isSound_184 : decode cL_isSound 184 = .ok (.iconst 0, 1) := by decide +kernel
theorem dL_isSound_185 : decode cL_isSound 185 = .ok (.ireturn, 1) := by decide +kernel
theorem dL_isSound_186 : decode cL_isSound 186 = .ok (.iinc 5 1, 3) := by decide +kernel
theorem dL_isSound_189 : decode cL_isSound 189 = .ok (.goto (-179), 3) := by decide +kernel
theorem dL_isSound_192 : decode cL_isSound 192 = .ok (.iconst 0, 1) := by decide +kernel
theorem dL_isSound_193 : decode cL_isSound 193 = .ok (.istore 5, 2) := by decide +kernel
theorem dL_isSound_195 : decode cL_isSound 195 = .ok (.iconst 0, 1) := by decide +kernel
theorem dL_isSound_196 : decode cL_isSound 196 = .ok (.istore 6, 2) := by decide +kernel
theorem dL_isSound_198 : decode cL_isSound 198 = .ok (.iload 6, 2) := by decide +kernel
theorem dL_isSound_200 : decode cL_isSound 200 = .ok (.iconst 4, 1) := by decide +kernel
theorem dL_isSound_201 : decode cL_isSound 201 = .ok (.if_icmp .ge 23, 3) := by decide +kernel
theorem dL_isSound_204 : decode cL_isSound 204 = .ok (.iload 5, 2) := by decide +kernel
theorem dL_isSound_206 : decode cL_isSound 206 = .ok (.aload_n 0, 1) := by decide +kernel
theorem dL_isSound_207 : decode cL_isSound 207 = .ok (.bipush 11, 2) := by decide +kernel
theorem dL_isSound_209 : decode cL_isSound 209 = .ok (.iload 6, 2) := by decide +kernel
theorem dL_isSound_211 : decode cL_isSound 211 = .ok (.iadd, 1) := by decide +kernel
theorem dL_isSound_212 : decode cL_isSound 212 = .ok (.invokevirtual 25, 3) := by decide +kernel
theorem dL_isSound_215 : decode cL_isSound 215 = .ok (.iadd, 1) := by decide +kernel
theorem dL_isSound_216 : decode cL_isSound 216 = .ok (.istore 5, 2) := by decide +kernel
theorem dL_isSound_218 : decode cL_isSound 218 = .ok (.iinc 6 1, 3) := by decide +kernel
theorem dL_isSound_221 : decode cL_isSound 221 = .ok (.goto (-23), 3) := by decide +kernel
theorem dL_isSound_224 : decode cL_isSound 224 = .ok (.aload_n 3, 1) := by decide +kernel
theorem dL_isSound_225 : decode cL_isSound 225 = .ok (.iconst 0, 1) := by decide +kernel
theorem dL_isSound_226 : decode cL_isSound 226 = .ok (.iaload, 1) := by decide +kernel
theorem dL_isSound_227 : decode cL_isSound 227 = .ok (.aload_n 0, 1) := by decide +kernel
theorem dL_isSound_228 : decode cL_isSound 228 = .ok (.iconst 3, 1) := by decide +kernel
theorem dL_isSound_229 : decode cL_isSound 229 = .ok (.invokevirtual 25, 3) := by decide +kernel
theorem dL_isSound_232 : decode cL_isSound 232 = .ok (.if_icmp .ne 71, 3) := by decide +kernel
theorem dL_isSound_235 : decode cL_isSound 235 = .ok (.aload_n 3, 1) := by decide +kernel
theorem dL_isSound_236 : decode cL_isSound 236 = .ok (.iconst 1, 1) := by decide +kernel
theorem dL_isSound_237 : decode cL_isSound 237 = .ok (.iaload, 1) := by decide +kernel
theorem dL_isSound_238 : decode cL_isSound 238 = .ok (.aload_n 0, 1) := by decide +kernel
theorem dL_isSound_239 : decode cL_isSound 239 = .ok (.iconst 4, 1) := by decide +kernel
theorem dL_isSound_240 : decode cL_isSound 240 = .ok (.invokevirtual 25, 3) := by decide +kernel
theorem dL_isSound_243 : decode cL_isSound 243 = .ok (.if_icmp .ne 60, 3) := by decide +kernel
theorem dL_isSound_246 : decode cL_isSound 246 = .ok (.aload_n 3, 1) := by decide +kernel
theorem dL_isSound_247 : decode cL_isSound 247 = .ok (.iconst 2, 1) := by decide +kernel
theorem dL_isSound_248 : decode cL_isSound 248 = .ok (.iaload, 1) := by decide +kernel
theorem dL_isSound_249 : decode cL_isSound 249 = .ok (.aload_n 0, 1) := by decide +kernel
theorem dL_isSound_250 : decode cL_isSound 250 = .ok (.iconst 5, 1) := by decide +kernel
theorem dL_isSound_251 : decode cL_isSound 251 = .ok (.invokevirtual 25, 3) := by decide +kernel
theorem dL_isSound_254 : decode cL_isSound 254 = .ok (.if_icmp .ne 49, 3) := by decide +kernel
theorem dL_isSound_257 : decode cL_isSound 257 = .ok (.iload 4, 2) := by decide +kernel
theorem dL_isSound_259 : decode cL_isSound 259 = .ok (.aload_n 0, 1) := by decide +kernel
theorem dL_isSound_260 : decode cL_isSound 260 = .ok (.bipush 8, 2) := by decide +kernel
theorem dL_isSound_262 : decode cL_isSound 262 = .ok (.invokevirtual 25, 3) := by decide +kernel
theorem dL_isSound_265 : decode cL_isSound 265 = .ok (.if_icmp .ne 38, 3) := by decide +kernel
theorem dL_isSound_268 : decode cL_isSound 268 = .ok (.aload_n 0, 1) := by decide +kernel
theorem dL_isSound_269 : decode cL_isSound 269 = .ok (.bipush 9, 2) := by decide +kernel
theorem dL_isSound_271 : decode cL_isSound 271 = .ok (.invokevirtual 25, 3) := by decide +kernel
theorem dL_isSound_274 : decode cL_isSound 274 = .ok (.iload 4, 2) := by decide +kernel
theorem dL_isSound_276 : decode cL_isSound 276 = .ok (.aload_n 0, 1) := by decide +kernel
theorem dL_isSound_277 : decode cL_isSound 277 = .ok (.bipush 10, 2) := by decide +kernel
theorem dL_isSound_279 : decode cL_isSound 279 = .ok (.invokevirtual 25, 3) := by decide +kernel
theorem dL_isSound_282 : decode cL_isSound 282 = .ok (.iadd, 1) := by decide +kernel
theorem dL_isSound_283 : decode cL_isSound 283 = .ok (.if_icmp .ne 20, 3) := by decide +kernel
theorem dL_isSound_286 : decode cL_isSound 286 = .ok (.aload_n 0, 1) := by decide +kernel
theorem dL_isSound_287 : decode cL_isSound 287 = .ok (.bipush 6, 2) := by decide +kernel
theorem dL_isSound_289 : decode cL_isSound 289 = .ok (.invokevirtual 25, 3) := by decide +kernel
theorem dL_isSound_292 : decode cL_isSound 292 = .ok (.iload 5, 2) := by decide +kernel
theorem dL_isSound_294 : decode cL_isSound 294 = .ok (.iadd, 1) := by decide +kernel
theorem dL_isSound_295 : decode cL_isSound 295 = .ok (.iload_n 2, 1) := by decide +kernel
theorem dL_isSound_296 : decode cL_isSound 296 = .ok (.if_icmp .ne 7, 3) := by decide +kernel
theorem dL_isSound_299 : decode cL_isSound 299 = .ok (.iconst 1, 1) := by decide +kernel
theorem dL_isSound_300 : decode cL_isSound 300 = .ok (.goto 4, 3) := by decide +kernel
theorem dL_isSound_303 : decode cL_isSound 303 = .ok (.iconst 0, 1) := by decide +kernel
theorem dL_isSound_304 : decode cL_isSound 304 = .ok (.ireturn, 1) := by decide +kernel
abbrev vwCl : List vw_C := [(RX0, TX0, 4), (RX1, TX1, 16), (RX2, TX2, 8), (RX3, TX3, 3), (RX4, TX4, 12)]
end
section
/-! THE MEMORY as functions: ints, references, longs by address and place; the kinds of the cells; the heap's size -/
abbrev Mem : Type := (Nat → Nat → Int32) × (Nat → Nat → Option Nat) × (Nat → Nat → Int64) × (Nat → Nat × Nat) × Nat
def mI (σ : Mem) : Nat → Nat → Int32 := σ.1
def mR (σ : Mem) : Nat → Nat → Option Nat := σ.2.1
def mJ (σ : Mem) : Nat → Nat → Int64 := σ.2.2.1
def mT (σ : Mem) : Nat → Nat × Nat := σ.2.2.2.1
def mZ (σ : Mem) : Nat := σ.2.2.2.2
def up2 {α : Type} (f : Nat → Nat → α) (a k : Nat) (v : α) : Nat → Nat → α := fun x j => if x = a ∧ j = k then v else f x j
def rowS {α : Type} (f : Nat → α) (a : Nat) (v : α) : Nat → α := fun x => if x = a then v else f x
def sI (σ : Mem) (a k : Nat) (v : Int32) : Mem := (up2 (mI σ) a k v, mR σ, mJ σ, mT σ, mZ σ)
def sR (σ : Mem) (a k : Nat) (v : Option Nat) : Mem := (mI σ, up2 (mR σ) a k v, mJ σ, mT σ, mZ σ)
def sJ (σ : Mem) (a k : Nat) (v : Int64) : Mem := (mI σ, mR σ, up2 (mJ σ) a k v, mT σ, mZ σ)
/-- a row of an array anew -/
def sIr (σ : Mem) (a : Nat) (f : Nat → Int32) : Mem := (rowS (mI σ) a f, mR σ, mJ σ, mT σ, mZ σ)
def sRr (σ : Mem) (a : Nat) (f : Nat → Option Nat) : Mem := (mI σ, rowS (mR σ) a f, mJ σ, mT σ, mZ σ)
/-- a new cell of the kind t -/
def sN (σ : Mem) (t : Nat × Nat) : Mem := (rowS (mI σ) (mZ σ) (fun _ => 0), rowS (mR σ) (mZ σ) (fun _ => none), rowS (mJ σ) (mZ σ) (fun _ => 0), rowS (mT σ) (mZ σ) t, mZ σ + 1)
/-- a cell that nobody names -/
def sB (σ : Mem) : Mem := (mI σ, mR σ, mJ σ, mT σ, mZ σ + 1)
/-- the kinds of the fields (0 int, 1 reference, 2 long), of the arrays' elements; the arrays' types -/
def fkL : List (List Nat) := [[0, 0, 1, 1], [0, 0, 0, 0, 0, 0, 0, 0, 0, 0, 0, 0, 0, 1, 1, 1], [0, 0, 0, 0, 0, 0, 0, 1], [0, 0, 0], [1, 0, 0, 1, 0, 1, 1, 1, 0, 0, 0, 0]]
def fk (ci k : Nat) : Nat := (fkL.getD ci []).getD k 0
def ak (t : Nat) : Nat := if t = 0 then 0 else 1
def atL : List FieldType := [.int, .object RX1, .object RX2, .object RX3]
def vOf (kd : Nat) (σ : Mem) (a k : Nat) : Value := match kd with
  | 0 => .int (mI σ a k)
  | 1 => va_rf (mR σ a k)
  | _ => .long (mJ σ a k)
/-- what is the same throughout: classes and slots, the arrays' classes, where the claim's own cells begin, the script: its cell, its length, its ints -/
abbrev Glb : Type := va_G × (Nat → ClassId) × Nat × Nat × Nat × (Nat → Int32)
abbrev gB (G : Glb) : Nat := G.2.2.2.1
abbrev gL (G : Glb) : Nat := G.2.2.2.2.1
abbrev gX (G : Glb) : Nat → Int32 := G.2.2.2.2.2
def gA (G : Glb) : Nat → Prop := fun q => G.2.2.1 ≤ q
def tysG (G : Glb) : List (ClassId × FieldType) := [(G.2.1 0, .int), (G.2.1 1, .object RX1), (G.2.1 2, .object RX2), (G.2.1 3, .object RX3)]
theorem tysG_at (G : Glb) (t : Nat) {ty : FieldType} (h : atL[t]? = some ty) : (tysG G)[t]? = some (G.2.1 t, ty) := by
  have ht : t < 4 := (List.getElem?_eq_some_iff.mp h).1
  rcases (show t = 0 ∨ t = 1 ∨ t = 2 ∨ t = 3 by omega) with rfl | rfl | rfl | rfl <;> (cases h; rfl)
/-- the cell at a is as σ has it -/
def okAt (G : Glb) (σ : Mem) (H : Heap) (a : Nat) : Prop :=
  (∀ (ci : Nat) (r : vw_C), (mT σ a).1 = ci + 1 → vwCl[ci]? = some r → t_OB a (G.1.1 ci) r.2.2 (G.1.2 ci) H (fun k => vOf (fk ci k) σ a k)) ∧
  ∀ t : Nat, ((mT σ a).1 = 100 + t ∨ (mT σ a).1 = 200 + t) → t < 4 → H[a]? = some (arrV (G.2.1 t) (mT σ a).2 (fun j => vOf (ak t) σ a j))
def memK (G : Glb) (σ : Mem) (H : Heap) : Prop := H.size = mZ σ ∧ (∀ a, okAt G σ H a) ∧ (∀ a, mZ σ ≤ a → (mT σ a).1 = 0) ∧ (∀ a, 0 < (mT σ a).1 → (mT σ a).1 < 200 → G.2.2.1 ≤ a) ∧ G.2.2.1 ≤ mZ σ
theorem vwCl_len {ci : Nat} {r : vw_C} (h : vwCl[ci]? = some r) : ci < 5 := (List.getElem?_eq_some_iff.mp h).1
theorem okAt.kept {G : Glb} {σ σ' : Mem} {H H' : Heap} {a : Nat} (h : okAt G σ H a) (hT : mT σ' a = mT σ a) (hV : ∀ kd k, vOf kd σ' a k = vOf kd σ a k) (hH : (mT σ a).1 ≠ 0 → H'[a]? = H[a]?) : okAt G σ' H' a := by
  refine ⟨fun ci r h1 h2 => ?_, fun t h1 h2 => ?_⟩
  · rw [hT] at h1
    have h3 := (h.1 ci r h1 h2).kept (hH (by omega))
    exact h3.to (fun k _ => (hV _ _).symm)
  · rw [hT] at h1
    rw [hH (by omega), h.2 t h1 h2, hT]
    exact congrArg some (congrArg (arrV _ _) (funext fun j => (hV _ _).symm))
theorem memK.lt {G : Glb} {σ : Mem} {H : Heap} (h : memK G σ H) {a : Nat} (ha : (mT σ a).1 ≠ 0) : a < mZ σ := by
  rcases Nat.lt_or_ge a (mZ σ) with q | q
  · exact q
  · exact absurd (h.2.2.1 a q) ha
/-- one cell changed, in its contents -/
theorem memK.put {G : Glb} {σ σ' : Mem} {H H' : Heap} (h : memK G σ H) (a : Nat) (hT : mT σ' = mT σ) (hZ : mZ σ' = mZ σ) (hV : ∀ x, x ≠ a → ∀ kd k, vOf kd σ' x k = vOf kd σ x k) (hz : H'.size = H.size) (oq : ∀ q : Nat, q ≠ a → H'[q]? = H[q]?) (ha : okAt G σ' H' a) : memK G σ' H' := by
  refine ⟨by rw [hz, hZ]; exact h.1, fun x => ?_, by rw [hT, hZ]; exact h.2.2.1, by rw [hT]; exact h.2.2.2.1, by rw [hZ]; exact h.2.2.2.2⟩
  by_cases hx : x = a
  · subst hx; exact ha
  · exact (h.2.1 x).kept (by rw [hT]) (hV x hx) (fun _ => oq x hx)
/-- a new cell -/
theorem memK.new {G : Glb} {σ : Mem} {H H' : Heap} {t : Nat × Nat} (h : memK G σ H) (hz : H'.size = mZ σ + 1) (o1 : ∀ q, q < mZ σ → H'[q]? = H[q]?) (ha : okAt G (sN σ t) H' (mZ σ)) : memK G (sN σ t) H' := by
  refine ⟨hz, fun x => ?_, fun x hx => ?_, fun x h1 h2 => ?_, Nat.le_succ_of_le h.2.2.2.2⟩
  · by_cases hx : x = mZ σ
    · subst hx; exact ha
    · refine (h.2.1 x).kept (by simp [sN, mT, rowS, hx, mZ]; intro z; exact absurd z hx) (fun kd k => ?_) (fun hn => o1 x (h.lt hn))
      unfold vOf
      split <;> simp only [sN, mI, mR, mJ, rowS, if_neg hx]
  · have hx' : mZ σ + 1 ≤ x := hx
    have e : mT (sN σ t) x = mT σ x := by simp only [sN, mT, rowS]; exact if_neg (by omega)
    rw [e]; exact h.2.2.1 x (by omega)
  · by_cases hx : x = mZ σ
    · rw [hx]; exact h.2.2.2.2
    · have e : mT (sN σ t) x = mT σ x := by simp only [sN, mT, rowS]; exact if_neg hx
      rw [e] at h1 h2; exact h.2.2.2.1 x h1 h2
theorem memK.bump {G : Glb} {σ : Mem} {H H' : Heap} (h : memK G σ H) (hz : H'.size = mZ σ + 1) (o1 : ∀ q, q < mZ σ → H'[q]? = H[q]?) : memK G (sB σ) H' := by
  refine ⟨hz, fun x => ?_, fun x hx => ?_, h.2.2.2.1, Nat.le_succ_of_le h.2.2.2.2⟩
  · exact (h.2.1 x).kept rfl (fun kd k => rfl) (fun hn => o1 x (h.lt hn))
  · have hx' : mZ σ + 1 ≤ x := hx
    exact h.2.2.1 x (by omega)
/-! WHAT A METHOD KNOWS of the tables and of the cells that nobody writes -/
def uW : List Cond := lw_tbl.filter goodWord
theorem uW_of {w : Cond} (i : Nat) (h : lw_tbl[i]? = some w) (hg : goodWord w = true) : w ∈ uW := List.mem_filter.mpr ⟨List.mem_of_getElem? h, hg⟩
def ngk : Cond → Bool
  | .fieldLinkNest .. => true
  | .methodLinkNest .. => true
  | .castable .. => true
  | .declares .. => true
  | _ => false
theorem ng_warm {w : Cond} (h : ngk w = true) {s U : State} (hW : s.WarmedH U.vm) (hZ : va_Nw w s) : va_Nw w U := by
  cases w with
  | fieldLinkNest a b c d e f => exact va_Nw.warmF hW hZ
  | methodLinkNest a b c d => exact va_Nw.warmM hW hZ
  | castable a b => exact va_Nw.warmC hW hZ
  | declares a => exact va_Nw.warmD hW hZ
  | _ => cases h
theorem ng_tab {w : Cond} (h : ngk w = true) : w.onTables = true := by
  cases w <;> first | rfl | cases h
def KV (G : Glb) (U : State) : Prop := va_K G.1 vwCl (tysG G) U ∧ (∀ w ∈ lw_tbl, ngk w = true → va_Nw w U) ∧ (va_AO RX1 U ∧ va_AO RX2 U ∧ va_AO RX3 U)
def KH (G : Glb) (U : State) (H : Heap) : Prop := va_X (gB G) (gL G) (gX G) U H ∧ ¬ gA G (gB G)
def KB (G : Glb) (U : State) : Prop := KV G U ∧ KH G U U.heap
theorem KV.warm {G : Glb} {s U : State} (hW : s.WarmedH U.vm) (h : KV G s) : KV G U := by
  obtain ⟨h1, h2, a1, a2, a3⟩ := h
  have hA := hW.alike
  exact ⟨h1.moved hA, fun w hw hg => ng_warm hg hW (h2 w hw hg), a1.moved hA, a2.moved hA, a3.moved hA⟩
theorem KB.lt {G : Glb} {s : State} (h : KB G s) : gB G < s.heap.size := by
  obtain ⟨-, ⟨scr, h1, -⟩, -⟩ := h
  exact (Array.getElem?_eq_some_iff.mp h1).1
theorem KB.warm {G : Glb} {s U : State} (hW : s.WarmedH U.vm) (hq : ∀ a : Nat, a < s.heap.size → ¬ gA G a → U.heap[a]? = s.heap[a]?) (h : KB G s) : KB G U :=
  ⟨h.1.warm hW, (h.2.1.moved hW.alike).kept (hq _ h.lt h.2.2), h.2.2⟩
/-- the state that a callee meets -/
def WB (G : Glb) (σ : Mem) (U : State) : Prop := KB G U ∧ memK G σ U.heap
theorem WB.blind {G : Glb} {σ : Mem} {av : List Value} : FrameBlind (va_Pc av (WB G σ)) := by
  intro a U g mk h
  exact ⟨h.1, KB.warm (s := U) (U := U.calling g mk a) (State.WarmedH.refl U) (fun _ _ _ => rfl) h.2.1, h.2.2⟩
/-! a method's context, and the walk over the memory -/
abbrev Cxt : Type := Program × Launch × Env × Room × State × MethodId × Array Value × List Frame × Method × Code
abbrev cP (C : Cxt) : Program := C.1
abbrev cL (C : Cxt) : Launch := C.2.1
abbrev cE (C : Cxt) : Env := C.2.2.1
abbrev cR (C : Cxt) : Room := C.2.2.2.1
abbrev cS (C : Cxt) : State := C.2.2.2.2.1
abbrev cM (C : Cxt) : MethodId := C.2.2.2.2.2.1
abbrev cA (C : Cxt) : Array Value := C.2.2.2.2.2.2.1
abbrev cB (C : Cxt) : List Frame := C.2.2.2.2.2.2.2.1
abbrev cF (C : Cxt) : Method := C.2.2.2.2.2.2.2.2.1
abbrev cC (C : Cxt) : Code := C.2.2.2.2.2.2.2.2.2
def WC (C : Cxt) (H : Heap) (locs : List Loc) (kc ks : Nat) (Q : State → Prop) (g : JFrame) : Prop := W (cP C) (cL C) (cE C) (cR C) (cS C) (cM C) (cA C) (cB C) (cF C) (cC C) H locs kc ks Q g
/-- what a method's walk rests on: own class, bytes, locals, answer's type, room -/
def CX (C : Cxt) (G : Glb) (own : String) (cc : ByteArray) (nL : Nat) (rt : Option FieldType) (fr cl sl lo : Nat) : Prop :=
  (cP C).tables.exec = Jvm.exec ∧ (cC C).code = cc ∧ (cC C).maxLocals = nL ∧ (cS C).vm.findClass own = some (cM C).cls ∧ (∀ w ∈ uW, w.before (cA C) (cS C) = true) ∧ KB G (cS C) ∧ (cF C).locks = false ∧ (cF C).sig.returnType = rt ∧ cR C = { frames := fr, cells := cl, slots := sl, locals := lo } ∧ (cL C).stackTraces = false ∧ G.2.2.1 ≤ (cS C).heap.size
/-- which results are looked at, and what is then to be shown of the end -/
abbrev Pst (β : Type) : Type := (β → Prop) × (β → State → Prop)
def Wo {β : Type} (C : Cxt) (G : Glb) (nL : Nat) (Q : Pst β) (x : Option β) (σ : Mem) (kc ks pc : Nat) (lv : List (Nat × Value)) (st : List Value) : Prop :=
  ∀ res, x = some res → Q.1 res → ∀ (H : Heap) (locs : List Loc), memK G σ H → va_S (gA G) (cS C).heap H locs → ∀ ls : Array Slot, lv_has ls nL lv → WC C H locs kc ks (Q.2 res) (F0 (cM C) pc ls st)
/-- a name for a number -/
def nm {α β : Type} (v : α) (K : α → Option β) : Option β := K v
section R1
variable {β : Type} {C : Cxt} {G : Glb} {own : String} {cc : ByteArray} {nL : Nat} {rt : Option FieldType} {fr cl sl lo : Nat} {Q : Pst β} {x y : Option β} {σ : Mem} {kc ks pc : Nat} {lv : List (Nat × Value)} {st : List Value}
theorem CX.hx (h : CX C G own cc nL rt fr cl sl lo) : (cP C).tables.exec = Jvm.exec := h.1
theorem CX.hb (h : CX C G own cc nL rt fr cl sl lo) : (cC C).code = cc := h.2.1
theorem CX.hml (h : CX C G own cc nL rt fr cl sl lo) : (cC C).maxLocals = nL := h.2.2.1
theorem CX.hown (h : CX C G own cc nL rt fr cl sl lo) : (cS C).vm.findClass own = some (cM C).cls := h.2.2.2.1
theorem CX.hts (h : CX C G own cc nL rt fr cl sl lo) : ∀ w ∈ uW, w.before (cA C) (cS C) = true := h.2.2.2.2.1
theorem CX.hK (h : CX C G own cc nL rt fr cl sl lo) : KB G (cS C) := h.2.2.2.2.2.1
theorem CX.hlk (h : CX C G own cc nL rt fr cl sl lo) : (cF C).locks = false := h.2.2.2.2.2.2.1
theorem CX.hr (h : CX C G own cc nL rt fr cl sl lo) : (cF C).sig.returnType = rt := h.2.2.2.2.2.2.2.1
theorem CX.hR (h : CX C G own cc nL rt fr cl sl lo) : cR C = { frames := fr, cells := cl, slots := sl, locals := lo } := h.2.2.2.2.2.2.2.2.1
theorem CX.hl (h : CX C G own cc nL rt fr cl sl lo) : (cL C).stackTraces = false := h.2.2.2.2.2.2.2.2.2.1
theorem CX.hB (h : CX C G own cc nL rt fr cl sl lo) : G.2.2.1 ≤ (cS C).heap.size := h.2.2.2.2.2.2.2.2.2.2
theorem CX.hA (h : CX C G own cc nL rt fr cl sl lo) : ∀ q : Nat, (cS C).heap.size ≤ q → gA G q := fun _ hq => Nat.le_trans h.hB hq
theorem Wo.none : Wo C G nL Q none σ kc ks pc lv st := fun _ h => by cases h
theorem Wo.sub {lv' : List (Nat × Value)} (is : List Nat) (he : lv_pick lv is = lv') (h : Wo C G nL Q x σ kc ks pc lv' st) : Wo C G nL Q x σ kc ks pc lv st := fun res hres hφ H locs hM hS ls hl => h res hres hφ H locs hM hS ls (lv_sub hl is he)
theorem Wo.ite {c : Prop} [Decidable c] (h1 : c → Wo C G nL Q x σ kc ks pc lv st) (h2 : ¬ c → Wo C G nL Q y σ kc ks pc lv st) : Wo C G nL Q (if c then x else y) σ kc ks pc lv st := by
  split
  · exact h1 (by assumption)
  · exact h2 (by assumption)
/-! constants, locals, the stack, arithmetic -/
theorem r_iconst (hC : CX C G own cc nL rt fr cl sl lo) {n : Int} (v : Int32) (hv : Int32.ofInt n = v) (hd : decode cc pc = .ok (.iconst n, 1)) (k : Wo C G nL Q x σ kc ks (pc + 1) lv (.int v :: st)) : Wo C G nL Q x σ kc ks pc lv st :=
  fun res hres hφ H locs hM hS ls hl => lv_iconst hC.hx hC.hb hd hv (k res hres hφ H locs hM hS ls hl)
theorem r_bipush (hC : CX C G own cc nL rt fr cl sl lo) {n : Int} (v : Int32) (hv : (Int8.ofInt n).toInt32 = v) (hd : decode cc pc = .ok (.bipush n, 2)) (k : Wo C G nL Q x σ kc ks (pc + 2) lv (.int v :: st)) : Wo C G nL Q x σ kc ks pc lv st :=
  fun res hres hφ H locs hM hS ls hl => lv_bipush hC.hx hC.hb hd hv (k res hres hφ H locs hM hS ls hl)
theorem r_sipush (hC : CX C G own cc nL rt fr cl sl lo) {n : Int} (v : Int32) (hv : (Int16.ofInt n).toInt32 = v) (hd : decode cc pc = .ok (.sipush n, 3)) (k : Wo C G nL Q x σ kc ks (pc + 3) lv (.int v :: st)) : Wo C G nL Q x σ kc ks pc lv st :=
  fun res hres hφ H locs hM hS ls hl => lv_sipush hC.hx hC.hb hd hv (k res hres hφ H locs hM hS ls hl)
theorem r_ldc (hC : CX C G own cc nL rt fr cl sl lo) {i : Nat} {v : Int32} (hw : Cond.constant own i v ∈ uW) (hd : decode cc pc = .ok (.ldc i, 2)) (k : Wo C G nL Q x σ kc ks (pc + 2) lv (.int v :: st)) : Wo C G nL Q x σ kc ks pc lv st :=
  fun res hres hφ H locs hM hS ls hl => lv_ldc hC.hx hC.hb hC.hown (hC.hts _ hw) hd (k res hres hφ H locs hM hS ls hl)
theorem r_ldcw (hC : CX C G own cc nL rt fr cl sl lo) {i : Nat} {v : Int32} (hw : Cond.constant own i v ∈ uW) (hd : decode cc pc = .ok (.ldc_w i, 3)) (k : Wo C G nL Q x σ kc ks (pc + 3) lv (.int v :: st)) : Wo C G nL Q x σ kc ks pc lv st :=
  fun res hres hφ H locs hM hS ls hl => lv_ldcw hC.hx hC.hb hC.hown (hC.hts _ hw) hd (k res hres hφ H locs hM hS ls hl)
theorem r_ldc2 (hC : CX C G own cc nL rt fr cl sl lo) {i : Nat} {v : Int64} (hw : Cond.constantLong own i v ∈ uW) (hd : decode cc pc = .ok (.ldc2_w i, 3)) (k : Wo C G nL Q x σ kc ks (pc + 3) lv (.long v :: st)) : Wo C G nL Q x σ kc ks pc lv st :=
  fun res hres hφ H locs hM hS ls hl => lv_ldc2 hC.hx hC.hb hC.hown (hC.hts _ hw) hd (k res hres hφ H locs hM hS ls hl)
theorem r_null (hC : CX C G own cc nL rt fr cl sl lo) (hd : decode cc pc = .ok (.aconst_null, 1)) (k : Wo C G nL Q x σ kc ks (pc + 1) lv (va_rf none :: st)) : Wo C G nL Q x σ kc ks pc lv st :=
  fun res hres hφ H locs hM hS ls hl => lv_null hC.hx hC.hb hd (k res hres hφ H locs hM hS ls hl)
theorem r_dconst0 (hC : CX C G own cc nL rt fr cl sl lo) (hd : decode cc pc = .ok (.dconst 0, 1)) (k : Wo C G nL Q x σ kc ks (pc + 1) lv (.double 0 :: st)) : Wo C G nL Q x σ kc ks pc lv st :=
  fun res hres hφ H locs hM hS ls hl => lv_dconst0 hC.hx hC.hb hd (k res hres hφ H locs hM hS ls hl)
theorem r_iloadn (hC : CX C G own cc nL rt fr cl sl lo) (j : Nat) {q : Fin 4} {i : Nat} {v : Int32} (hi : (q : Nat) = i) (hv : lv[j]? = some (i, .int v)) (hd : decode cc pc = .ok (.iload_n q, 1)) (k : Wo C G nL Q x σ kc ks (pc + 1) lv (.int v :: st)) : Wo C G nL Q x σ kc ks pc lv st :=
  fun res hres hφ H locs hM hS ls hl => lv_iload_n hC.hx hC.hb hd hi (lv_at hl j hv) (k res hres hφ H locs hM hS ls hl)
theorem r_iload (hC : CX C G own cc nL rt fr cl sl lo) (j : Nat) {i : Nat} {v : Int32} (hv : lv[j]? = some (i, .int v)) (hd : decode cc pc = .ok (.iload i, 2)) (k : Wo C G nL Q x σ kc ks (pc + 2) lv (.int v :: st)) : Wo C G nL Q x σ kc ks pc lv st :=
  fun res hres hφ H locs hM hS ls hl => lv_iload hC.hx hC.hb hd (lv_at hl j hv) (k res hres hφ H locs hM hS ls hl)
theorem r_lloadn (hC : CX C G own cc nL rt fr cl sl lo) (j : Nat) {q : Fin 4} {i : Nat} {v : Int64} (hi : (q : Nat) = i) (hv : lv[j]? = some (i, .long v)) (hd : decode cc pc = .ok (.lload_n q, 1)) (k : Wo C G nL Q x σ kc ks (pc + 1) lv (.long v :: st)) : Wo C G nL Q x σ kc ks pc lv st :=
  fun res hres hφ H locs hM hS ls hl => lv_lload_n hC.hx hC.hb hd hi (lv_at hl j hv) (k res hres hφ H locs hM hS ls hl)
theorem r_lload (hC : CX C G own cc nL rt fr cl sl lo) (j : Nat) {i : Nat} {v : Int64} (hv : lv[j]? = some (i, .long v)) (hd : decode cc pc = .ok (.lload i, 2)) (k : Wo C G nL Q x σ kc ks (pc + 2) lv (.long v :: st)) : Wo C G nL Q x σ kc ks pc lv st :=
  fun res hres hφ H locs hM hS ls hl => lv_lload hC.hx hC.hb hd (lv_at hl j hv) (k res hres hφ H locs hM hS ls hl)
theorem r_dload (hC : CX C G own cc nL rt fr cl sl lo) (j : Nat) {i : Nat} {v : UInt64} (hv : lv[j]? = some (i, .double v)) (hd : decode cc pc = .ok (.dload i, 2)) (k : Wo C G nL Q x σ kc ks (pc + 2) lv (.double v :: st)) : Wo C G nL Q x σ kc ks pc lv st :=
  fun res hres hφ H locs hM hS ls hl => lv_dload hC.hx hC.hb hd (lv_at hl j hv) (k res hres hφ H locs hM hS ls hl)
theorem r_aloadn (hC : CX C G own cc nL rt fr cl sl lo) (j : Nat) {q : Fin 4} {i : Nat} {r : Option Nat} (hi : (q : Nat) = i) (hv : lv[j]? = some (i, va_rf r)) (hd : decode cc pc = .ok (.aload_n q, 1)) (k : Wo C G nL Q x σ kc ks (pc + 1) lv (va_rf r :: st)) : Wo C G nL Q x σ kc ks pc lv st := by
  intro res hres hφ H locs hM hS ls hl
  cases r with
  | none => exact lv_aload_nN hC.hx hC.hb hd hi (lv_at hl j hv) (k res hres hφ H locs hM hS ls hl)
  | some a => exact lv_aload_n hC.hx hC.hb hd hi (lv_at hl j hv) (k res hres hφ H locs hM hS ls hl)
theorem r_aload (hC : CX C G own cc nL rt fr cl sl lo) (j : Nat) {i : Nat} {r : Option Nat} (hv : lv[j]? = some (i, va_rf r)) (hd : decode cc pc = .ok (.aload i, 2)) (k : Wo C G nL Q x σ kc ks (pc + 2) lv (va_rf r :: st)) : Wo C G nL Q x σ kc ks pc lv st := by
  intro res hres hφ H locs hM hS ls hl
  cases r with
  | none => exact lv_aloadN hC.hx hC.hb hd (lv_at hl j hv) (k res hres hφ H locs hM hS ls hl)
  | some a => exact lv_aload hC.hx hC.hb hd (lv_at hl j hv) (k res hres hφ H locs hM hS ls hl)
theorem r_istoren (hC : CX C G own cc nL rt fr cl sl lo) (lv' : List (Nat × Value)) {q : Fin 4} {i : Nat} {v : Int32} (hi : (q : Nat) = i) (hn : i < nL) (he : (i, Value.int v) :: lv.filter (fun q => !(q.1 == i) && !(q.1 + 1 == i && q.2.category == 2)) = lv') (hd : decode cc pc = .ok (.istore_n q, 1)) (k : Wo C G nL Q x σ kc ks (pc + 1) lv' st) : Wo C G nL Q x σ kc ks pc lv (.int v :: st) :=
  fun res hres hφ H locs hM hS ls hl => lv_istore_n hC.hx hC.hb hd hi hl hn he (fun ls' hl' => k res hres hφ H locs hM hS ls' hl')
theorem r_istore (hC : CX C G own cc nL rt fr cl sl lo) (lv' : List (Nat × Value)) {i : Nat} {v : Int32} (hn : i < nL) (he : (i, Value.int v) :: lv.filter (fun q => !(q.1 == i) && !(q.1 + 1 == i && q.2.category == 2)) = lv') (hd : decode cc pc = .ok (.istore i, 2)) (k : Wo C G nL Q x σ kc ks (pc + 2) lv' st) : Wo C G nL Q x σ kc ks pc lv (.int v :: st) :=
  fun res hres hφ H locs hM hS ls hl => lv_istore hC.hx hC.hb hd hl hn he (fun ls' hl' => k res hres hφ H locs hM hS ls' hl')
theorem r_lstoren (hC : CX C G own cc nL rt fr cl sl lo) (lv' : List (Nat × Value)) {q : Fin 4} {i : Nat} {v : Int64} (hi : (q : Nat) = i) (hn : i + 1 < nL) (he : (i, Value.long v) :: lv.filter (fun q => !(q.1 == i) && (!(q.1 == i + 1) && !(q.1 + 1 == i && q.2.category == 2))) = lv') (hd : decode cc pc = .ok (.lstore_n q, 1)) (k : Wo C G nL Q x σ kc ks (pc + 1) lv' st) : Wo C G nL Q x σ kc ks pc lv (.long v :: st) :=
  fun res hres hφ H locs hM hS ls hl => lv_lstore_n hC.hx hC.hb hd hi hl hn he (fun ls' hl' => k res hres hφ H locs hM hS ls' hl')
theorem r_lstore (hC : CX C G own cc nL rt fr cl sl lo) (lv' : List (Nat × Value)) {i : Nat} {v : Int64} (hn : i + 1 < nL) (he : (i, Value.long v) :: lv.filter (fun q => !(q.1 == i) && (!(q.1 == i + 1) && !(q.1 + 1 == i && q.2.category == 2))) = lv') (hd : decode cc pc = .ok (.lstore i, 2)) (k : Wo C G nL Q x σ kc ks (pc + 2) lv' st) : Wo C G nL Q x σ kc ks pc lv (.long v :: st) :=
  fun res hres hφ H locs hM hS ls hl => lv_lstore hC.hx hC.hb hd hl hn he (fun ls' hl' => k res hres hφ H locs hM hS ls' hl')
theorem r_dstore (hC : CX C G own cc nL rt fr cl sl lo) (lv' : List (Nat × Value)) {i : Nat} {v : UInt64} (hn : i + 1 < nL) (he : (i, Value.double v) :: lv.filter (fun q => !(q.1 == i) && (!(q.1 == i + 1) && !(q.1 + 1 == i && q.2.category == 2))) = lv') (hd : decode cc pc = .ok (.dstore i, 2)) (k : Wo C G nL Q x σ kc ks (pc + 2) lv' st) : Wo C G nL Q x σ kc ks pc lv (.double v :: st) :=
  fun res hres hφ H locs hM hS ls hl => lv_dstore hC.hx hC.hb hd hl hn he (fun ls' hl' => k res hres hφ H locs hM hS ls' hl')
theorem r_astoren (hC : CX C G own cc nL rt fr cl sl lo) (lv' : List (Nat × Value)) {q : Fin 4} {i : Nat} {r : Option Nat} (hi : (q : Nat) = i) (hn : i < nL) (he : (i, va_rf r) :: lv.filter (fun q => !(q.1 == i) && !(q.1 + 1 == i && q.2.category == 2)) = lv') (hd : decode cc pc = .ok (.astore_n q, 1)) (k : Wo C G nL Q x σ kc ks (pc + 1) lv' st) : Wo C G nL Q x σ kc ks pc lv (va_rf r :: st) := by
  intro res hres hφ H locs hM hS ls hl
  cases r with
  | none => exact lv_astore_nN hC.hx hC.hb hd hi hl hn he (fun ls' hl' => k res hres hφ H locs hM hS ls' hl')
  | some a => exact lv_astore_n hC.hx hC.hb hd hi hl hn he (fun ls' hl' => k res hres hφ H locs hM hS ls' hl')
theorem r_astore (hC : CX C G own cc nL rt fr cl sl lo) (lv' : List (Nat × Value)) {i : Nat} {r : Option Nat} (hn : i < nL) (he : (i, va_rf r) :: lv.filter (fun q => !(q.1 == i) && !(q.1 + 1 == i && q.2.category == 2)) = lv') (hd : decode cc pc = .ok (.astore i, 2)) (k : Wo C G nL Q x σ kc ks (pc + 2) lv' st) : Wo C G nL Q x σ kc ks pc lv (va_rf r :: st) := by
  intro res hres hφ H locs hM hS ls hl
  cases r with
  | none => exact lv_astoreN hC.hx hC.hb hd hl hn he (fun ls' hl' => k res hres hφ H locs hM hS ls' hl')
  | some a => exact lv_astore hC.hx hC.hb hd hl hn he (fun ls' hl' => k res hres hφ H locs hM hS ls' hl')
theorem r_iinc (hC : CX C G own cc nL rt fr cl sl lo) (j : Nat) (lv' : Int32 → List (Nat × Value)) {i : Nat} {n : Int} {v : Int32} {K : Int32 → Option β} (m : Int32) (hm : Int32.ofInt n = m) (hn : i < nL) (hv : lv[j]? = some (i, .int v)) (he : ∀ w : Int32, (i, Value.int w) :: lv.filter (fun q => !(q.1 == i) && !(q.1 + 1 == i && q.2.category == 2)) = lv' w) (hd : decode cc pc = .ok (.iinc i n, 3)) (k : ∀ w, Wo C G nL Q (K w) σ kc ks (pc + 3) (lv' w) st) : Wo C G nL Q (nm (v + m) K) σ kc ks pc lv st :=
  fun res hres hφ H locs hM hS ls hl => lv_iinc (v := v + m) hC.hx hC.hb hd hl hv (by rw [hm]) hn (he (v + m)) (fun ls' hl' => k (v + m) res hres hφ H locs hM hS ls' hl')
theorem r_dup (hC : CX C G own cc nL rt fr cl sl lo) {va : Value} (hva : va.category = 1) (hd : decode cc pc = .ok (.dup, 1)) (k : Wo C G nL Q x σ kc ks (pc + 1) lv (va :: va :: st)) : Wo C G nL Q x σ kc ks pc lv (va :: st) :=
  fun res hres hφ H locs hM hS ls hl => lv_dup hC.hx hC.hb hd hva (k res hres hφ H locs hM hS ls hl)
theorem r_pop (hC : CX C G own cc nL rt fr cl sl lo) {va : Value} (hva : va.category = 1) (hd : decode cc pc = .ok (.pop, 1)) (k : Wo C G nL Q x σ kc ks (pc + 1) lv st) : Wo C G nL Q x σ kc ks pc lv (va :: st) :=
  fun res hres hφ H locs hM hS ls hl => lv_pop hC.hx hC.hb hd hva (k res hres hφ H locs hM hS ls hl)
theorem r_dup_x1 (hC : CX C G own cc nL rt fr cl sl lo) {va vb : Value} (hva : va.category = 1) (hvb : vb.category = 1) (hd : decode cc pc = .ok (.dup_x1, 1)) (k : Wo C G nL Q x σ kc ks (pc + 1) lv (va :: vb :: va :: st)) : Wo C G nL Q x σ kc ks pc lv (va :: vb :: st) :=
  fun res hres hφ H locs hM hS ls hl => lv_dup_x1 hC.hx hC.hb hd hva hvb (k res hres hφ H locs hM hS ls hl)
theorem cat_rf (r : Option Nat) : (va_rf r).category = 1 := by cases r <;> rfl
theorem r_iadd (hC : CX C G own cc nL rt fr cl sl lo) {a b : Int32} {K : Int32 → Option β} (hd : decode cc pc = .ok (.iadd, 1)) (k : ∀ v, Wo C G nL Q (K v) σ kc ks (pc + 1) lv (.int v :: st)) : Wo C G nL Q (nm (a + b) K) σ kc ks pc lv (.int b :: .int a :: st) :=
  fun res hres hφ H locs hM hS ls hl => lv_iadd hC.hx hC.hb hd (k (a + b) res hres hφ H locs hM hS ls hl)
theorem r_isub (hC : CX C G own cc nL rt fr cl sl lo) {a b : Int32} {K : Int32 → Option β} (hd : decode cc pc = .ok (.isub, 1)) (k : ∀ v, Wo C G nL Q (K v) σ kc ks (pc + 1) lv (.int v :: st)) : Wo C G nL Q (nm (a - b) K) σ kc ks pc lv (.int b :: .int a :: st) :=
  fun res hres hφ H locs hM hS ls hl => lv_isub hC.hx hC.hb hd (k (a - b) res hres hφ H locs hM hS ls hl)
theorem r_imul (hC : CX C G own cc nL rt fr cl sl lo) {a b : Int32} {K : Int32 → Option β} (hd : decode cc pc = .ok (.imul, 1)) (k : ∀ v, Wo C G nL Q (K v) σ kc ks (pc + 1) lv (.int v :: st)) : Wo C G nL Q (nm (a * b) K) σ kc ks pc lv (.int b :: .int a :: st) :=
  fun res hres hφ H locs hM hS ls hl => lv_imul hC.hx hC.hb hd (k (a * b) res hres hφ H locs hM hS ls hl)
theorem r_iand (hC : CX C G own cc nL rt fr cl sl lo) {a b : Int32} {K : Int32 → Option β} (hd : decode cc pc = .ok (.iand, 1)) (k : ∀ v, Wo C G nL Q (K v) σ kc ks (pc + 1) lv (.int v :: st)) : Wo C G nL Q (nm (a &&& b) K) σ kc ks pc lv (.int b :: .int a :: st) :=
  fun res hres hφ H locs hM hS ls hl => lv_iand hC.hx hC.hb hd (k (a &&& b) res hres hφ H locs hM hS ls hl)
theorem r_ior (hC : CX C G own cc nL rt fr cl sl lo) {a b : Int32} {K : Int32 → Option β} (hd : decode cc pc = .ok (.ior, 1)) (k : ∀ v, Wo C G nL Q (K v) σ kc ks (pc + 1) lv (.int v :: st)) : Wo C G nL Q (nm (a ||| b) K) σ kc ks pc lv (.int b :: .int a :: st) :=
  fun res hres hφ H locs hM hS ls hl => lv_ior hC.hx hC.hb hd (k (a ||| b) res hres hφ H locs hM hS ls hl)
theorem r_ishr (hC : CX C G own cc nL rt fr cl sl lo) {a b : Int32} {K : Int32 → Option β} (hd : decode cc pc = .ok (.ishr, 1)) (k : ∀ v, Wo C G nL Q (K v) σ kc ks (pc + 1) lv (.int v :: st)) : Wo C G nL Q (nm (a >>> (b &&& 31)) K) σ kc ks pc lv (.int b :: .int a :: st) :=
  fun res hres hφ H locs hM hS ls hl => lv_ishr hC.hx hC.hb hd (k (a >>> (b &&& 31)) res hres hφ H locs hM hS ls hl)
theorem r_ineg (hC : CX C G own cc nL rt fr cl sl lo) {a : Int32} {K : Int32 → Option β} (hd : decode cc pc = .ok (.ineg, 1)) (k : ∀ v, Wo C G nL Q (K v) σ kc ks (pc + 1) lv (.int v :: st)) : Wo C G nL Q (nm (-a) K) σ kc ks pc lv (.int a :: st) :=
  fun res hres hφ H locs hM hS ls hl => lv_ineg hC.hx hC.hb hd (k (-a) res hres hφ H locs hM hS ls hl)
/-- a division: none at 0 -/
def dv (a b : Int32) (K : Int32 → Option β) : Option β := if b = 0 then none else K (a / b)
def rm (a b : Int32) (K : Int32 → Option β) : Option β := if b = 0 then none else K (a - a / b * b)
theorem r_idiv (hC : CX C G own cc nL rt fr cl sl lo) {a b : Int32} {K : Int32 → Option β} (hd : decode cc pc = .ok (.idiv, 1)) (k : ∀ v, Wo C G nL Q (K v) σ kc ks (pc + 1) lv (.int v :: st)) : Wo C G nL Q (dv a b K) σ kc ks pc lv (.int b :: .int a :: st) := by
  intro res hres hφ H locs hM hS ls hl
  unfold dv at hres
  split at hres
  · cases hres
  · rename_i h0
    exact lv_idiv hC.hx hC.hb hd h0 (k (a / b) res hres hφ H locs hM hS ls hl)
theorem r_irem (hC : CX C G own cc nL rt fr cl sl lo) {a b : Int32} {K : Int32 → Option β} (hd : decode cc pc = .ok (.irem, 1)) (k : ∀ v, Wo C G nL Q (K v) σ kc ks (pc + 1) lv (.int v :: st)) : Wo C G nL Q (rm a b K) σ kc ks pc lv (.int b :: .int a :: st) := by
  intro res hres hφ H locs hM hS ls hl
  unfold rm at hres
  split at hres
  · cases hres
  · rename_i h0
    exact lv_irem hC.hx hC.hb hd h0 (k (a - a / b * b) res hres hφ H locs hM hS ls hl)
theorem r_ladd (hC : CX C G own cc nL rt fr cl sl lo) {a b : Int64} {K : Int64 → Option β} (hd : decode cc pc = .ok (.ladd, 1)) (k : ∀ v, Wo C G nL Q (K v) σ kc ks (pc + 1) lv (.long v :: st)) : Wo C G nL Q (nm (a + b) K) σ kc ks pc lv (.long b :: .long a :: st) :=
  fun res hres hφ H locs hM hS ls hl => lv_ladd hC.hx hC.hb hd (k (a + b) res hres hφ H locs hM hS ls hl)
theorem r_lmul (hC : CX C G own cc nL rt fr cl sl lo) {a b : Int64} {K : Int64 → Option β} (hd : decode cc pc = .ok (.lmul, 1)) (k : ∀ v, Wo C G nL Q (K v) σ kc ks (pc + 1) lv (.long v :: st)) : Wo C G nL Q (nm (a * b) K) σ kc ks pc lv (.long b :: .long a :: st) :=
  fun res hres hφ H locs hM hS ls hl => lv_lmul hC.hx hC.hb hd (k (a * b) res hres hφ H locs hM hS ls hl)
theorem r_i2l (hC : CX C G own cc nL rt fr cl sl lo) {a : Int32} {K : Int64 → Option β} (hd : decode cc pc = .ok (.i2l, 1)) (k : ∀ v, Wo C G nL Q (K v) σ kc ks (pc + 1) lv (.long v :: st)) : Wo C G nL Q (nm a.toInt64 K) σ kc ks pc lv (.int a :: st) :=
  fun res hres hφ H locs hM hS ls hl => lv_i2l hC.hx hC.hb hd rfl (k a.toInt64 res hres hφ H locs hM hS ls hl)
theorem r_i2d (hC : CX C G own cc nL rt fr cl sl lo) {a : Int32} {K : UInt64 → Option β} (hd : decode cc pc = .ok (.i2d, 1)) (k : ∀ v, Wo C G nL Q (K v) σ kc ks (pc + 1) lv (.double v :: st)) : Wo C G nL Q (nm (FP.i2d a) K) σ kc ks pc lv (.int a :: st) :=
  fun res hres hφ H locs hM hS ls hl => lv_i2d hC.hx hC.hb hd (k (FP.i2d a) res hres hφ H locs hM hS ls hl)
/-- a double division that is a number -/
def ddv (a b : UInt64) (K : UInt64 → Option β) : Option β := if FP.ddiv a b &&& 0x7fffffffffffffff ≤ 0x7ff0000000000000 then K (FP.ddiv a b) else none
theorem r_ddiv (hC : CX C G own cc nL rt fr cl sl lo) {a b : UInt64} {K : UInt64 → Option β} (hd : decode cc pc = .ok (.ddiv, 1)) (k : ∀ v, Wo C G nL Q (K v) σ kc ks (pc + 1) lv (.double v :: st)) : Wo C G nL Q (ddv a b K) σ kc ks pc lv (.double b :: .double a :: st) := by
  intro res hres hφ H locs hM hS ls hl
  unfold ddv at hres
  split at hres
  · rename_i h0
    exact lv_ddiv hC.hx hC.hb hd h0 (k (FP.ddiv a b) res hres hφ H locs hM hS ls hl)
  · cases hres
theorem r_dcmp (hC : CX C G own cc nL rt fr cl sl lo) {a b : UInt64} {op : CmpOp} {K : Int32 → Option β} (hd : decode cc pc = .ok (.dcmp op, 1)) (k : ∀ v, Wo C G nL Q (K v) σ kc ks (pc + 1) lv (.int v :: st)) : Wo C G nL Q (nm (Op.cmpValue (FP.dcmp a b) op) K) σ kc ks pc lv (.double b :: .double a :: st) :=
  fun res hres hφ H locs hM hS ls hl => lv_dcmp hC.hx hC.hb hd (k _ res hres hφ H locs hM hS ls hl)
end R1
section R2
variable {β : Type} {C : Cxt} {G : Glb} {own : String} {cc : ByteArray} {nL : Nat} {rt : Option FieldType} {fr cl sl lo : Nat} {Q : Pst β} {x y : Option β} {σ : Mem} {kc ks pc : Nat} {lv : List (Nat × Value)} {st : List Value}
theorem r_dup2 (hC : CX C G own cc nL rt fr cl sl lo) {va vb : Value} (hva : va.category = 1) (hvb : vb.category = 1) (hd : decode cc pc = .ok (.dup2, 1)) (k : Wo C G nL Q x σ kc ks (pc + 1) lv (va :: vb :: va :: vb :: st)) : Wo C G nL Q x σ kc ks pc lv (va :: vb :: st) :=
  fun res hres hφ H locs hM hS ls hl => lv_dup2_11 hC.hx hC.hb hd hva hvb (k res hres hφ H locs hM hS ls hl)
theorem r_lcmp (hC : CX C G own cc nL rt fr cl sl lo) {a b : Int64} {K : Int32 → Option β} (hd : decode cc pc = .ok (.lcmp, 1)) (k : ∀ v, Wo C G nL Q (K v) σ kc ks (pc + 1) lv (.int v :: st)) : Wo C G nL Q (nm (lg_cmp a b) K) σ kc ks pc lv (.long b :: .long a :: st) :=
  fun res hres hφ H locs hM hS ls hl => W.lcmp hC.hx hC.hb hd (k _ res hres hφ H locs hM hS ls hl)
/-! branches -/
theorem ite_t {c : Prop} [Decidable c] {x y : Option β} {res : β} (h : (if c then x else y) = some res) (hc : c) : x = some res := by rw [if_pos hc] at h; exact h
theorem ite_f {c : Prop} [Decidable c] {x y : Option β} {res : β} (h : (if c then x else y) = some res) (hc : ¬ c) : y = some res := by rw [if_neg hc] at h; exact h
theorem r_goto (hC : CX C G own cc nL rt fr cl sl lo) (tgt : Nat) {off : Int} (hd : decode cc pc = .ok (.goto off, 3)) (ht : (pc : Int) + off = (tgt : Int)) (k : Wo C G nL Q x σ kc ks tgt lv st) : Wo C G nL Q x σ kc ks pc lv st :=
  fun res hres hφ H locs hM hS ls hl => lv_goto hC.hx hC.hb hd ht (k res hres hφ H locs hM hS ls hl)
theorem r_if_eq (hC : CX C G own cc nL rt fr cl sl lo) (tgt : Nat) {a : Int32} {off : Int} (hd : decode cc pc = .ok (.ifCond .eq off, 3)) (ht : (pc : Int) + off = (tgt : Int)) (kt : Wo C G nL Q x σ kc ks tgt lv st) (kf : Wo C G nL Q y σ kc ks (pc + 3) lv st) : Wo C G nL Q (if a = 0 then x else y) σ kc ks pc lv (.int a :: st) :=
  fun res hres hφ H locs hM hS ls hl => lv_if_eq hC.hx hC.hb hd ht (fun q => kt res (ite_t hres q) hφ H locs hM hS ls hl) (fun q => kf res (ite_f hres q) hφ H locs hM hS ls hl)
theorem r_icmp_eq (hC : CX C G own cc nL rt fr cl sl lo) (tgt : Nat) {a b : Int32} {off : Int} (hd : decode cc pc = .ok (.if_icmp .eq off, 3)) (ht : (pc : Int) + off = (tgt : Int)) (kt : Wo C G nL Q x σ kc ks tgt lv st) (kf : Wo C G nL Q y σ kc ks (pc + 3) lv st) : Wo C G nL Q (if a = b then x else y) σ kc ks pc lv (.int b :: .int a :: st) :=
  fun res hres hφ H locs hM hS ls hl => lv_icmp_eq hC.hx hC.hb hd ht (fun q => kt res (ite_t hres q) hφ H locs hM hS ls hl) (fun q => kf res (ite_f hres q) hφ H locs hM hS ls hl)
theorem r_if_ne (hC : CX C G own cc nL rt fr cl sl lo) (tgt : Nat) {a : Int32} {off : Int} (hd : decode cc pc = .ok (.ifCond .ne off, 3)) (ht : (pc : Int) + off = (tgt : Int)) (kt : Wo C G nL Q x σ kc ks tgt lv st) (kf : Wo C G nL Q y σ kc ks (pc + 3) lv st) : Wo C G nL Q (if a = 0 then y else x) σ kc ks pc lv (.int a :: st) :=
  fun res hres hφ H locs hM hS ls hl => lv_if_ne hC.hx hC.hb hd ht (fun q => kt res (ite_f hres q) hφ H locs hM hS ls hl) (fun q => kf res (ite_t hres q) hφ H locs hM hS ls hl)
theorem r_icmp_ne (hC : CX C G own cc nL rt fr cl sl lo) (tgt : Nat) {a b : Int32} {off : Int} (hd : decode cc pc = .ok (.if_icmp .ne off, 3)) (ht : (pc : Int) + off = (tgt : Int)) (kt : Wo C G nL Q x σ kc ks tgt lv st) (kf : Wo C G nL Q y σ kc ks (pc + 3) lv st) : Wo C G nL Q (if a = b then y else x) σ kc ks pc lv (.int b :: .int a :: st) :=
  fun res hres hφ H locs hM hS ls hl => lv_icmp_ne hC.hx hC.hb hd ht (fun q => kt res (ite_f hres q) hφ H locs hM hS ls hl) (fun q => kf res (ite_t hres q) hφ H locs hM hS ls hl)
theorem r_if_lt (hC : CX C G own cc nL rt fr cl sl lo) (tgt : Nat) {a : Int32} {off : Int} (hd : decode cc pc = .ok (.ifCond .lt off, 3)) (ht : (pc : Int) + off = (tgt : Int)) (kt : Wo C G nL Q x σ kc ks tgt lv st) (kf : Wo C G nL Q y σ kc ks (pc + 3) lv st) : Wo C G nL Q (if a < 0 then x else y) σ kc ks pc lv (.int a :: st) :=
  fun res hres hφ H locs hM hS ls hl => lv_if_lt hC.hx hC.hb hd ht (fun q => kt res (ite_t hres q) hφ H locs hM hS ls hl) (fun q => kf res (ite_f hres q) hφ H locs hM hS ls hl)
theorem r_icmp_lt (hC : CX C G own cc nL rt fr cl sl lo) (tgt : Nat) {a b : Int32} {off : Int} (hd : decode cc pc = .ok (.if_icmp .lt off, 3)) (ht : (pc : Int) + off = (tgt : Int)) (kt : Wo C G nL Q x σ kc ks tgt lv st) (kf : Wo C G nL Q y σ kc ks (pc + 3) lv st) : Wo C G nL Q (if a < b then x else y) σ kc ks pc lv (.int b :: .int a :: st) :=
  fun res hres hφ H locs hM hS ls hl => lv_icmp_lt hC.hx hC.hb hd ht (fun q => kt res (ite_t hres q) hφ H locs hM hS ls hl) (fun q => kf res (ite_f hres q) hφ H locs hM hS ls hl)
theorem r_if_ge (hC : CX C G own cc nL rt fr cl sl lo) (tgt : Nat) {a : Int32} {off : Int} (hd : decode cc pc = .ok (.ifCond .ge off, 3)) (ht : (pc : Int) + off = (tgt : Int)) (kt : Wo C G nL Q x σ kc ks tgt lv st) (kf : Wo C G nL Q y σ kc ks (pc + 3) lv st) : Wo C G nL Q (if 0 ≤ a then x else y) σ kc ks pc lv (.int a :: st) :=
  fun res hres hφ H locs hM hS ls hl => lv_if_ge hC.hx hC.hb hd ht (fun q => kt res (ite_t hres q) hφ H locs hM hS ls hl) (fun q => kf res (ite_f hres q) hφ H locs hM hS ls hl)
theorem r_icmp_ge (hC : CX C G own cc nL rt fr cl sl lo) (tgt : Nat) {a b : Int32} {off : Int} (hd : decode cc pc = .ok (.if_icmp .ge off, 3)) (ht : (pc : Int) + off = (tgt : Int)) (kt : Wo C G nL Q x σ kc ks tgt lv st) (kf : Wo C G nL Q y σ kc ks (pc + 3) lv st) : Wo C G nL Q (if b ≤ a then x else y) σ kc ks pc lv (.int b :: .int a :: st) :=
  fun res hres hφ H locs hM hS ls hl => lv_icmp_ge hC.hx hC.hb hd ht (fun q => kt res (ite_t hres q) hφ H locs hM hS ls hl) (fun q => kf res (ite_f hres q) hφ H locs hM hS ls hl)
theorem r_if_gt (hC : CX C G own cc nL rt fr cl sl lo) (tgt : Nat) {a : Int32} {off : Int} (hd : decode cc pc = .ok (.ifCond .gt off, 3)) (ht : (pc : Int) + off = (tgt : Int)) (kt : Wo C G nL Q x σ kc ks tgt lv st) (kf : Wo C G nL Q y σ kc ks (pc + 3) lv st) : Wo C G nL Q (if 0 < a then x else y) σ kc ks pc lv (.int a :: st) :=
  fun res hres hφ H locs hM hS ls hl => lv_if_gt hC.hx hC.hb hd ht (fun q => kt res (ite_t hres q) hφ H locs hM hS ls hl) (fun q => kf res (ite_f hres q) hφ H locs hM hS ls hl)
theorem r_icmp_gt (hC : CX C G own cc nL rt fr cl sl lo) (tgt : Nat) {a b : Int32} {off : Int} (hd : decode cc pc = .ok (.if_icmp .gt off, 3)) (ht : (pc : Int) + off = (tgt : Int)) (kt : Wo C G nL Q x σ kc ks tgt lv st) (kf : Wo C G nL Q y σ kc ks (pc + 3) lv st) : Wo C G nL Q (if b < a then x else y) σ kc ks pc lv (.int b :: .int a :: st) :=
  fun res hres hφ H locs hM hS ls hl => lv_icmp_gt hC.hx hC.hb hd ht (fun q => kt res (ite_t hres q) hφ H locs hM hS ls hl) (fun q => kf res (ite_f hres q) hφ H locs hM hS ls hl)
theorem r_if_le (hC : CX C G own cc nL rt fr cl sl lo) (tgt : Nat) {a : Int32} {off : Int} (hd : decode cc pc = .ok (.ifCond .le off, 3)) (ht : (pc : Int) + off = (tgt : Int)) (kt : Wo C G nL Q x σ kc ks tgt lv st) (kf : Wo C G nL Q y σ kc ks (pc + 3) lv st) : Wo C G nL Q (if a ≤ 0 then x else y) σ kc ks pc lv (.int a :: st) :=
  fun res hres hφ H locs hM hS ls hl => lv_if_le hC.hx hC.hb hd ht (fun q => kt res (ite_t hres q) hφ H locs hM hS ls hl) (fun q => kf res (ite_f hres q) hφ H locs hM hS ls hl)
theorem r_icmp_le (hC : CX C G own cc nL rt fr cl sl lo) (tgt : Nat) {a b : Int32} {off : Int} (hd : decode cc pc = .ok (.if_icmp .le off, 3)) (ht : (pc : Int) + off = (tgt : Int)) (kt : Wo C G nL Q x σ kc ks tgt lv st) (kf : Wo C G nL Q y σ kc ks (pc + 3) lv st) : Wo C G nL Q (if a ≤ b then x else y) σ kc ks pc lv (.int b :: .int a :: st) :=
  fun res hres hφ H locs hM hS ls hl => lv_icmp_le hC.hx hC.hb hd ht (fun q => kt res (ite_t hres q) hφ H locs hM hS ls hl) (fun q => kf res (ite_f hres q) hφ H locs hM hS ls hl)
theorem r_acmp_eq (hC : CX C G own cc nL rt fr cl sl lo) (tgt : Nat) {a b : Option Nat} {off : Int} (hd : decode cc pc = .ok (.if_acmp .eq off, 3)) (ht : (pc : Int) + off = (tgt : Int)) (kt : Wo C G nL Q x σ kc ks tgt lv st) (kf : Wo C G nL Q y σ kc ks (pc + 3) lv st) : Wo C G nL Q (if a = b then x else y) σ kc ks pc lv (va_rf b :: va_rf a :: st) :=
  fun res hres hφ H locs hM hS ls hl => lv_acmp_eq hC.hx hC.hb hd ht (fun q => kt res (ite_t hres q) hφ H locs hM hS ls hl) (fun q => kf res (ite_f hres q) hφ H locs hM hS ls hl)
theorem r_acmp_ne (hC : CX C G own cc nL rt fr cl sl lo) (tgt : Nat) {a b : Option Nat} {off : Int} (hd : decode cc pc = .ok (.if_acmp .ne off, 3)) (ht : (pc : Int) + off = (tgt : Int)) (kt : Wo C G nL Q x σ kc ks tgt lv st) (kf : Wo C G nL Q y σ kc ks (pc + 3) lv st) : Wo C G nL Q (if a = b then y else x) σ kc ks pc lv (va_rf b :: va_rf a :: st) :=
  fun res hres hφ H locs hM hS ls hl => lv_acmp_ne hC.hx hC.hb hd ht (fun q => kt res (ite_f hres q) hφ H locs hM hS ls hl) (fun q => kf res (ite_t hres q) hφ H locs hM hS ls hl)
/-- null, or not -/
def nul (r : Option Nat) (x y : Option β) : Option β := match r with
  | none => x
  | some _ => y
theorem r_ifnull (hC : CX C G own cc nL rt fr cl sl lo) (tgt : Nat) {r : Option Nat} {off : Int} (hd : decode cc pc = .ok (.ifnull off, 3)) (ht : (pc : Int) + off = (tgt : Int)) (kt : Wo C G nL Q x σ kc ks tgt lv st) (kf : Wo C G nL Q y σ kc ks (pc + 3) lv st) : Wo C G nL Q (nul r x y) σ kc ks pc lv (va_rf r :: st) := by
  intro res hres hφ H locs hM hS ls hl
  cases r with
  | none => exact lv_ifnullN hC.hx hC.hb hd ht (kt res hres hφ H locs hM hS ls hl)
  | some a => exact lv_ifnull hC.hx hC.hb hd (kf res hres hφ H locs hM hS ls hl)
theorem r_ifnonnull (hC : CX C G own cc nL rt fr cl sl lo) (tgt : Nat) {r : Option Nat} {off : Int} (hd : decode cc pc = .ok (.ifnonnull off, 3)) (ht : (pc : Int) + off = (tgt : Int)) (kt : Wo C G nL Q y σ kc ks tgt lv st) (kf : Wo C G nL Q x σ kc ks (pc + 3) lv st) : Wo C G nL Q (nul r x y) σ kc ks pc lv (va_rf r :: st) := by
  intro res hres hφ H locs hM hS ls hl
  cases r with
  | none => exact lv_ifnonnullN hC.hx hC.hb hd (kf res hres hφ H locs hM hS ls hl)
  | some a => exact lv_ifnonnull hC.hx hC.hb hd ht (kt res hres hφ H locs hM hS ls hl)
end R2
/-! the fields -/
def kdOf : FieldType → Nat
  | .int => 0
  | .boolean => 0
  | .long => 2
  | _ => 1
def dfl (kd : Nat) : Value := match kd with
  | 0 => .int 0
  | 1 => .null
  | _ => .long 0
/-- a class as the memory has it -/
def ClsOK (ci : Nat) (Cn : String) (T : u_T) (N : Nat) (ty0 : Nat → FieldType) : Prop := vwCl[ci]? = some (Cn, T, N) ∧ (∀ w ∈ u_ws Cn T N, w ∈ uW) ∧ (∀ k, k < N → parseFieldDescriptor (T k).2.2.1 = some (ty0 k)) ∧ (∀ a, a < N → ∀ b, b < N → a ≠ b → (T a).2.1 ≠ (T b).2.1) ∧ ∀ k, k < N → fk ci k = kdOf (ty0 k) ∧ defaultValue (ty0 k) = dfl (fk ci k)
section R3
variable {β : Type} {C : Cxt} {G : Glb} {own : String} {cc : ByteArray} {nL : Nat} {rt : Option FieldType} {fr cl sl lo : Nat} {Q : Pst β} {x y : Option β} {σ : Mem} {kc ks pc : Nat} {lv : List (Nat × Value)} {st : List Value}
/-- the field is named by its declarer, or is the same -/
theorem sameF (hC : CX C G own cc nL rt fr cl sl lo) {ref O n d : String} (h : O = ref ∨ Cond.sameField ref O n d ∈ uW) : ∀ z, (cS C).fieldFound? O n d = some z → (cS C).fieldFound? ref n d = some z := by
  intro z hz
  rcases h with h | h
  · rw [← h]; exact hz
  · exact u_same (hC.hts _ h) z hz
theorem core_get (hC : CX C G own cc nL rt fr cl sl lo) {H : Heap} {locs : List Loc} {ls : Array Slot} {Z : State → Prop} {ci : Nat} {Cn ref : String} {T : u_T} {N k index : Nat} {ty0 : Nat → FieldType} {h : Nat} (hcl : ClsOK ci Cn T N ty0) (hk : k < N) (hlink : (Cond.fieldLink own index ref (T k).2.1 (T k).2.2.1) ∈ uW) (hsame : (T k).1 = ref ∨ Cond.sameField ref (T k).1 (T k).2.1 (T k).2.2.1 ∈ uW)
    (hM : memK G σ H) (hT : (mT σ h).1 = ci + 1) (hd : decode cc pc = .ok (.getfield index, 3)) (kk : WC C H locs kc ks Z (F0 (cM C) (pc + 3) ls (vOf (fk ci k) σ h k :: st))) : WC C H locs kc ks Z (F0 (cM C) pc ls (.ref h :: st)) := by
  obtain ⟨h1, h2, h3, h4, h5⟩ := hcl
  obtain ⟨cell, q1, q2, q3, q4⟩ := (hM.2.1 h).1 ci _ hT h1
  obtain ⟨hS, hfc, kC, hkC, hkind⟩ := hC.hK.1.1.1 ci _ h1
  obtain ⟨cf, kf, fi, f, hi, hsl⟩ := hS k hk
  exact W.getf hC.hx hC.hb hC.hown (hC.hts _ hlink) (sameF hC hsame _ hi) (u_facts hfc hkC (u_lays hC.hts h2 hk) hi).1 q1 (by rw [q3]; exact fun h => by cases h) (v := vOf (fk ci k) σ h k) (by rw [hsl]; exact q4 k hk) rfl rfl hd kk
theorem core_getN (hC : CX C G own cc nL rt fr cl sl lo) {H : Heap} {locs : List Loc} {ls : Array Slot} {Z : State → Prop} {ci : Nat} {Cn ref host : String} {T : u_T} {N k index : Nat} {ty0 : Nat → FieldType} {h : Nat} (hcl : ClsOK ci Cn T N ty0) (hk : k < N) (hlink : (Cond.fieldLinkNest own index ref (T k).2.1 (T k).2.2.1 host) ∈ lw_tbl) (hsame : (T k).1 = ref)
    (hM : memK G σ H) (hT : (mT σ h).1 = ci + 1) (hd : decode cc pc = .ok (.getfield index, 3)) (kk : WC C H locs kc ks Z (F0 (cM C) (pc + 3) ls (vOf (fk ci k) σ h k :: st))) : WC C H locs kc ks Z (F0 (cM C) pc ls (.ref h :: st)) := by
  obtain ⟨h1, h2, h3, h4, h5⟩ := hcl
  obtain ⟨cell, q1, q2, q3, q4⟩ := (hM.2.1 h).1 ci _ hT h1
  obtain ⟨hS, hfc, kC, hkC, hkind⟩ := hC.hK.1.1.1 ci _ h1
  obtain ⟨cf, kf, fi, f, hi, hsl⟩ := hS k hk
  exact va_Wgetf hC.hx hC.hb hC.hown (va_Nw.use rfl (hC.hK.1.2.1 _ hlink rfl)) (by rw [← hsame]; exact hi) (u_facts hfc hkC (u_lays hC.hts h2 hk) hi).1 q1 (by rw [q3]; exact fun h => by cases h) (v := vOf (fk ci k) σ h k) (by rw [hsl]; exact q4 k hk) rfl rfl hd kk
/-- a field's int, reference, long -/
def gI (ci k : Nat) (σ : Mem) (r : Option Nat) (K : Int32 → Option β) : Option β := match r with
  | none => none
  | some h => if (mT σ h).1 = ci + 1 then K (mI σ h k) else none
def gR (ci k : Nat) (σ : Mem) (r : Option Nat) (K : Option Nat → Option β) : Option β := match r with
  | none => none
  | some h => if (mT σ h).1 = ci + 1 then K (mR σ h k) else none
theorem r_gI (hC : CX C G own cc nL rt fr cl sl lo) {ci k index N : Nat} {Cn ref : String} {T : u_T} {ty0 : Nat → FieldType} {r : Option Nat} {K : Int32 → Option β} (hcl : ClsOK ci Cn T N ty0) (hk : k < N) (hkd : fk ci k = 0) (hlink : (Cond.fieldLink own index ref (T k).2.1 (T k).2.2.1) ∈ uW) (hsame : (T k).1 = ref ∨ Cond.sameField ref (T k).1 (T k).2.1 (T k).2.2.1 ∈ uW) (hd : decode cc pc = .ok (.getfield index, 3))
    (kk : ∀ v, Wo C G nL Q (K v) σ kc ks (pc + 3) lv (.int v :: st)) : Wo C G nL Q (gI ci k σ r K) σ kc ks pc lv (va_rf r :: st) := by
  intro res hres hφ H locs hM hS ls hl
  cases r with
  | none => cases hres
  | some h =>
    simp only [gI] at hres
    split at hres
    · rename_i hT
      refine core_get hC hcl hk hlink hsame hM hT hd ?_
      rw [hkd]
      exact kk _ res hres hφ H locs hM hS ls hl
    · cases hres
theorem r_gIN (hC : CX C G own cc nL rt fr cl sl lo) {ci k index N : Nat} {Cn ref host : String} {T : u_T} {ty0 : Nat → FieldType} {r : Option Nat} {K : Int32 → Option β} (hcl : ClsOK ci Cn T N ty0) (hk : k < N) (hkd : fk ci k = 0) (hlink : (Cond.fieldLinkNest own index ref (T k).2.1 (T k).2.2.1 host) ∈ lw_tbl) (hsame : (T k).1 = ref) (hd : decode cc pc = .ok (.getfield index, 3))
    (kk : ∀ v, Wo C G nL Q (K v) σ kc ks (pc + 3) lv (.int v :: st)) : Wo C G nL Q (gI ci k σ r K) σ kc ks pc lv (va_rf r :: st) := by
  intro res hres hφ H locs hM hS ls hl
  cases r with
  | none => cases hres
  | some h =>
    simp only [gI] at hres
    split at hres
    · rename_i hT
      refine core_getN hC hcl hk hlink hsame hM hT hd ?_
      rw [hkd]
      exact kk _ res hres hφ H locs hM hS ls hl
    · cases hres
theorem r_gR (hC : CX C G own cc nL rt fr cl sl lo) {ci k index N : Nat} {Cn ref : String} {T : u_T} {ty0 : Nat → FieldType} {r : Option Nat} {K : Option Nat → Option β} (hcl : ClsOK ci Cn T N ty0) (hk : k < N) (hkd : fk ci k = 1) (hlink : (Cond.fieldLink own index ref (T k).2.1 (T k).2.2.1) ∈ uW) (hsame : (T k).1 = ref ∨ Cond.sameField ref (T k).1 (T k).2.1 (T k).2.2.1 ∈ uW) (hd : decode cc pc = .ok (.getfield index, 3))
    (kk : ∀ v, Wo C G nL Q (K v) σ kc ks (pc + 3) lv (va_rf v :: st)) : Wo C G nL Q (gR ci k σ r K) σ kc ks pc lv (va_rf r :: st) := by
  intro res hres hφ H locs hM hS ls hl
  cases r with
  | none => cases hres
  | some h =>
    simp only [gR] at hres
    split at hres
    · rename_i hT
      refine core_get hC hcl hk hlink hsame hM hT hd ?_
      rw [hkd]
      exact kk _ res hres hφ H locs hM hS ls hl
    · cases hres
/-- the cell of an object with one field changed -/
theorem okAt_field {ci k : Nat} {Cn : String} {T : u_T} {N : Nat} {ty0 : Nat → FieldType} {H' : Heap} {cell : Cell} {h : Nat} {σ' : Mem} {v : Value} (hC : CX C G own cc nL rt fr cl sl lo) (hcl : ClsOK ci Cn T N ty0) (hk : k < N) (hT : (mT σ h).1 = ci + 1) (hT' : mT σ' = mT σ) (q2 : cell.cls = G.1.1 ci) (q3 : cell.vm = .none) (q4 : ∀ j, j < N → cell.slots[G.1.2 ci j]? = some (vOf (fk ci j) σ h j)) (e1 : H'[h]? = some (cell.setSlot (G.1.2 ci k) v)) (hv : vOf (fk ci k) σ' h k = v) (ho : ∀ j, j ≠ k → ∀ kd, vOf kd σ' h j = vOf kd σ h j) : okAt G σ' H' h := by
  obtain ⟨h1, h2, h3, h4, h5⟩ := hcl
  have hap : ∀ a b, a < N → b < N → a ≠ b → G.1.2 ci a ≠ G.1.2 ci b := va_apart (own := own) (D := G.1) (cl := vwCl) (tys := tysG G) hC.hts h2 ty0 h3 h4 hC.hK.1.1 h1
  have hlt := vwCl_len h1
  refine ⟨fun ci' r hc hr => ?_, fun t ht h7 => ?_⟩
  · rw [hT', hT] at hc
    have hcc : ci' = ci := by omega
    subst hcc
    have hrr : r = (Cn, T, N) := Option.some.inj (hr.symm.trans h1)
    subst hrr
    refine ⟨_, e1, q2, q3, fun j hj => ?_⟩
    have hs := t_set q4 hap hk v j hj
    rw [hs]
    by_cases hjk : j = k
    · subst hjk
      simp [updV, hv]
    · simp [updV, hjk, ho j hjk]
  · rw [hT', hT] at ht
    omega
theorem fits_of {ty : FieldType} {kd : Nat} (hkd : kdOf ty = kd) {σ : Mem} {a k : Nat} (hb : ty = .boolean → mI σ a k = 0 ∨ mI σ a k = 1) (h8 : ty = .int ∨ ty = .boolean ∨ ty = .long ∨ (∃ n, ty = .object n) ∨ ∃ t, ty = .array t) : narrow ty (vOf kd σ a k) = vOf kd σ a k ∧ fits ty (vOf kd σ a k) = true := by
  subst hkd
  rcases h8 with rfl | rfl | rfl | ⟨n, rfl⟩ | ⟨t, rfl⟩
  · exact ⟨rfl, rfl⟩
  · rcases hb rfl with h | h <;> (simp only [kdOf, vOf, h]; exact ⟨by decide, by decide⟩)
  · exact ⟨rfl, rfl⟩
  · simp only [kdOf, vOf]
    cases mR σ a k <;> exact ⟨rfl, rfl⟩
  · simp only [kdOf, vOf]
    cases mR σ a k <;> exact ⟨rfl, rfl⟩
theorem vOf_sI {σ : Mem} {h k : Nat} {v : Int32} : vOf 0 (sI σ h k v) h k = .int v := by simp [vOf, sI, mI, up2]
theorem vOf_sI_o {σ : Mem} {h k : Nat} {v : Int32} (x j : Nat) (hne : ¬ (x = h ∧ j = k)) (kd : Nat) : vOf kd (sI σ h k v) x j = vOf kd σ x j := by
  unfold vOf
  split
  · simp only [sI, mI, up2, if_neg hne]
  · rfl
  · rfl
theorem vOf_sR {σ : Mem} {h k : Nat} {v : Option Nat} : vOf 1 (sR σ h k v) h k = va_rf v := by simp [vOf, sR, mR, up2]
theorem vOf_sR_o {σ : Mem} {h k : Nat} {v : Option Nat} (x j : Nat) (hne : ¬ (x = h ∧ j = k)) (kd : Nat) : vOf kd (sR σ h k v) x j = vOf kd σ x j := by
  unfold vOf
  split
  · rfl
  · simp only [sR, mR, up2, if_neg hne]
  · rfl
theorem core_put (hC : CX C G own cc nL rt fr cl sl lo) {H : Heap} {locs : List Loc} {ls : Array Slot} {Z : State → Prop} {ci : Nat} {Cn ref : String} {T : u_T} {N k index : Nat} {ty0 : Nat → FieldType} {h : Nat} {v : Value} {σ' : Mem} (hcl : ClsOK ci Cn T N ty0) (hk : k < N) (hlink : (Cond.fieldLink own index ref (T k).2.1 (T k).2.2.1) ∈ uW) (hsame : (T k).1 = ref ∨ Cond.sameField ref (T k).1 (T k).2.1 (T k).2.2.1 ∈ uW)
    (hfin : (T k).2.2.2 = false ∨ ((T k).2.2.2 = true ∧ (cF C).name = "<init>" ∧ (T k).1 = own)) (hn : narrow (ty0 k) v = v) (hfit : fits (ty0 k) v = true) (hM : memK G σ H) (hS : va_S (gA G) (cS C).heap H locs) (hT : (mT σ h).1 = ci + 1) (hT' : mT σ' = mT σ) (hZ' : mZ σ' = mZ σ) (hv : vOf (fk ci k) σ' h k = v) (ho : ∀ a j, ¬ (a = h ∧ j = k) → ∀ kd, vOf kd σ' a j = vOf kd σ a j) (hd : decode cc pc = .ok (.putfield index, 3))
    (kk : ∀ (H1 : Heap) (locs1 : List Loc), memK G σ' H1 → va_S (gA G) (cS C).heap H1 locs1 → WC C H1 locs1 kc ks Z (F0 (cM C) (pc + 3) ls st)) : WC C H locs kc ks Z (F0 (cM C) pc ls (v :: .ref h :: st)) := by
  have hcl0 := hcl
  obtain ⟨h1, h2, h3, h4, h5⟩ := hcl
  have hlt := vwCl_len h1
  obtain ⟨cell, q1, q2, q3, q4⟩ := (hM.2.1 h).1 ci _ hT h1
  obtain ⟨hSl, hfc, kC, hkC, hkind⟩ := hC.hK.1.1.1 ci _ h1
  obtain ⟨cf, kf, fi, f, hi, hsl⟩ := hSl k hk
  have hst := (u_facts hfc hkC (u_lays hC.hts h2 hk) hi).1
  have hin := sameF hC hsame _ hi
  have hA : gA G h := hM.2.2.2.1 h (by omega) (by omega)
  have fin : ∀ H' : Heap, H'[h]? = some (cell.setSlot f.slot v) → H'.size = H.size → (∀ q, q ≠ h → H'[q]? = H[q]?) → WC C H' (locs ++ [⟨h, f.slot⟩]) kc ks Z (F0 (cM C) (pc + 3) ls st) := by
    intro H' e1 e2 e3
    rw [hsl] at e1
    exact kk H' _ (hM.put h hT' hZ' (fun x hx kd j => ho x j (fun z => hx z.1) kd) e2 e3 (okAt_field hC hcl0 hk hT hT' q2 q3 q4 e1 hv (fun j hj kd => ho h j (fun z => hj z.2) kd))) (hS.put e2 e3 hA)
  rcases hfin with hf | ⟨hf, hname, hown2⟩
  · have hlay := hC.hts _ (h2 _ (u_in_lay hk))
    unfold u_lay at hlay
    rw [if_neg (by rw [hf]; decide)] at hlay
    have h6 := u_store hfc hkC hkind hlay hi (h3 k hk) hn hfit
    exact W.putK hC.hx hC.hb (f := f) ⟨hC.hown, hC.hts _ hlink, ⟨_, _, _, hin⟩, hst⟩ (by rw [q2]; exact h6) q1 q3 (by rw [hsl]; exact k2_hasslot (q4 k hk)) rfl rfl hd fin
  · have hlay := hC.hts _ (h2 _ (u_in_lay hk))
    unfold u_lay at hlay
    rw [if_pos hf] at hlay
    have hcf : (cM C).cls = cf := by
      obtain ⟨_, _, c', _, _, _, -, -, hf', -, -, -, hown3, -⟩ := Cond.laysFinal_spec hlay
      have e1 : c' = cf := by have := hi.symm.trans hf'; simp at this; exact this.1.symm
      rw [hown2] at hown3
      rw [← e1]; exact Option.some.inj (hC.hown.symm.trans hown3)
    have h6 := u_fits hfc hkC hkind (Or.inr hlay) hi (h3 k hk) hn hfit
    exact W.putFinK hC.hx hC.hb hC.hown (hC.hts _ hlink) hin hst hcf hname (by rw [q2]; exact h6) q1 q3 (by rw [hsl]; exact k2_hasslot (q4 k hk)) rfl rfl hd fin
/-- a field's int, boolean, reference is written -/
def pI (ci k : Nat) (σ : Mem) (r : Option Nat) (v : Int32) (K : Mem → Option β) : Option β := match r with
  | none => none
  | some h => if (mT σ h).1 = ci + 1 then K (sI σ h k v) else none
def pB (ci k : Nat) (σ : Mem) (r : Option Nat) (v : Int32) (K : Mem → Option β) : Option β := match r with
  | none => none
  | some h => if (mT σ h).1 = ci + 1 ∧ (v = 0 ∨ v = 1) then K (sI σ h k v) else none
def pR (ci k : Nat) (σ : Mem) (r : Option Nat) (v : Option Nat) (K : Mem → Option β) : Option β := match r with
  | none => none
  | some h => if (mT σ h).1 = ci + 1 then K (sR σ h k v) else none
theorem r_pI (hC : CX C G own cc nL rt fr cl sl lo) {ci k index N : Nat} {Cn ref : String} {T : u_T} {ty0 : Nat → FieldType} {r : Option Nat} {v : Int32} {K : Mem → Option β} (hcl : ClsOK ci Cn T N ty0) (hk : k < N) (hty : ty0 k = .int) (hlink : (Cond.fieldLink own index ref (T k).2.1 (T k).2.2.1) ∈ uW) (hsame : (T k).1 = ref ∨ Cond.sameField ref (T k).1 (T k).2.1 (T k).2.2.1 ∈ uW) (hfin : (T k).2.2.2 = false ∨ ((T k).2.2.2 = true ∧ (cF C).name = "<init>" ∧ (T k).1 = own)) (hd : decode cc pc = .ok (.putfield index, 3))
    (kk : ∀ σ', Wo C G nL Q (K σ') σ' kc ks (pc + 3) lv st) : Wo C G nL Q (pI ci k σ r v K) σ kc ks pc lv (.int v :: va_rf r :: st) := by
  intro res hres hφ H locs hM hS ls hl
  cases r with
  | none => cases hres
  | some h =>
    simp only [pI] at hres
    split at hres
    · rename_i hT
      have hkd : fk ci k = 0 := by rw [(hcl.2.2.2.2 k hk).1, hty]; rfl
      exact core_put hC (σ' := sI σ h k v) hcl hk hlink hsame hfin (by rw [hty]; rfl) (by rw [hty]; rfl) hM hS hT rfl rfl (by rw [hkd]; exact vOf_sI) (fun a j hne kd => vOf_sI_o a j hne kd) hd (fun H1 locs1 hM1 hS1 => kk _ res hres hφ H1 locs1 hM1 hS1 ls hl)
    · cases hres
theorem r_pB (hC : CX C G own cc nL rt fr cl sl lo) {ci k index N : Nat} {Cn ref : String} {T : u_T} {ty0 : Nat → FieldType} {r : Option Nat} {v : Int32} {K : Mem → Option β} (hcl : ClsOK ci Cn T N ty0) (hk : k < N) (hty : ty0 k = .boolean) (hlink : (Cond.fieldLink own index ref (T k).2.1 (T k).2.2.1) ∈ uW) (hsame : (T k).1 = ref ∨ Cond.sameField ref (T k).1 (T k).2.1 (T k).2.2.1 ∈ uW) (hfin : (T k).2.2.2 = false ∨ ((T k).2.2.2 = true ∧ (cF C).name = "<init>" ∧ (T k).1 = own)) (hd : decode cc pc = .ok (.putfield index, 3))
    (kk : ∀ σ', Wo C G nL Q (K σ') σ' kc ks (pc + 3) lv st) : Wo C G nL Q (pB ci k σ r v K) σ kc ks pc lv (.int v :: va_rf r :: st) := by
  intro res hres hφ H locs hM hS ls hl
  cases r with
  | none => cases hres
  | some h =>
    simp only [pB] at hres
    split at hres
    · rename_i hT
      have hkd : fk ci k = 0 := by rw [(hcl.2.2.2.2 k hk).1, hty]; rfl
      have hnf : narrow .boolean (.int v) = .int v ∧ fits .boolean (.int v) = true := by rcases hT.2 with h | h <;> (subst h; exact ⟨by decide, by decide⟩)
      exact core_put hC (σ' := sI σ h k v) hcl hk hlink hsame hfin (by rw [hty]; exact hnf.1) (by rw [hty]; exact hnf.2) hM hS hT.1 rfl rfl (by rw [hkd]; exact vOf_sI) (fun a j hne kd => vOf_sI_o a j hne kd) hd (fun H1 locs1 hM1 hS1 => kk _ res hres hφ H1 locs1 hM1 hS1 ls hl)
    · cases hres
theorem r_pR (hC : CX C G own cc nL rt fr cl sl lo) {ci k index N : Nat} {Cn ref : String} {T : u_T} {ty0 : Nat → FieldType} {r v : Option Nat} {K : Mem → Option β} (hcl : ClsOK ci Cn T N ty0) (hk : k < N) (hkd : fk ci k = 1) (hty : (∃ n, ty0 k = .object n) ∨ ∃ t, ty0 k = .array t) (hlink : (Cond.fieldLink own index ref (T k).2.1 (T k).2.2.1) ∈ uW) (hsame : (T k).1 = ref ∨ Cond.sameField ref (T k).1 (T k).2.1 (T k).2.2.1 ∈ uW) (hfin : (T k).2.2.2 = false ∨ ((T k).2.2.2 = true ∧ (cF C).name = "<init>" ∧ (T k).1 = own)) (hd : decode cc pc = .ok (.putfield index, 3))
    (kk : ∀ σ', Wo C G nL Q (K σ') σ' kc ks (pc + 3) lv st) : Wo C G nL Q (pR ci k σ r v K) σ kc ks pc lv (va_rf v :: va_rf r :: st) := by
  intro res hres hφ H locs hM hS ls hl
  cases r with
  | none => cases hres
  | some h =>
    simp only [pR] at hres
    split at hres
    · rename_i hT
      have hnf : narrow (ty0 k) (va_rf v) = va_rf v ∧ fits (ty0 k) (va_rf v) = true := by
        rcases hty with ⟨n, e⟩ | ⟨t, e⟩ <;> rw [e] <;> cases v <;> exact ⟨rfl, rfl⟩
      exact core_put hC (σ' := sR σ h k v) hcl hk hlink hsame hfin hnf.1 hnf.2 hM hS hT rfl rfl (by rw [hkd]; exact vOf_sR) (fun a j hne kd => vOf_sR_o a j hne kd) hd (fun H1 locs1 hM1 hS1 => kk _ res hres hφ H1 locs1 hM1 hS1 ls hl)
    · cases hres
end R3
end
section
section R4
variable {β : Type} {C : Cxt} {G : Glb} {own : String} {cc : ByteArray} {nL : Nat} {rt : Option FieldType} {fr cl sl lo : Nat} {Q : Pst β} {x y : Option β} {σ : Mem} {kc ks pc : Nat} {lv : List (Nat × Value)} {st : List Value}
/-! arrays -/
abbrev ix (i : Int32) (n : Nat) : Prop := ¬ i < 0 ∧ i.toNatClampNeg < n
theorem ix_in {i : Int32} {n : Nat} (h : ix i n) : ¬ (i < 0 ∨ n ≤ i.toNatClampNeg) := fun q => q.elim h.1 (fun z => absurd h.2 (by omega))
abbrev isA (σ : Mem) (h t : Nat) : Prop := (mT σ h).1 = 100 + t ∨ (mT σ h).1 = 200 + t
theorem arr_at (hC : CX C G own cc nL rt fr cl sl lo) {H : Heap} {h t : Nat} {ty : FieldType} (hM : memK G σ H) (hT : isA σ h t) (ht : atL[t]? = some ty) : H[h]? = some (arrV (G.2.1 t) (mT σ h).2 (fun j => vOf (ak t) σ h j)) ∧ (∀ (n : Nat) (z : Nat → Value), (cS C).isArrayOf (arrV (G.2.1 t) n z) ty) :=
  ⟨(hM.2.1 h).2 t hT ((List.getElem?_eq_some_iff.mp ht).1), (hC.hK.1.1.2 t _ (tysG_at G t ht)).1⟩
/-- an element: int, long, reference -/
def aI (σ : Mem) (r : Option Nat) (i : Int32) (K : Int32 → Option β) : Option β := match r with
  | none => none
  | some h => if isA σ h 0 ∧ ix i (mT σ h).2 then K (mI σ h i.toNatClampNeg) else none
def aR (t : Nat) (σ : Mem) (r : Option Nat) (i : Int32) (K : Option Nat → Option β) : Option β := match r with
  | none => none
  | some h => if isA σ h t ∧ ix i (mT σ h).2 then K (mR σ h i.toNatClampNeg) else none
def aL (σ : Mem) (r : Option Nat) (K : Int32 → Option β) : Option β := match r with
  | none => none
  | some h => if (100 ≤ (mT σ h).1 ∧ (mT σ h).1 < 104) ∨ (200 ≤ (mT σ h).1 ∧ (mT σ h).1 < 204) then K (Int32.ofNat (mT σ h).2) else none
theorem r_aI (hC : CX C G own cc nL rt fr cl sl lo) {r : Option Nat} {i : Int32} {K : Int32 → Option β} (hd : decode cc pc = .ok (.iaload, 1)) (kk : ∀ v, Wo C G nL Q (K v) σ kc ks (pc + 1) lv (.int v :: st)) : Wo C G nL Q (aI σ r i K) σ kc ks pc lv (.int i :: va_rf r :: st) := by
  intro res hres hφ H locs hM hS ls hl
  cases r with
  | none => cases hres
  | some h =>
    simp only [aI] at hres
    split at hres
    · rename_i hT
      obtain ⟨e1, e2⟩ := arr_at hC hM hT.1 (show atL[0]? = some .int from rfl)
      exact W.iald (v := .int (mI σ h i.toNatClampNeg)) hC.hx hC.hb e1 (e2 _ _) (fun q => by cases q) (by show ¬ (i < 0 ∨ (arrV _ _ _).slots.size ≤ _); rw [arrV_size]; exact ix_in hT.2) (by show (arrV _ _ _).slots[_]? = _; rw [arrV_read _ _ hT.2.2]; rfl) rfl rfl hd (kk _ res hres hφ H locs hM hS ls hl)
    · cases hres
theorem r_aR (hC : CX C G own cc nL rt fr cl sl lo) {t : Nat} {Cn : String} {r : Option Nat} {i : Int32} {K : Option Nat → Option β} (ht : atL[t]? = some (.object Cn)) (ht2 : ak t = 1) (hd : decode cc pc = .ok (.aaload, 1)) (kk : ∀ v, Wo C G nL Q (K v) σ kc ks (pc + 1) lv (va_rf v :: st)) : Wo C G nL Q (aR t σ r i K) σ kc ks pc lv (.int i :: va_rf r :: st) := by
  intro res hres hφ H locs hM hS ls hl
  cases r with
  | none => cases hres
  | some h =>
    simp only [aR] at hres
    split at hres
    · rename_i hT
      obtain ⟨e1, e2⟩ := arr_at hC hM hT.1 ht
      exact W.aald (v := va_rf (mR σ h i.toNatClampNeg)) (ty := .object Cn) hC.hx hC.hb e1 (e2 _ _) rfl (fun q => by cases q) (by show ¬ (i < 0 ∨ (arrV _ _ _).slots.size ≤ _); rw [arrV_size]; exact ix_in hT.2) (by show (arrV _ _ _).slots[_]? = _; rw [arrV_read _ _ hT.2.2, ht2]; rfl) rfl rfl hd (kk _ res hres hφ H locs hM hS ls hl)
    · cases hres
theorem r_aL (hC : CX C G own cc nL rt fr cl sl lo) {r : Option Nat} {K : Int32 → Option β} (hd : decode cc pc = .ok (.arraylength, 1)) (kk : ∀ v, Wo C G nL Q (K v) σ kc ks (pc + 1) lv (.int v :: st)) : Wo C G nL Q (aL σ r K) σ kc ks pc lv (va_rf r :: st) := by
  intro res hres hφ H locs hM hS ls hl
  cases r with
  | none => cases hres
  | some h =>
    simp only [aL] at hres
    split at hres
    · rename_i hT
      obtain ⟨t, ht, h7⟩ : ∃ t, isA σ h t ∧ t < 4 := by
        rcases hT with q | q
        · exact ⟨(mT σ h).1 - 100, Or.inl (by omega), by omega⟩
        · exact ⟨(mT σ h).1 - 200, Or.inr (by omega), by omega⟩
      obtain ⟨ty, hty⟩ : ∃ ty, atL[t]? = some ty := ⟨_, List.getElem?_eq_getElem (show t < atL.length from h7)⟩
      obtain ⟨e1, e2⟩ := arr_at hC hM ht hty
      exact W.alen (n := Int32.ofNat (mT σ h).2) hC.hx hC.hb e1 (e2 _ _) (by rw [arrV_size] <;> rfl) rfl rfl hd (kk _ res hres hφ H locs hM hS ls hl)
    · cases hres
/-- the script: an element, its length -/
def aIs (xs : Nat → Int32) (L9 b9 : Nat) (r : Option Nat) (i : Int32) (K : Int32 → Option β) : Option β := if r = some b9 then (if ix i L9 then K (xs i.toNatClampNeg) else none) else none
def aLs (L9 b9 : Nat) (r : Option Nat) (K : Int32 → Option β) : Option β := if r = some b9 then K (Int32.ofNat L9) else none
theorem r_aIs (hC : CX C G own cc nL rt fr cl sl lo) {r : Option Nat} {i : Int32} {K : Int32 → Option β} (hd : decode cc pc = .ok (.iaload, 1)) (kk : ∀ v, Wo C G nL Q (K v) σ kc ks (pc + 1) lv (.int v :: st)) : Wo C G nL Q (aIs (gX G) (gL G) (gB G) r i K) σ kc ks pc lv (.int i :: va_rf r :: st) := by
  intro res hres hφ H locs hM hS ls hl
  unfold aIs at hres
  split at hres
  · rename_i hr
    subst hr
    split at hres
    · rename_i hi
      exact va_sld hC.hx hC.hb hC.hK.2.1 hC.hK.lt hC.hK.2.2 hS (ix_in hi) hd (kk _ res hres hφ H locs hM hS ls hl)
    · cases hres
  · cases hres
theorem r_aLs (hC : CX C G own cc nL rt fr cl sl lo) {r : Option Nat} {K : Int32 → Option β} (hd : decode cc pc = .ok (.arraylength, 1)) (kk : ∀ v, Wo C G nL Q (K v) σ kc ks (pc + 1) lv (.int v :: st)) : Wo C G nL Q (aLs (gL G) (gB G) r K) σ kc ks pc lv (va_rf r :: st) := by
  intro res hres hφ H locs hM hS ls hl
  unfold aLs at hres
  split at hres
  · rename_i hr
    subst hr
    exact va_slen hC.hx hC.hb hC.hK.2.1 hC.hK.lt hC.hK.2.2 hS hd (kk _ res hres hφ H locs hM hS ls hl)
  · cases hres
theorem r_ldc2d (hC : CX C G own cc nL rt fr cl sl lo) {i : Nat} {v : UInt64} (hw : Cond.constantDouble own i v ∈ uW) (hd : decode cc pc = .ok (.ldc2_w i, 3)) (k : Wo C G nL Q x σ kc ks (pc + 3) lv (.double v :: st)) : Wo C G nL Q x σ kc ks pc lv st :=
  fun res hres hφ H locs hM hS ls hl => lv_ldc2d hC.hx hC.hb hC.hown (hC.hts _ hw) hd (k res hres hφ H locs hM hS ls hl)
/-- an array's cell with its contents changed -/
theorem okAt_arr {H' : Heap} {h t : Nat} {σ' : Mem} {fv : Nat → Value} (hT : isA σ h t) (h7 : t < 4) (hT' : mT σ' = mT σ) (e1 : H'[h]? = some (arrV (G.2.1 t) (mT σ h).2 fv)) (hv : ∀ j, vOf (ak t) σ' h j = fv j) : okAt G σ' H' h := by
  refine ⟨fun ci r hc hr => ?_, fun t' ht h7' => ?_⟩
  · have := vwCl_len hr
    rw [hT'] at hc
    rcases hT with q | q <;> omega
  · rw [hT'] at ht ⊢
    have htt : t' = t := by rcases hT with q | q <;> rcases ht with z | z <;> omega
    subst htt
    rw [e1]
    exact congrArg some (congrArg (arrV _ _) (funext fun j => (hv j).symm))
/-- an element is written -/
def wI (σ : Mem) (r : Option Nat) (i v : Int32) (K : Mem → Option β) : Option β := match r with
  | none => none
  | some h => if (mT σ h).1 = 100 ∧ ix i (mT σ h).2 then K (sI σ h i.toNatClampNeg v) else none
theorem core_ast {H H' : Heap} {locs : List Loc} {h t k : Nat} {σ' : Mem} {v : Value} {Z : Prop} (hT : (mT σ h).1 = 100 + t) (h7 : t < 4) (hM : memK G σ H) (hS : va_S (gA G) (cS C).heap H locs) (hT' : mT σ' = mT σ) (hZ' : mZ σ' = mZ σ) (hv : vOf (ak t) σ' h k = v) (ho : ∀ a j, ¬ (a = h ∧ j = k) → ∀ kd, vOf kd σ' a j = vOf kd σ a j)
    (e : H'[h]? = some ((arrV (G.2.1 t) (mT σ h).2 (fun j => vOf (ak t) σ h j)).setSlot k v)) (z : H'.size = H.size) (oq : ∀ q, q ≠ h → H'[q]? = H[q]?) (kk : memK G σ' H' → va_S (gA G) (cS C).heap H' (locs ++ [⟨h, k⟩]) → Z) : Z := by
  refine kk (hM.put h hT' hZ' (fun x hx kd j => ho x j (fun z => hx z.1) kd) z oq ?_) (hS.put z oq (hM.2.2.2.1 h (by omega) (by omega)))
  rw [arrV_store] at e
  refine okAt_arr (Or.inl hT) h7 hT' e (fun j => ?_)
  by_cases hj : j = k
  · subst hj
    simp [updV, hv]
  · simp [updV, hj, ho h j (fun z => hj z.2)]
theorem r_wI (hC : CX C G own cc nL rt fr cl sl lo) {r : Option Nat} {i v : Int32} {K : Mem → Option β} (hd : decode cc pc = .ok (.iastore, 1)) (kk : ∀ σ', Wo C G nL Q (K σ') σ' kc ks (pc + 1) lv st) : Wo C G nL Q (wI σ r i v K) σ kc ks pc lv (.int v :: .int i :: va_rf r :: st) := by
  intro res hres hφ H locs hM hS ls hl
  cases r with
  | none => cases hres
  | some h =>
    simp only [wI] at hres
    split at hres
    · rename_i hT
      obtain ⟨e1, e2⟩ := arr_at hC hM (t := 0) (Or.inl hT.1) (show atL[0]? = some .int from rfl)
      exact W.iast hC.hx hC.hb e1 (e2 _ _) (fun q => by cases q) (by show ¬ (i < 0 ∨ (arrV _ _ _).slots.size ≤ _); rw [arrV_size]; exact ix_in hT.2) rfl rfl hd (fun H1 e z oq => core_ast (C := C) (t := 0) (σ' := sI σ h i.toNatClampNeg v) hT.1 (by decide) hM hS rfl rfl vOf_sI (fun a j hne kd => vOf_sI_o a j hne kd) e z oq (fun hM1 hS1 => kk _ res hres hφ H1 _ hM1 hS1 ls hl))
    · cases hres
/-- what may be put into an array of references: of the class of its elements -/
abbrev elOK (t : Nat) (σ : Mem) (y : Nat) : Prop := (t = 1 ∧ (mT σ y).1 = 2) ∨ (t = 2 ∧ (mT σ y).1 = 3) ∨ (t = 3 ∧ (mT σ y).1 = 4)
theorem obj_at (hC : CX C G own cc nL rt fr cl sl lo) {H : Heap} {h ci : Nat} {r : vw_C} (hM : memK G σ H) (hT : (mT σ h).1 = ci + 1) (hr : vwCl[ci]? = some r) : ∃ cell : Cell, H[h]? = some cell ∧ cell.vm.isStatics = false ∧ (cS C).vm.findClass r.1 = some cell.cls ∧ ∃ kC : Class, (cS C).vm.classes[cell.cls]? = some kC := by
  obtain ⟨cell, q1, q2, q3, q4⟩ := (hM.2.1 h).1 ci _ hT hr
  obtain ⟨-, hfc, kC, hkC, -⟩ := hC.hK.1.1.1 ci _ hr
  exact ⟨cell, q1, by rw [q3]; rfl, by rw [q2]; exact hfc, kC, by rw [q2]; exact hkC⟩
theorem cast_at (hC : CX C G own cc nL rt fr cl sl lo) {A B : String} (h : Cond.castable A B ∈ lw_tbl) {a b : ClassId} (ha : (cS C).vm.findClass A = some a) (hb : (cS C).vm.findClass B = some b) : (cS C).vm.assignable a b = true := by
  obtain ⟨c0, t0, f1, f2, f3⟩ := Cond.castable_spec (va_Nw.use (A := #[]) rfl (hC.hK.1.2.1 _ h rfl))
  cases ha.symm.trans f1
  cases hb.symm.trans f2
  exact f3
theorem any_obj (hC : CX C G own cc nL rt fr cl sl lo) {H : Heap} {h ci : Nat} {r : vw_C} {E : String} (hM : memK G σ H) (hT : (mT σ h).1 = ci + 1) (hr : vwCl[ci]? = some r) (hE : E = r.1 ∨ Cond.castable r.1 E ∈ lw_tbl) : va_Any E (cS C) H h := by
  obtain ⟨cell, q1, q2, q3, q4⟩ := obj_at hC hM hT hr
  refine ⟨cell, q1, q2, q4, fun comp hc => ?_⟩
  rcases hE with e | e
  · subst e
    cases q3.symm.trans hc
    exact va_asg _ _
  · exact cast_at hC e q3 hc
theorem any_at (hC : CX C G own cc nL rt fr cl sl lo) {H : Heap} {t y : Nat} {E : String} (hM : memK G σ H) (ht : atL[t]? = some (.object E)) (h : elOK t σ y) : va_Any E (cS C) H y := by
  rcases h with ⟨rfl, h⟩ | ⟨rfl, h⟩ | ⟨rfl, h⟩ <;> cases ht
  · exact any_obj hC hM (ci := 1) h rfl (Or.inl rfl)
  · exact any_obj hC hM (ci := 2) h rfl (Or.inl rfl)
  · exact any_obj hC hM (ci := 3) h rfl (Or.inl rfl)
def wR (t : Nat) (σ : Mem) (r : Option Nat) (i : Int32) (v : Option Nat) (K : Mem → Option β) : Option β := match r with
  | none => none
  | some h => if (mT σ h).1 = 100 + t ∧ ix i (mT σ h).2 ∧ (∀ y ∈ v, elOK t σ y) then K (sR σ h i.toNatClampNeg v) else none
theorem r_wR (hC : CX C G own cc nL rt fr cl sl lo) {t : Nat} {E : String} {r v : Option Nat} {i : Int32} {K : Mem → Option β} (ht : atL[t]? = some (.object E)) (ht2 : ak t = 1) (hd : decode cc pc = .ok (.aastore, 1)) (kk : ∀ σ', Wo C G nL Q (K σ') σ' kc ks (pc + 1) lv st) : Wo C G nL Q (wR t σ r i v K) σ kc ks pc lv (va_rf v :: .int i :: va_rf r :: st) := by
  intro res hres hφ H locs hM hS ls hl
  cases r with
  | none => cases hres
  | some h =>
    simp only [wR] at hres
    split at hres
    · rename_i hT
      have h7 : t < 4 := (List.getElem?_eq_some_iff.mp ht).1
      obtain ⟨e1, e2⟩ := arr_at hC hM (t := t) (Or.inl hT.1) ht
      have fin : ∀ (H1 : Heap), H1[h]? = some ((arrV (G.2.1 t) (mT σ h).2 (fun j => vOf (ak t) σ h j)).setSlot i.toNatClampNeg (va_rf v)) → H1.size = H.size → (∀ q, q ≠ h → H1[q]? = H[q]?) → WC C H1 (locs ++ [⟨h, i.toNatClampNeg⟩]) kc ks (Q.2 res) (F0 (cM C) (pc + 1) ls st) :=
        fun H1 e z oq => core_ast (C := C) (t := t) (σ' := sR σ h i.toNatClampNeg v) hT.1 h7 hM hS rfl rfl (by rw [ht2]; exact vOf_sR) (fun a j hne kd => vOf_sR_o a j hne kd) e z oq (fun hM1 hS1 => kk _ res hres hφ H1 _ hM1 hS1 ls hl)
      cases v with
      | none => exact va_WaastN (C := E) hC.hx hC.hb e1 (e2 _ _) (fun h => by cases h) (by show ¬ (i < 0 ∨ (arrV _ _ _).slots.size ≤ _); rw [arrV_size]; exact ix_in hT.2.1) rfl rfl hd fin
      | some y =>
        obtain ⟨cellV, g1, g3, ⟨kC, hkC⟩, hasg⟩ := any_at hC hM ht (hT.2.2 y rfl)
        obtain ⟨kA, comp, k1, k2, k3, -⟩ := (hC.hK.1.1.2 t _ (tysG_at G t ht)).2
        obtain ⟨kE, hkE, -⟩ := Vm.findClass_spec k3
        exact W.aast hC.hx hC.hb e1 (fun q h => by cases h) (fun h => by cases h) k1 k2 rfl hkE ⟨hT.2.1.1, by show _ < (arrV _ _ _).slots.size; rw [arrV_size]; exact hT.2.1.2⟩ g1 (fun q h => by rw [h] at g3; cases g3) hkC (hasg _ k3) rfl rfl hd fin
    · cases hres
/-! new cells -/
theorem vOf_sN (t : Nat × Nat) (kd j : Nat) : vOf kd (sN σ t) (mZ σ) j = dfl kd := by
  unfold vOf dfl
  split <;> simp [sN, mI, mR, mJ, rowS, va_rf]
theorem mT_sN (t : Nat × Nat) : mT (sN σ t) (mZ σ) = t := by simp [sN, mT, rowS]
theorem arrV_dfl {cA : ClassId} {n t : Nat} : arrV cA n (fun _ => dfl (ak t)) = arrV cA n (fun j => vOf (ak t) (sN σ (100 + t, n)) (mZ σ) j) := by
  congr 1
  funext j
  exact (vOf_sN _ _ j).symm
theorem new_S (hC : CX C G own cc nL rt fr cl sl lo) {H H1 : Heap} {locs : List Loc} (hM : memK G σ H) (hS : va_S (gA G) (cS C).heap H locs) (z1 : H1.size = mZ σ + 1) (o1 : ∀ q, q < mZ σ → H1[q]? = H[q]?) : va_S (gA G) (cS C).heap H1 locs := by
  have h0 := hM.1
  refine ⟨Nat.le_trans hS.1 (by omega), fun q h1 h2 => ?_, hS.2.2⟩
  rw [o1 q (by have := hS.1; omega)]
  exact hS.2.1 q h1 h2
/-- new: the object's address is the heap's size -/
def nO (ci : Nat) (σ : Mem) (K : Mem → Option Nat → Option β) : Option β := K (sN σ (ci + 1, 0)) (some (mZ σ))
theorem r_nO (hC : CX C G own cc nL rt fr cl sl lo) {ci N index : Nat} {Cn : String} {T : u_T} {ty0 : Nat → FieldType} {K : Mem → Option Nat → Option β} (hcl : ClsOK ci Cn T N ty0) (hlink : Cond.classLink own index Cn ∈ uW) (hins : Cond.instantiable Cn N ∈ uW) (hini : Cond.initialized Cn ∈ uW) (hf : kc + 1 ≤ cl ∧ ks + N ≤ sl) (hd : decode cc pc = .ok (.new index, 3))
    (kk : ∀ σ' r, Wo C G nL Q (K σ' r) σ' (kc + 1) (ks + N) (pc + 3) lv (va_rf r :: st)) : Wo C G nL Q (nO ci σ K) σ kc ks pc lv st := by
  intro res hres hφ H locs hM hS ls hl
  obtain ⟨h1, h2, h3, h4, h5⟩ := hcl
  have hKn := hC.hK.1.1.1 ci _ h1
  have hlt := vwCl_len h1
  refine W.newcK hC.hx hC.hb hC.hown (hC.hts _ hlink) (hC.hts _ hins) (hC.hts _ hini) rfl hd (by rw [hC.hR]; exact hf.1) (by rw [hC.hR]; exact hf.2) hKn.2.1 hM.1 fun H1 kC hkC e1 z1 o1 => ?_
  have hb := (u_born ty0 hC.hts h2 hKn hkC e1 h3).to (V' := fun k => vOf (fk ci k) (sN σ (ci + 1, 0)) (mZ σ) k) (fun k hk => by rw [(h5 k hk).2, vOf_sN])
  refine kk _ _ res hres hφ H1 locs (hM.new z1 o1 ⟨fun ci' r hc hr => ?_, fun t ht h7 => ?_⟩) (new_S hC hM hS z1 o1) ls hl
  · rw [mT_sN] at hc
    have hcc : ci' = ci := by have : ci + 1 = ci' + 1 := hc; omega
    subst hcc
    cases h1.symm.trans hr
    exact hb
  · rw [mT_sN] at ht
    have : ci + 1 = 100 + t ∨ ci + 1 = 200 + t := ht
    omega
theorem new_okA {H1 : Heap} {t n : Nat} (h7 : t < 4) (e1 : H1[mZ σ]? = some (arrV (G.2.1 t) n (fun _ => dfl (ak t)))) : okAt G (sN σ (100 + t, n)) H1 (mZ σ) := by
  refine ⟨fun ci r hc hr => ?_, fun t' ht h7' => ?_⟩
  · have := vwCl_len hr
    rw [mT_sN] at hc
    have : 100 + t = ci + 1 := hc
    omega
  · rw [mT_sN] at ht ⊢
    have htt : t' = t := by have : 100 + t = 100 + t' ∨ 100 + t = 200 + t' := ht; omega
    subst htt
    rw [e1]
    exact congrArg some arrV_dfl
/-- a new array of ints or longs, of references; 'b': the most places that it may have -/
def nA (t b : Nat) (σ : Mem) (n : Int32) (K : Mem → Option Nat → Option β) : Option β := if ¬ n < 0 ∧ n.toNatClampNeg ≤ b then K (sN σ (100 + t, n.toNatClampNeg)) (some (mZ σ)) else none
theorem r_nA (hC : CX C G own cc nL rt fr cl sl lo) {t b : Nat} {ty : FieldType} {atype : ArrayType} {n : Int32} {K : Mem → Option Nat → Option β} (hty : newarray.typeOf atype = ty) (ht : atL[t]? = some ty) (ht2 : defaultValue ty = dfl (ak t)) (hnm : ∀ cA, va_RA (cS C) cA ty → (cS C).vm.findClass ("[" ++ ty.toString) = some cA) (harr : Cond.arrayClass ty ∈ uW) (hb8 : b * componentBytes ty ≤ 536870912) (hf : kc + 1 ≤ cl ∧ ks + b ≤ sl) (hd : decode cc pc = .ok (.newarray atype, 2))
    (kk : ∀ σ' r, Wo C G nL Q (K σ' r) σ' (kc + 1) (ks + b) (pc + 2) lv (va_rf r :: st)) : Wo C G nL Q (nA t b σ n K) σ kc ks pc lv (.int n :: st) := by
  intro res hres hφ H locs hM hS ls hl
  unfold nA at hres
  split at hres
  · rename_i hn
    subst hty
    have h7 : t < 4 := (List.getElem?_eq_some_iff.mp ht).1
    refine va_newaK hC.hx hC.hb (hC.hts _ harr) rfl hd rfl hn.1 rfl (Nat.le_trans (Nat.mul_le_mul_right _ hn.2) hb8) (by rw [hC.hR]; exact hf.1) (by rw [hC.hR]; show ks + _ ≤ sl; have := hf.2; have := hn.2; omega) hM.1 fun H1 cA e1 z1 o1 hAr hNm => ?_
    have hcA : cA = G.2.1 t := Option.some.inj (hNm.symm.trans (hnm _ (hC.hK.1.1.2 t _ (tysG_at G t ht)).2))
    subst hcA
    rw [ht2] at e1
    exact W.widen (k := kc + 1) (n := ks + b) (Nat.le_refl _) (by have := hn.2; omega) (kk _ _ res hres hφ H1 locs (hM.new z1 o1 (new_okA h7 e1)) (new_S hC hM hS z1 o1) ls hl)
  · cases hres
theorem r_nQ (hC : CX C G own cc nL rt fr cl sl lo) {t b index : Nat} {E : String} {n : Int32} {K : Mem → Option Nat → Option β} (ht : atL[t]? = some (.object E)) (ht2 : ak t = 1) (hlink : Cond.classLink own index E ∈ uW) (hover : va_AO E (cS C)) (hb8 : b * 4 ≤ 536870912) (hf : kc + 1 ≤ cl ∧ ks + b ≤ sl) (hd : decode cc pc = .ok (.anewarray index, 3))
    (kk : ∀ σ' r, Wo C G nL Q (K σ' r) σ' (kc + 1) (ks + b) (pc + 3) lv (va_rf r :: st)) : Wo C G nL Q (nA t b σ n K) σ kc ks pc lv (.int n :: st) := by
  intro res hres hφ H locs hM hS ls hl
  unfold nA at hres
  split at hres
  · rename_i hn
    have h7 : t < 4 := (List.getElem?_eq_some_iff.mp ht).1
    have h0 := hM.1
    refine W.anew hC.hx hC.hb hC.hown (hC.hts _ hlink) (va_AO.use hover) rfl hd rfl hn.1 (Nat.le_trans (Nat.mul_le_mul_right _ hn.2) hb8) (by rw [hC.hR]; exact hf.1) (by rw [hC.hR]; show ks + _ ≤ sl; have := hf.2; have := hn.2; omega) fun cA kA comp f1 f2 f3 f4 => ?_
    have hcA : cA = G.2.1 t := by
      obtain ⟨_, _, _, _, _, f5⟩ := (hC.hK.1.1.2 t _ (tysG_at G t ht)).2
      exact Option.some.inj (f1.symm.trans f5)
    subst hcA
    generalize hH1 : H.push ({ cls := G.2.1 t, slots := Array.replicate n.toNatClampNeg .null, vm := .none } : Cell) = H1
    have z1 : H1.size = mZ σ + 1 := by rw [← hH1, Array.size_push, h0]
    have e1 : H1[mZ σ]? = some (arrV (G.2.1 t) n.toNatClampNeg (fun _ => dfl (ak t))) := by rw [← hH1, ← h0, Array.getElem?_push_size, ht2, ← arrV_new]; rfl
    have o1 : ∀ q : Nat, q < mZ σ → H1[q]? = H[q]? := fun q hq => by rw [← hH1, Array.getElem?_push, if_neg (by omega)]
    rw [h0]
    exact W.widen (k := kc + 1) (n := ks + b) (Nat.le_refl _) (by have := hn.2; omega) (kk _ _ res hres hφ H1 locs (hM.new z1 o1 (new_okA h7 e1)) (new_S hC hM hS z1 o1) ls hl)
  · cases hres
end R4
end
section
section R5
variable {β : Type} {C : Cxt} {G : Glb} {own : String} {cc : ByteArray} {nL : Nat} {rt : Option FieldType} {fr cl sl lo : Nat} {Q : Pst β} {x y : Option β} {σ : Mem} {kc ks pc : Nat} {lv : List (Nat × Value)} {st : List Value}
/-! Math -/
theorem r_max (hC : CX C G own cc nL rt fr cl sl lo) {index : Nat} {a b : Int32} {K : Int32 → Option β} (h1 : Cond.methodLink own index Lib.Math.max.name ∈ uW) (h2 : Cond.static Lib.Math.max.name ∈ uW) (h3 : Cond.initialized "java/lang/Math" ∈ uW) (h4 : Cond.code Lib.Math.max.name Lib.Math.max.code 2 (some .int) ∈ uW) (hf : 1 ≤ fr) (hlo : (st.map fun v => v.category).sum + 13 ≤ lo) (hk : kc ≤ cl ∧ ks ≤ sl) (hd : decode cc pc = .ok (.invokestatic index, 3))
    (k : ∀ v, Wo C G nL Q (K v) σ kc ks (pc + 3) lv (.int v :: st)) : Wo C G nL Q (nm (if a < b then b else a) K) σ kc ks pc lv (.int b :: .int a :: st) :=
  fun res hres hφ H locs hM hS ls hl => va_mmax hC.hx hC.hb (by rw [hC.hml]; exact hl.1.symm) hC.hown (hC.hts _ h1) (hC.hts _ h2) (hC.hts _ h3) (hC.hts _ h4) (by rw [hC.hR]; exact hf) (by rw [hC.hR]; exact hlo) (by rw [hC.hR]; exact hk.1) (by rw [hC.hR]; exact hk.2) hd (k _ res hres hφ H locs hM hS ls hl)
theorem r_min (hC : CX C G own cc nL rt fr cl sl lo) {index : Nat} {a b : Int32} {K : Int32 → Option β} (h1 : Cond.methodLink own index Lib.Math.min.name ∈ uW) (h2 : Cond.static Lib.Math.min.name ∈ uW) (h3 : Cond.initialized "java/lang/Math" ∈ uW) (h4 : Cond.code Lib.Math.min.name Lib.Math.min.code 2 (some .int) ∈ uW) (hf : 1 ≤ fr) (hlo : (st.map fun v => v.category).sum + 13 ≤ lo) (hk : kc ≤ cl ∧ ks ≤ sl) (hd : decode cc pc = .ok (.invokestatic index, 3))
    (k : ∀ v, Wo C G nL Q (K v) σ kc ks (pc + 3) lv (.int v :: st)) : Wo C G nL Q (nm (if b < a then b else a) K) σ kc ks pc lv (.int b :: .int a :: st) :=
  fun res hres hφ H locs hM hS ls hl => va_mmin hC.hx hC.hb (by rw [hC.hml]; exact hl.1.symm) hC.hown (hC.hts _ h1) (hC.hts _ h2) (hC.hts _ h3) (hC.hts _ h4) (by rw [hC.hR]; exact hf) (by rw [hC.hR]; exact hlo) (by rw [hC.hR]; exact hk.1) (by rw [hC.hR]; exact hk.2) hd (k _ res hres hφ H locs hM hS ls hl)
theorem r_abs (hC : CX C G own cc nL rt fr cl sl lo) {index : Nat} {a : Int32} {K : Int32 → Option β} (h1 : Cond.methodLink own index Lib.Math.abs.name ∈ uW) (h2 : Cond.static Lib.Math.abs.name ∈ uW) (h3 : Cond.initialized "java/lang/Math" ∈ uW) (h4 : Cond.code Lib.Math.abs.name Lib.Math.abs.code 1 (some .int) ∈ uW) (hf : 1 ≤ fr) (hlo : (st.map fun v => v.category).sum + 13 ≤ lo) (hk : kc ≤ cl ∧ ks ≤ sl) (hd : decode cc pc = .ok (.invokestatic index, 3))
    (k : ∀ v, Wo C G nL Q (K v) σ kc ks (pc + 3) lv (.int v :: st)) : Wo C G nL Q (nm (if 0 ≤ a then a else 0 - a) K) σ kc ks pc lv (.int a :: st) :=
  fun res hres hφ H locs hM hS ls hl => va_mabs hC.hx hC.hb (by rw [hC.hml]; exact hl.1.symm) hC.hown (hC.hts _ h1) (hC.hts _ h2) (hC.hts _ h3) (hC.hts _ h4) (by rw [hC.hR]; exact hf) (by rw [hC.hR]; exact hlo) (by rw [hC.hR]; exact hk.1) (by rw [hC.hR]; exact hk.2) hd (k _ res hres hφ H locs hM hS ls hl)
end R5
end
section
section R6
variable {α β : Type} {C : Cxt} {G : Glb} {own : String} {cc : ByteArray} {nL : Nat} {rt : Option FieldType} {fr cl sl lo : Nat} {Q : Pst β} {σ : Mem} {kc ks pc : Nat} {lv : List (Nat × Value)} {st : List Value}
/-! CONTRACTS: a method does what its function does; 'rv': the answer as a value -/
def rvI (v : Int32) : Option Value := some (.int v)
def rvU (_ : Unit) : Option Value := none
def rvR (r : Option Nat) : Option Value := some (va_rf r)
def rvJ (v : Int64) : Option Value := some (.long v)
def rvD (v : UInt64) : Option Value := some (.double v)
def QG (G : Glb) (rv : α → Option Value) (r : α × Mem) : Array Value → State → Outcome → State → Prop := fun _ s o t => o = .returned (rv r.1) ∧ memK G r.2 t.heap ∧ va_F (gA G) s t
def Ct (rv : α → Option Value) (l : Launch) (y : MethodName) (ws : List Cond) (rm : Room) (mc ms : Nat) (G : Glb) (av : List Value) (σ : Mem) (x : Option (α × Mem)) : Prop := ∀ r, x = some r → Met l y ws rm (va_Pc av (WB G σ)) (QG G rv r) mc ms (gA G)
def QP (C : Cxt) (G : Glb) (rv : α → Option Value) (mc ms : Nat) : Pst (α × Mem) := (fun _ => True, fun r => MQ (cB C) (QG G rv r) (cA C) (cS C) mc ms (gA G))
/-- from the body's walk to the contract -/
theorem entry_of (hC : CX C G own cc nL rt fr cl sl lo) {av : List Value} (hn : (lg_sl av).length ≤ nL) {x : Option β} (hb : Wo C G nL Q x σ 0 0 0 (lv_args 0 av) []) {res : β} (hr : x = some res) (hφ : Q.1 res) (hM : memK G σ (cS C).heap) : WC C (cS C).heap [] 0 0 (Q.2 res) (entryFrame (cM C) av.toArray nL) := by
  rw [lg_entry_eq]
  exact hb res hr hφ _ _ hM va_S.rf _ (lv_entry av hn)
theorem Ct.of {rv : α → Option Value} {l : Launch} {y : MethodName} {mc ms : Nat} {av : List Value} {x : Option (α × Mem)} (hl : l.stackTraces = false) (hy : plainFor y = true) (hn : (lg_sl av).length ≤ nL)
    (body : ∀ C : Cxt, CX C G y.cls cc nL rt fr mc ms lo → (cF C).name = y.name → Wo C G nL (QP C G rv mc ms) x σ 0 0 0 (lv_args 0 av) []) : Ct rv l y (Cond.code y cc nL rt :: uW) { frames := fr, cells := mc, slots := ms, locals := lo } mc ms G av σ x := by
  intro r hr
  refine va_MetF hy rfl ?_
  intro p e s m args below meth c s₁ B hml hv
  obtain ⟨rfl, hKB, hM⟩ := hv
  have hts := atoms_spec (ws := Cond.code y cc nL rt :: uW) B.pre
  have hC : CX (p, l, e, { frames := fr, cells := mc, slots := ms, locals := lo }, s, m, av.toArray, below, meth, c) G y.cls cc nL rt fr mc ms lo := ⟨B.exec, B.bytes, hml, findClass_of_methodNamed B.named, fun w hw => hts w (List.mem_cons_of_mem _ hw), hKB, B.notSynchronized, B.returns, rfl, hl, by show G.2.2.1 ≤ s.heap.size; rw [hM.1]; exact hM.2.2.2.2⟩
  exact entry_of hC hn (body _ hC (name_of_methodNamed B.named B.method).1) hr trivial hM
/-! the ends -/
theorem end_F (hC : CX C G own cc nL rt fr cl sl lo) {t : State} {H : Heap} {locs : List Loc} (hS : va_S (gA G) (cS C).heap H locs) (ht : t.heap = H) : va_F (gA G) (cS C) t := hS.F ht
theorem e_I (hC : CX C G own cc nL (some .int) fr cl sl lo) {mc ms : Nat} {v : Int32} (hk : kc ≤ mc ∧ ks ≤ ms) (hd : decode cc pc = .ok (.ireturn, 1)) : Wo C G nL (QP C G rvI mc ms) (some (v, σ)) σ kc ks pc lv [.int v] := by
  intro res hres hφ H locs hM hS ls hl
  cases hres
  exact W.widen hk.1 hk.2 (W.iret hC.hx hC.hb hC.hr (fun t ht hW => ⟨rfl, by rw [ht]; exact hM, hS.F ht⟩) hS.2.2 hd hC.hlk)
/-- a boolean answer -/
def bo (v : Int32) (x : Option β) : Option β := if v = 0 ∨ v = 1 then x else none
theorem nar_b {v : Int32} (h : v = 0 ∨ v = 1) : narrow .boolean (.int v) = .int v := by rcases h with h | h <;> (subst h; decide)
theorem e_B (hC : CX C G own cc nL (some .boolean) fr cl sl lo) {mc ms : Nat} {v : Int32} (hk : kc ≤ mc ∧ ks ≤ ms) (hd : decode cc pc = .ok (.ireturn, 1)) : Wo C G nL (QP C G rvI mc ms) (bo v (some (v, σ))) σ kc ks pc lv [.int v] := by
  intro res hres hφ H locs hM hS ls hl
  unfold bo at hres
  split at hres
  · rename_i hv
    cases hres
    exact W.widen hk.1 hk.2 (W.zret hC.hx hC.hb hC.hr (nar_b hv) (fun t ht hW => ⟨rfl, by rw [ht]; exact hM, hS.F ht⟩) hS.2.2 hd hC.hlk)
  · cases hres
theorem e_U (hC : CX C G own cc nL none fr cl sl lo) {mc ms : Nat} (hk : kc ≤ mc ∧ ks ≤ ms) (hd : decode cc pc = .ok (.return_, 1)) : Wo C G nL (QP C G rvU mc ms) (some ((), σ)) σ kc ks pc lv [] := by
  intro res hres hφ H locs hM hS ls hl
  cases hres
  exact W.widen hk.1 hk.2 (W.vret hC.hx hC.hb hC.hr (fun t ht hW => ⟨rfl, by rw [ht]; exact hM, hS.F ht⟩) hS.2.2 hd hC.hlk)
theorem e_R {ft : FieldType} (hC : CX C G own cc nL (some ft) fr cl sl lo) (hft : (∃ n, ft = .object n) ∨ ∃ t, ft = .array t) {mc ms : Nat} {r : Option Nat} (hk : kc ≤ mc ∧ ks ≤ ms) (hd : decode cc pc = .ok (.areturn, 1)) : Wo C G nL (QP C G rvR mc ms) (some (r, σ)) σ kc ks pc lv [va_rf r] := by
  intro res hres hφ H locs hM hS ls hl
  cases hres
  exact W.widen hk.1 hk.2 (W.aret hC.hx hC.hb hC.hr hft (by cases r with | none => exact Or.inl rfl | some a => exact Or.inr ⟨a, rfl⟩) (fun t ht hW => ⟨rfl, by rw [ht]; exact hM, hS.F ht⟩) hS.2.2 hd hC.hlk)
theorem e_J (hC : CX C G own cc nL (some .long) fr cl sl lo) {mc ms : Nat} {v : Int64} (hk : kc ≤ mc ∧ ks ≤ ms) (hd : decode cc pc = .ok (.lreturn, 1)) : Wo C G nL (QP C G rvJ mc ms) (some (v, σ)) σ kc ks pc lv [.long v] := by
  intro res hres hφ H locs hM hS ls hl
  cases hres
  exact W.widen hk.1 hk.2 (W.lret hC.hx hC.hb hC.hr (fun t ht hW => ⟨rfl, by rw [ht]; exact hM, hS.F ht⟩) hS.2.2 hd hC.hlk)
theorem e_D (hC : CX C G own cc nL (some .double) fr cl sl lo) {mc ms : Nat} {v : UInt64} (hk : kc ≤ mc ∧ ks ≤ ms) (hd : decode cc pc = .ok (.dreturn, 1)) : Wo C G nL (QP C G rvD mc ms) (some (v, σ)) σ kc ks pc lv [.double v] := by
  intro res hres hφ H locs hM hS ls hl
  cases hres
  exact W.widen hk.1 hk.2 (W.dret hC.hx hC.hb hC.hr (fun t ht hW => ⟨rfl, by rw [ht]; exact hM, hS.F ht⟩) hS.2.2 hd hC.hlk)
end R6
end
section
section R7
variable {α β : Type} {C : Cxt} {G : Glb} {own : String} {cc : ByteArray} {nL : Nat} {rt : Option FieldType} {fr cl sl lo : Nat} {Q : Pst β} {σ : Mem} {kc ks pc : Nat} {lv : List (Nat × Value)} {st st0 : List Value}
/-! CALLS -/
theorem run_S {H : Heap} {locs L : List Loc} {st₀ t T' : State} (h0 : st₀.heap = H) (hS : va_S (gA G) (cS C).heap H locs) (hL : ∀ q ∈ L, gA G q.base) (hF : va_F (gA G) st₀ t) (e1 : T'.heap = t.heap) : va_S (gA G) (cS C).heap T'.heap (locs ++ L) := by
  obtain ⟨hz, hk⟩ := hF
  rw [h0] at hz hk
  refine ⟨Nat.le_trans hS.1 (by rw [e1]; exact hz), fun q h1 h2 => ?_, fun q hq => ?_⟩
  · rw [e1, hk q (Nat.lt_of_lt_of_le h1 hS.1) h2]
    exact hS.2.1 q h1 h2
  · rcases List.mem_append.mp hq with h | h
    · exact hS.2.2 q h
    · exact hL q h
theorem run_P {rv : α → Option Value} {r : α × Mem} {a : Array Value} {H : Heap} {locs : List Loc} {ls : Array Slot} {Z : State → Prop} {mc ms : Nat} (hS : va_S (gA G) (cS C).heap H locs)
    (hr : va_Run (cP C) (cL C) (cE C) (cR C) (cS C) (cM C) (cA C) (cB C) (cF C) (cC C) H locs kc ks mc ms (F0 (cM C) pc ls st0) st (QG G rv r a) (gA G))
    (kk : ∀ (H1 : Heap) (locs1 : List Loc), memK G r.2 H1 → va_S (gA G) (cS C).heap H1 locs1 → WC C H1 locs1 (kc + mc) (ks + ms) Z (F0 (cM C) (pc + 3) ls ((rv r.1).toList ++ st))) : WC C H locs kc ks Z (F0 (cM C) pc ls st0) := by
  intro T hT X
  obtain ⟨v, st₀, t, T', L, h0, X', hL, e1, e2, ⟨hv, hm, hF⟩, st⟩ := hr T hT X
  cases hv
  obtain ⟨t2, a1, b1⟩ := kk T'.heap (locs ++ L) (by rw [e1]; exact hm) (run_S h0 hS hL hF e1) T' rfl X'
  exact ⟨t2, st t2 a1, b1⟩
/-- a call of a method that only returns; that returns or throws -/
def cl1 (x : Option (α × Mem)) (K : α → Mem → Option β) : Option β := match x with
  | none => none
  | some r => K r.1 r.2
/-- the receiver's address, its class known -/
def ob (ci : Nat) (σ : Mem) (r : Option Nat) (K : Nat → Option β) : Option β := match r with
  | none => none
  | some h => if (mT σ h).1 = ci + 1 then K h else none
theorem good_u {w : Cond} (h : w ∈ uW) : w ∈ uW ∧ ((w.onTables && w.keeps) = true ∨ ∃ ty, w = .arrayClass ty) := ⟨h, good_of_word (List.mem_filter.mp h).2⟩
theorem good_c {cw : Cond} (h : cw ∈ uW) : GoodIn uW (cw :: uW) := fun w hw => (List.mem_cons.mp hw).elim (fun e => by rw [e]; exact good_u h) good_u
theorem good_V {own Cn : String} {index : Nat} {y : MethodName} {cw : Cond} (h1 : Cond.methodLink own index y ∈ uW) (h2 : Cond.instanceMethod y ∈ uW) (h3 : Cond.selects Cn y y ∈ uW) (h4 : Cond.initialized Cn ∈ uW) (h5 : cw ∈ uW) : GoodIn uW (wsV own index Cn y (cw :: uW)) := by
  intro w hw
  rcases List.mem_append.mp (show w ∈ ([.methodLink own index y, .instanceMethod y, .selects Cn y y, .initialized Cn] : List Cond) ++ (cw :: uW) from hw) with h | h
  · simp only [List.mem_cons, List.not_mem_nil, or_false] at h
    rcases h with rfl | rfl | rfl | rfl
    · exact good_u h1
    · exact good_u h2
    · exact good_u h3
    · exact good_u h4
  · exact good_c h5 w h
theorem good_S {own : String} {index : Nat} {y : MethodName} {cw : Cond} (h1 : Cond.methodLink own index y ∈ uW) (h2 : Cond.static y ∈ uW) (h4 : Cond.initialized y.cls ∈ uW) (h5 : cw ∈ uW) : GoodIn uW (va_wsS own index y (cw :: uW)) := by
  intro w hw
  rcases List.mem_append.mp (show w ∈ ([.methodLink own index y, .static y, .initialized y.cls] : List Cond) ++ (cw :: uW) from hw) with h | h
  · simp only [List.mem_cons, List.not_mem_nil, or_false] at h
    rcases h with rfl | rfl | rfl
    · exact good_u h1
    · exact good_u h2
    · exact good_u h4
  · exact good_c h5 w h
/-- a method's name as its calls want it -/
def Yd (y : MethodName) (n : Nat) : Prop := y.cls ≠ "java/lang/invoke/MethodHandle" ∧ y.cls ≠ "java/lang/invoke/VarHandle" ∧ (parseMethodDescriptor y.desc).map (fun d => d.parameters.length) = some n
theorem pre_S (hC : CX C G own cc nL rt fr cl sl lo) {H : Heap} {locs : List Loc} (hM : memK G σ H) (hS : va_S (gA G) (cS C).heap H locs) {av : List Value} : PreS (cS C) H (va_Pc av (WB G σ)) av :=
  ⟨WB.blind, fun U hU hW => ⟨rfl, KB.warm hW (by rw [hU]; exact hS.2.1) hC.hK, by rw [hU]; exact hM⟩⟩
theorem pre_V (hC : CX C G own cc nL rt fr cl sl lo) {H : Heap} {locs : List Loc} (hM : memK G σ H) (hS : va_S (gA G) (cS C).heap H locs) {av : List Value} {h ci : Nat} {q : vw_C} (hT : (mT σ h).1 = ci + 1) (hr : vwCl[ci]? = some q) : PreV (cS C) H q.1 h (va_Pc (.ref h :: av) (WB G σ)) av := by
  obtain ⟨cell, q1, q2, q3, -⟩ := obj_at hC hM hT hr
  exact ⟨WB.blind, ⟨cell, q1, q2, q3⟩, fun U hU hW => ⟨rfl, KB.warm hW (by rw [hU]; exact hS.2.1) hC.hK, by rw [hU]; exact hM⟩⟩
theorem call_V (hC : CX C G own cc nL rt fr cl sl lo) {rv : α → Option Value} {y : MethodName} {bytes : ByteArray} {mL n index ci : Nat} {ret : Option FieldType} {fr' mc ms lo' : Nat} {av : List Value} {Cn : String} {T : u_T} {N : Nat} {r : Option Nat} {f : Nat → Option (α × Mem)} {K : α → Mem → Option β} (hcl : vwCl[ci]? = some (Cn, T, N)) (hyc : y.cls = Cn) (hct : ∀ h, Ct rv (cL C) y (Cond.code y bytes mL ret :: uW) { frames := fr', cells := mc, slots := ms, locals := lo' } mc ms G (.ref h :: av) σ (f h))
    (h1 : Cond.methodLink own index y ∈ uW) (h2 : Cond.instanceMethod y ∈ uW) (h3 : Cond.selects Cn y y ∈ uW) (h4 : Cond.initialized Cn ∈ uW) (h5 : Cond.code y bytes mL ret ∈ uW) (hy : Yd y n) (hn : av.length = n) (hR : fr' + 1 ≤ fr ∧ 8 + (mL + 11) + lo' ≤ lo) (hf : kc + mc ≤ cl ∧ ks + ms ≤ sl) (hst : st0 = av.reverse ++ va_rf r :: st) (hW : (st.map fun v => v.category).sum ≤ 8) (hd : decode cc pc = .ok (.invokevirtual index, 3))
    (kk : ∀ v σ', Wo C G nL Q (K v σ') σ' (kc + mc) (ks + ms) (pc + 3) lv ((rv v).toList ++ st)) : Wo C G nL Q (ob ci σ r fun h => cl1 (f h) K) σ kc ks pc lv st0 := by
  intro res hres hφ H locs hM hS ls hl
  subst hst
  cases r with
  | none => cases hres
  | some h =>
    simp only [ob] at hres
    split at hres
    · rename_i hT
      cases hx : f h with
      | none => rw [hx] at hres; cases hres
      | some q =>
        rw [hx] at hres
        have hR0 := hC.hR
        exact run_P hS (va_runV (As := av) (rest := st) ⟨hC.hx, hC.hb, hC.hml, hC.hown, hC.hts⟩ (hct h q hx) (cwV n hC.hts (good_V h1 h2 h3 h4 h5) rfl rfl rfl ⟨hyc, hy⟩ (by rw [hR0]; exact hR)) (pre_V hC hM hS hT hcl) rfl hn hl.1 rfl (by show 2 * 0 + _ ≤ 8; omega) hd (by rw [hR0]; exact hf)) (fun H1 locs1 hM1 hS1 => kk _ _ res hres hφ H1 locs1 hM1 hS1 ls hl)
    · cases hres
theorem call_S (hC : CX C G own cc nL rt fr cl sl lo) {rv : α → Option Value} {y : MethodName} {bytes : ByteArray} {mL n index : Nat} {ret : Option FieldType} {fr' mc ms lo' : Nat} {av : List Value} {x : Option (α × Mem)} {K : α → Mem → Option β} (hct : Ct rv (cL C) y (Cond.code y bytes mL ret :: uW) { frames := fr', cells := mc, slots := ms, locals := lo' } mc ms G av σ x)
    (h1 : Cond.methodLink own index y ∈ uW) (h2 : Cond.static y ∈ uW) (h4 : Cond.initialized y.cls ∈ uW) (h5 : Cond.code y bytes mL ret ∈ uW) (hy : Yd y n) (hn : av.length = n) (hR : fr' + 1 ≤ fr ∧ 8 + (mL + 11) + lo' ≤ lo) (hf : kc + mc ≤ cl ∧ ks + ms ≤ sl) (hst : st0 = av.reverse ++ st) (hW : (st.map fun v => v.category).sum ≤ 8) (hd : decode cc pc = .ok (.invokestatic index, 3))
    (kk : ∀ v σ', Wo C G nL Q (K v σ') σ' (kc + mc) (ks + ms) (pc + 3) lv ((rv v).toList ++ st)) : Wo C G nL Q (cl1 x K) σ kc ks pc lv st0 := by
  intro res hres hφ H locs hM hS ls hl
  subst hst
  cases hx : x with
  | none => rw [hx] at hres; cases hres
  | some q =>
    rw [hx] at hres
    have hR0 := hC.hR
    exact run_P hS (va_runS (As := av) (rest := st) ⟨hC.hx, hC.hb, hC.hml, hC.hown, hC.hts⟩ (hct q hx) (va_cwS n hC.hts (good_S h1 h2 h4 h5) rfl rfl rfl hy (by rw [hR0]; exact hR)) (pre_S hC hM hS) rfl hn hl.1 rfl (by show 2 * 0 + _ ≤ 8; omega) hd (by rw [hR0]; exact hf)) (fun H1 locs1 hM1 hS1 => kk _ _ res hres hφ H1 locs1 hM1 hS1 ls hl)
/-- a private static method of the nest's host -/
theorem call_SN (hC : CX C G own cc nL rt fr cl sl lo) {rv : α → Option Value} {y : MethodName} {bytes : ByteArray} {mL n index : Nat} {ret : Option FieldType} {host : String} {fr' mc ms lo' : Nat} {av : List Value} {x : Option (α × Mem)} {K : α → Mem → Option β} (hct : Ct rv (cL C) y (Cond.code y bytes mL ret :: uW) { frames := fr', cells := mc, slots := ms, locals := lo' } mc ms G av σ x)
    (h1 : Cond.methodLinkNest own index y host ∈ lw_tbl) (h2 : Cond.static y ∈ uW) (h4 : Cond.initialized y.cls ∈ uW) (h5 : Cond.code y bytes mL ret ∈ uW) (hy : Yd y n) (hn : av.length = n) (hR : fr' + 1 ≤ fr ∧ 8 + (mL + 11) + lo' ≤ lo) (hf : kc + mc ≤ cl ∧ ks + ms ≤ sl) (hst : st0 = av.reverse ++ st) (hW : (st.map fun v => v.category).sum ≤ 8) (hd : decode cc pc = .ok (.invokestatic index, 3))
    (kk : ∀ v σ', Wo C G nL Q (K v σ') σ' (kc + mc) (ks + ms) (pc + 3) lv ((rv v).toList ++ st)) : Wo C G nL Q (cl1 x K) σ kc ks pc lv st0 := by
  intro res hres hφ H locs hM hS ls hl
  subst hst
  cases hx : x with
  | none => rw [hx] at hres; cases hres
  | some q =>
    rw [hx] at hres
    have hR0 := hC.hR
    exact run_P hS (va_runSN (As := av) (rest := st) ⟨hC.hx, hC.hb, hC.hml, hC.hown, hC.hts⟩ (hct q hx) ⟨va_cnB n hC.hts (good_c h5) rfl rfl rfl (hC.hK.1.2.1 _ h1 rfl) (hC.hts _ h4) hy (by rw [hR0]; exact hR), hC.hts _ h2, trivial⟩ (pre_S hC hM hS) rfl hn hl.1 rfl (by show 2 * 0 + _ ≤ 8; omega) hd (by rw [hR0]; exact hf)) (fun H1 locs1 hM1 hS1 => kk _ _ res hres hφ H1 locs1 hM1 hS1 ls hl)
/-- constructors: of one's own class or of another that may be seen; of a nest mate, private -/
theorem call_I (hC : CX C G own cc nL rt fr cl sl lo) {y : MethodName} {bytes : ByteArray} {mL n index : Nat} {fr' mc ms lo' : Nat} {av : List Value} {r : Option Nat} {ci : Nat} {f : Nat → Option (Unit × Mem)} {K : Mem → Option β} (hct : ∀ h, Ct rvU (cL C) y (Cond.code y bytes mL none :: uW) { frames := fr', cells := mc, slots := ms, locals := lo' } mc ms G (.ref h :: av) σ (f h))
    (h1 : Cond.methodLink own index y ∈ uW) (h2 : Cond.instanceMethod y ∈ uW) (h4 : Cond.initialized y.cls ∈ uW) (h5 : Cond.code y bytes mL none ∈ uW) (hy1 : y.name = "<init>") (hy : Yd y n) (hn : av.length = n) (hR : fr' + 1 ≤ fr ∧ 8 + (mL + 11) + lo' ≤ lo) (hf : kc + mc ≤ cl ∧ ks + ms ≤ sl) (hst : st0 = av.reverse ++ va_rf r :: st) (hW : (st.map fun v => v.category).sum ≤ 8) (hd : decode cc pc = .ok (.invokespecial index, 3))
    (kk : ∀ σ', Wo C G nL Q (K σ') σ' (kc + mc) (ks + ms) (pc + 3) lv st) : Wo C G nL Q (ob ci σ r fun h => cl1 (f h) (fun _ σ' => K σ')) σ kc ks pc lv st0 := by
  intro res hres hφ H locs hM hS ls hl
  subst hst
  cases r with
  | none => cases hres
  | some h =>
    simp only [ob] at hres
    split at hres
    · rename_i hT
      cases hx : f h with
      | none => rw [hx] at hres; cases hres
      | some q =>
        rw [hx] at hres
        have hR0 := hC.hR
        exact run_P hS (va_runI (As := av) (rest := st) ⟨hC.hx, hC.hb, hC.hml, hC.hown, hC.hts⟩ (hct h q hx) (cwI n hC.hts (good_c h5) rfl rfl rfl (hC.hts _ h4) (hC.hts _ h1) (hC.hts _ h2) hy1 hy (by rw [hR0]; exact hR)) ⟨WB.blind, fun U hU hW => ⟨rfl, KB.warm hW (by rw [hU]; exact hS.2.1) hC.hK, by rw [hU]; exact hM⟩⟩ rfl hn hl.1 rfl (by show 2 * 0 + _ ≤ 8; omega) hd (by rw [hR0]; exact hf)) (fun H1 locs1 hM1 hS1 => kk _ res hres hφ H1 locs1 hM1 hS1 ls hl)
    · cases hres
theorem call_IN (hC : CX C G own cc nL rt fr cl sl lo) {y : MethodName} {bytes : ByteArray} {mL n index : Nat} {host : String} {fr' mc ms lo' : Nat} {av : List Value} {r : Option Nat} {ci : Nat} {f : Nat → Option (Unit × Mem)} {K : Mem → Option β} (hct : ∀ h, Ct rvU (cL C) y (Cond.code y bytes mL none :: uW) { frames := fr', cells := mc, slots := ms, locals := lo' } mc ms G (.ref h :: av) σ (f h))
    (h1 : Cond.methodLinkNest own index y host ∈ lw_tbl) (h2 : Cond.instanceMethod y ∈ uW) (h4 : Cond.initialized y.cls ∈ uW) (h5 : Cond.code y bytes mL none ∈ uW) (hy1 : y.name = "<init>") (hy : Yd y n) (hn : av.length = n) (hR : fr' + 1 ≤ fr ∧ 8 + (mL + 11) + lo' ≤ lo) (hf : kc + mc ≤ cl ∧ ks + ms ≤ sl) (hst : st0 = av.reverse ++ va_rf r :: st) (hW : (st.map fun v => v.category).sum ≤ 8) (hd : decode cc pc = .ok (.invokespecial index, 3))
    (kk : ∀ σ', Wo C G nL Q (K σ') σ' (kc + mc) (ks + ms) (pc + 3) lv st) : Wo C G nL Q (ob ci σ r fun h => cl1 (f h) (fun _ σ' => K σ')) σ kc ks pc lv st0 := by
  intro res hres hφ H locs hM hS ls hl
  subst hst
  cases r with
  | none => cases hres
  | some h =>
    simp only [ob] at hres
    split at hres
    · rename_i hT
      cases hx : f h with
      | none => rw [hx] at hres; cases hres
      | some q =>
        rw [hx] at hres
        have hR0 := hC.hR
        exact run_P hS (va_runIN (As := av) (rest := st) ⟨hC.hx, hC.hb, hC.hml, hC.hown, hC.hts⟩ (hct h q hx) ⟨va_cnB n hC.hts (good_c h5) rfl rfl rfl (hC.hK.1.2.1 _ h1 rfl) (hC.hts _ h4) hy (by rw [hR0]; exact hR), hy1, hC.hts _ h2⟩ ⟨WB.blind, fun U hU hW => ⟨rfl, KB.warm hW (by rw [hU]; exact hS.2.1) hC.hK, by rw [hU]; exact hM⟩⟩ rfl hn hl.1 rfl (by show 2 * 0 + _ ≤ 8; omega) hd (by rw [hR0]; exact hf)) (fun H1 locs1 hM1 hS1 => kk _ res hres hφ H1 locs1 hM1 hS1 ls hl)
    · cases hres
theorem call_O (hC : CX C G own cc nL rt fr cl sl lo) {index : Nat} {r : Option Nat} {x : Option β} {ci : Nat} (h1 : Cond.methodLink own index objectInit ∈ uW) (h2 : Cond.instanceMethod objectInit ∈ uW) (h3 : Cond.code objectInit ⟨#[0xb1]⟩ 1 none ∈ uW) (hf : 1 ≤ fr) (hlo : (st.map fun v => v.category).sum + 12 ≤ lo) (hd : decode cc pc = .ok (.invokespecial index, 3))
    (k : Wo C G nL Q x σ kc ks (pc + 3) lv st) : Wo C G nL Q (ob ci σ r fun _ => x) σ kc ks pc lv (va_rf r :: st) := by
  intro res hres hφ H locs hM hS ls hl
  cases r with
  | none => cases hres
  | some h =>
    simp only [ob] at hres
    split at hres
    · refine W.objInit hC.hx hC.hb hC.hown (hC.hts _ h1) (hC.hts _ h2) (hC.hts _ h3) rfl (by rw [hC.hml]; exact hl.1) rfl hd (by rw [hC.hR]; exact hf) (by rw [hC.hR]; show 2 * 0 + _ + 12 ≤ lo; omega) ?_
      exact k res hres hφ H locs hM hS ls hl
    · cases hres
end R7
end
