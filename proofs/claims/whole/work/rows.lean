section
/-! ===== BEGIN words of one list among another's, by their places ===== -/
theorem goodIn_r {big : List Cond} (ws : List Cond) (ps : List Nat) (hp : ws = ps.filterMap (fun i => big[i]?)) (h : ws.all goodWord = true) : GoodIn big ws := by
  intro w hw
  have h1 := List.all_eq_true.mp h w hw
  rw [hp] at hw
  obtain ⟨i, -, hi⟩ := List.mem_filterMap.mp hw
  have hm : w ∈ big := by first | exact List.mem_of_getElem? hi | exact List.getElem?_mem hi
  exact ⟨hm, good_of_word h1⟩
theorem goodIn_app {big a b : List Cond} (ha : GoodIn big a) (hb : GoodIn big b) : GoodIn big (a ++ b) := fun w h => (List.mem_append.mp h).elim (ha w) (hb w)
theorem goodIn_ca {big a b : List Cond} {c : Cond} (ha : GoodIn big (c :: a)) (hb : GoodIn big b) : GoodIn big (c :: (a ++ b)) := fun w h => (List.mem_cons.mp h).elim (fun e => ha w (List.mem_cons.mpr (Or.inl e))) (fun h => (List.mem_append.mp h).elim (fun h => ha w (List.mem_cons.mpr (Or.inr h))) (hb w))
theorem goodIn_sub {big ws : List Cond} (hm : ∀ w ∈ ws, w ∈ big) (h : ws.all goodWord = true) : GoodIn big ws := fun w hw => ⟨hm w hw, good_of_word (List.all_eq_true.mp h w hw)⟩
/-! ===== END ===== -/

/-! ===== BEGIN printed: names, fields, word lists, decode rows ===== -/
def RX0 : String := "CardBand$Band"
def TX0 : u_T := fun k => match k with
  | _ => ("", "", "", false)
def tyX0 : Nat → FieldType := fun k => match k with
  | _ => .int
abbrev wsX00 : List Cond := u_ws RX0 TX0 0
theorem nmX0 : ∀ a, a < 0 → ∀ b, b < 0 → a ≠ b → (TX0 a).2.1 ≠ (TX0 b).2.1 := by decide +kernel
theorem tyX0_ok : ∀ k, k < 0 → parseFieldDescriptor (TX0 k).2.2.1 = some (tyX0 k) := by decide +kernel
abbrev cX0_countMirrored : ByteArray := prog_2_method_2_code
def yX0_countMirrored : MethodName := ⟨RX0, "countMirrored", "(LCardBand$Weave;I)I"⟩
abbrev cX0_isMirrored : ByteArray := prog_2_method_3_code
def yX0_isMirrored : MethodName := ⟨RX0, "isMirrored", "(LCardBand$Weave;II)Z"⟩
abbrev cX0_findPeriod : ByteArray := prog_2_method_4_code
def yX0_findPeriod : MethodName := ⟨RX0, "findPeriod", "(LCardBand$Weave;I)I"⟩
abbrev cX0_isPeriod : ByteArray := prog_2_method_5_code
def yX0_isPeriod : MethodName := ⟨RX0, "isPeriod", "(LCardBand$Weave;II)Z"⟩
abbrev cX0_findFloat : ByteArray := prog_2_method_6_code
def yX0_findFloat : MethodName := ⟨RX0, "findFloat", "(LCardBand$Weave;I)I"⟩
abbrev cX0_findLongest : ByteArray := prog_2_method_7_code
def yX0_findLongest : MethodName := ⟨RX0, "findLongest", "(LCardBand$Weave;I)I"⟩
abbrev cX0_countShown : ByteArray := prog_2_method_8_code
def yX0_countShown : MethodName := ⟨RX0, "countShown", "(LCardBand$Weave;II)I"⟩
abbrev cX0_findMost : ByteArray := prog_2_method_9_code
def yX0_findMost : MethodName := ⟨RX0, "findMost", "(LCardBand$Weave;LCardBand$Threading;)I"⟩
abbrev cX0_findAlike : ByteArray := prog_2_method_10_code
def yX0_findAlike : MethodName := ⟨RX0, "findAlike", "(LCardBand$Weave;II)I"⟩
abbrev cX0_showedSame : ByteArray := prog_2_method_11_code
def yX0_showedSame : MethodName := ⟨RX0, "showedSame", "(LCardBand$Weave;II)Z"⟩
abbrev cX0_findTurns : ByteArray := prog_2_method_12_code
def yX0_findTurns : MethodName := ⟨RX0, "findTurns", "(LCardBand$Threading;III)I"⟩
def RX1 : String := "CardBand$Deeds"
def TX1 : u_T := fun k => match k with
  | 0 => ("CardBand$Deeds", "before", "[LCardBand$Weave;", true)
  | 1 => ("CardBand$Deeds", "next", "I", false)
  | _ => ("CardBand$Deeds", "count", "I", false)
def tyX1 : Nat → FieldType := fun k => match k with
  | 0 => .array (.object "CardBand$Weave")
  | 1 => .int
  | _ => .int
abbrev wsX10 : List Cond := u_ws RX1 TX1 3
theorem nmX1 : ∀ a, a < 3 → ∀ b, b < 3 → a ≠ b → (TX1 a).2.1 ≠ (TX1 b).2.1 := by decide +kernel
theorem tyX1_ok : ∀ k, k < 3 → parseFieldDescriptor (TX1 k).2.2.1 = some (tyX1 k) := by decide +kernel
abbrev cX1_init : ByteArray := prog_3_method_1_code
def yX1_init : MethodName := ⟨RX1, "<init>", "()V"⟩
abbrev cX1_forget : ByteArray := prog_3_method_2_code
def yX1_forget : MethodName := ⟨RX1, "forget", "()V"⟩
abbrev cX1_remember : ByteArray := prog_3_method_3_code
def yX1_remember : MethodName := ⟨RX1, "remember", "(LCardBand$Weave;)V"⟩
abbrev cX1_takeBack : ByteArray := prog_3_method_4_code
def yX1_takeBack : MethodName := ⟨RX1, "takeBack", "(ILCardBand$Weave;)Z"⟩
abbrev cX1_weaveAt : ByteArray := prog_3_method_5_code
def yX1_weaveAt : MethodName := ⟨RX1, "weaveAt", "(I)LCardBand$Weave;"⟩
def RX2 : String := "CardBand$Image"
def TX2 : u_T := fun k => match k with
  | 0 => ("CardBand$Image", "weave", "LCardBand$Weave;", true)
  | 1 => ("CardBand$Image", "drawn", "J", false)
  | _ => ("CardBand$Image", "kept", "Z", false)
def tyX2 : Nat → FieldType := fun k => match k with
  | 0 => .object "CardBand$Weave"
  | 1 => .long
  | _ => .boolean
abbrev wsX20 : List Cond := u_ws RX2 TX2 3
theorem nmX2 : ∀ a, a < 3 → ∀ b, b < 3 → a ≠ b → (TX2 a).2.1 ≠ (TX2 b).2.1 := by decide +kernel
theorem tyX2_ok : ∀ k, k < 3 → parseFieldDescriptor (TX2 k).2.2.1 = some (tyX2 k) := by decide +kernel
abbrev cX2_init : ByteArray := prog_4_method_1_code
def yX2_init : MethodName := ⟨RX2, "<init>", "()V"⟩
def RX3 : String := "CardBand$Notes"
def TX3 : u_T := fun k => match k with
  | 0 => ("CardBand$Notes", "seenCards", "[I", true)
  | 1 => ("CardBand$Notes", "seenTurns", "[I", true)
  | 2 => ("CardBand$Notes", "seenColours", "[I", true)
  | 3 => ("CardBand$Notes", "bookCards", "[I", true)
  | 4 => ("CardBand$Notes", "bookColours", "[I", true)
  | 5 => ("CardBand$Notes", "seenCount", "I", false)
  | _ => ("CardBand$Notes", "bookCount", "I", false)
def tyX3 : Nat → FieldType := fun k => match k with
  | 0 => .array .int
  | 1 => .array .int
  | 2 => .array .int
  | 3 => .array .int
  | 4 => .array .int
  | 5 => .int
  | _ => .int
abbrev wsX30 : List Cond := u_ws RX3 TX3 7
theorem nmX3 : ∀ a, a < 7 → ∀ b, b < 7 → a ≠ b → (TX3 a).2.1 ≠ (TX3 b).2.1 := by decide +kernel
theorem tyX3_ok : ∀ k, k < 7 → parseFieldDescriptor (TX3 k).2.2.1 = some (tyX3 k) := by decide +kernel
abbrev cX3_init : ByteArray := prog_5_method_1_code
def yX3_init : MethodName := ⟨RX3, "<init>", "()V"⟩
abbrev cX3_forget : ByteArray := prog_5_method_2_code
def yX3_forget : MethodName := ⟨RX3, "forget", "()V"⟩
abbrev cX3_addSeen : ByteArray := prog_5_method_3_code
def yX3_addSeen : MethodName := ⟨RX3, "addSeen", "(III)Z"⟩
abbrev cX3_addEntry : ByteArray := prog_5_method_4_code
def yX3_addEntry : MethodName := ⟨RX3, "addEntry", "(II)Z"⟩
abbrev cX3_findWrong : ByteArray := prog_5_method_5_code
def yX3_findWrong : MethodName := ⟨RX3, "findWrong", "(LCardBand$Weave;)I"⟩
abbrev cX3_findHoles : ByteArray := prog_5_method_6_code
def yX3_findHoles : MethodName := ⟨RX3, "findHoles", "(LCardBand$Threading;I)I"⟩
abbrev cX3_holesThatShow : ByteArray := prog_5_method_7_code
def yX3_holesThatShow : MethodName := ⟨RX3, "holesThatShow", "(LCardBand$Threading;III)I"⟩
abbrev cX3_findLook : ByteArray := prog_5_method_8_code
def yX3_findLook : MethodName := ⟨RX3, "findLook", "(LCardBand$Threading;I)I"⟩
abbrev cX3_findGreatestPart : ByteArray := prog_5_method_9_code
def yX3_findGreatestPart : MethodName := ⟨RX3, "findGreatestPart", "(LCardBand$Threading;III)I"⟩
def RX4 : String := "CardBand$Telling"
def TX4 : u_T := fun k => match k with
  | 0 => ("CardBand$Telling", "letters", "[I", true)
  | 1 => ("CardBand$Telling", "length", "I", false)
  | 2 => ("CardBand$Telling", "place", "I", false)
  | 3 => ("CardBand$Telling", "numberPlace", "I", false)
  | 4 => ("CardBand$Telling", "faultNumber", "I", false)
  | _ => ("CardBand$Telling", "faultPlace", "I", false)
def tyX4 : Nat → FieldType := fun k => match k with
  | 0 => .array .int
  | 1 => .int
  | 2 => .int
  | 3 => .int
  | 4 => .int
  | _ => .int
abbrev wsX40 : List Cond := u_ws RX4 TX4 6
theorem nmX4 : ∀ a, a < 6 → ∀ b, b < 6 → a ≠ b → (TX4 a).2.1 ≠ (TX4 b).2.1 := by decide +kernel
theorem tyX4_ok : ∀ k, k < 6 → parseFieldDescriptor (TX4 k).2.2.1 = some (tyX4 k) := by decide +kernel
abbrev cX4_init : ByteArray := prog_6_method_1_code
def yX4_init : MethodName := ⟨RX4, "<init>", "()V"⟩
abbrev cX4_append : ByteArray := prog_6_method_2_code
def yX4_append : MethodName := ⟨RX4, "append", "(I)Z"⟩
abbrev cX4_readInto : ByteArray := prog_6_method_3_code
def yX4_readInto : MethodName := ⟨RX4, "readInto", "(LCardBand$Threading;)Z"⟩
abbrev cX4_readClause : ByteArray := prog_6_method_4_code
def yX4_readClause : MethodName := ⟨RX4, "readClause", "(LCardBand$Threading;)V"⟩
abbrev cX4_isWord : ByteArray := prog_6_method_5_code
def yX4_isWord : MethodName := ⟨RX4, "isWord", "(I)Z"⟩
abbrev cX4_isOneTooMany : ByteArray := prog_6_method_6_code
def yX4_isOneTooMany : MethodName := ⟨RX4, "isOneTooMany", "(ILCardBand$Threading;)Z"⟩
abbrev cX4_readColours : ByteArray := prog_6_method_7_code
def yX4_readColours : MethodName := ⟨RX4, "readColours", "(LCardBand$Threading;)V"⟩
abbrev cX4_readCard : ByteArray := prog_6_method_8_code
def yX4_readCard : MethodName := ⟨RX4, "readCard", "(LCardBand$Threading;)V"⟩
abbrev cX4_readPack : ByteArray := prog_6_method_9_code
def yX4_readPack : MethodName := ⟨RX4, "readPack", "(LCardBand$Threading;)V"⟩
abbrev cX4_readYarn : ByteArray := prog_6_method_10_code
def yX4_readYarn : MethodName := ⟨RX4, "readYarn", "(LCardBand$Threading;)V"⟩
abbrev cX4_readEnd : ByteArray := prog_6_method_11_code
def yX4_readEnd : MethodName := ⟨RX4, "readEnd", "()V"⟩
abbrev cX4_readNumber : ByteArray := prog_6_method_12_code
def yX4_readNumber : MethodName := ⟨RX4, "readNumber", "(II)I"⟩
abbrev cX4_isFigure : ByteArray := prog_6_method_13_code
def yX4_isFigure : MethodName := ⟨RX4, "isFigure", "(I)Z"⟩
abbrev cX4_skipBlanks : ByteArray := prog_6_method_14_code
def yX4_skipBlanks : MethodName := ⟨RX4, "skipBlanks", "()V"⟩
abbrev cX4_letterHere : ByteArray := prog_6_method_15_code
def yX4_letterHere : MethodName := ⟨RX4, "letterHere", "()I"⟩
abbrev cX4_setFault : ByteArray := prog_6_method_16_code
def yX4_setFault : MethodName := ⟨RX4, "setFault", "(II)V"⟩
def RX5 : String := "CardBand$Threading"
def TX5 : u_T := fun k => match k with
  | 0 => ("CardBand$Threading", "holeColours", "[I", true)
  | 1 => ("CardBand$Threading", "waysTold", "[I", true)
  | 2 => ("CardBand$Threading", "packOf", "[I", true)
  | 3 => ("CardBand$Threading", "packSets", "[I", true)
  | 4 => ("CardBand$Threading", "yarnsTold", "[I", true)
  | 5 => ("CardBand$Threading", "colours", "I", false)
  | 6 => ("CardBand$Threading", "cards", "I", false)
  | 7 => ("CardBand$Threading", "packs", "I", false)
  | _ => ("CardBand$Threading", "cardsInPacks", "I", false)
def tyX5 : Nat → FieldType := fun k => match k with
  | 0 => .array .int
  | 1 => .array .int
  | 2 => .array .int
  | 3 => .array .int
  | 4 => .array .int
  | 5 => .int
  | 6 => .int
  | 7 => .int
  | _ => .int
abbrev wsX50 : List Cond := u_ws RX5 TX5 9
theorem nmX5 : ∀ a, a < 9 → ∀ b, b < 9 → a ≠ b → (TX5 a).2.1 ≠ (TX5 b).2.1 := by decide +kernel
theorem tyX5_ok : ∀ k, k < 9 → parseFieldDescriptor (TX5 k).2.2.1 = some (tyX5 k) := by decide +kernel
abbrev cX5_init : ByteArray := prog_7_method_1_code
def yX5_init : MethodName := ⟨RX5, "<init>", "()V"⟩
abbrev cX5_clear : ByteArray := prog_7_method_2_code
def yX5_clear : MethodName := ⟨RX5, "clear", "()V"⟩
abbrev cX5_isMade : ByteArray := prog_7_method_3_code
def yX5_isMade : MethodName := ⟨RX5, "isMade", "()Z"⟩
abbrev cX5_hasColour : ByteArray := prog_7_method_4_code
def yX5_hasColour : MethodName := ⟨RX5, "hasColour", "(I)Z"⟩
abbrev cX5_hasCard : ByteArray := prog_7_method_5_code
def yX5_hasCard : MethodName := ⟨RX5, "hasCard", "(I)Z"⟩
abbrev cX5_hasPack : ByteArray := prog_7_method_6_code
def yX5_hasPack : MethodName := ⟨RX5, "hasPack", "(I)Z"⟩
abbrev cX5_hasCards : ByteArray := prog_7_method_7_code
def yX5_hasCards : MethodName := ⟨RX5, "hasCards", "(I)Z"⟩
abbrev cX5_takesMoves : ByteArray := prog_7_method_8_code
def yX5_takesMoves : MethodName := ⟨RX5, "takesMoves", "(I)Z"⟩
abbrev cX5_addCard : ByteArray := prog_7_method_9_code
def yX5_addCard : MethodName := ⟨RX5, "addCard", "(I)V"⟩
abbrev cX5_addPack : ByteArray := prog_7_method_10_code
def yX5_addPack : MethodName := ⟨RX5, "addPack", "(I)V"⟩
abbrev cX5_threadHole : ByteArray := prog_7_method_11_code
def yX5_threadHole : MethodName := ⟨RX5, "threadHole", "(III)V"⟩
abbrev cX5_colourAt : ByteArray := prog_7_method_12_code
def yX5_colourAt : MethodName := ⟨RX5, "colourAt", "(II)I"⟩
abbrev cX5_indexOf : ByteArray := prog_7_method_13_code
def yX5_indexOf : MethodName := ⟨RX5, "indexOf", "(II)I"⟩
abbrev cX5_moveOf : ByteArray := prog_7_method_14_code
def yX5_moveOf : MethodName := ⟨RX5, "moveOf", "(II)I"⟩
abbrev cX5_isInPack : ByteArray := prog_7_method_15_code
def yX5_isInPack : MethodName := ⟨RX5, "isInPack", "(II)Z"⟩
abbrev cX5_isSameAfter : ByteArray := prog_7_method_16_code
def yX5_isSameAfter : MethodName := ⟨RX5, "isSameAfter", "(I)Z"⟩
abbrev cX5_shareOf : ByteArray := prog_7_method_17_code
def yX5_shareOf : MethodName := ⟨RX5, "shareOf", "(II)I"⟩
abbrev cX5_countLeftOver : ByteArray := prog_7_method_18_code
def yX5_countLeftOver : MethodName := ⟨RX5, "countLeftOver", "(I)I"⟩
def RX6 : String := "CardBand$Trying"
def TX6 : u_T := fun k => match k with
  | _ => ("", "", "", false)
def tyX6 : Nat → FieldType := fun k => match k with
  | _ => .int
abbrev wsX60 : List Cond := u_ws RX6 TX6 0
theorem nmX6 : ∀ a, a < 0 → ∀ b, b < 0 → a ≠ b → (TX6 a).2.1 ≠ (TX6 b).2.1 := by decide +kernel
theorem tyX6_ok : ∀ k, k < 0 → parseFieldDescriptor (TX6 k).2.2.1 = some (tyX6 k) := by decide +kernel
abbrev cX6_firstCardOf : ByteArray := prog_8_method_2_code
def yX6_firstCardOf : MethodName := ⟨RX6, "firstCardOf", "(LCardBand$Threading;I)I"⟩
abbrev cX6_twistOf : ByteArray := prog_8_method_3_code
def yX6_twistOf : MethodName := ⟨RX6, "twistOf", "(LCardBand$Weave;LCardBand$Threading;I)I"⟩
abbrev cX6_standOf : ByteArray := prog_8_method_4_code
def yX6_standOf : MethodName := ⟨RX6, "standOf", "(LCardBand$Weave;LCardBand$Threading;I)I"⟩
abbrev cX6_countUntwist : ByteArray := prog_8_method_5_code
def yX6_countUntwist : MethodName := ⟨RX6, "countUntwist", "(LCardBand$Weave;LCardBand$Threading;)I"⟩
abbrev cX6_firstUntwist : ByteArray := prog_8_method_6_code
def yX6_firstUntwist : MethodName := ⟨RX6, "firstUntwist", "(LCardBand$Weave;LCardBand$Threading;)I"⟩
abbrev cX6_packsStandAlike : ByteArray := prog_8_method_7_code
def yX6_packsStandAlike : MethodName := ⟨RX6, "packsStandAlike", "(LCardBand$Weave;LCardBand$Threading;)Z"⟩
abbrev cX6_countHome : ByteArray := prog_8_method_8_code
def yX6_countHome : MethodName := ⟨RX6, "countHome", "(LCardBand$Weave;LCardBand$Threading;)I"⟩
abbrev cX6_firstHome : ByteArray := prog_8_method_9_code
def yX6_firstHome : MethodName := ⟨RX6, "firstHome", "(LCardBand$Weave;LCardBand$Threading;)I"⟩
abbrev cX6_countTogether : ByteArray := prog_8_method_10_code
def yX6_countTogether : MethodName := ⟨RX6, "countTogether", "(LCardBand$Weave;LCardBand$Threading;II)I"⟩
abbrev cX6_firstTogether : ByteArray := prog_8_method_11_code
def yX6_firstTogether : MethodName := ⟨RX6, "firstTogether", "(LCardBand$Weave;LCardBand$Threading;III)I"⟩
abbrev cX6_countForPack : ByteArray := prog_8_method_12_code
def yX6_countForPack : MethodName := ⟨RX6, "countForPack", "(LCardBand$Weave;LCardBand$Threading;II)I"⟩
abbrev cX6_showNow : ByteArray := prog_8_method_13_code
def yX6_showNow : MethodName := ⟨RX6, "showNow", "(LCardBand$Weave;LCardBand$Threading;II)Z"⟩
abbrev cX6_showAhead : ByteArray := prog_8_method_14_code
def yX6_showAhead : MethodName := ⟨RX6, "showAhead", "(LCardBand$Weave;LCardBand$Threading;III)Z"⟩
def RX7 : String := "CardBand$Weave"
def TX7 : u_T := fun k => match k with
  | 0 => ("CardBand$Weave", "ways", "[I", true)
  | 1 => ("CardBand$Weave", "stands", "[I", true)
  | 2 => ("CardBand$Weave", "twists", "[I", true)
  | 3 => ("CardBand$Weave", "shows", "[I", true)
  | 4 => ("CardBand$Weave", "slants", "[I", true)
  | 5 => ("CardBand$Weave", "yarns", "[I", true)
  | 6 => ("CardBand$Weave", "wanted", "[I", true)
  | 7 => ("CardBand$Weave", "band", "[I", true)
  | _ => ("CardBand$Weave", "picks", "I", false)
def tyX7 : Nat → FieldType := fun k => match k with
  | 0 => .array .int
  | 1 => .array .int
  | 2 => .array .int
  | 3 => .array .int
  | 4 => .array .int
  | 5 => .array .int
  | 6 => .array .int
  | 7 => .array .int
  | _ => .int
abbrev wsX70 : List Cond := u_ws RX7 TX7 9
theorem nmX7 : ∀ a, a < 9 → ∀ b, b < 9 → a ≠ b → (TX7 a).2.1 ≠ (TX7 b).2.1 := by decide +kernel
theorem tyX7_ok : ∀ k, k < 9 → parseFieldDescriptor (TX7 k).2.2.1 = some (tyX7 k) := by decide +kernel
abbrev cX7_init : ByteArray := prog_9_method_1_code
def yX7_init : MethodName := ⟨RX7, "<init>", "()V"⟩
abbrev cX7_begin : ByteArray := prog_9_method_2_code
def yX7_begin : MethodName := ⟨RX7, "begin", "(LCardBand$Threading;)V"⟩
abbrev cX7_become : ByteArray := prog_9_method_3_code
def yX7_become : MethodName := ⟨RX7, "become", "(LCardBand$Weave;)V"⟩
abbrev cX7_sumYarn : ByteArray := prog_9_method_4_code
def yX7_sumYarn : MethodName := ⟨RX7, "sumYarn", "(I)I"⟩
abbrev cX7_weaveOnce : ByteArray := prog_9_method_5_code
def yX7_weaveOnce : MethodName := ⟨RX7, "weaveOnce", "(LCardBand$Threading;I)Z"⟩
abbrev cX7_isOvertwisted : ByteArray := prog_9_method_6_code
def yX7_isOvertwisted : MethodName := ⟨RX7, "isOvertwisted", "(LCardBand$Threading;I)Z"⟩
abbrev cX7_findLacking : ByteArray := prog_9_method_7_code
def yX7_findLacking : MethodName := ⟨RX7, "findLacking", "(LCardBand$Threading;I)I"⟩
abbrev cX7_countWanted : ByteArray := prog_9_method_8_code
def yX7_countWanted : MethodName := ⟨RX7, "countWanted", "(LCardBand$Threading;I)V"⟩
abbrev cX7_holeShownBy : ByteArray := prog_9_method_9_code
def yX7_holeShownBy : MethodName := ⟨RX7, "holeShownBy", "(II)I"⟩
abbrev cX7_turnCard : ByteArray := prog_9_method_10_code
def yX7_turnCard : MethodName := ⟨RX7, "turnCard", "(LCardBand$Threading;II)V"⟩
abbrev cX7_addRow : ByteArray := prog_9_method_11_code
def yX7_addRow : MethodName := ⟨RX7, "addRow", "()V"⟩
abbrev cX7_slotOf : ByteArray := prog_9_method_12_code
def yX7_slotOf : MethodName := ⟨RX7, "slotOf", "(I)I"⟩
abbrev cX7_countRows : ByteArray := prog_9_method_13_code
def yX7_countRows : MethodName := ⟨RX7, "countRows", "()I"⟩
abbrev cX7_showedAt : ByteArray := prog_9_method_14_code
def yX7_showedAt : MethodName := ⟨RX7, "showedAt", "(II)I"⟩
def RX8 : String := "CardBand"
def TX8 : u_T := fun k => match k with
  | 0 => ("CardBand", "text", "LCardBand$Telling;", true)
  | 1 => ("CardBand", "weave", "LCardBand$Weave;", true)
  | 2 => ("CardBand", "trial", "LCardBand$Weave;", true)
  | 3 => ("CardBand", "deeds", "LCardBand$Deeds;", true)
  | 4 => ("CardBand", "notes", "LCardBand$Notes;", true)
  | 5 => ("CardBand", "images", "[LCardBand$Image;", true)
  | 6 => ("CardBand", "threading", "LCardBand$Threading;", false)
  | 7 => ("CardBand", "spare", "LCardBand$Threading;", false)
  | _ => ("CardBand", "drawn", "J", false)
def tyX8 : Nat → FieldType := fun k => match k with
  | 0 => .object "CardBand$Telling"
  | 1 => .object "CardBand$Weave"
  | 2 => .object "CardBand$Weave"
  | 3 => .object "CardBand$Deeds"
  | 4 => .object "CardBand$Notes"
  | 5 => .array (.object "CardBand$Image")
  | 6 => .object "CardBand$Threading"
  | 7 => .object "CardBand$Threading"
  | _ => .long
abbrev wsX80 : List Cond := u_ws RX8 TX8 9
theorem nmX8 : ∀ a, a < 9 → ∀ b, b < 9 → a ≠ b → (TX8 a).2.1 ≠ (TX8 b).2.1 := by decide +kernel
theorem tyX8_ok : ∀ k, k < 9 → parseFieldDescriptor (TX8 k).2.2.1 = some (tyX8 k) := by decide +kernel
abbrev cX8_init : ByteArray := prog_1_method_1_code
def yX8_init : MethodName := ⟨RX8, "<init>", "()V"⟩
abbrev cX8_feed : ByteArray := prog_1_method_2_code
def yX8_feed : MethodName := ⟨RX8, "feed", "(I)I"⟩
abbrev cX8_loom : ByteArray := prog_1_method_3_code
def yX8_loom : MethodName := ⟨RX8, "loom", "()I"⟩
abbrev cX8_fault : ByteArray := prog_1_method_4_code
def yX8_fault : MethodName := ⟨RX8, "fault", "()I"⟩
abbrev cX8_told : ByteArray := prog_1_method_5_code
def yX8_told : MethodName := ⟨RX8, "told", "(I)I"⟩
abbrev cX8_card : ByteArray := prog_1_method_6_code
def yX8_card : MethodName := ⟨RX8, "card", "(II)I"⟩
abbrev cX8_pack : ByteArray := prog_1_method_7_code
def yX8_pack : MethodName := ⟨RX8, "pack", "(I)I"⟩
abbrev cX8_yarn : ByteArray := prog_1_method_8_code
def yX8_yarn : MethodName := ⟨RX8, "yarn", "(I)I"⟩
abbrev cX8_row : ByteArray := prog_1_method_9_code
def yX8_row : MethodName := ⟨RX8, "row", "(II)I"⟩
abbrev cX8_pick : ByteArray := prog_1_method_10_code
def yX8_pick : MethodName := ⟨RX8, "pick", "(II)I"⟩
abbrev cX8_flip : ByteArray := prog_1_method_11_code
def yX8_flip : MethodName := ⟨RX8, "flip", "(I)I"⟩
abbrev cX8_shift : ByteArray := prog_1_method_12_code
def yX8_shift : MethodName := ⟨RX8, "shift", "(II)I"⟩
abbrev cX8_buy : ByteArray := prog_1_method_13_code
def yX8_buy : MethodName := ⟨RX8, "buy", "(II)I"⟩
abbrev cX8_drift : ByteArray := prog_1_method_14_code
def yX8_drift : MethodName := ⟨RX8, "drift", "(I)I"⟩
abbrev cX8_undo : ByteArray := prog_1_method_15_code
def yX8_undo : MethodName := ⟨RX8, "undo", "(I)I"⟩
abbrev cX8_ahead : ByteArray := prog_1_method_16_code
def yX8_ahead : MethodName := ⟨RX8, "ahead", "(III)I"⟩
abbrev cX8_lasts : ByteArray := prog_1_method_17_code
def yX8_lasts : MethodName := ⟨RX8, "lasts", "(II)I"⟩
abbrev cX8_untwist : ByteArray := prog_1_method_18_code
def yX8_untwist : MethodName := ⟨RX8, "untwist", "(I)I"⟩
abbrev cX8_home : ByteArray := prog_1_method_19_code
def yX8_home : MethodName := ⟨RX8, "home", "(I)I"⟩
abbrev cX8_together : ByteArray := prog_1_method_20_code
def yX8_together : MethodName := ⟨RX8, "together", "(III)I"⟩
abbrev cX8_repeat : ByteArray := prog_1_method_21_code
def yX8_repeat : MethodName := ⟨RX8, "repeat", "()I"⟩
abbrev cX8_floats : ByteArray := prog_1_method_22_code
def yX8_floats : MethodName := ⟨RX8, "floats", "(I)I"⟩
abbrev cX8_alike : ByteArray := prog_1_method_23_code
def yX8_alike : MethodName := ⟨RX8, "alike", "(I)I"⟩
abbrev cX8_shown : ByteArray := prog_1_method_24_code
def yX8_shown : MethodName := ⟨RX8, "shown", "(I)I"⟩
abbrev cX8_turned : ByteArray := prog_1_method_25_code
def yX8_turned : MethodName := ⟨RX8, "turned", "(II)I"⟩
abbrev cX8_share : ByteArray := prog_1_method_26_code
def yX8_share : MethodName := ⟨RX8, "share", "(II)I"⟩
abbrev cX8_plain : ByteArray := prog_1_method_27_code
def yX8_plain : MethodName := ⟨RX8, "plain", "(II)I"⟩
abbrev cX8_see : ByteArray := prog_1_method_28_code
def yX8_see : MethodName := ⟨RX8, "see", "(III)I"⟩
abbrev cX8_holes : ByteArray := prog_1_method_29_code
def yX8_holes : MethodName := ⟨RX8, "holes", "(I)I"⟩
abbrev cX8_lookAt : ByteArray := prog_1_method_30_code
def yX8_lookAt : MethodName := ⟨RX8, "lookAt", "(I)I"⟩
abbrev cX8_write : ByteArray := prog_1_method_31_code
def yX8_write : MethodName := ⟨RX8, "write", "(II)I"⟩
abbrev cX8_judge : ByteArray := prog_1_method_32_code
def yX8_judge : MethodName := ⟨RX8, "judge", "()I"⟩
abbrev cX8_tear : ByteArray := prog_1_method_33_code
def yX8_tear : MethodName := ⟨RX8, "tear", "()I"⟩
abbrev cX8_seed : ByteArray := prog_1_method_34_code
def yX8_seed : MethodName := ⟨RX8, "seed", "(I)I"⟩
abbrev cX8_keep : ByteArray := prog_1_method_35_code
def yX8_keep : MethodName := ⟨RX8, "keep", "(I)I"⟩
abbrev cX8_goBack : ByteArray := prog_1_method_36_code
def yX8_goBack : MethodName := ⟨RX8, "goBack", "(I)I"⟩
abbrev cX8_imageAt : ByteArray := prog_1_method_37_code
def yX8_imageAt : MethodName := ⟨RX8, "imageAt", "(I)LCardBand$Image;"⟩
abbrev cX8_forgetImages : ByteArray := prog_1_method_38_code
def yX8_forgetImages : MethodName := ⟨RX8, "forgetImages", "()V"⟩
abbrev cX8_isHowOrMoves : ByteArray := prog_1_method_39_code
def yX8_isHowOrMoves : MethodName := ⟨RX8, "isHowOrMoves", "(I)Z"⟩
abbrev cX8_countPicks : ByteArray := prog_1_method_40_code
def yX8_countPicks : MethodName := ⟨RX8, "countPicks", "(II)I"⟩
abbrev cX8_drawMoves : ByteArray := prog_1_method_41_code
def yX8_drawMoves : MethodName := ⟨RX8, "drawMoves", "()I"⟩
abbrev cX8_drawFigure : ByteArray := prog_1_method_42_code
def yX8_drawFigure : MethodName := ⟨RX8, "drawFigure", "()I"⟩
def RX9 : String := "CardBandModel"
def TX9 : u_T := fun k => match k with
  | 0 => ("CardBandModel", "w", "[I", true)
  | 1 => ("CardBandModel", "isKept", "[Z", true)
  | 2 => ("CardBandModel", "colours", "I", false)
  | 3 => ("CardBandModel", "newColours", "I", false)
  | 4 => ("CardBandModel", "hole", "[I", true)
  | 5 => ("CardBandModel", "threaded", "[I", true)
  | 6 => ("CardBandModel", "cards", "I", false)
  | 7 => ("CardBandModel", "newCards", "I", false)
  | 8 => ("CardBandModel", "pack", "[I", true)
  | 9 => ("CardBandModel", "packs", "I", false)
  | 10 => ("CardBandModel", "newPacks", "I", false)
  | 11 => ("CardBandModel", "newYarn", "[I", true)
  | 12 => ("CardBandModel", "text", "[I", true)
  | 13 => ("CardBandModel", "textSize", "I", false)
  | 14 => ("CardBandModel", "at", "I", false)
  | 15 => ("CardBandModel", "first", "I", false)
  | 16 => ("CardBandModel", "faultOf", "I", false)
  | 17 => ("CardBandModel", "fault", "I", false)
  | 18 => ("CardBandModel", "undoMany", "I", false)
  | 19 => ("CardBandModel", "far", "[I", true)
  | 20 => ("CardBandModel", "seenCard", "[I", true)
  | 21 => ("CardBandModel", "seenTurns", "[I", true)
  | 22 => ("CardBandModel", "seenColour", "[I", true)
  | 23 => ("CardBandModel", "seen", "I", false)
  | 24 => ("CardBandModel", "bookOf", "[I", true)
  | 25 => ("CardBandModel", "bookColour", "[I", true)
  | _ => ("CardBandModel", "written", "I", false)
def tyX9 : Nat → FieldType := fun k => match k with
  | 0 => .array .int
  | 1 => .array .boolean
  | 2 => .int
  | 3 => .int
  | 4 => .array .int
  | 5 => .array .int
  | 6 => .int
  | 7 => .int
  | 8 => .array .int
  | 9 => .int
  | 10 => .int
  | 11 => .array .int
  | 12 => .array .int
  | 13 => .int
  | 14 => .int
  | 15 => .int
  | 16 => .int
  | 17 => .int
  | 18 => .int
  | 19 => .array .int
  | 20 => .array .int
  | 21 => .array .int
  | 22 => .array .int
  | 23 => .int
  | 24 => .array .int
  | 25 => .array .int
  | _ => .int
abbrev wsX90 : List Cond := u_ws RX9 TX9 27
theorem nmX9 : ∀ a, a < 27 → ∀ b, b < 27 → a ≠ b → (TX9 a).2.1 ≠ (TX9 b).2.1 := by decide +kernel
theorem tyX9_ok : ∀ k, k < 27 → parseFieldDescriptor (TX9 k).2.2.1 = some (tyX9 k) := by decide +kernel
abbrev cX9_init : ByteArray := prog_11_method_1_code
def yX9_init : MethodName := ⟨RX9, "<init>", "()V"⟩
abbrev cX9_in : ByteArray := prog_11_method_3_code
def yX9_in : MethodName := ⟨RX9, "in", "(JJJ)Z"⟩
abbrev cX9_most : ByteArray := prog_11_method_4_code
def yX9_most : MethodName := ⟨RX9, "most", "(II)I"⟩
abbrev cX9_least : ByteArray := prog_11_method_5_code
def yX9_least : MethodName := ⟨RX9, "least", "(II)I"⟩
abbrev cX9_size : ByteArray := prog_11_method_6_code
def yX9_size : MethodName := ⟨RX9, "size", "(I)I"⟩
abbrev cX9_has : ByteArray := prog_11_method_7_code
def yX9_has : MethodName := ⟨RX9, "has", "(II)Z"⟩
abbrev cX9_one : ByteArray := prog_11_method_8_code
def yX9_one : MethodName := ⟨RX9, "one", "(Z)I"⟩
abbrev cX9_feed : ByteArray := prog_11_method_9_code
def yX9_feed : MethodName := ⟨RX9, "feed", "(I)I"⟩
abbrev cX9_here : ByteArray := prog_11_method_10_code
def yX9_here : MethodName := ⟨RX9, "here", "()I"⟩
abbrev cX9_want : ByteArray := prog_11_method_11_code
def yX9_want : MethodName := ⟨RX9, "want", "(ZII)Z"⟩
abbrev cX9_takeNumber : ByteArray := prog_11_method_12_code
def yX9_takeNumber : MethodName := ⟨RX9, "takeNumber", "()I"⟩
abbrev cX9_takeIn : ByteArray := prog_11_method_13_code
def yX9_takeIn : MethodName := ⟨RX9, "takeIn", "(II)I"⟩
abbrev cX9_takeColours : ByteArray := prog_11_method_14_code
def yX9_takeColours : MethodName := ⟨RX9, "takeColours", "(I)V"⟩
abbrev cX9_takeCard : ByteArray := prog_11_method_15_code
def yX9_takeCard : MethodName := ⟨RX9, "takeCard", "(I)V"⟩
abbrev cX9_takePack : ByteArray := prog_11_method_16_code
def yX9_takePack : MethodName := ⟨RX9, "takePack", "(I)V"⟩
abbrev cX9_takeYarn : ByteArray := prog_11_method_17_code
def yX9_takeYarn : MethodName := ⟨RX9, "takeYarn", "()V"⟩
abbrev cX9_takeClause : ByteArray := prog_11_method_18_code
def yX9_takeClause : MethodName := ⟨RX9, "takeClause", "()V"⟩
abbrev cX9_loom : ByteArray := prog_11_method_19_code
def yX9_loom : MethodName := ⟨RX9, "loom", "()I"⟩
abbrev cX9_take : ByteArray := prog_11_method_20_code
def yX9_take : MethodName := ⟨RX9, "take", "()V"⟩
abbrev cX9_fault : ByteArray := prog_11_method_21_code
def yX9_fault : MethodName := ⟨RX9, "fault", "()I"⟩
abbrev cX9_isCard : ByteArray := prog_11_method_22_code
def yX9_isCard : MethodName := ⟨RX9, "isCard", "(I)Z"⟩
abbrev cX9_isColour : ByteArray := prog_11_method_23_code
def yX9_isColour : MethodName := ⟨RX9, "isColour", "(I)Z"⟩
abbrev cX9_isLoom : ByteArray := prog_11_method_24_code
def yX9_isLoom : MethodName := ⟨RX9, "isLoom", "()Z"⟩
abbrev cX9_colourOf : ByteArray := prog_11_method_25_code
def yX9_colourOf : MethodName := ⟨RX9, "colourOf", "(II)I"⟩
abbrev cX9_packOf : ByteArray := prog_11_method_26_code
def yX9_packOf : MethodName := ⟨RX9, "packOf", "(I)I"⟩
abbrev cX9_was : ByteArray := prog_11_method_27_code
def yX9_was : MethodName := ⟨RX9, "was", "(II)I"⟩
abbrev cX9_mirrored : ByteArray := prog_11_method_28_code
def yX9_mirrored : MethodName := ⟨RX9, "mirrored", "()I"⟩
abbrev cX9_isPeriod : ByteArray := prog_11_method_29_code
def yX9_isPeriod : MethodName := ⟨RX9, "isPeriod", "(I)Z"⟩
abbrev cX9_period : ByteArray := prog_11_method_30_code
def yX9_period : MethodName := ⟨RX9, "period", "()I"⟩
abbrev cX9_floatOf : ByteArray := prog_11_method_31_code
def yX9_floatOf : MethodName := ⟨RX9, "floatOf", "(I)I"⟩
abbrev cX9_longest : ByteArray := prog_11_method_32_code
def yX9_longest : MethodName := ⟨RX9, "longest", "()I"⟩
abbrev cX9_shownOf : ByteArray := prog_11_method_33_code
def yX9_shownOf : MethodName := ⟨RX9, "shownOf", "(I)I"⟩
abbrev cX9_mostShown : ByteArray := prog_11_method_34_code
def yX9_mostShown : MethodName := ⟨RX9, "mostShown", "()I"⟩
abbrev cX9_allYarn : ByteArray := prog_11_method_35_code
def yX9_allYarn : MethodName := ⟨RX9, "allYarn", "()I"⟩
abbrev cX9_told : ByteArray := prog_11_method_36_code
def yX9_told : MethodName := ⟨RX9, "told", "(I)I"⟩
abbrev cX9_card : ByteArray := prog_11_method_37_code
def yX9_card : MethodName := ⟨RX9, "card", "(II)I"⟩
abbrev cX9_pack : ByteArray := prog_11_method_38_code
def yX9_pack : MethodName := ⟨RX9, "pack", "(I)I"⟩
abbrev cX9_yarn : ByteArray := prog_11_method_39_code
def yX9_yarn : MethodName := ⟨RX9, "yarn", "(I)I"⟩
abbrev cX9_row : ByteArray := prog_11_method_40_code
def yX9_row : MethodName := ⟨RX9, "row", "(II)I"⟩
abbrev cX9_copy : ByteArray := prog_11_method_41_code
def yX9_copy : MethodName := ⟨RX9, "copy", "(II)V"⟩
abbrev cX9_remember : ByteArray := prog_11_method_42_code
def yX9_remember : MethodName := ⟨RX9, "remember", "()V"⟩
abbrev cX9_figureOf : ByteArray := prog_11_method_43_code
def yX9_figureOf : MethodName := ⟨RX9, "figureOf", "(II)I"⟩
abbrev cX9_isMoves : ByteArray := prog_11_method_44_code
def yX9_isMoves : MethodName := ⟨RX9, "isMoves", "(I)Z"⟩
abbrev cX9_turn : ByteArray := prog_11_method_45_code
def yX9_turn : MethodName := ⟨RX9, "turn", "(III)V"⟩
abbrev cX9_lay : ByteArray := prog_11_method_46_code
def yX9_lay : MethodName := ⟨RX9, "lay", "(I)V"⟩
abbrev cX9_pickIn : ByteArray := prog_11_method_47_code
def yX9_pickIn : MethodName := ⟨RX9, "pickIn", "(II)V"⟩
abbrev cX9_lacks : ByteArray := prog_11_method_48_code
def yX9_lacks : MethodName := ⟨RX9, "lacks", "(I)I"⟩
abbrev cX9_isTight : ByteArray := prog_11_method_49_code
def yX9_isTight : MethodName := ⟨RX9, "isTight", "(I)Z"⟩
abbrev cX9_canPick : ByteArray := prog_11_method_50_code
def yX9_canPick : MethodName := ⟨RX9, "canPick", "(II)Z"⟩
abbrev cX9_pick : ByteArray := prog_11_method_51_code
def yX9_pick : MethodName := ⟨RX9, "pick", "(II)I"⟩
abbrev cX9_flip : ByteArray := prog_11_method_52_code
def yX9_flip : MethodName := ⟨RX9, "flip", "(I)I"⟩
abbrev cX9_shift : ByteArray := prog_11_method_53_code
def yX9_shift : MethodName := ⟨RX9, "shift", "(II)I"⟩
abbrev cX9_buy : ByteArray := prog_11_method_54_code
def yX9_buy : MethodName := ⟨RX9, "buy", "(II)I"⟩
abbrev cX9_draw : ByteArray := prog_11_method_55_code
def yX9_draw : MethodName := ⟨RX9, "draw", "(I)I"⟩
abbrev cX9_drawMoves : ByteArray := prog_11_method_56_code
def yX9_drawMoves : MethodName := ⟨RX9, "drawMoves", "()I"⟩
abbrev cX9_drift : ByteArray := prog_11_method_57_code
def yX9_drift : MethodName := ⟨RX9, "drift", "(I)I"⟩
abbrev cX9_undo : ByteArray := prog_11_method_58_code
def yX9_undo : MethodName := ⟨RX9, "undo", "(I)I"⟩
abbrev cX9_ahead : ByteArray := prog_11_method_59_code
def yX9_ahead : MethodName := ⟨RX9, "ahead", "(III)I"⟩
abbrev cX9_lasts : ByteArray := prog_11_method_60_code
def yX9_lasts : MethodName := ⟨RX9, "lasts", "(II)I"⟩
abbrev cX9_firstOf : ByteArray := prog_11_method_61_code
def yX9_firstOf : MethodName := ⟨RX9, "firstOf", "(I)I"⟩
abbrev cX9_untwist : ByteArray := prog_11_method_62_code
def yX9_untwist : MethodName := ⟨RX9, "untwist", "(I)I"⟩
abbrev cX9_standsAlike : ByteArray := prog_11_method_63_code
def yX9_standsAlike : MethodName := ⟨RX9, "standsAlike", "(I)Z"⟩
abbrev cX9_home : ByteArray := prog_11_method_64_code
def yX9_home : MethodName := ⟨RX9, "home", "(I)I"⟩
abbrev cX9_allShow : ByteArray := prog_11_method_65_code
def yX9_allShow : MethodName := ⟨RX9, "allShow", "(III)Z"⟩
abbrev cX9_layFar : ByteArray := prog_11_method_66_code
def yX9_layFar : MethodName := ⟨RX9, "layFar", "(II)V"⟩
abbrev cX9_farBehind : ByteArray := prog_11_method_67_code
def yX9_farBehind : MethodName := ⟨RX9, "farBehind", "(I)I"⟩
abbrev cX9_packsOf : ByteArray := prog_11_method_68_code
def yX9_packsOf : MethodName := ⟨RX9, "packsOf", "(I)I"⟩
abbrev cX9_together : ByteArray := prog_11_method_69_code
def yX9_together : MethodName := ⟨RX9, "together", "(III)I"⟩
abbrev cX9_repeat : ByteArray := prog_11_method_70_code
def yX9_repeat : MethodName := ⟨RX9, "repeat", "()I"⟩
abbrev cX9_floats : ByteArray := prog_11_method_71_code
def yX9_floats : MethodName := ⟨RX9, "floats", "(I)I"⟩
abbrev cX9_areAlike : ByteArray := prog_11_method_72_code
def yX9_areAlike : MethodName := ⟨RX9, "areAlike", "(II)Z"⟩
abbrev cX9_alike : ByteArray := prog_11_method_73_code
def yX9_alike : MethodName := ⟨RX9, "alike", "(I)I"⟩
abbrev cX9_shown : ByteArray := prog_11_method_74_code
def yX9_shown : MethodName := ⟨RX9, "shown", "(I)I"⟩
abbrev cX9_turned : ByteArray := prog_11_method_75_code
def yX9_turned : MethodName := ⟨RX9, "turned", "(II)I"⟩
abbrev cX9_shareOf : ByteArray := prog_11_method_76_code
def yX9_shareOf : MethodName := ⟨RX9, "shareOf", "(II)I"⟩
abbrev cX9_share : ByteArray := prog_11_method_77_code
def yX9_share : MethodName := ⟨RX9, "share", "(II)I"⟩
abbrev cX9_plain : ByteArray := prog_11_method_78_code
def yX9_plain : MethodName := ⟨RX9, "plain", "(II)I"⟩
abbrev cX9_see : ByteArray := prog_11_method_79_code
def yX9_see : MethodName := ⟨RX9, "see", "(III)I"⟩
abbrev cX9_holesOf : ByteArray := prog_11_method_80_code
def yX9_holesOf : MethodName := ⟨RX9, "holesOf", "(I)I"⟩
abbrev cX9_holes : ByteArray := prog_11_method_81_code
def yX9_holes : MethodName := ⟨RX9, "holes", "(I)I"⟩
abbrev cX9_greatestPart : ByteArray := prog_11_method_82_code
def yX9_greatestPart : MethodName := ⟨RX9, "greatestPart", "(III)I"⟩
abbrev cX9_lookAt : ByteArray := prog_11_method_83_code
def yX9_lookAt : MethodName := ⟨RX9, "lookAt", "(I)I"⟩
abbrev cX9_write : ByteArray := prog_11_method_84_code
def yX9_write : MethodName := ⟨RX9, "write", "(II)I"⟩
abbrev cX9_judge : ByteArray := prog_11_method_85_code
def yX9_judge : MethodName := ⟨RX9, "judge", "()I"⟩
abbrev cX9_tear : ByteArray := prog_11_method_86_code
def yX9_tear : MethodName := ⟨RX9, "tear", "()I"⟩
abbrev cX9_seed : ByteArray := prog_11_method_87_code
def yX9_seed : MethodName := ⟨RX9, "seed", "(I)I"⟩
abbrev cX9_keep : ByteArray := prog_11_method_88_code
def yX9_keep : MethodName := ⟨RX9, "keep", "(I)I"⟩
abbrev cX9_goBack : ByteArray := prog_11_method_89_code
def yX9_goBack : MethodName := ⟨RX9, "goBack", "(I)I"⟩
def RJ6 : String := "java/lang/Integer"
def TJ6 : u_T := fun k => match k with
  | _ => ("", "", "", false)
def tyJ6 : Nat → FieldType := fun k => match k with
  | _ => .int
abbrev wsJ60 : List Cond := u_ws RJ6 TJ6 0
theorem nmJ6 : ∀ a, a < 0 → ∀ b, b < 0 → a ≠ b → (TJ6 a).2.1 ≠ (TJ6 b).2.1 := by decide +kernel
theorem tyJ6_ok : ∀ k, k < 0 → parseFieldDescriptor (TJ6 k).2.2.1 = some (tyJ6 k) := by decide +kernel
abbrev cJ6_bitCount_0f7a4 : ByteArray := prog_12_method_49_code
def yJ6_bitCount_0f7a4 : MethodName := ⟨RJ6, "bitCount", "(I)I"⟩
def RJ9 : String := "java/lang/Math"
def TJ9 : u_T := fun k => match k with
  | _ => ("", "", "", false)
def tyJ9 : Nat → FieldType := fun k => match k with
  | _ => .int
abbrev wsJ90 : List Cond := u_ws RJ9 TJ9 0
theorem nmJ9 : ∀ a, a < 0 → ∀ b, b < 0 → a ≠ b → (TJ9 a).2.1 ≠ (TJ9 b).2.1 := by decide +kernel
theorem tyJ9_ok : ∀ k, k < 0 → parseFieldDescriptor (TJ9 k).2.2.1 = some (tyJ9 k) := by decide +kernel
abbrev cJ9_floorMod_7cf53 : ByteArray := prog_13_method_50_code
def yJ9_floorMod_7cf53 : MethodName := ⟨RJ9, "floorMod", "(II)I"⟩
abbrev cJ9_abs_0f7a4 : ByteArray := prog_13_method_59_code
def yJ9_abs_0f7a4 : MethodName := ⟨RJ9, "abs", "(I)I"⟩
abbrev cJ9_max_7cf53 : ByteArray := prog_13_method_65_code
def yJ9_max_7cf53 : MethodName := ⟨RJ9, "max", "(II)I"⟩
abbrev cJ9_min_7cf53 : ByteArray := prog_13_method_69_code
def yJ9_min_7cf53 : MethodName := ⟨RJ9, "min", "(II)I"⟩
def RJ10 : String := "java/lang/System"
def TJ10 : u_T := fun k => match k with
  | _ => ("", "", "", false)
def tyJ10 : Nat → FieldType := fun k => match k with
  | _ => .int
abbrev wsJ100 : List Cond := u_ws RJ10 TJ10 0
theorem nmJ10 : ∀ a, a < 0 → ∀ b, b < 0 → a ≠ b → (TJ10 a).2.1 ≠ (TJ10 b).2.1 := by decide +kernel
theorem tyJ10_ok : ∀ k, k < 0 → parseFieldDescriptor (TJ10 k).2.2.1 = some (tyJ10 k) := by decide +kernel
def RJ7 : String := "java/util/Arrays"
def TJ7 : u_T := fun k => match k with
  | _ => ("", "", "", false)
def tyJ7 : Nat → FieldType := fun k => match k with
  | _ => .int
abbrev wsJ70 : List Cond := u_ws RJ7 TJ7 0
theorem nmJ7 : ∀ a, a < 0 → ∀ b, b < 0 → a ≠ b → (TJ7 a).2.1 ≠ (TJ7 b).2.1 := by decide +kernel
theorem tyJ7_ok : ∀ k, k < 0 → parseFieldDescriptor (TJ7 k).2.2.1 = some (tyJ7 k) := by decide +kernel
abbrev cJ7_fill_53178 : ByteArray := prog_15_method_103_code
def yJ7_fill_53178 : MethodName := ⟨RJ7, "fill", "([II)V"⟩
def RL : String := "CardBandLaw"
abbrev cL_law : ByteArray := code
def yL_law : MethodName := ⟨RL, "law", "([I)Z"⟩
def wsX7_countRows : List Cond := .code yX7_countRows cX7_countRows 1 (some .int) :: ([.fieldLink RX7 56 "CardBand$Weave" "picks" "I", .methodLink RX7 104 Lib.Math.min.name, .static Lib.Math.min.name, .initialized "java/lang/Math", .code Lib.Math.min.name Lib.Math.min.code 2 (some .int)] ++ wsX70)
def wsJ9_floorMod_7cf53 : List Cond := .code yJ9_floorMod_7cf53 cJ9_floorMod_7cf53 3 (some .int) :: ([])
def wsX7_slotOf : List Cond := .code yX7_slotOf cX7_slotOf 1 (some .int) :: ([.methodLink RX7 99 yJ9_floorMod_7cf53, .static yJ9_floorMod_7cf53, .initialized RJ9, .code yJ9_floorMod_7cf53 cJ9_floorMod_7cf53 3 (some .int)])
def wsX7_showedAt : List Cond := .code yX7_showedAt cX7_showedAt 3 (some .int) :: ([.fieldLink RX7 33 "CardBand$Weave" "band" "[I", .fieldLink RX7 56 "CardBand$Weave" "picks" "I", .methodLink RX7 107 yX7_countRows, .instanceMethod yX7_countRows, .selects RX7 yX7_countRows yX7_countRows, .initialized RX7, .code yX7_countRows cX7_countRows 1 (some .int), .methodLink RX7 104 Lib.Math.min.name, .static Lib.Math.min.name, .initialized "java/lang/Math", .code Lib.Math.min.name Lib.Math.min.code 2 (some .int), .methodLink RX7 95 yX7_slotOf, .static yX7_slotOf, .code yX7_slotOf cX7_slotOf 1 (some .int), .methodLink RX7 99 yJ9_floorMod_7cf53, .static yJ9_floorMod_7cf53, .initialized RJ9, .code yJ9_floorMod_7cf53 cJ9_floorMod_7cf53 3 (some .int)] ++ wsX70)
def wsX0_isMirrored : List Cond := .code yX0_isMirrored cX0_isMirrored 4 (some .boolean) :: ([.methodLink RX0 21 yX7_showedAt, .instanceMethod yX7_showedAt, .selects RX7 yX7_showedAt yX7_showedAt, .initialized RX7, .code yX7_showedAt cX7_showedAt 3 (some .int), .fieldLink RX7 33 "CardBand$Weave" "band" "[I", .fieldLink RX7 56 "CardBand$Weave" "picks" "I", .methodLink RX7 107 yX7_countRows, .instanceMethod yX7_countRows, .selects RX7 yX7_countRows yX7_countRows, .code yX7_countRows cX7_countRows 1 (some .int), .methodLink RX7 104 Lib.Math.min.name, .static Lib.Math.min.name, .initialized "java/lang/Math", .code Lib.Math.min.name Lib.Math.min.code 2 (some .int), .methodLink RX7 95 yX7_slotOf, .static yX7_slotOf, .code yX7_slotOf cX7_slotOf 1 (some .int), .methodLink RX7 99 yJ9_floorMod_7cf53, .static yJ9_floorMod_7cf53, .initialized RJ9, .code yJ9_floorMod_7cf53 cJ9_floorMod_7cf53 3 (some .int)] ++ wsX70)
def wsX0_countMirrored_r1 : List Cond := [Cond.methodLink RX0 9 yX7_countRows, Cond.instanceMethod yX7_countRows, Cond.selects RX7 yX7_countRows yX7_countRows, Cond.initialized RX7, Cond.code yX7_countRows cX7_countRows 1 (some .int), Cond.fieldLink RX7 56 "CardBand$Weave" "picks" "I", Cond.methodLink RX7 104 Lib.Math.min.name, Cond.static Lib.Math.min.name, Cond.initialized "java/lang/Math", Cond.code Lib.Math.min.name Lib.Math.min.code 2 (some .int), Cond.methodLink RX0 15 yX0_isMirrored, Cond.static yX0_isMirrored, Cond.initialized RX0, Cond.code yX0_isMirrored cX0_isMirrored 4 (some .boolean), Cond.methodLink RX0 21 yX7_showedAt, Cond.instanceMethod yX7_showedAt, Cond.selects RX7 yX7_showedAt yX7_showedAt, Cond.code yX7_showedAt cX7_showedAt 3 (some .int), Cond.fieldLink RX7 33 "CardBand$Weave" "band" "[I", Cond.methodLink RX7 107 yX7_countRows, Cond.methodLink RX7 95 yX7_slotOf, Cond.static yX7_slotOf, Cond.code yX7_slotOf cX7_slotOf 1 (some .int), Cond.methodLink RX7 99 yJ9_floorMod_7cf53]
def wsX0_countMirrored_r2 : List Cond := [Cond.static yJ9_floorMod_7cf53, Cond.initialized RJ9, Cond.code yJ9_floorMod_7cf53 cJ9_floorMod_7cf53 3 (some .int)]
def wsX0_countMirrored : List Cond := .code yX0_countMirrored cX0_countMirrored 4 (some .int) :: ((wsX0_countMirrored_r1 ++ wsX0_countMirrored_r2) ++ wsX70)
def wsX0_isPeriod : List Cond := .code yX0_isPeriod cX0_isPeriod 5 (some .boolean) :: ([.methodLink RX0 9 yX7_countRows, .instanceMethod yX7_countRows, .selects RX7 yX7_countRows yX7_countRows, .initialized RX7, .code yX7_countRows cX7_countRows 1 (some .int), .fieldLink RX7 56 "CardBand$Weave" "picks" "I", .methodLink RX7 104 Lib.Math.min.name, .static Lib.Math.min.name, .initialized "java/lang/Math", .code Lib.Math.min.name Lib.Math.min.code 2 (some .int), .methodLink RX0 21 yX7_showedAt, .instanceMethod yX7_showedAt, .selects RX7 yX7_showedAt yX7_showedAt, .code yX7_showedAt cX7_showedAt 3 (some .int), .fieldLink RX7 33 "CardBand$Weave" "band" "[I", .methodLink RX7 107 yX7_countRows, .methodLink RX7 95 yX7_slotOf, .static yX7_slotOf, .code yX7_slotOf cX7_slotOf 1 (some .int), .methodLink RX7 99 yJ9_floorMod_7cf53, .static yJ9_floorMod_7cf53, .initialized RJ9, .code yJ9_floorMod_7cf53 cJ9_floorMod_7cf53 3 (some .int)] ++ wsX70)
def wsX0_findPeriod_r1 : List Cond := [Cond.methodLink RX0 9 yX7_countRows, Cond.instanceMethod yX7_countRows, Cond.selects RX7 yX7_countRows yX7_countRows, Cond.initialized RX7, Cond.code yX7_countRows cX7_countRows 1 (some .int), Cond.fieldLink RX7 56 "CardBand$Weave" "picks" "I", Cond.methodLink RX7 104 Lib.Math.min.name, Cond.static Lib.Math.min.name, Cond.initialized "java/lang/Math", Cond.code Lib.Math.min.name Lib.Math.min.code 2 (some .int), Cond.methodLink RX0 25 yX0_isPeriod, Cond.static yX0_isPeriod, Cond.initialized RX0, Cond.code yX0_isPeriod cX0_isPeriod 5 (some .boolean), Cond.methodLink RX0 21 yX7_showedAt, Cond.instanceMethod yX7_showedAt, Cond.selects RX7 yX7_showedAt yX7_showedAt, Cond.code yX7_showedAt cX7_showedAt 3 (some .int), Cond.fieldLink RX7 33 "CardBand$Weave" "band" "[I", Cond.methodLink RX7 107 yX7_countRows, Cond.methodLink RX7 95 yX7_slotOf, Cond.static yX7_slotOf, Cond.code yX7_slotOf cX7_slotOf 1 (some .int), Cond.methodLink RX7 99 yJ9_floorMod_7cf53]
def wsX0_findPeriod_r2 : List Cond := [Cond.static yJ9_floorMod_7cf53, Cond.initialized RJ9, Cond.code yJ9_floorMod_7cf53 cJ9_floorMod_7cf53 3 (some .int)]
def wsX0_findPeriod : List Cond := .code yX0_findPeriod cX0_findPeriod 4 (some .int) :: ((wsX0_findPeriod_r1 ++ wsX0_findPeriod_r2) ++ wsX70)
def wsX0_findFloat_r1 : List Cond := [Cond.methodLink RX0 28 Lib.Math.max.name, Cond.static Lib.Math.max.name, Cond.initialized "java/lang/Math", Cond.code Lib.Math.max.name Lib.Math.max.code 2 (some .int), Cond.methodLink RX0 9 yX7_countRows, Cond.instanceMethod yX7_countRows, Cond.selects RX7 yX7_countRows yX7_countRows, Cond.initialized RX7, Cond.code yX7_countRows cX7_countRows 1 (some .int), Cond.fieldLink RX7 56 "CardBand$Weave" "picks" "I", Cond.methodLink RX7 104 Lib.Math.min.name, Cond.static Lib.Math.min.name, Cond.code Lib.Math.min.name Lib.Math.min.code 2 (some .int), Cond.methodLink RX0 21 yX7_showedAt, Cond.instanceMethod yX7_showedAt, Cond.selects RX7 yX7_showedAt yX7_showedAt, Cond.code yX7_showedAt cX7_showedAt 3 (some .int), Cond.fieldLink RX7 33 "CardBand$Weave" "band" "[I", Cond.methodLink RX7 107 yX7_countRows, Cond.methodLink RX7 95 yX7_slotOf, Cond.static yX7_slotOf, Cond.code yX7_slotOf cX7_slotOf 1 (some .int), Cond.methodLink RX7 99 yJ9_floorMod_7cf53, Cond.static yJ9_floorMod_7cf53]
def wsX0_findFloat_r2 : List Cond := [Cond.initialized RJ9, Cond.code yJ9_floorMod_7cf53 cJ9_floorMod_7cf53 3 (some .int)]
def wsX0_findFloat : List Cond := .code yX0_findFloat cX0_findFloat 6 (some .int) :: ((wsX0_findFloat_r1 ++ wsX0_findFloat_r2) ++ wsX70)
def wsX0_findLongest_r1 : List Cond := [Cond.methodLink RX0 9 yX7_countRows, Cond.instanceMethod yX7_countRows, Cond.selects RX7 yX7_countRows yX7_countRows, Cond.initialized RX7, Cond.code yX7_countRows cX7_countRows 1 (some .int), Cond.fieldLink RX7 56 "CardBand$Weave" "picks" "I", Cond.methodLink RX7 104 Lib.Math.min.name, Cond.static Lib.Math.min.name, Cond.initialized "java/lang/Math", Cond.code Lib.Math.min.name Lib.Math.min.code 2 (some .int), Cond.methodLink RX0 33 yX0_findFloat, Cond.static yX0_findFloat, Cond.initialized RX0, Cond.code yX0_findFloat cX0_findFloat 6 (some .int), Cond.methodLink RX0 28 Lib.Math.max.name, Cond.static Lib.Math.max.name, Cond.code Lib.Math.max.name Lib.Math.max.code 2 (some .int), Cond.methodLink RX0 21 yX7_showedAt, Cond.instanceMethod yX7_showedAt, Cond.selects RX7 yX7_showedAt yX7_showedAt, Cond.code yX7_showedAt cX7_showedAt 3 (some .int), Cond.fieldLink RX7 33 "CardBand$Weave" "band" "[I", Cond.methodLink RX7 107 yX7_countRows, Cond.methodLink RX7 95 yX7_slotOf]
def wsX0_findLongest_r2 : List Cond := [Cond.static yX7_slotOf, Cond.code yX7_slotOf cX7_slotOf 1 (some .int), Cond.methodLink RX7 99 yJ9_floorMod_7cf53, Cond.static yJ9_floorMod_7cf53, Cond.initialized RJ9, Cond.code yJ9_floorMod_7cf53 cJ9_floorMod_7cf53 3 (some .int)]
def wsX0_findLongest : List Cond := .code yX0_findLongest cX0_findLongest 6 (some .int) :: ((wsX0_findLongest_r1 ++ wsX0_findLongest_r2) ++ wsX70)
def wsX0_countShown : List Cond := .code yX0_countShown cX0_countShown 6 (some .int) :: ([.methodLink RX0 9 yX7_countRows, .instanceMethod yX7_countRows, .selects RX7 yX7_countRows yX7_countRows, .initialized RX7, .code yX7_countRows cX7_countRows 1 (some .int), .fieldLink RX7 56 "CardBand$Weave" "picks" "I", .methodLink RX7 104 Lib.Math.min.name, .static Lib.Math.min.name, .initialized "java/lang/Math", .code Lib.Math.min.name Lib.Math.min.code 2 (some .int), .methodLink RX0 21 yX7_showedAt, .instanceMethod yX7_showedAt, .selects RX7 yX7_showedAt yX7_showedAt, .code yX7_showedAt cX7_showedAt 3 (some .int), .fieldLink RX7 33 "CardBand$Weave" "band" "[I", .methodLink RX7 107 yX7_countRows, .methodLink RX7 95 yX7_slotOf, .static yX7_slotOf, .code yX7_slotOf cX7_slotOf 1 (some .int), .methodLink RX7 99 yJ9_floorMod_7cf53, .static yJ9_floorMod_7cf53, .initialized RJ9, .code yJ9_floorMod_7cf53 cJ9_floorMod_7cf53 3 (some .int)] ++ wsX70)
def wsX0_findMost_r1 : List Cond := [Cond.fieldLink RX0 37 "CardBand$Threading" "colours" "I", Cond.fieldLink RX0 43 "CardBand$Threading" "cards" "I", Cond.methodLink RX0 46 yX0_countShown, Cond.static yX0_countShown, Cond.initialized RX0, Cond.code yX0_countShown cX0_countShown 6 (some .int), Cond.methodLink RX0 9 yX7_countRows, Cond.instanceMethod yX7_countRows, Cond.selects RX7 yX7_countRows yX7_countRows, Cond.initialized RX7, Cond.code yX7_countRows cX7_countRows 1 (some .int), Cond.fieldLink RX7 56 "CardBand$Weave" "picks" "I", Cond.methodLink RX7 104 Lib.Math.min.name, Cond.static Lib.Math.min.name, Cond.initialized "java/lang/Math", Cond.code Lib.Math.min.name Lib.Math.min.code 2 (some .int), Cond.methodLink RX0 21 yX7_showedAt, Cond.instanceMethod yX7_showedAt, Cond.selects RX7 yX7_showedAt yX7_showedAt, Cond.code yX7_showedAt cX7_showedAt 3 (some .int), Cond.fieldLink RX7 33 "CardBand$Weave" "band" "[I", Cond.methodLink RX7 107 yX7_countRows, Cond.methodLink RX7 95 yX7_slotOf, Cond.static yX7_slotOf]
def wsX0_findMost_r2 : List Cond := [Cond.code yX7_slotOf cX7_slotOf 1 (some .int), Cond.methodLink RX7 99 yJ9_floorMod_7cf53, Cond.static yJ9_floorMod_7cf53, Cond.initialized RJ9, Cond.code yJ9_floorMod_7cf53 cJ9_floorMod_7cf53 3 (some .int)]
def wsX0_findMost : List Cond := .code yX0_findMost cX0_findMost 6 (some .int) :: ((wsX0_findMost_r1 ++ wsX0_findMost_r2) ++ wsX50 ++ wsX70)
def wsX0_showedSame : List Cond := .code yX0_showedSame cX0_showedSame 4 (some .boolean) :: ([.methodLink RX0 9 yX7_countRows, .instanceMethod yX7_countRows, .selects RX7 yX7_countRows yX7_countRows, .initialized RX7, .code yX7_countRows cX7_countRows 1 (some .int), .fieldLink RX7 56 "CardBand$Weave" "picks" "I", .methodLink RX7 104 Lib.Math.min.name, .static Lib.Math.min.name, .initialized "java/lang/Math", .code Lib.Math.min.name Lib.Math.min.code 2 (some .int), .methodLink RX0 21 yX7_showedAt, .instanceMethod yX7_showedAt, .selects RX7 yX7_showedAt yX7_showedAt, .code yX7_showedAt cX7_showedAt 3 (some .int), .fieldLink RX7 33 "CardBand$Weave" "band" "[I", .methodLink RX7 107 yX7_countRows, .methodLink RX7 95 yX7_slotOf, .static yX7_slotOf, .code yX7_slotOf cX7_slotOf 1 (some .int), .methodLink RX7 99 yJ9_floorMod_7cf53, .static yJ9_floorMod_7cf53, .initialized RJ9, .code yJ9_floorMod_7cf53 cJ9_floorMod_7cf53 3 (some .int)] ++ wsX70)
def wsX0_findAlike_r1 : List Cond := [Cond.methodLink RX0 50 yX0_showedSame, Cond.static yX0_showedSame, Cond.initialized RX0, Cond.code yX0_showedSame cX0_showedSame 4 (some .boolean), Cond.methodLink RX0 9 yX7_countRows, Cond.instanceMethod yX7_countRows, Cond.selects RX7 yX7_countRows yX7_countRows, Cond.initialized RX7, Cond.code yX7_countRows cX7_countRows 1 (some .int), Cond.fieldLink RX7 56 "CardBand$Weave" "picks" "I", Cond.methodLink RX7 104 Lib.Math.min.name, Cond.static Lib.Math.min.name, Cond.initialized "java/lang/Math", Cond.code Lib.Math.min.name Lib.Math.min.code 2 (some .int), Cond.methodLink RX0 21 yX7_showedAt, Cond.instanceMethod yX7_showedAt, Cond.selects RX7 yX7_showedAt yX7_showedAt, Cond.code yX7_showedAt cX7_showedAt 3 (some .int), Cond.fieldLink RX7 33 "CardBand$Weave" "band" "[I", Cond.methodLink RX7 107 yX7_countRows, Cond.methodLink RX7 95 yX7_slotOf, Cond.static yX7_slotOf, Cond.code yX7_slotOf cX7_slotOf 1 (some .int), Cond.methodLink RX7 99 yJ9_floorMod_7cf53]
def wsX0_findAlike_r2 : List Cond := [Cond.static yJ9_floorMod_7cf53, Cond.initialized RJ9, Cond.code yJ9_floorMod_7cf53 cJ9_floorMod_7cf53 3 (some .int)]
def wsX0_findAlike : List Cond := .code yX0_findAlike cX0_findAlike 6 (some .int) :: ((wsX0_findAlike_r1 ++ wsX0_findAlike_r2) ++ wsX70)
def wsX5_indexOf : List Cond := .code yX5_indexOf cX5_indexOf 2 (some .int) :: ([])
def wsX5_colourAt : List Cond := .code yX5_colourAt cX5_colourAt 3 (some .int) :: ([.fieldLink RX5 9 "CardBand$Threading" "holeColours" "[I", .methodLink RX5 46 yX5_indexOf, .static yX5_indexOf, .initialized RX5, .code yX5_indexOf cX5_indexOf 2 (some .int)] ++ wsX50)
def wsX0_findTurns : List Cond := .code yX0_findTurns cX0_findTurns 7 (some .int) :: ([.methodLink RX0 53 yX5_colourAt, .instanceMethod yX5_colourAt, .selects RX5 yX5_colourAt yX5_colourAt, .initialized RX5, .code yX5_colourAt cX5_colourAt 3 (some .int), .fieldLink RX5 9 "CardBand$Threading" "holeColours" "[I", .methodLink RX5 46 yX5_indexOf, .static yX5_indexOf, .code yX5_indexOf cX5_indexOf 2 (some .int)] ++ wsX50)
def wsX7_init : List Cond := .code yX7_init cX7_init 1 none :: ([.methodLink RX7 3 objectInit, .instanceMethod objectInit, .code objectInit ⟨#[0xb1]⟩ 1 none, .arrayClass .int, .fieldLink RX7 9 "CardBand$Weave" "ways" "[I", .fieldLink RX7 15 "CardBand$Weave" "stands" "[I", .fieldLink RX7 18 "CardBand$Weave" "twists" "[I", .fieldLink RX7 21 "CardBand$Weave" "shows" "[I", .fieldLink RX7 24 "CardBand$Weave" "slants" "[I", .fieldLink RX7 27 "CardBand$Weave" "yarns" "[I", .fieldLink RX7 30 "CardBand$Weave" "wanted" "[I", .fieldLink RX7 33 "CardBand$Weave" "band" "[I"] ++ wsX70)
def wsX1_init : List Cond := .code yX1_init cX1_init 2 none :: ([.methodLink RX1 3 objectInit, .instanceMethod objectInit, .code objectInit ⟨#[0xb1]⟩ 1 none, .classLink RX1 9 RX7, .fieldLink RX1 11 "CardBand$Deeds" "before" "[LCardBand$Weave;", .instantiable RX7 9, .initialized RX7, .instanceMethod yX7_init, .code yX7_init cX7_init 1 none, .methodLink RX7 3 objectInit, .arrayClass .int, .fieldLink RX7 9 "CardBand$Weave" "ways" "[I", .fieldLink RX7 15 "CardBand$Weave" "stands" "[I", .fieldLink RX7 18 "CardBand$Weave" "twists" "[I", .fieldLink RX7 21 "CardBand$Weave" "shows" "[I", .fieldLink RX7 24 "CardBand$Weave" "slants" "[I", .fieldLink RX7 27 "CardBand$Weave" "yarns" "[I", .fieldLink RX7 30 "CardBand$Weave" "wanted" "[I", .fieldLink RX7 33 "CardBand$Weave" "band" "[I"] ++ wsX10 ++ wsX70)
def wsX1_forget : List Cond := .code yX1_forget cX1_forget 1 none :: ([.fieldLink RX1 18 "CardBand$Deeds" "count" "I"] ++ wsX10)
def wsX1_weaveAt : List Cond := .code yX1_weaveAt cX1_weaveAt 2 (some (.object "CardBand$Weave")) :: ([.fieldLink RX1 11 "CardBand$Deeds" "before" "[LCardBand$Weave;"] ++ wsX10)
def wsX7_become : List Cond := .code yX7_become cX7_become 2 none :: ([.fieldLink RX7 9 "CardBand$Weave" "ways" "[I", .methodLink RX7 41 arraycopyName, .native arraycopyName, .static arraycopyName, .initialized "java/lang/System", .fieldLink RX7 15 "CardBand$Weave" "stands" "[I", .fieldLink RX7 18 "CardBand$Weave" "twists" "[I", .fieldLink RX7 21 "CardBand$Weave" "shows" "[I", .fieldLink RX7 24 "CardBand$Weave" "slants" "[I", .fieldLink RX7 27 "CardBand$Weave" "yarns" "[I", .fieldLink RX7 33 "CardBand$Weave" "band" "[I", .fieldLink RX7 56 "CardBand$Weave" "picks" "I"] ++ wsX70)
def wsX1_remember_r1 : List Cond := [Cond.fieldLink RX1 22 "CardBand$Deeds" "next" "I", Cond.fieldLink RX1 18 "CardBand$Deeds" "count" "I", Cond.methodLink RX1 33 Lib.Math.min.name, Cond.static Lib.Math.min.name, Cond.initialized "java/lang/Math", Cond.code Lib.Math.min.name Lib.Math.min.code 2 (some .int), Cond.methodLink RX1 25 yX1_weaveAt, Cond.instanceMethod yX1_weaveAt, Cond.selects RX1 yX1_weaveAt yX1_weaveAt, Cond.initialized RX1, Cond.code yX1_weaveAt cX1_weaveAt 2 (some (.object "CardBand$Weave")), Cond.fieldLink RX1 11 "CardBand$Deeds" "before" "[LCardBand$Weave;", Cond.methodLink RX1 29 yX7_become, Cond.instanceMethod yX7_become, Cond.selects RX7 yX7_become yX7_become, Cond.initialized RX7, Cond.code yX7_become cX7_become 2 none, Cond.fieldLink RX7 9 "CardBand$Weave" "ways" "[I", Cond.methodLink RX7 41 arraycopyName, Cond.native arraycopyName, Cond.static arraycopyName, Cond.initialized "java/lang/System", Cond.fieldLink RX7 15 "CardBand$Weave" "stands" "[I", Cond.fieldLink RX7 18 "CardBand$Weave" "twists" "[I"]
def wsX1_remember_r2 : List Cond := [Cond.fieldLink RX7 21 "CardBand$Weave" "shows" "[I", Cond.fieldLink RX7 24 "CardBand$Weave" "slants" "[I", Cond.fieldLink RX7 27 "CardBand$Weave" "yarns" "[I", Cond.fieldLink RX7 33 "CardBand$Weave" "band" "[I", Cond.fieldLink RX7 56 "CardBand$Weave" "picks" "I"]
def wsX1_remember : List Cond := .code yX1_remember cX1_remember 3 none :: ((wsX1_remember_r1 ++ wsX1_remember_r2) ++ wsX10 ++ wsX70)
def wsX1_takeBack_r1 : List Cond := [Cond.fieldLink RX1 22 "CardBand$Deeds" "next" "I", Cond.fieldLink RX1 18 "CardBand$Deeds" "count" "I", Cond.methodLink RX1 39 yJ9_floorMod_7cf53, Cond.static yJ9_floorMod_7cf53, Cond.initialized RJ9, Cond.code yJ9_floorMod_7cf53 cJ9_floorMod_7cf53 3 (some .int), Cond.methodLink RX1 25 yX1_weaveAt, Cond.instanceMethod yX1_weaveAt, Cond.selects RX1 yX1_weaveAt yX1_weaveAt, Cond.initialized RX1, Cond.code yX1_weaveAt cX1_weaveAt 2 (some (.object "CardBand$Weave")), Cond.fieldLink RX1 11 "CardBand$Deeds" "before" "[LCardBand$Weave;", Cond.methodLink RX1 29 yX7_become, Cond.instanceMethod yX7_become, Cond.selects RX7 yX7_become yX7_become, Cond.initialized RX7, Cond.code yX7_become cX7_become 2 none, Cond.fieldLink RX7 9 "CardBand$Weave" "ways" "[I", Cond.methodLink RX7 41 arraycopyName, Cond.native arraycopyName, Cond.static arraycopyName, Cond.initialized "java/lang/System", Cond.fieldLink RX7 15 "CardBand$Weave" "stands" "[I", Cond.fieldLink RX7 18 "CardBand$Weave" "twists" "[I"]
def wsX1_takeBack_r2 : List Cond := [Cond.fieldLink RX7 21 "CardBand$Weave" "shows" "[I", Cond.fieldLink RX7 24 "CardBand$Weave" "slants" "[I", Cond.fieldLink RX7 27 "CardBand$Weave" "yarns" "[I", Cond.fieldLink RX7 33 "CardBand$Weave" "band" "[I", Cond.fieldLink RX7 56 "CardBand$Weave" "picks" "I"]
def wsX1_takeBack : List Cond := .code yX1_takeBack cX1_takeBack 5 (some .boolean) :: ((wsX1_takeBack_r1 ++ wsX1_takeBack_r2) ++ wsX10 ++ wsX70)
def wsX2_init : List Cond := .code yX2_init cX2_init 1 none :: ([.methodLink RX2 1 objectInit, .instanceMethod objectInit, .code objectInit ⟨#[0xb1]⟩ 1 none, .classLink RX2 7 RX7, .instantiable RX7 9, .initialized RX7, .fieldLink RX2 10 "CardBand$Image" "weave" "LCardBand$Weave;", .instanceMethod yX7_init, .code yX7_init cX7_init 1 none, .methodLink RX7 3 objectInit, .arrayClass .int, .fieldLink RX7 9 "CardBand$Weave" "ways" "[I", .fieldLink RX7 15 "CardBand$Weave" "stands" "[I", .fieldLink RX7 18 "CardBand$Weave" "twists" "[I", .fieldLink RX7 21 "CardBand$Weave" "shows" "[I", .fieldLink RX7 24 "CardBand$Weave" "slants" "[I", .fieldLink RX7 27 "CardBand$Weave" "yarns" "[I", .fieldLink RX7 30 "CardBand$Weave" "wanted" "[I", .fieldLink RX7 33 "CardBand$Weave" "band" "[I"] ++ wsX70 ++ wsX20)
def wsX3_init : List Cond := .code yX3_init cX3_init 1 none :: ([.methodLink RX3 3 objectInit, .instanceMethod objectInit, .code objectInit ⟨#[0xb1]⟩ 1 none, .arrayClass .int, .fieldLink RX3 9 "CardBand$Notes" "seenCards" "[I", .fieldLink RX3 15 "CardBand$Notes" "seenTurns" "[I", .fieldLink RX3 18 "CardBand$Notes" "seenColours" "[I", .fieldLink RX3 21 "CardBand$Notes" "bookCards" "[I", .fieldLink RX3 24 "CardBand$Notes" "bookColours" "[I"] ++ wsX30)
def wsX3_forget : List Cond := .code yX3_forget cX3_forget 1 none :: ([.fieldLink RX3 27 "CardBand$Notes" "seenCount" "I", .fieldLink RX3 31 "CardBand$Notes" "bookCount" "I"] ++ wsX30)
def wsX3_addSeen : List Cond := .code yX3_addSeen cX3_addSeen 4 (some .boolean) :: ([.fieldLink RX3 27 "CardBand$Notes" "seenCount" "I", .fieldLink RX3 9 "CardBand$Notes" "seenCards" "[I", .fieldLink RX3 15 "CardBand$Notes" "seenTurns" "[I", .fieldLink RX3 18 "CardBand$Notes" "seenColours" "[I"] ++ wsX30)
def wsX3_addEntry : List Cond := .code yX3_addEntry cX3_addEntry 3 (some .boolean) :: ([.fieldLink RX3 31 "CardBand$Notes" "bookCount" "I", .fieldLink RX3 21 "CardBand$Notes" "bookCards" "[I", .fieldLink RX3 24 "CardBand$Notes" "bookColours" "[I"] ++ wsX30)
def wsX3_findWrong : List Cond := .code yX3_findWrong cX3_findWrong 3 (some .int) :: ([.fieldLink RX3 31 "CardBand$Notes" "bookCount" "I", .fieldLink RX3 34 "CardBand$Weave" "shows" "[I", .fieldLink RX3 21 "CardBand$Notes" "bookCards" "[I", .fieldLink RX3 24 "CardBand$Notes" "bookColours" "[I"] ++ wsX30 ++ wsX70)
def wsX3_holesThatShow : List Cond := .code yX3_holesThatShow cX3_holesThatShow 6 (some .int) :: ([.methodLink RX3 43 yX5_colourAt, .instanceMethod yX5_colourAt, .selects RX5 yX5_colourAt yX5_colourAt, .initialized RX5, .code yX5_colourAt cX5_colourAt 3 (some .int), .fieldLink RX5 9 "CardBand$Threading" "holeColours" "[I", .methodLink RX5 46 yX5_indexOf, .static yX5_indexOf, .code yX5_indexOf cX5_indexOf 2 (some .int)] ++ wsX50)
def wsX3_findHoles : List Cond := .code yX3_findHoles cX3_findHoles 5 (some .int) :: ([.fieldLink RX3 27 "CardBand$Notes" "seenCount" "I", .fieldLink RX3 9 "CardBand$Notes" "seenCards" "[I", .fieldLink RX3 15 "CardBand$Notes" "seenTurns" "[I", .fieldLink RX3 18 "CardBand$Notes" "seenColours" "[I", .methodLink RX3 39 yX3_holesThatShow, .static yX3_holesThatShow, .initialized RX3, .code yX3_holesThatShow cX3_holesThatShow 6 (some .int), .methodLink RX3 43 yX5_colourAt, .instanceMethod yX5_colourAt, .selects RX5 yX5_colourAt yX5_colourAt, .initialized RX5, .code yX5_colourAt cX5_colourAt 3 (some .int), .fieldLink RX5 9 "CardBand$Threading" "holeColours" "[I", .methodLink RX5 46 yX5_indexOf, .static yX5_indexOf, .code yX5_indexOf cX5_indexOf 2 (some .int)] ++ wsX30 ++ wsX50)
def wsJ6_bitCount_0f7a4 : List Cond := .code yJ6_bitCount_0f7a4 cJ6_bitCount_0f7a4 1 (some .int) :: ([.constant RJ6 265 (1431655765), .constant RJ6 266 (858993459), .constant RJ6 267 (252645135)])
def wsX3_findGreatestPart_r1 : List Cond := [Cond.fieldLink RX3 62 "CardBand$Threading" "colours" "I", Cond.methodLink RX3 65 Lib.Math.max.name, Cond.static Lib.Math.max.name, Cond.initialized "java/lang/Math", Cond.code Lib.Math.max.name Lib.Math.max.code 2 (some .int), Cond.methodLink RX3 39 yX3_holesThatShow, Cond.static yX3_holesThatShow, Cond.initialized RX3, Cond.code yX3_holesThatShow cX3_holesThatShow 6 (some .int), Cond.methodLink RX3 43 yX5_colourAt, Cond.instanceMethod yX5_colourAt, Cond.selects RX5 yX5_colourAt yX5_colourAt, Cond.initialized RX5, Cond.code yX5_colourAt cX5_colourAt 3 (some .int), Cond.fieldLink RX5 9 "CardBand$Threading" "holeColours" "[I", Cond.methodLink RX5 46 yX5_indexOf, Cond.static yX5_indexOf, Cond.code yX5_indexOf cX5_indexOf 2 (some .int), Cond.methodLink RX3 53 yJ6_bitCount_0f7a4, Cond.static yJ6_bitCount_0f7a4, Cond.initialized RJ6, Cond.code yJ6_bitCount_0f7a4 cJ6_bitCount_0f7a4 1 (some .int), Cond.constant RJ6 265 (1431655765), Cond.constant RJ6 266 (858993459)]
def wsX3_findGreatestPart_r2 : List Cond := [Cond.constant RJ6 267 (252645135)]
def wsX3_findGreatestPart : List Cond := .code yX3_findGreatestPart cX3_findGreatestPart 7 (some .int) :: ((wsX3_findGreatestPart_r1 ++ wsX3_findGreatestPart_r2) ++ wsX50)
def wsX3_findLook_r1 : List Cond := [Cond.methodLink RX3 49 yX3_findHoles, Cond.instanceMethod yX3_findHoles, Cond.selects RX3 yX3_findHoles yX3_findHoles, Cond.initialized RX3, Cond.code yX3_findHoles cX3_findHoles 5 (some .int), Cond.fieldLink RX3 27 "CardBand$Notes" "seenCount" "I", Cond.fieldLink RX3 9 "CardBand$Notes" "seenCards" "[I", Cond.fieldLink RX3 15 "CardBand$Notes" "seenTurns" "[I", Cond.fieldLink RX3 18 "CardBand$Notes" "seenColours" "[I", Cond.methodLink RX3 39 yX3_holesThatShow, Cond.static yX3_holesThatShow, Cond.code yX3_holesThatShow cX3_holesThatShow 6 (some .int), Cond.methodLink RX3 43 yX5_colourAt, Cond.instanceMethod yX5_colourAt, Cond.selects RX5 yX5_colourAt yX5_colourAt, Cond.initialized RX5, Cond.code yX5_colourAt cX5_colourAt 3 (some .int), Cond.fieldLink RX5 9 "CardBand$Threading" "holeColours" "[I", Cond.methodLink RX5 46 yX5_indexOf, Cond.static yX5_indexOf, Cond.code yX5_indexOf cX5_indexOf 2 (some .int), Cond.methodLink RX3 53 yJ6_bitCount_0f7a4, Cond.static yJ6_bitCount_0f7a4, Cond.initialized RJ6]
def wsX3_findLook_r2 : List Cond := [Cond.code yJ6_bitCount_0f7a4 cJ6_bitCount_0f7a4 1 (some .int), Cond.constant RJ6 265 (1431655765), Cond.constant RJ6 266 (858993459), Cond.constant RJ6 267 (252645135), Cond.methodLink RX3 59 yX3_findGreatestPart, Cond.static yX3_findGreatestPart, Cond.code yX3_findGreatestPart cX3_findGreatestPart 7 (some .int), Cond.fieldLink RX3 62 "CardBand$Threading" "colours" "I", Cond.methodLink RX3 65 Lib.Math.max.name, Cond.static Lib.Math.max.name, Cond.initialized "java/lang/Math", Cond.code Lib.Math.max.name Lib.Math.max.code 2 (some .int)]
def wsX3_findLook : List Cond := .code yX3_findLook cX3_findLook 8 (some .int) :: ((wsX3_findLook_r1 ++ wsX3_findLook_r2) ++ wsX30 ++ wsX50)
def wsX4_init : List Cond := .code yX4_init cX4_init 1 none :: ([.methodLink RX4 3 objectInit, .instanceMethod objectInit, .code objectInit ⟨#[0xb1]⟩ 1 none, .arrayClass .int, .fieldLink RX4 9 "CardBand$Telling" "letters" "[I", .fieldLink RX4 15 "CardBand$Telling" "faultPlace" "I"] ++ wsX40)
def wsX4_append : List Cond := .code yX4_append cX4_append 2 (some .boolean) :: ([.fieldLink RX4 19 "CardBand$Telling" "length" "I", .fieldLink RX4 9 "CardBand$Telling" "letters" "[I"] ++ wsX40)
def wsJ7_fill_53178 : List Cond := .code yJ7_fill_53178 cJ7_fill_53178 4 none :: ([])
def wsX5_clear : List Cond := .code yX5_clear cX5_clear 1 none :: ([.fieldLink RX5 27 "CardBand$Threading" "colours" "I", .fieldLink RX5 31 "CardBand$Threading" "cards" "I", .fieldLink RX5 34 "CardBand$Threading" "packs" "I", .fieldLink RX5 37 "CardBand$Threading" "cardsInPacks" "I", .fieldLink RX5 18 "CardBand$Threading" "packOf" "[I", .fieldLink RX5 24 "CardBand$Threading" "yarnsTold" "[I", .methodLink RX5 40 yJ7_fill_53178, .static yJ7_fill_53178, .initialized RJ7, .code yJ7_fill_53178 cJ7_fill_53178 4 none] ++ wsX50)
def wsX4_letterHere : List Cond := .code yX4_letterHere cX4_letterHere 1 (some .int) :: ([.fieldLink RX4 22 "CardBand$Telling" "place" "I", .fieldLink RX4 19 "CardBand$Telling" "length" "I", .fieldLink RX4 9 "CardBand$Telling" "letters" "[I"] ++ wsX40)
def wsX4_skipBlanks : List Cond := .code yX4_skipBlanks cX4_skipBlanks 1 none :: ([.fieldLink RX4 22 "CardBand$Telling" "place" "I", .fieldLink RX4 19 "CardBand$Telling" "length" "I", .methodLink RX4 40 yX4_letterHere, .instanceMethod yX4_letterHere, .selects RX4 yX4_letterHere yX4_letterHere, .initialized RX4, .code yX4_letterHere cX4_letterHere 1 (some .int), .fieldLink RX4 9 "CardBand$Telling" "letters" "[I"] ++ wsX40)
def wsX4_isWord : List Cond := .code yX4_isWord cX4_isWord 1 (some .boolean) :: ([])
def wsX4_setFault : List Cond := .code yX4_setFault cX4_setFault 3 none :: ([.fieldLink RX4 25 "CardBand$Telling" "faultNumber" "I", .fieldLink RX4 15 "CardBand$Telling" "faultPlace" "I"] ++ wsX40)
def wsX4_isOneTooMany : List Cond := .code yX4_isOneTooMany cX4_isOneTooMany 2 (some .boolean) :: ([.fieldLink RX4 48 "CardBand$Threading" "colours" "I", .fieldLink RX4 74 "CardBand$Threading" "cards" "I", .fieldLink RX4 77 "CardBand$Threading" "packs" "I"] ++ wsX50)
def wsX4_isFigure : List Cond := .code yX4_isFigure cX4_isFigure 1 (some .boolean) :: ([])
def wsX4_readNumber : List Cond := .code yX4_readNumber cX4_readNumber 4 (some .int) :: ([.fieldLink RX4 22 "CardBand$Telling" "place" "I", .fieldLink RX4 95 "CardBand$Telling" "numberPlace" "I", .fieldLink RX4 19 "CardBand$Telling" "length" "I", .methodLink RX4 33 yX4_skipBlanks, .instanceMethod yX4_skipBlanks, .selects RX4 yX4_skipBlanks yX4_skipBlanks, .initialized RX4, .code yX4_skipBlanks cX4_skipBlanks 1 none, .methodLink RX4 40 yX4_letterHere, .instanceMethod yX4_letterHere, .selects RX4 yX4_letterHere yX4_letterHere, .code yX4_letterHere cX4_letterHere 1 (some .int), .fieldLink RX4 9 "CardBand$Telling" "letters" "[I", .methodLink RX4 104 yX4_isFigure, .static yX4_isFigure, .code yX4_isFigure cX4_isFigure 1 (some .boolean), .methodLink RX4 51 yX4_setFault, .instanceMethod yX4_setFault, .selects RX4 yX4_setFault yX4_setFault, .code yX4_setFault cX4_setFault 3 none, .fieldLink RX4 25 "CardBand$Telling" "faultNumber" "I", .fieldLink RX4 15 "CardBand$Telling" "faultPlace" "I"] ++ wsX40)
def wsX4_readColours_r1 : List Cond := [Cond.fieldLink RX4 48 "CardBand$Threading" "colours" "I", Cond.methodLink RX4 80 yX4_readNumber, Cond.instanceMethod yX4_readNumber, Cond.selects RX4 yX4_readNumber yX4_readNumber, Cond.initialized RX4, Cond.code yX4_readNumber cX4_readNumber 4 (some .int), Cond.fieldLink RX4 22 "CardBand$Telling" "place" "I", Cond.fieldLink RX4 95 "CardBand$Telling" "numberPlace" "I", Cond.fieldLink RX4 19 "CardBand$Telling" "length" "I", Cond.methodLink RX4 33 yX4_skipBlanks, Cond.instanceMethod yX4_skipBlanks, Cond.selects RX4 yX4_skipBlanks yX4_skipBlanks, Cond.code yX4_skipBlanks cX4_skipBlanks 1 none, Cond.methodLink RX4 40 yX4_letterHere, Cond.instanceMethod yX4_letterHere, Cond.selects RX4 yX4_letterHere yX4_letterHere, Cond.code yX4_letterHere cX4_letterHere 1 (some .int), Cond.fieldLink RX4 9 "CardBand$Telling" "letters" "[I", Cond.methodLink RX4 104 yX4_isFigure, Cond.static yX4_isFigure, Cond.code yX4_isFigure cX4_isFigure 1 (some .boolean), Cond.methodLink RX4 51 yX4_setFault, Cond.instanceMethod yX4_setFault, Cond.selects RX4 yX4_setFault yX4_setFault]
def wsX4_readColours_r2 : List Cond := [Cond.code yX4_setFault cX4_setFault 3 none, Cond.fieldLink RX4 25 "CardBand$Telling" "faultNumber" "I", Cond.fieldLink RX4 15 "CardBand$Telling" "faultPlace" "I"]
def wsX4_readColours : List Cond := .code yX4_readColours cX4_readColours 3 none :: ((wsX4_readColours_r1 ++ wsX4_readColours_r2) ++ wsX50 ++ wsX40)
def wsX5_threadHole : List Cond := .code yX5_threadHole cX5_threadHole 4 none :: ([.fieldLink RX5 9 "CardBand$Threading" "holeColours" "[I", .methodLink RX5 46 yX5_indexOf, .static yX5_indexOf, .initialized RX5, .code yX5_indexOf cX5_indexOf 2 (some .int)] ++ wsX50)
def wsX5_addCard : List Cond := .code yX5_addCard cX5_addCard 2 none :: ([.fieldLink RX5 31 "CardBand$Threading" "cards" "I", .fieldLink RX5 15 "CardBand$Threading" "waysTold" "[I"] ++ wsX50)
def wsX4_readCard_r1 : List Cond := [Cond.fieldLink RX4 48 "CardBand$Threading" "colours" "I", Cond.fieldLink RX4 74 "CardBand$Threading" "cards" "I", Cond.methodLink RX4 80 yX4_readNumber, Cond.instanceMethod yX4_readNumber, Cond.selects RX4 yX4_readNumber yX4_readNumber, Cond.initialized RX4, Cond.code yX4_readNumber cX4_readNumber 4 (some .int), Cond.fieldLink RX4 22 "CardBand$Telling" "place" "I", Cond.fieldLink RX4 95 "CardBand$Telling" "numberPlace" "I", Cond.fieldLink RX4 19 "CardBand$Telling" "length" "I", Cond.methodLink RX4 33 yX4_skipBlanks, Cond.instanceMethod yX4_skipBlanks, Cond.selects RX4 yX4_skipBlanks yX4_skipBlanks, Cond.code yX4_skipBlanks cX4_skipBlanks 1 none, Cond.methodLink RX4 40 yX4_letterHere, Cond.instanceMethod yX4_letterHere, Cond.selects RX4 yX4_letterHere yX4_letterHere, Cond.code yX4_letterHere cX4_letterHere 1 (some .int), Cond.fieldLink RX4 9 "CardBand$Telling" "letters" "[I", Cond.methodLink RX4 104 yX4_isFigure, Cond.static yX4_isFigure, Cond.code yX4_isFigure cX4_isFigure 1 (some .boolean), Cond.methodLink RX4 51 yX4_setFault, Cond.instanceMethod yX4_setFault]
def wsX4_readCard_r2 : List Cond := [Cond.selects RX4 yX4_setFault yX4_setFault, Cond.code yX4_setFault cX4_setFault 3 none, Cond.fieldLink RX4 25 "CardBand$Telling" "faultNumber" "I", Cond.fieldLink RX4 15 "CardBand$Telling" "faultPlace" "I", Cond.methodLink RX4 84 yX5_threadHole, Cond.instanceMethod yX5_threadHole, Cond.selects RX5 yX5_threadHole yX5_threadHole, Cond.initialized RX5, Cond.code yX5_threadHole cX5_threadHole 4 none, Cond.fieldLink RX5 9 "CardBand$Threading" "holeColours" "[I", Cond.methodLink RX5 46 yX5_indexOf, Cond.static yX5_indexOf, Cond.code yX5_indexOf cX5_indexOf 2 (some .int), Cond.methodLink RX4 88 yX5_addCard, Cond.instanceMethod yX5_addCard, Cond.selects RX5 yX5_addCard yX5_addCard, Cond.code yX5_addCard cX5_addCard 2 none, Cond.fieldLink RX5 31 "CardBand$Threading" "cards" "I", Cond.fieldLink RX5 15 "CardBand$Threading" "waysTold" "[I"]
def wsX4_readCard : List Cond := .code yX4_readCard cX4_readCard 4 none :: ((wsX4_readCard_r1 ++ wsX4_readCard_r2) ++ wsX50 ++ wsX40)
def wsX5_addPack : List Cond := .code yX5_addPack cX5_addPack 3 none :: ([.fieldLink RX5 34 "CardBand$Threading" "packs" "I", .fieldLink RX5 31 "CardBand$Threading" "cards" "I", .fieldLink RX5 18 "CardBand$Threading" "packOf" "[I", .fieldLink RX5 21 "CardBand$Threading" "packSets" "[I", .fieldLink RX5 37 "CardBand$Threading" "cardsInPacks" "I"] ++ wsX50)
def wsX4_readPack_r1 : List Cond := [Cond.fieldLink RX4 74 "CardBand$Threading" "cards" "I", Cond.fieldLink RX4 92 "CardBand$Threading" "cardsInPacks" "I", Cond.fieldLink RX4 95 "CardBand$Telling" "numberPlace" "I", Cond.methodLink RX4 80 yX4_readNumber, Cond.instanceMethod yX4_readNumber, Cond.selects RX4 yX4_readNumber yX4_readNumber, Cond.initialized RX4, Cond.code yX4_readNumber cX4_readNumber 4 (some .int), Cond.fieldLink RX4 22 "CardBand$Telling" "place" "I", Cond.fieldLink RX4 19 "CardBand$Telling" "length" "I", Cond.methodLink RX4 33 yX4_skipBlanks, Cond.instanceMethod yX4_skipBlanks, Cond.selects RX4 yX4_skipBlanks yX4_skipBlanks, Cond.code yX4_skipBlanks cX4_skipBlanks 1 none, Cond.methodLink RX4 40 yX4_letterHere, Cond.instanceMethod yX4_letterHere, Cond.selects RX4 yX4_letterHere yX4_letterHere, Cond.code yX4_letterHere cX4_letterHere 1 (some .int), Cond.fieldLink RX4 9 "CardBand$Telling" "letters" "[I", Cond.methodLink RX4 104 yX4_isFigure, Cond.static yX4_isFigure, Cond.code yX4_isFigure cX4_isFigure 1 (some .boolean), Cond.methodLink RX4 51 yX4_setFault, Cond.instanceMethod yX4_setFault]
def wsX4_readPack_r2 : List Cond := [Cond.selects RX4 yX4_setFault yX4_setFault, Cond.code yX4_setFault cX4_setFault 3 none, Cond.fieldLink RX4 25 "CardBand$Telling" "faultNumber" "I", Cond.fieldLink RX4 15 "CardBand$Telling" "faultPlace" "I", Cond.methodLink RX4 98 yX5_addPack, Cond.instanceMethod yX5_addPack, Cond.selects RX5 yX5_addPack yX5_addPack, Cond.initialized RX5, Cond.code yX5_addPack cX5_addPack 3 none, Cond.fieldLink RX5 34 "CardBand$Threading" "packs" "I", Cond.fieldLink RX5 31 "CardBand$Threading" "cards" "I", Cond.fieldLink RX5 18 "CardBand$Threading" "packOf" "[I", Cond.fieldLink RX5 21 "CardBand$Threading" "packSets" "[I", Cond.fieldLink RX5 37 "CardBand$Threading" "cardsInPacks" "I"]
def wsX4_readPack : List Cond := .code yX4_readPack cX4_readPack 3 none :: ((wsX4_readPack_r1 ++ wsX4_readPack_r2) ++ wsX50 ++ wsX40)
def wsX4_readYarn_r1 : List Cond := [Cond.fieldLink RX4 48 "CardBand$Threading" "colours" "I", Cond.fieldLink RX4 101 "CardBand$Threading" "yarnsTold" "[I", Cond.methodLink RX4 80 yX4_readNumber, Cond.instanceMethod yX4_readNumber, Cond.selects RX4 yX4_readNumber yX4_readNumber, Cond.initialized RX4, Cond.code yX4_readNumber cX4_readNumber 4 (some .int), Cond.fieldLink RX4 22 "CardBand$Telling" "place" "I", Cond.fieldLink RX4 95 "CardBand$Telling" "numberPlace" "I", Cond.fieldLink RX4 19 "CardBand$Telling" "length" "I", Cond.methodLink RX4 33 yX4_skipBlanks, Cond.instanceMethod yX4_skipBlanks, Cond.selects RX4 yX4_skipBlanks yX4_skipBlanks, Cond.code yX4_skipBlanks cX4_skipBlanks 1 none, Cond.methodLink RX4 40 yX4_letterHere, Cond.instanceMethod yX4_letterHere, Cond.selects RX4 yX4_letterHere yX4_letterHere, Cond.code yX4_letterHere cX4_letterHere 1 (some .int), Cond.fieldLink RX4 9 "CardBand$Telling" "letters" "[I", Cond.methodLink RX4 104 yX4_isFigure, Cond.static yX4_isFigure, Cond.code yX4_isFigure cX4_isFigure 1 (some .boolean), Cond.methodLink RX4 51 yX4_setFault, Cond.instanceMethod yX4_setFault]
def wsX4_readYarn_r2 : List Cond := [Cond.selects RX4 yX4_setFault yX4_setFault, Cond.code yX4_setFault cX4_setFault 3 none, Cond.fieldLink RX4 25 "CardBand$Telling" "faultNumber" "I", Cond.fieldLink RX4 15 "CardBand$Telling" "faultPlace" "I"]
def wsX4_readYarn : List Cond := .code yX4_readYarn cX4_readYarn 4 none :: ((wsX4_readYarn_r1 ++ wsX4_readYarn_r2) ++ wsX50 ++ wsX40)
def wsX4_readEnd : List Cond := .code yX4_readEnd cX4_readEnd 1 none :: ([.fieldLink RX4 22 "CardBand$Telling" "place" "I", .methodLink RX4 33 yX4_skipBlanks, .instanceMethod yX4_skipBlanks, .selects RX4 yX4_skipBlanks yX4_skipBlanks, .initialized RX4, .code yX4_skipBlanks cX4_skipBlanks 1 none, .fieldLink RX4 19 "CardBand$Telling" "length" "I", .methodLink RX4 40 yX4_letterHere, .instanceMethod yX4_letterHere, .selects RX4 yX4_letterHere yX4_letterHere, .code yX4_letterHere cX4_letterHere 1 (some .int), .fieldLink RX4 9 "CardBand$Telling" "letters" "[I", .methodLink RX4 51 yX4_setFault, .instanceMethod yX4_setFault, .selects RX4 yX4_setFault yX4_setFault, .code yX4_setFault cX4_setFault 3 none, .fieldLink RX4 25 "CardBand$Telling" "faultNumber" "I", .fieldLink RX4 15 "CardBand$Telling" "faultPlace" "I"] ++ wsX40)
def wsX4_readClause_r1 : List Cond := [Cond.fieldLink RX4 48 "CardBand$Threading" "colours" "I", Cond.fieldLink RX4 22 "CardBand$Telling" "place" "I", Cond.fieldLink RX4 25 "CardBand$Telling" "faultNumber" "I", Cond.methodLink RX4 40 yX4_letterHere, Cond.instanceMethod yX4_letterHere, Cond.selects RX4 yX4_letterHere yX4_letterHere, Cond.initialized RX4, Cond.code yX4_letterHere cX4_letterHere 1 (some .int), Cond.fieldLink RX4 19 "CardBand$Telling" "length" "I", Cond.fieldLink RX4 9 "CardBand$Telling" "letters" "[I", Cond.methodLink RX4 44 yX4_isWord, Cond.static yX4_isWord, Cond.code yX4_isWord cX4_isWord 1 (some .boolean), Cond.methodLink RX4 51 yX4_setFault, Cond.instanceMethod yX4_setFault, Cond.selects RX4 yX4_setFault yX4_setFault, Cond.code yX4_setFault cX4_setFault 3 none, Cond.fieldLink RX4 15 "CardBand$Telling" "faultPlace" "I", Cond.methodLink RX4 55 yX4_isOneTooMany, Cond.static yX4_isOneTooMany, Cond.code yX4_isOneTooMany cX4_isOneTooMany 2 (some .boolean), Cond.fieldLink RX4 74 "CardBand$Threading" "cards" "I", Cond.fieldLink RX4 77 "CardBand$Threading" "packs" "I", Cond.methodLink RX4 59 yX4_readColours]
def wsX4_readClause_r2 : List Cond := [Cond.instanceMethod yX4_readColours, Cond.selects RX4 yX4_readColours yX4_readColours, Cond.code yX4_readColours cX4_readColours 3 none, Cond.methodLink RX4 80 yX4_readNumber, Cond.instanceMethod yX4_readNumber, Cond.selects RX4 yX4_readNumber yX4_readNumber, Cond.code yX4_readNumber cX4_readNumber 4 (some .int), Cond.fieldLink RX4 95 "CardBand$Telling" "numberPlace" "I", Cond.methodLink RX4 33 yX4_skipBlanks, Cond.instanceMethod yX4_skipBlanks, Cond.selects RX4 yX4_skipBlanks yX4_skipBlanks, Cond.code yX4_skipBlanks cX4_skipBlanks 1 none, Cond.methodLink RX4 104 yX4_isFigure, Cond.static yX4_isFigure, Cond.code yX4_isFigure cX4_isFigure 1 (some .boolean), Cond.methodLink RX4 62 yX4_readCard, Cond.instanceMethod yX4_readCard, Cond.selects RX4 yX4_readCard yX4_readCard, Cond.code yX4_readCard cX4_readCard 4 none, Cond.methodLink RX4 84 yX5_threadHole, Cond.instanceMethod yX5_threadHole, Cond.selects RX5 yX5_threadHole yX5_threadHole, Cond.initialized RX5, Cond.code yX5_threadHole cX5_threadHole 4 none]
def wsX4_readClause_r3 : List Cond := [Cond.fieldLink RX5 9 "CardBand$Threading" "holeColours" "[I", Cond.methodLink RX5 46 yX5_indexOf, Cond.static yX5_indexOf, Cond.code yX5_indexOf cX5_indexOf 2 (some .int), Cond.methodLink RX4 88 yX5_addCard, Cond.instanceMethod yX5_addCard, Cond.selects RX5 yX5_addCard yX5_addCard, Cond.code yX5_addCard cX5_addCard 2 none, Cond.fieldLink RX5 31 "CardBand$Threading" "cards" "I", Cond.fieldLink RX5 15 "CardBand$Threading" "waysTold" "[I", Cond.methodLink RX4 65 yX4_readPack, Cond.instanceMethod yX4_readPack, Cond.selects RX4 yX4_readPack yX4_readPack, Cond.code yX4_readPack cX4_readPack 3 none, Cond.fieldLink RX4 92 "CardBand$Threading" "cardsInPacks" "I", Cond.methodLink RX4 98 yX5_addPack, Cond.instanceMethod yX5_addPack, Cond.selects RX5 yX5_addPack yX5_addPack, Cond.code yX5_addPack cX5_addPack 3 none, Cond.fieldLink RX5 34 "CardBand$Threading" "packs" "I", Cond.fieldLink RX5 18 "CardBand$Threading" "packOf" "[I", Cond.fieldLink RX5 21 "CardBand$Threading" "packSets" "[I", Cond.fieldLink RX5 37 "CardBand$Threading" "cardsInPacks" "I", Cond.methodLink RX4 68 yX4_readYarn]
def wsX4_readClause_r4 : List Cond := [Cond.instanceMethod yX4_readYarn, Cond.selects RX4 yX4_readYarn yX4_readYarn, Cond.code yX4_readYarn cX4_readYarn 4 none, Cond.fieldLink RX4 101 "CardBand$Threading" "yarnsTold" "[I", Cond.methodLink RX4 71 yX4_readEnd, Cond.instanceMethod yX4_readEnd, Cond.selects RX4 yX4_readEnd yX4_readEnd, Cond.code yX4_readEnd cX4_readEnd 1 none]
def wsX4_readClause : List Cond := .code yX4_readClause cX4_readClause 3 none :: ((wsX4_readClause_r1 ++ (wsX4_readClause_r2 ++ (wsX4_readClause_r3 ++ wsX4_readClause_r4))) ++ wsX50 ++ wsX40)
def wsX4_readInto_r1 : List Cond := [Cond.fieldLink RX4 22 "CardBand$Telling" "place" "I", Cond.fieldLink RX4 25 "CardBand$Telling" "faultNumber" "I", Cond.fieldLink RX4 15 "CardBand$Telling" "faultPlace" "I", Cond.fieldLink RX4 19 "CardBand$Telling" "length" "I", Cond.methodLink RX4 28 yX5_clear, Cond.instanceMethod yX5_clear, Cond.selects RX5 yX5_clear yX5_clear, Cond.initialized RX5, Cond.code yX5_clear cX5_clear 1 none, Cond.fieldLink RX5 27 "CardBand$Threading" "colours" "I", Cond.fieldLink RX5 31 "CardBand$Threading" "cards" "I", Cond.fieldLink RX5 34 "CardBand$Threading" "packs" "I", Cond.fieldLink RX5 37 "CardBand$Threading" "cardsInPacks" "I", Cond.fieldLink RX5 18 "CardBand$Threading" "packOf" "[I", Cond.fieldLink RX5 24 "CardBand$Threading" "yarnsTold" "[I", Cond.methodLink RX5 40 yJ7_fill_53178, Cond.static yJ7_fill_53178, Cond.initialized RJ7, Cond.code yJ7_fill_53178 cJ7_fill_53178 4 none, Cond.methodLink RX4 33 yX4_skipBlanks, Cond.instanceMethod yX4_skipBlanks, Cond.selects RX4 yX4_skipBlanks yX4_skipBlanks, Cond.initialized RX4, Cond.code yX4_skipBlanks cX4_skipBlanks 1 none]
def wsX4_readInto_r2 : List Cond := [Cond.methodLink RX4 40 yX4_letterHere, Cond.instanceMethod yX4_letterHere, Cond.selects RX4 yX4_letterHere yX4_letterHere, Cond.code yX4_letterHere cX4_letterHere 1 (some .int), Cond.fieldLink RX4 9 "CardBand$Telling" "letters" "[I", Cond.methodLink RX4 36 yX4_readClause, Cond.instanceMethod yX4_readClause, Cond.selects RX4 yX4_readClause yX4_readClause, Cond.code yX4_readClause cX4_readClause 3 none, Cond.fieldLink RX4 48 "CardBand$Threading" "colours" "I", Cond.methodLink RX4 44 yX4_isWord, Cond.static yX4_isWord, Cond.code yX4_isWord cX4_isWord 1 (some .boolean), Cond.methodLink RX4 51 yX4_setFault, Cond.instanceMethod yX4_setFault, Cond.selects RX4 yX4_setFault yX4_setFault, Cond.code yX4_setFault cX4_setFault 3 none, Cond.methodLink RX4 55 yX4_isOneTooMany, Cond.static yX4_isOneTooMany, Cond.code yX4_isOneTooMany cX4_isOneTooMany 2 (some .boolean), Cond.fieldLink RX4 74 "CardBand$Threading" "cards" "I", Cond.fieldLink RX4 77 "CardBand$Threading" "packs" "I", Cond.methodLink RX4 59 yX4_readColours, Cond.instanceMethod yX4_readColours]
def wsX4_readInto_r3 : List Cond := [Cond.selects RX4 yX4_readColours yX4_readColours, Cond.code yX4_readColours cX4_readColours 3 none, Cond.methodLink RX4 80 yX4_readNumber, Cond.instanceMethod yX4_readNumber, Cond.selects RX4 yX4_readNumber yX4_readNumber, Cond.code yX4_readNumber cX4_readNumber 4 (some .int), Cond.fieldLink RX4 95 "CardBand$Telling" "numberPlace" "I", Cond.methodLink RX4 104 yX4_isFigure, Cond.static yX4_isFigure, Cond.code yX4_isFigure cX4_isFigure 1 (some .boolean), Cond.methodLink RX4 62 yX4_readCard, Cond.instanceMethod yX4_readCard, Cond.selects RX4 yX4_readCard yX4_readCard, Cond.code yX4_readCard cX4_readCard 4 none, Cond.methodLink RX4 84 yX5_threadHole, Cond.instanceMethod yX5_threadHole, Cond.selects RX5 yX5_threadHole yX5_threadHole, Cond.code yX5_threadHole cX5_threadHole 4 none, Cond.fieldLink RX5 9 "CardBand$Threading" "holeColours" "[I", Cond.methodLink RX5 46 yX5_indexOf, Cond.static yX5_indexOf, Cond.code yX5_indexOf cX5_indexOf 2 (some .int), Cond.methodLink RX4 88 yX5_addCard, Cond.instanceMethod yX5_addCard]
def wsX4_readInto_r4 : List Cond := [Cond.selects RX5 yX5_addCard yX5_addCard, Cond.code yX5_addCard cX5_addCard 2 none, Cond.fieldLink RX5 15 "CardBand$Threading" "waysTold" "[I", Cond.methodLink RX4 65 yX4_readPack, Cond.instanceMethod yX4_readPack, Cond.selects RX4 yX4_readPack yX4_readPack, Cond.code yX4_readPack cX4_readPack 3 none, Cond.fieldLink RX4 92 "CardBand$Threading" "cardsInPacks" "I", Cond.methodLink RX4 98 yX5_addPack, Cond.instanceMethod yX5_addPack, Cond.selects RX5 yX5_addPack yX5_addPack, Cond.code yX5_addPack cX5_addPack 3 none, Cond.fieldLink RX5 21 "CardBand$Threading" "packSets" "[I", Cond.methodLink RX4 68 yX4_readYarn, Cond.instanceMethod yX4_readYarn, Cond.selects RX4 yX4_readYarn yX4_readYarn, Cond.code yX4_readYarn cX4_readYarn 4 none, Cond.fieldLink RX4 101 "CardBand$Threading" "yarnsTold" "[I", Cond.methodLink RX4 71 yX4_readEnd, Cond.instanceMethod yX4_readEnd, Cond.selects RX4 yX4_readEnd yX4_readEnd, Cond.code yX4_readEnd cX4_readEnd 1 none]
def wsX4_readInto : List Cond := .code yX4_readInto cX4_readInto 3 (some .boolean) :: ((wsX4_readInto_r1 ++ (wsX4_readInto_r2 ++ (wsX4_readInto_r3 ++ wsX4_readInto_r4))) ++ wsX40 ++ wsX50)
def wsX5_init : List Cond := .code yX5_init cX5_init 1 none :: ([.methodLink RX5 3 objectInit, .instanceMethod objectInit, .code objectInit ⟨#[0xb1]⟩ 1 none, .arrayClass .int, .fieldLink RX5 9 "CardBand$Threading" "holeColours" "[I", .fieldLink RX5 15 "CardBand$Threading" "waysTold" "[I", .fieldLink RX5 18 "CardBand$Threading" "packOf" "[I", .fieldLink RX5 21 "CardBand$Threading" "packSets" "[I", .fieldLink RX5 24 "CardBand$Threading" "yarnsTold" "[I"] ++ wsX50)
def wsX5_isMade : List Cond := .code yX5_isMade cX5_isMade 1 (some .boolean) :: ([.fieldLink RX5 27 "CardBand$Threading" "colours" "I"] ++ wsX50)
def wsX5_hasColour : List Cond := .code yX5_hasColour cX5_hasColour 2 (some .boolean) :: ([.fieldLink RX5 27 "CardBand$Threading" "colours" "I"] ++ wsX50)
def wsX5_hasCard : List Cond := .code yX5_hasCard cX5_hasCard 2 (some .boolean) :: ([.fieldLink RX5 31 "CardBand$Threading" "cards" "I"] ++ wsX50)
def wsX5_hasPack : List Cond := .code yX5_hasPack cX5_hasPack 2 (some .boolean) :: ([.fieldLink RX5 34 "CardBand$Threading" "packs" "I"] ++ wsX50)
def wsX5_hasCards : List Cond := .code yX5_hasCards cX5_hasCards 2 (some .boolean) :: ([.fieldLink RX5 31 "CardBand$Threading" "cards" "I"] ++ wsX50)
def wsX5_takesMoves : List Cond := .code yX5_takesMoves cX5_takesMoves 4 (some .boolean) :: ([.fieldLink RX5 34 "CardBand$Threading" "packs" "I"] ++ wsX50)
def wsX5_moveOf : List Cond := .code yX5_moveOf cX5_moveOf 6 (some .int) :: ([.fieldLink RX5 18 "CardBand$Threading" "packOf" "[I"] ++ wsX50)
def wsX5_isInPack : List Cond := .code yX5_isInPack cX5_isInPack 3 (some .boolean) :: ([.fieldLink RX5 18 "CardBand$Threading" "packOf" "[I"] ++ wsX50)
def wsX5_isSameAfter : List Cond := .code yX5_isSameAfter cX5_isSameAfter 4 (some .boolean) :: ([.fieldLink RX5 31 "CardBand$Threading" "cards" "I", .methodLink RX5 50 yX5_colourAt, .instanceMethod yX5_colourAt, .selects RX5 yX5_colourAt yX5_colourAt, .initialized RX5, .code yX5_colourAt cX5_colourAt 3 (some .int), .fieldLink RX5 9 "CardBand$Threading" "holeColours" "[I", .methodLink RX5 46 yX5_indexOf, .static yX5_indexOf, .code yX5_indexOf cX5_indexOf 2 (some .int)] ++ wsX50)
def wsX5_shareOf : List Cond := .code yX5_shareOf cX5_shareOf 5 (some .int) :: ([.fieldLink RX5 31 "CardBand$Threading" "cards" "I", .fieldLink RX5 9 "CardBand$Threading" "holeColours" "[I"] ++ wsX50)
def wsX5_countLeftOver : List Cond := .code yX5_countLeftOver cX5_countLeftOver 4 (some .int) :: ([.fieldLink RX5 27 "CardBand$Threading" "colours" "I", .methodLink RX5 53 yX5_shareOf, .instanceMethod yX5_shareOf, .selects RX5 yX5_shareOf yX5_shareOf, .initialized RX5, .code yX5_shareOf cX5_shareOf 5 (some .int), .fieldLink RX5 31 "CardBand$Threading" "cards" "I", .fieldLink RX5 9 "CardBand$Threading" "holeColours" "[I"] ++ wsX50)
def wsX6_firstCardOf : List Cond := .code yX6_firstCardOf cX6_firstCardOf 3 (some .int) :: ([.fieldLink RX6 9 "CardBand$Threading" "cards" "I", .methodLink RX6 15 yX5_isInPack, .instanceMethod yX5_isInPack, .selects RX5 yX5_isInPack yX5_isInPack, .initialized RX5, .code yX5_isInPack cX5_isInPack 3 (some .boolean), .fieldLink RX5 18 "CardBand$Threading" "packOf" "[I"] ++ wsX50)
def wsX6_twistOf : List Cond := .code yX6_twistOf cX6_twistOf 3 (some .int) :: ([.fieldLink RX6 19 "CardBand$Weave" "twists" "[I", .methodLink RX6 25 yX6_firstCardOf, .static yX6_firstCardOf, .initialized RX6, .code yX6_firstCardOf cX6_firstCardOf 3 (some .int), .fieldLink RX6 9 "CardBand$Threading" "cards" "I", .methodLink RX6 15 yX5_isInPack, .instanceMethod yX5_isInPack, .selects RX5 yX5_isInPack yX5_isInPack, .initialized RX5, .code yX5_isInPack cX5_isInPack 3 (some .boolean), .fieldLink RX5 18 "CardBand$Threading" "packOf" "[I"] ++ wsX70 ++ wsX50)
def wsX6_standOf : List Cond := .code yX6_standOf cX6_standOf 3 (some .int) :: ([.fieldLink RX6 31 "CardBand$Weave" "stands" "[I", .methodLink RX6 25 yX6_firstCardOf, .static yX6_firstCardOf, .initialized RX6, .code yX6_firstCardOf cX6_firstCardOf 3 (some .int), .fieldLink RX6 9 "CardBand$Threading" "cards" "I", .methodLink RX6 15 yX5_isInPack, .instanceMethod yX5_isInPack, .selects RX5 yX5_isInPack yX5_isInPack, .initialized RX5, .code yX5_isInPack cX5_isInPack 3 (some .boolean), .fieldLink RX5 18 "CardBand$Threading" "packOf" "[I"] ++ wsX70 ++ wsX50)
def wsX6_countUntwist : List Cond := .code yX6_countUntwist cX6_countUntwist 4 (some .int) :: ([.fieldLink RX6 34 "CardBand$Threading" "packs" "I", .methodLink RX6 41 Lib.Math.abs.name, .static Lib.Math.abs.name, .initialized "java/lang/Math", .code Lib.Math.abs.name Lib.Math.abs.code 1 (some .int), .methodLink RX6 47 Lib.Math.max.name, .static Lib.Math.max.name, .code Lib.Math.max.name Lib.Math.max.code 2 (some .int), .methodLink RX6 37 yX6_twistOf, .static yX6_twistOf, .initialized RX6, .code yX6_twistOf cX6_twistOf 3 (some .int), .fieldLink RX6 19 "CardBand$Weave" "twists" "[I", .methodLink RX6 25 yX6_firstCardOf, .static yX6_firstCardOf, .code yX6_firstCardOf cX6_firstCardOf 3 (some .int), .fieldLink RX6 9 "CardBand$Threading" "cards" "I", .methodLink RX6 15 yX5_isInPack, .instanceMethod yX5_isInPack, .selects RX5 yX5_isInPack yX5_isInPack, .initialized RX5, .code yX5_isInPack cX5_isInPack 3 (some .boolean), .fieldLink RX5 18 "CardBand$Threading" "packOf" "[I"] ++ wsX50 ++ wsX70)
def wsX6_firstUntwist : List Cond := .code yX6_firstUntwist cX6_firstUntwist 6 (some .int) :: ([.fieldLink RX6 34 "CardBand$Threading" "packs" "I", .methodLink RX6 37 yX6_twistOf, .static yX6_twistOf, .initialized RX6, .code yX6_twistOf cX6_twistOf 3 (some .int), .fieldLink RX6 19 "CardBand$Weave" "twists" "[I", .methodLink RX6 25 yX6_firstCardOf, .static yX6_firstCardOf, .code yX6_firstCardOf cX6_firstCardOf 3 (some .int), .fieldLink RX6 9 "CardBand$Threading" "cards" "I", .methodLink RX6 15 yX5_isInPack, .instanceMethod yX5_isInPack, .selects RX5 yX5_isInPack yX5_isInPack, .initialized RX5, .code yX5_isInPack cX5_isInPack 3 (some .boolean), .fieldLink RX5 18 "CardBand$Threading" "packOf" "[I"] ++ wsX50 ++ wsX70)
def wsX6_packsStandAlike : List Cond := .code yX6_packsStandAlike cX6_packsStandAlike 4 (some .boolean) :: ([.fieldLink RX6 9 "CardBand$Threading" "cards" "I", .fieldLink RX6 51 "CardBand$Threading" "packOf" "[I", .fieldLink RX6 31 "CardBand$Weave" "stands" "[I", .methodLink RX6 54 yX6_standOf, .static yX6_standOf, .initialized RX6, .code yX6_standOf cX6_standOf 3 (some .int), .methodLink RX6 25 yX6_firstCardOf, .static yX6_firstCardOf, .code yX6_firstCardOf cX6_firstCardOf 3 (some .int), .methodLink RX6 15 yX5_isInPack, .instanceMethod yX5_isInPack, .selects RX5 yX5_isInPack yX5_isInPack, .initialized RX5, .code yX5_isInPack cX5_isInPack 3 (some .boolean), .fieldLink RX5 18 "CardBand$Threading" "packOf" "[I"] ++ wsX50 ++ wsX70)
def wsX6_countHome : List Cond := .code yX6_countHome cX6_countHome 5 (some .int) :: ([.fieldLink RX6 34 "CardBand$Threading" "packs" "I", .methodLink RX6 57 Lib.Math.min.name, .static Lib.Math.min.name, .initialized "java/lang/Math", .code Lib.Math.min.name Lib.Math.min.code 2 (some .int), .methodLink RX6 47 Lib.Math.max.name, .static Lib.Math.max.name, .code Lib.Math.max.name Lib.Math.max.code 2 (some .int), .methodLink RX6 54 yX6_standOf, .static yX6_standOf, .initialized RX6, .code yX6_standOf cX6_standOf 3 (some .int), .fieldLink RX6 31 "CardBand$Weave" "stands" "[I", .methodLink RX6 25 yX6_firstCardOf, .static yX6_firstCardOf, .code yX6_firstCardOf cX6_firstCardOf 3 (some .int), .fieldLink RX6 9 "CardBand$Threading" "cards" "I", .methodLink RX6 15 yX5_isInPack, .instanceMethod yX5_isInPack, .selects RX5 yX5_isInPack yX5_isInPack, .initialized RX5, .code yX5_isInPack cX5_isInPack 3 (some .boolean), .fieldLink RX5 18 "CardBand$Threading" "packOf" "[I"] ++ wsX50 ++ wsX70)
def wsX6_firstHome : List Cond := .code yX6_firstHome cX6_firstHome 6 (some .int) :: ([.fieldLink RX6 34 "CardBand$Threading" "packs" "I", .methodLink RX6 54 yX6_standOf, .static yX6_standOf, .initialized RX6, .code yX6_standOf cX6_standOf 3 (some .int), .fieldLink RX6 31 "CardBand$Weave" "stands" "[I", .methodLink RX6 25 yX6_firstCardOf, .static yX6_firstCardOf, .code yX6_firstCardOf cX6_firstCardOf 3 (some .int), .fieldLink RX6 9 "CardBand$Threading" "cards" "I", .methodLink RX6 15 yX5_isInPack, .instanceMethod yX5_isInPack, .selects RX5 yX5_isInPack yX5_isInPack, .initialized RX5, .code yX5_isInPack cX5_isInPack 3 (some .boolean), .fieldLink RX5 18 "CardBand$Threading" "packOf" "[I"] ++ wsX50 ++ wsX70)
def wsX6_showNow : List Cond := .code yX6_showNow cX6_showNow 5 (some .boolean) :: ([.fieldLink RX6 9 "CardBand$Threading" "cards" "I", .fieldLink RX6 78 "CardBand$Weave" "shows" "[I"] ++ wsX50 ++ wsX70)
def wsX6_showAhead : List Cond := .code yX6_showAhead cX6_showAhead 6 (some .boolean) :: ([.fieldLink RX6 9 "CardBand$Threading" "cards" "I", .fieldLink RX6 31 "CardBand$Weave" "stands" "[I", .methodLink RX6 81 yX5_colourAt, .instanceMethod yX5_colourAt, .selects RX5 yX5_colourAt yX5_colourAt, .initialized RX5, .code yX5_colourAt cX5_colourAt 3 (some .int), .fieldLink RX5 9 "CardBand$Threading" "holeColours" "[I", .methodLink RX5 46 yX5_indexOf, .static yX5_indexOf, .code yX5_indexOf cX5_indexOf 2 (some .int)] ++ wsX50 ++ wsX70)
def wsX6_countForPack : List Cond := .code yX6_countForPack cX6_countForPack 5 (some .int) :: ([.methodLink RX6 63 yX6_showNow, .static yX6_showNow, .initialized RX6, .code yX6_showNow cX6_showNow 5 (some .boolean), .fieldLink RX6 9 "CardBand$Threading" "cards" "I", .fieldLink RX6 78 "CardBand$Weave" "shows" "[I", .methodLink RX6 74 yX6_showAhead, .static yX6_showAhead, .code yX6_showAhead cX6_showAhead 6 (some .boolean), .fieldLink RX6 31 "CardBand$Weave" "stands" "[I", .methodLink RX6 81 yX5_colourAt, .instanceMethod yX5_colourAt, .selects RX5 yX5_colourAt yX5_colourAt, .initialized RX5, .code yX5_colourAt cX5_colourAt 3 (some .int), .fieldLink RX5 9 "CardBand$Threading" "holeColours" "[I", .methodLink RX5 46 yX5_indexOf, .static yX5_indexOf, .code yX5_indexOf cX5_indexOf 2 (some .int)] ++ wsX50 ++ wsX70)
def wsX6_countTogether_r1 : List Cond := [Cond.fieldLink RX6 60 "CardBand$Threading" "cardsInPacks" "I", Cond.fieldLink RX6 34 "CardBand$Threading" "packs" "I", Cond.fieldLink RX6 67 "CardBand$Threading" "packSets" "[I", Cond.methodLink RX6 47 Lib.Math.max.name, Cond.static Lib.Math.max.name, Cond.initialized "java/lang/Math", Cond.code Lib.Math.max.name Lib.Math.max.code 2 (some .int), Cond.methodLink RX6 63 yX6_showNow, Cond.static yX6_showNow, Cond.initialized RX6, Cond.code yX6_showNow cX6_showNow 5 (some .boolean), Cond.fieldLink RX6 9 "CardBand$Threading" "cards" "I", Cond.fieldLink RX6 78 "CardBand$Weave" "shows" "[I", Cond.methodLink RX6 70 yX6_countForPack, Cond.static yX6_countForPack, Cond.code yX6_countForPack cX6_countForPack 5 (some .int), Cond.methodLink RX6 74 yX6_showAhead, Cond.static yX6_showAhead, Cond.code yX6_showAhead cX6_showAhead 6 (some .boolean), Cond.fieldLink RX6 31 "CardBand$Weave" "stands" "[I", Cond.methodLink RX6 81 yX5_colourAt, Cond.instanceMethod yX5_colourAt, Cond.selects RX5 yX5_colourAt yX5_colourAt, Cond.initialized RX5]
def wsX6_countTogether_r2 : List Cond := [Cond.code yX5_colourAt cX5_colourAt 3 (some .int), Cond.fieldLink RX5 9 "CardBand$Threading" "holeColours" "[I", Cond.methodLink RX5 46 yX5_indexOf, Cond.static yX5_indexOf, Cond.code yX5_indexOf cX5_indexOf 2 (some .int)]
def wsX6_countTogether : List Cond := .code yX6_countTogether cX6_countTogether 6 (some .int) :: ((wsX6_countTogether_r1 ++ wsX6_countTogether_r2) ++ wsX50 ++ wsX70)
def wsX6_firstTogether_r1 : List Cond := [Cond.fieldLink RX6 34 "CardBand$Threading" "packs" "I", Cond.methodLink RX6 57 Lib.Math.min.name, Cond.static Lib.Math.min.name, Cond.initialized "java/lang/Math", Cond.code Lib.Math.min.name Lib.Math.min.code 2 (some .int), Cond.fieldLink RX6 67 "CardBand$Threading" "packSets" "[I", Cond.methodLink RX6 70 yX6_countForPack, Cond.static yX6_countForPack, Cond.initialized RX6, Cond.code yX6_countForPack cX6_countForPack 5 (some .int), Cond.methodLink RX6 63 yX6_showNow, Cond.static yX6_showNow, Cond.code yX6_showNow cX6_showNow 5 (some .boolean), Cond.fieldLink RX6 9 "CardBand$Threading" "cards" "I", Cond.fieldLink RX6 78 "CardBand$Weave" "shows" "[I", Cond.methodLink RX6 74 yX6_showAhead, Cond.static yX6_showAhead, Cond.code yX6_showAhead cX6_showAhead 6 (some .boolean), Cond.fieldLink RX6 31 "CardBand$Weave" "stands" "[I", Cond.methodLink RX6 81 yX5_colourAt, Cond.instanceMethod yX5_colourAt, Cond.selects RX5 yX5_colourAt yX5_colourAt, Cond.initialized RX5, Cond.code yX5_colourAt cX5_colourAt 3 (some .int)]
def wsX6_firstTogether_r2 : List Cond := [Cond.fieldLink RX5 9 "CardBand$Threading" "holeColours" "[I", Cond.methodLink RX5 46 yX5_indexOf, Cond.static yX5_indexOf, Cond.code yX5_indexOf cX5_indexOf 2 (some .int)]
def wsX6_firstTogether : List Cond := .code yX6_firstTogether cX6_firstTogether 9 (some .int) :: ((wsX6_firstTogether_r1 ++ wsX6_firstTogether_r2) ++ wsX50 ++ wsX70)
def wsX7_begin : List Cond := .code yX7_begin cX7_begin 2 none :: ([.fieldLink RX7 36 "CardBand$Threading" "waysTold" "[I", .fieldLink RX7 9 "CardBand$Weave" "ways" "[I", .methodLink RX7 41 arraycopyName, .native arraycopyName, .static arraycopyName, .initialized "java/lang/System", .fieldLink RX7 47 "CardBand$Threading" "yarnsTold" "[I", .fieldLink RX7 27 "CardBand$Weave" "yarns" "[I", .fieldLink RX7 15 "CardBand$Weave" "stands" "[I", .fieldLink RX7 18 "CardBand$Weave" "twists" "[I", .fieldLink RX7 21 "CardBand$Weave" "shows" "[I", .fieldLink RX7 24 "CardBand$Weave" "slants" "[I", .fieldLink RX7 56 "CardBand$Weave" "picks" "I", .methodLink RX7 50 yJ7_fill_53178, .static yJ7_fill_53178, .initialized RJ7, .code yJ7_fill_53178 cJ7_fill_53178 4 none] ++ wsX50 ++ wsX70)
def wsX7_sumYarn : List Cond := .code yX7_sumYarn cX7_sumYarn 4 (some .int) :: ([.fieldLink RX7 27 "CardBand$Weave" "yarns" "[I"] ++ wsX70)
def wsX7_isOvertwisted : List Cond := .code yX7_isOvertwisted cX7_isOvertwisted 5 (some .boolean) :: ([.fieldLink RX7 68 "CardBand$Threading" "cards" "I", .fieldLink RX7 18 "CardBand$Weave" "twists" "[I", .methodLink RX7 71 yX5_moveOf, .instanceMethod yX5_moveOf, .selects RX5 yX5_moveOf yX5_moveOf, .initialized RX5, .code yX5_moveOf cX5_moveOf 6 (some .int), .fieldLink RX5 18 "CardBand$Threading" "packOf" "[I"] ++ wsX50 ++ wsX70)
def wsX7_holeShownBy : List Cond := .code yX7_holeShownBy cX7_holeShownBy 4 (some .int) :: ([.fieldLink RX7 15 "CardBand$Weave" "stands" "[I"] ++ wsX70)
def wsX7_countWanted_r1 : List Cond := [Cond.fieldLink RX7 30 "CardBand$Weave" "wanted" "[I", Cond.fieldLink RX7 68 "CardBand$Threading" "cards" "I", Cond.methodLink RX7 50 yJ7_fill_53178, Cond.static yJ7_fill_53178, Cond.initialized RJ7, Cond.code yJ7_fill_53178 cJ7_fill_53178 4 none, Cond.methodLink RX7 71 yX5_moveOf, Cond.instanceMethod yX5_moveOf, Cond.selects RX5 yX5_moveOf yX5_moveOf, Cond.initialized RX5, Cond.code yX5_moveOf cX5_moveOf 6 (some .int), Cond.fieldLink RX5 18 "CardBand$Threading" "packOf" "[I", Cond.methodLink RX7 89 yX7_holeShownBy, Cond.instanceMethod yX7_holeShownBy, Cond.selects RX7 yX7_holeShownBy yX7_holeShownBy, Cond.initialized RX7, Cond.code yX7_holeShownBy cX7_holeShownBy 4 (some .int), Cond.fieldLink RX7 15 "CardBand$Weave" "stands" "[I", Cond.methodLink RX7 92 yX5_colourAt, Cond.instanceMethod yX5_colourAt, Cond.selects RX5 yX5_colourAt yX5_colourAt, Cond.code yX5_colourAt cX5_colourAt 3 (some .int), Cond.fieldLink RX5 9 "CardBand$Threading" "holeColours" "[I", Cond.methodLink RX5 46 yX5_indexOf]
def wsX7_countWanted_r2 : List Cond := [Cond.static yX5_indexOf, Cond.code yX5_indexOf cX5_indexOf 2 (some .int)]
def wsX7_countWanted : List Cond := .code yX7_countWanted cX7_countWanted 6 none :: ((wsX7_countWanted_r1 ++ wsX7_countWanted_r2) ++ wsX70 ++ wsX50)
def wsX7_findLacking_r1 : List Cond := [Cond.fieldLink RX7 86 "CardBand$Threading" "colours" "I", Cond.fieldLink RX7 30 "CardBand$Weave" "wanted" "[I", Cond.fieldLink RX7 27 "CardBand$Weave" "yarns" "[I", Cond.methodLink RX7 82 yX7_countWanted, Cond.instanceMethod yX7_countWanted, Cond.selects RX7 yX7_countWanted yX7_countWanted, Cond.initialized RX7, Cond.code yX7_countWanted cX7_countWanted 6 none, Cond.fieldLink RX7 68 "CardBand$Threading" "cards" "I", Cond.methodLink RX7 50 yJ7_fill_53178, Cond.static yJ7_fill_53178, Cond.initialized RJ7, Cond.code yJ7_fill_53178 cJ7_fill_53178 4 none, Cond.methodLink RX7 71 yX5_moveOf, Cond.instanceMethod yX5_moveOf, Cond.selects RX5 yX5_moveOf yX5_moveOf, Cond.initialized RX5, Cond.code yX5_moveOf cX5_moveOf 6 (some .int), Cond.fieldLink RX5 18 "CardBand$Threading" "packOf" "[I", Cond.methodLink RX7 89 yX7_holeShownBy, Cond.instanceMethod yX7_holeShownBy, Cond.selects RX7 yX7_holeShownBy yX7_holeShownBy, Cond.code yX7_holeShownBy cX7_holeShownBy 4 (some .int), Cond.fieldLink RX7 15 "CardBand$Weave" "stands" "[I"]
def wsX7_findLacking_r2 : List Cond := [Cond.methodLink RX7 92 yX5_colourAt, Cond.instanceMethod yX5_colourAt, Cond.selects RX5 yX5_colourAt yX5_colourAt, Cond.code yX5_colourAt cX5_colourAt 3 (some .int), Cond.fieldLink RX5 9 "CardBand$Threading" "holeColours" "[I", Cond.methodLink RX5 46 yX5_indexOf, Cond.static yX5_indexOf, Cond.code yX5_indexOf cX5_indexOf 2 (some .int)]
def wsX7_findLacking : List Cond := .code yX7_findLacking cX7_findLacking 4 (some .int) :: ((wsX7_findLacking_r1 ++ wsX7_findLacking_r2) ++ wsX50 ++ wsX70)
def wsX7_turnCard : List Cond := .code yX7_turnCard cX7_turnCard 6 none :: ([.fieldLink RX7 15 "CardBand$Weave" "stands" "[I", .fieldLink RX7 18 "CardBand$Weave" "twists" "[I", .fieldLink RX7 24 "CardBand$Weave" "slants" "[I", .fieldLink RX7 9 "CardBand$Weave" "ways" "[I", .fieldLink RX7 21 "CardBand$Weave" "shows" "[I", .fieldLink RX7 27 "CardBand$Weave" "yarns" "[I", .methodLink RX7 89 yX7_holeShownBy, .instanceMethod yX7_holeShownBy, .selects RX7 yX7_holeShownBy yX7_holeShownBy, .initialized RX7, .code yX7_holeShownBy cX7_holeShownBy 4 (some .int), .methodLink RX7 92 yX5_colourAt, .instanceMethod yX5_colourAt, .selects RX5 yX5_colourAt yX5_colourAt, .initialized RX5, .code yX5_colourAt cX5_colourAt 3 (some .int), .fieldLink RX5 9 "CardBand$Threading" "holeColours" "[I", .methodLink RX5 46 yX5_indexOf, .static yX5_indexOf, .code yX5_indexOf cX5_indexOf 2 (some .int)] ++ wsX70 ++ wsX50)
def wsX7_addRow : List Cond := .code yX7_addRow cX7_addRow 1 none :: ([.fieldLink RX7 21 "CardBand$Weave" "shows" "[I", .fieldLink RX7 33 "CardBand$Weave" "band" "[I", .fieldLink RX7 56 "CardBand$Weave" "picks" "I", .methodLink RX7 41 arraycopyName, .native arraycopyName, .static arraycopyName, .initialized "java/lang/System", .methodLink RX7 95 yX7_slotOf, .static yX7_slotOf, .initialized RX7, .code yX7_slotOf cX7_slotOf 1 (some .int), .methodLink RX7 99 yJ9_floorMod_7cf53, .static yJ9_floorMod_7cf53, .initialized RJ9, .code yJ9_floorMod_7cf53 cJ9_floorMod_7cf53 3 (some .int)] ++ wsX70)
def wsX7_weaveOnce_r1 : List Cond := [Cond.fieldLink RX7 68 "CardBand$Threading" "cards" "I", Cond.methodLink RX7 60 yX7_isOvertwisted, Cond.instanceMethod yX7_isOvertwisted, Cond.selects RX7 yX7_isOvertwisted yX7_isOvertwisted, Cond.initialized RX7, Cond.code yX7_isOvertwisted cX7_isOvertwisted 5 (some .boolean), Cond.fieldLink RX7 18 "CardBand$Weave" "twists" "[I", Cond.methodLink RX7 71 yX5_moveOf, Cond.instanceMethod yX5_moveOf, Cond.selects RX5 yX5_moveOf yX5_moveOf, Cond.initialized RX5, Cond.code yX5_moveOf cX5_moveOf 6 (some .int), Cond.fieldLink RX5 18 "CardBand$Threading" "packOf" "[I", Cond.methodLink RX7 64 yX7_findLacking, Cond.instanceMethod yX7_findLacking, Cond.selects RX7 yX7_findLacking yX7_findLacking, Cond.code yX7_findLacking cX7_findLacking 4 (some .int), Cond.fieldLink RX7 86 "CardBand$Threading" "colours" "I", Cond.fieldLink RX7 30 "CardBand$Weave" "wanted" "[I", Cond.fieldLink RX7 27 "CardBand$Weave" "yarns" "[I", Cond.methodLink RX7 82 yX7_countWanted, Cond.instanceMethod yX7_countWanted, Cond.selects RX7 yX7_countWanted yX7_countWanted, Cond.code yX7_countWanted cX7_countWanted 6 none]
def wsX7_weaveOnce_r2 : List Cond := [Cond.methodLink RX7 50 yJ7_fill_53178, Cond.static yJ7_fill_53178, Cond.initialized RJ7, Cond.code yJ7_fill_53178 cJ7_fill_53178 4 none, Cond.methodLink RX7 89 yX7_holeShownBy, Cond.instanceMethod yX7_holeShownBy, Cond.selects RX7 yX7_holeShownBy yX7_holeShownBy, Cond.code yX7_holeShownBy cX7_holeShownBy 4 (some .int), Cond.fieldLink RX7 15 "CardBand$Weave" "stands" "[I", Cond.methodLink RX7 92 yX5_colourAt, Cond.instanceMethod yX5_colourAt, Cond.selects RX5 yX5_colourAt yX5_colourAt, Cond.code yX5_colourAt cX5_colourAt 3 (some .int), Cond.fieldLink RX5 9 "CardBand$Threading" "holeColours" "[I", Cond.methodLink RX5 46 yX5_indexOf, Cond.static yX5_indexOf, Cond.code yX5_indexOf cX5_indexOf 2 (some .int), Cond.methodLink RX7 75 yX7_turnCard, Cond.instanceMethod yX7_turnCard, Cond.selects RX7 yX7_turnCard yX7_turnCard, Cond.code yX7_turnCard cX7_turnCard 6 none, Cond.fieldLink RX7 24 "CardBand$Weave" "slants" "[I", Cond.fieldLink RX7 9 "CardBand$Weave" "ways" "[I", Cond.fieldLink RX7 21 "CardBand$Weave" "shows" "[I"]
def wsX7_weaveOnce_r3 : List Cond := [Cond.methodLink RX7 79 yX7_addRow, Cond.instanceMethod yX7_addRow, Cond.selects RX7 yX7_addRow yX7_addRow, Cond.code yX7_addRow cX7_addRow 1 none, Cond.fieldLink RX7 33 "CardBand$Weave" "band" "[I", Cond.fieldLink RX7 56 "CardBand$Weave" "picks" "I", Cond.methodLink RX7 41 arraycopyName, Cond.native arraycopyName, Cond.static arraycopyName, Cond.initialized "java/lang/System", Cond.methodLink RX7 95 yX7_slotOf, Cond.static yX7_slotOf, Cond.code yX7_slotOf cX7_slotOf 1 (some .int), Cond.methodLink RX7 99 yJ9_floorMod_7cf53, Cond.static yJ9_floorMod_7cf53, Cond.initialized RJ9, Cond.code yJ9_floorMod_7cf53 cJ9_floorMod_7cf53 3 (some .int)]
def wsX7_weaveOnce : List Cond := .code yX7_weaveOnce cX7_weaveOnce 4 (some .boolean) :: ((wsX7_weaveOnce_r1 ++ (wsX7_weaveOnce_r2 ++ wsX7_weaveOnce_r3)) ++ wsX50 ++ wsX70)
def wsX8_init_r1 : List Cond := [Cond.methodLink RX8 1 objectInit, Cond.instanceMethod objectInit, Cond.code objectInit ⟨#[0xb1]⟩ 1 none, Cond.classLink RX8 7 RX4, Cond.instantiable RX4 6, Cond.initialized RX4, Cond.fieldLink RX8 10 "CardBand" "text" "LCardBand$Telling;", Cond.classLink RX8 16 RX7, Cond.instantiable RX7 9, Cond.initialized RX7, Cond.fieldLink RX8 19 "CardBand" "weave" "LCardBand$Weave;", Cond.fieldLink RX8 23 "CardBand" "trial" "LCardBand$Weave;", Cond.classLink RX8 26 RX1, Cond.instantiable RX1 3, Cond.initialized RX1, Cond.fieldLink RX8 29 "CardBand" "deeds" "LCardBand$Deeds;", Cond.classLink RX8 33 RX3, Cond.instantiable RX3 7, Cond.initialized RX3, Cond.fieldLink RX8 36 "CardBand" "notes" "LCardBand$Notes;", Cond.classLink RX8 40 RX2, Cond.fieldLink RX8 42 "CardBand" "images" "[LCardBand$Image;", Cond.classLink RX8 46 RX5, Cond.instantiable RX5 9]
def wsX8_init_r2 : List Cond := [Cond.initialized RX5, Cond.fieldLink RX8 49 "CardBand" "threading" "LCardBand$Threading;", Cond.fieldLink RX8 53 "CardBand" "spare" "LCardBand$Threading;", Cond.instantiable RX2 3, Cond.initialized RX2, Cond.instanceMethod yX4_init, Cond.code yX4_init cX4_init 1 none, Cond.methodLink RX4 3 objectInit, Cond.arrayClass .int, Cond.fieldLink RX4 9 "CardBand$Telling" "letters" "[I", Cond.fieldLink RX4 15 "CardBand$Telling" "faultPlace" "I", Cond.instanceMethod yX7_init, Cond.code yX7_init cX7_init 1 none, Cond.methodLink RX7 3 objectInit, Cond.fieldLink RX7 9 "CardBand$Weave" "ways" "[I", Cond.fieldLink RX7 15 "CardBand$Weave" "stands" "[I", Cond.fieldLink RX7 18 "CardBand$Weave" "twists" "[I", Cond.fieldLink RX7 21 "CardBand$Weave" "shows" "[I", Cond.fieldLink RX7 24 "CardBand$Weave" "slants" "[I", Cond.fieldLink RX7 27 "CardBand$Weave" "yarns" "[I", Cond.fieldLink RX7 30 "CardBand$Weave" "wanted" "[I", Cond.fieldLink RX7 33 "CardBand$Weave" "band" "[I", Cond.methodLink RX8 28 yX1_init, Cond.instanceMethod yX1_init]
def wsX8_init_r3 : List Cond := [Cond.code yX1_init cX1_init 2 none, Cond.methodLink RX1 3 objectInit, Cond.classLink RX1 9 RX7, Cond.fieldLink RX1 11 "CardBand$Deeds" "before" "[LCardBand$Weave;", Cond.instanceMethod yX3_init, Cond.code yX3_init cX3_init 1 none, Cond.methodLink RX3 3 objectInit, Cond.fieldLink RX3 9 "CardBand$Notes" "seenCards" "[I", Cond.fieldLink RX3 15 "CardBand$Notes" "seenTurns" "[I", Cond.fieldLink RX3 18 "CardBand$Notes" "seenColours" "[I", Cond.fieldLink RX3 21 "CardBand$Notes" "bookCards" "[I", Cond.fieldLink RX3 24 "CardBand$Notes" "bookColours" "[I", Cond.instanceMethod yX5_init, Cond.code yX5_init cX5_init 1 none, Cond.methodLink RX5 3 objectInit, Cond.fieldLink RX5 9 "CardBand$Threading" "holeColours" "[I", Cond.fieldLink RX5 15 "CardBand$Threading" "waysTold" "[I", Cond.fieldLink RX5 18 "CardBand$Threading" "packOf" "[I", Cond.fieldLink RX5 21 "CardBand$Threading" "packSets" "[I", Cond.fieldLink RX5 24 "CardBand$Threading" "yarnsTold" "[I", Cond.instanceMethod yX2_init, Cond.code yX2_init cX2_init 1 none, Cond.methodLink RX2 1 objectInit, Cond.classLink RX2 7 RX7]
def wsX8_init_r4 : List Cond := [Cond.fieldLink RX2 10 "CardBand$Image" "weave" "LCardBand$Weave;"]
def wsX8_init : List Cond := .code yX8_init cX8_init 2 none :: ((wsX8_init_r1 ++ (wsX8_init_r2 ++ (wsX8_init_r3 ++ wsX8_init_r4))) ++ wsX40 ++ wsX80 ++ wsX70 ++ wsX10 ++ wsX30 ++ wsX50 ++ wsX20)
def wsX8_feed : List Cond := .code yX8_feed cX8_feed 2 (some .int) :: ([.constant RX8 57 (-1000000002), .fieldLink RX8 10 "CardBand" "text" "LCardBand$Telling;", .constant RX8 62 (-1000000004), .fieldLink RX8 63 "CardBand$Telling" "length" "I", .methodLink RX8 58 yX4_append, .instanceMethod yX4_append, .selects RX4 yX4_append yX4_append, .initialized RX4, .code yX4_append cX4_append 2 (some .boolean), .fieldLink RX4 19 "CardBand$Telling" "length" "I", .fieldLink RX4 9 "CardBand$Telling" "letters" "[I"] ++ wsX80 ++ wsX40)
def wsX8_forgetImages : List Cond := .code yX8_forgetImages cX8_forgetImages 3 none :: ([.fieldLink RX8 42 "CardBand" "images" "[LCardBand$Image;", .fieldLink RX8 300 "CardBand$Image" "kept" "Z"] ++ wsX80 ++ wsX20)
def wsX8_loom_r1 : List Cond := [Cond.fieldLink RX8 10 "CardBand" "text" "LCardBand$Telling;", Cond.fieldLink RX8 53 "CardBand" "spare" "LCardBand$Threading;", Cond.fieldLink RX8 63 "CardBand$Telling" "length" "I", Cond.fieldLink RX8 71 "CardBand$Telling" "faultNumber" "I", Cond.fieldLink RX8 49 "CardBand" "threading" "LCardBand$Threading;", Cond.fieldLink RX8 19 "CardBand" "weave" "LCardBand$Weave;", Cond.fieldLink RX8 29 "CardBand" "deeds" "LCardBand$Deeds;", Cond.fieldLink RX8 36 "CardBand" "notes" "LCardBand$Notes;", Cond.fieldLink RX8 85 "CardBand$Threading" "cards" "I", Cond.methodLink RX8 67 yX4_readInto, Cond.instanceMethod yX4_readInto, Cond.selects RX4 yX4_readInto yX4_readInto, Cond.initialized RX4, Cond.code yX4_readInto cX4_readInto 3 (some .boolean), Cond.fieldLink RX4 22 "CardBand$Telling" "place" "I", Cond.fieldLink RX4 25 "CardBand$Telling" "faultNumber" "I", Cond.fieldLink RX4 15 "CardBand$Telling" "faultPlace" "I", Cond.fieldLink RX4 19 "CardBand$Telling" "length" "I", Cond.methodLink RX4 28 yX5_clear, Cond.instanceMethod yX5_clear, Cond.selects RX5 yX5_clear yX5_clear, Cond.initialized RX5, Cond.code yX5_clear cX5_clear 1 none, Cond.fieldLink RX5 27 "CardBand$Threading" "colours" "I"]
def wsX8_loom_r2 : List Cond := [Cond.fieldLink RX5 31 "CardBand$Threading" "cards" "I", Cond.fieldLink RX5 34 "CardBand$Threading" "packs" "I", Cond.fieldLink RX5 37 "CardBand$Threading" "cardsInPacks" "I", Cond.fieldLink RX5 18 "CardBand$Threading" "packOf" "[I", Cond.fieldLink RX5 24 "CardBand$Threading" "yarnsTold" "[I", Cond.methodLink RX5 40 yJ7_fill_53178, Cond.static yJ7_fill_53178, Cond.initialized RJ7, Cond.code yJ7_fill_53178 cJ7_fill_53178 4 none, Cond.methodLink RX4 33 yX4_skipBlanks, Cond.instanceMethod yX4_skipBlanks, Cond.selects RX4 yX4_skipBlanks yX4_skipBlanks, Cond.code yX4_skipBlanks cX4_skipBlanks 1 none, Cond.methodLink RX4 40 yX4_letterHere, Cond.instanceMethod yX4_letterHere, Cond.selects RX4 yX4_letterHere yX4_letterHere, Cond.code yX4_letterHere cX4_letterHere 1 (some .int), Cond.fieldLink RX4 9 "CardBand$Telling" "letters" "[I", Cond.methodLink RX4 36 yX4_readClause, Cond.instanceMethod yX4_readClause, Cond.selects RX4 yX4_readClause yX4_readClause, Cond.code yX4_readClause cX4_readClause 3 none, Cond.fieldLink RX4 48 "CardBand$Threading" "colours" "I", Cond.methodLink RX4 44 yX4_isWord]
def wsX8_loom_r3 : List Cond := [Cond.static yX4_isWord, Cond.code yX4_isWord cX4_isWord 1 (some .boolean), Cond.methodLink RX4 51 yX4_setFault, Cond.instanceMethod yX4_setFault, Cond.selects RX4 yX4_setFault yX4_setFault, Cond.code yX4_setFault cX4_setFault 3 none, Cond.methodLink RX4 55 yX4_isOneTooMany, Cond.static yX4_isOneTooMany, Cond.code yX4_isOneTooMany cX4_isOneTooMany 2 (some .boolean), Cond.fieldLink RX4 74 "CardBand$Threading" "cards" "I", Cond.fieldLink RX4 77 "CardBand$Threading" "packs" "I", Cond.methodLink RX4 59 yX4_readColours, Cond.instanceMethod yX4_readColours, Cond.selects RX4 yX4_readColours yX4_readColours, Cond.code yX4_readColours cX4_readColours 3 none, Cond.methodLink RX4 80 yX4_readNumber, Cond.instanceMethod yX4_readNumber, Cond.selects RX4 yX4_readNumber yX4_readNumber, Cond.code yX4_readNumber cX4_readNumber 4 (some .int), Cond.fieldLink RX4 95 "CardBand$Telling" "numberPlace" "I", Cond.methodLink RX4 104 yX4_isFigure, Cond.static yX4_isFigure, Cond.code yX4_isFigure cX4_isFigure 1 (some .boolean), Cond.methodLink RX4 62 yX4_readCard]
def wsX8_loom_r4 : List Cond := [Cond.instanceMethod yX4_readCard, Cond.selects RX4 yX4_readCard yX4_readCard, Cond.code yX4_readCard cX4_readCard 4 none, Cond.methodLink RX4 84 yX5_threadHole, Cond.instanceMethod yX5_threadHole, Cond.selects RX5 yX5_threadHole yX5_threadHole, Cond.code yX5_threadHole cX5_threadHole 4 none, Cond.fieldLink RX5 9 "CardBand$Threading" "holeColours" "[I", Cond.methodLink RX5 46 yX5_indexOf, Cond.static yX5_indexOf, Cond.code yX5_indexOf cX5_indexOf 2 (some .int), Cond.methodLink RX4 88 yX5_addCard, Cond.instanceMethod yX5_addCard, Cond.selects RX5 yX5_addCard yX5_addCard, Cond.code yX5_addCard cX5_addCard 2 none, Cond.fieldLink RX5 15 "CardBand$Threading" "waysTold" "[I", Cond.methodLink RX4 65 yX4_readPack, Cond.instanceMethod yX4_readPack, Cond.selects RX4 yX4_readPack yX4_readPack, Cond.code yX4_readPack cX4_readPack 3 none, Cond.fieldLink RX4 92 "CardBand$Threading" "cardsInPacks" "I", Cond.methodLink RX4 98 yX5_addPack, Cond.instanceMethod yX5_addPack, Cond.selects RX5 yX5_addPack yX5_addPack]
def wsX8_loom_r5 : List Cond := [Cond.code yX5_addPack cX5_addPack 3 none, Cond.fieldLink RX5 21 "CardBand$Threading" "packSets" "[I", Cond.methodLink RX4 68 yX4_readYarn, Cond.instanceMethod yX4_readYarn, Cond.selects RX4 yX4_readYarn yX4_readYarn, Cond.code yX4_readYarn cX4_readYarn 4 none, Cond.fieldLink RX4 101 "CardBand$Threading" "yarnsTold" "[I", Cond.methodLink RX4 71 yX4_readEnd, Cond.instanceMethod yX4_readEnd, Cond.selects RX4 yX4_readEnd yX4_readEnd, Cond.code yX4_readEnd cX4_readEnd 1 none, Cond.methodLink RX8 74 yX7_begin, Cond.instanceMethod yX7_begin, Cond.selects RX7 yX7_begin yX7_begin, Cond.initialized RX7, Cond.code yX7_begin cX7_begin 2 none, Cond.fieldLink RX7 36 "CardBand$Threading" "waysTold" "[I", Cond.fieldLink RX7 9 "CardBand$Weave" "ways" "[I", Cond.methodLink RX7 41 arraycopyName, Cond.native arraycopyName, Cond.static arraycopyName, Cond.initialized "java/lang/System", Cond.fieldLink RX7 47 "CardBand$Threading" "yarnsTold" "[I", Cond.fieldLink RX7 27 "CardBand$Weave" "yarns" "[I"]
def wsX8_loom_r6 : List Cond := [Cond.fieldLink RX7 15 "CardBand$Weave" "stands" "[I", Cond.fieldLink RX7 18 "CardBand$Weave" "twists" "[I", Cond.fieldLink RX7 21 "CardBand$Weave" "shows" "[I", Cond.fieldLink RX7 24 "CardBand$Weave" "slants" "[I", Cond.fieldLink RX7 56 "CardBand$Weave" "picks" "I", Cond.methodLink RX7 50 yJ7_fill_53178, Cond.methodLink RX8 78 yX1_forget, Cond.instanceMethod yX1_forget, Cond.selects RX1 yX1_forget yX1_forget, Cond.initialized RX1, Cond.code yX1_forget cX1_forget 1 none, Cond.fieldLink RX1 18 "CardBand$Deeds" "count" "I", Cond.methodLink RX8 81 yX3_forget, Cond.instanceMethod yX3_forget, Cond.selects RX3 yX3_forget yX3_forget, Cond.initialized RX3, Cond.code yX3_forget cX3_forget 1 none, Cond.fieldLink RX3 27 "CardBand$Notes" "seenCount" "I", Cond.fieldLink RX3 31 "CardBand$Notes" "bookCount" "I", Cond.methodLink RX8 82 yX8_forgetImages, Cond.instanceMethod yX8_forgetImages, Cond.selects RX8 yX8_forgetImages yX8_forgetImages, Cond.initialized RX8, Cond.code yX8_forgetImages cX8_forgetImages 3 none]
def wsX8_loom_r7 : List Cond := [Cond.fieldLink RX8 42 "CardBand" "images" "[LCardBand$Image;", Cond.fieldLink RX8 300 "CardBand$Image" "kept" "Z"]
def wsX8_loom : List Cond := .code yX8_loom cX8_loom 3 (some .int) :: ((wsX8_loom_r1 ++ (wsX8_loom_r2 ++ (wsX8_loom_r3 ++ (wsX8_loom_r4 ++ (wsX8_loom_r5 ++ (wsX8_loom_r6 ++ wsX8_loom_r7)))))) ++ wsX80 ++ wsX40 ++ wsX50 ++ wsX70 ++ wsX10 ++ wsX30 ++ wsX20)
def wsX8_fault : List Cond := .code yX8_fault cX8_fault 1 (some .int) :: ([.fieldLink RX8 10 "CardBand" "text" "LCardBand$Telling;", .fieldLink RX8 88 "CardBand$Telling" "faultPlace" "I"] ++ wsX80 ++ wsX40)
def wsX8_told_r1 : List Cond := [Cond.fieldLink RX8 49 "CardBand" "threading" "LCardBand$Threading;", Cond.fieldLink RX8 91 "CardBand$Threading" "colours" "I", Cond.fieldLink RX8 85 "CardBand$Threading" "cards" "I", Cond.fieldLink RX8 94 "CardBand$Threading" "packs" "I", Cond.fieldLink RX8 10 "CardBand" "text" "LCardBand$Telling;", Cond.fieldLink RX8 63 "CardBand$Telling" "length" "I", Cond.fieldLink RX8 19 "CardBand" "weave" "LCardBand$Weave;", Cond.fieldLink RX8 97 "CardBand$Weave" "picks" "I", Cond.fieldLink RX8 36 "CardBand" "notes" "LCardBand$Notes;", Cond.fieldLink RX8 124 "CardBand$Notes" "seenCount" "I", Cond.fieldLink RX8 127 "CardBand$Notes" "bookCount" "I", Cond.fieldLink RX8 29 "CardBand" "deeds" "LCardBand$Deeds;", Cond.fieldLink RX8 130 "CardBand$Deeds" "count" "I", Cond.constant RX8 57 (-1000000002), Cond.methodLink RX8 100 yX7_countRows, Cond.instanceMethod yX7_countRows, Cond.selects RX7 yX7_countRows yX7_countRows, Cond.initialized RX7, Cond.code yX7_countRows cX7_countRows 1 (some .int), Cond.fieldLink RX7 56 "CardBand$Weave" "picks" "I", Cond.methodLink RX7 104 Lib.Math.min.name, Cond.static Lib.Math.min.name, Cond.initialized "java/lang/Math", Cond.code Lib.Math.min.name Lib.Math.min.code 2 (some .int)]
def wsX8_told_r2 : List Cond := [Cond.methodLink RX8 104 yX0_countMirrored, Cond.static yX0_countMirrored, Cond.initialized RX0, Cond.code yX0_countMirrored cX0_countMirrored 4 (some .int), Cond.methodLink RX0 9 yX7_countRows, Cond.methodLink RX0 15 yX0_isMirrored, Cond.static yX0_isMirrored, Cond.code yX0_isMirrored cX0_isMirrored 4 (some .boolean), Cond.methodLink RX0 21 yX7_showedAt, Cond.instanceMethod yX7_showedAt, Cond.selects RX7 yX7_showedAt yX7_showedAt, Cond.code yX7_showedAt cX7_showedAt 3 (some .int), Cond.fieldLink RX7 33 "CardBand$Weave" "band" "[I", Cond.methodLink RX7 107 yX7_countRows, Cond.methodLink RX7 95 yX7_slotOf, Cond.static yX7_slotOf, Cond.code yX7_slotOf cX7_slotOf 1 (some .int), Cond.methodLink RX7 99 yJ9_floorMod_7cf53, Cond.static yJ9_floorMod_7cf53, Cond.initialized RJ9, Cond.code yJ9_floorMod_7cf53 cJ9_floorMod_7cf53 3 (some .int), Cond.methodLink RX8 110 yX0_findPeriod, Cond.static yX0_findPeriod, Cond.code yX0_findPeriod cX0_findPeriod 4 (some .int)]
def wsX8_told_r3 : List Cond := [Cond.methodLink RX0 25 yX0_isPeriod, Cond.static yX0_isPeriod, Cond.code yX0_isPeriod cX0_isPeriod 5 (some .boolean), Cond.methodLink RX8 113 yX0_findLongest, Cond.static yX0_findLongest, Cond.code yX0_findLongest cX0_findLongest 6 (some .int), Cond.methodLink RX0 33 yX0_findFloat, Cond.static yX0_findFloat, Cond.code yX0_findFloat cX0_findFloat 6 (some .int), Cond.methodLink RX0 28 Lib.Math.max.name, Cond.static Lib.Math.max.name, Cond.code Lib.Math.max.name Lib.Math.max.code 2 (some .int), Cond.methodLink RX8 116 yX0_findMost, Cond.static yX0_findMost, Cond.code yX0_findMost cX0_findMost 6 (some .int), Cond.fieldLink RX0 37 "CardBand$Threading" "colours" "I", Cond.fieldLink RX0 43 "CardBand$Threading" "cards" "I", Cond.methodLink RX0 46 yX0_countShown, Cond.static yX0_countShown, Cond.code yX0_countShown cX0_countShown 6 (some .int), Cond.methodLink RX8 120 yX7_sumYarn, Cond.instanceMethod yX7_sumYarn, Cond.selects RX7 yX7_sumYarn yX7_sumYarn, Cond.code yX7_sumYarn cX7_sumYarn 4 (some .int)]
def wsX8_told_r4 : List Cond := [Cond.fieldLink RX7 27 "CardBand$Weave" "yarns" "[I"]
def wsX8_told : List Cond := .code yX8_told cX8_told 2 (some .int) :: ((wsX8_told_r1 ++ (wsX8_told_r2 ++ (wsX8_told_r3 ++ wsX8_told_r4))) ++ wsX80 ++ wsX50 ++ wsX40 ++ wsX70 ++ wsX30 ++ wsX10)
def wsX8_card : List Cond := .code yX8_card cX8_card 3 (some .int) :: ([.fieldLink RX8 49 "CardBand" "threading" "LCardBand$Threading;", .constant RX8 136 (-1000000001), .fieldLink RX8 19 "CardBand" "weave" "LCardBand$Weave;", .fieldLink RX8 141 "CardBand$Weave" "ways" "[I", .fieldLink RX8 145 "CardBand$Weave" "stands" "[I", .fieldLink RX8 148 "CardBand$Weave" "twists" "[I", .fieldLink RX8 151 "CardBand$Weave" "shows" "[I", .fieldLink RX8 154 "CardBand$Weave" "slants" "[I", .fieldLink RX8 157 "CardBand$Threading" "packOf" "[I", .constant RX8 57 (-1000000002), .methodLink RX8 133 yX5_hasCard, .instanceMethod yX5_hasCard, .selects RX5 yX5_hasCard yX5_hasCard, .initialized RX5, .code yX5_hasCard cX5_hasCard 2 (some .boolean), .fieldLink RX5 31 "CardBand$Threading" "cards" "I", .methodLink RX8 137 yX5_colourAt, .instanceMethod yX5_colourAt, .selects RX5 yX5_colourAt yX5_colourAt, .code yX5_colourAt cX5_colourAt 3 (some .int), .fieldLink RX5 9 "CardBand$Threading" "holeColours" "[I", .methodLink RX5 46 yX5_indexOf, .static yX5_indexOf, .code yX5_indexOf cX5_indexOf 2 (some .int)] ++ wsX80 ++ wsX70 ++ wsX50)
def wsX8_pack : List Cond := .code yX8_pack cX8_pack 2 (some .int) :: ([.fieldLink RX8 49 "CardBand" "threading" "LCardBand$Threading;", .fieldLink RX8 163 "CardBand$Threading" "packSets" "[I", .constant RX8 136 (-1000000001), .methodLink RX8 160 yX5_hasPack, .instanceMethod yX5_hasPack, .selects RX5 yX5_hasPack yX5_hasPack, .initialized RX5, .code yX5_hasPack cX5_hasPack 2 (some .boolean), .fieldLink RX5 34 "CardBand$Threading" "packs" "I"] ++ wsX80 ++ wsX50)
def wsX8_yarn : List Cond := .code yX8_yarn cX8_yarn 2 (some .int) :: ([.fieldLink RX8 49 "CardBand" "threading" "LCardBand$Threading;", .fieldLink RX8 19 "CardBand" "weave" "LCardBand$Weave;", .fieldLink RX8 169 "CardBand$Weave" "yarns" "[I", .constant RX8 136 (-1000000001), .methodLink RX8 166 yX5_hasColour, .instanceMethod yX5_hasColour, .selects RX5 yX5_hasColour yX5_hasColour, .initialized RX5, .code yX5_hasColour cX5_hasColour 2 (some .boolean), .fieldLink RX5 27 "CardBand$Threading" "colours" "I"] ++ wsX80 ++ wsX70 ++ wsX50)
def wsX8_row_r1 : List Cond := [Cond.fieldLink RX8 49 "CardBand" "threading" "LCardBand$Threading;", Cond.fieldLink RX8 19 "CardBand" "weave" "LCardBand$Weave;", Cond.constant RX8 136 (-1000000001), Cond.methodLink RX8 133 yX5_hasCard, Cond.instanceMethod yX5_hasCard, Cond.selects RX5 yX5_hasCard yX5_hasCard, Cond.initialized RX5, Cond.code yX5_hasCard cX5_hasCard 2 (some .boolean), Cond.fieldLink RX5 31 "CardBand$Threading" "cards" "I", Cond.methodLink RX8 172 yX7_showedAt, Cond.instanceMethod yX7_showedAt, Cond.selects RX7 yX7_showedAt yX7_showedAt, Cond.initialized RX7, Cond.code yX7_showedAt cX7_showedAt 3 (some .int), Cond.fieldLink RX7 33 "CardBand$Weave" "band" "[I", Cond.fieldLink RX7 56 "CardBand$Weave" "picks" "I", Cond.methodLink RX7 107 yX7_countRows, Cond.instanceMethod yX7_countRows, Cond.selects RX7 yX7_countRows yX7_countRows, Cond.code yX7_countRows cX7_countRows 1 (some .int), Cond.methodLink RX7 104 Lib.Math.min.name, Cond.static Lib.Math.min.name, Cond.initialized "java/lang/Math", Cond.code Lib.Math.min.name Lib.Math.min.code 2 (some .int)]
def wsX8_row_r2 : List Cond := [Cond.methodLink RX7 95 yX7_slotOf, Cond.static yX7_slotOf, Cond.code yX7_slotOf cX7_slotOf 1 (some .int), Cond.methodLink RX7 99 yJ9_floorMod_7cf53, Cond.static yJ9_floorMod_7cf53, Cond.initialized RJ9, Cond.code yJ9_floorMod_7cf53 cJ9_floorMod_7cf53 3 (some .int)]
def wsX8_row : List Cond := .code yX8_row cX8_row 3 (some .int) :: ((wsX8_row_r1 ++ wsX8_row_r2) ++ wsX80 ++ wsX50 ++ wsX70)
def wsX8_countPicks_r1 : List Cond := [Cond.fieldLink RX8 23 "CardBand" "trial" "LCardBand$Weave;", Cond.fieldLink RX8 19 "CardBand" "weave" "LCardBand$Weave;", Cond.fieldLink RX8 49 "CardBand" "threading" "LCardBand$Threading;", Cond.methodLink RX8 296 yX7_become, Cond.instanceMethod yX7_become, Cond.selects RX7 yX7_become yX7_become, Cond.initialized RX7, Cond.code yX7_become cX7_become 2 none, Cond.fieldLink RX7 9 "CardBand$Weave" "ways" "[I", Cond.methodLink RX7 41 arraycopyName, Cond.native arraycopyName, Cond.static arraycopyName, Cond.initialized "java/lang/System", Cond.fieldLink RX7 15 "CardBand$Weave" "stands" "[I", Cond.fieldLink RX7 18 "CardBand$Weave" "twists" "[I", Cond.fieldLink RX7 21 "CardBand$Weave" "shows" "[I", Cond.fieldLink RX7 24 "CardBand$Weave" "slants" "[I", Cond.fieldLink RX7 27 "CardBand$Weave" "yarns" "[I", Cond.fieldLink RX7 33 "CardBand$Weave" "band" "[I", Cond.fieldLink RX7 56 "CardBand$Weave" "picks" "I", Cond.methodLink RX8 190 yX7_weaveOnce, Cond.instanceMethod yX7_weaveOnce, Cond.selects RX7 yX7_weaveOnce yX7_weaveOnce, Cond.code yX7_weaveOnce cX7_weaveOnce 4 (some .boolean)]
def wsX8_countPicks_r2 : List Cond := [Cond.fieldLink RX7 68 "CardBand$Threading" "cards" "I", Cond.methodLink RX7 60 yX7_isOvertwisted, Cond.instanceMethod yX7_isOvertwisted, Cond.selects RX7 yX7_isOvertwisted yX7_isOvertwisted, Cond.code yX7_isOvertwisted cX7_isOvertwisted 5 (some .boolean), Cond.methodLink RX7 71 yX5_moveOf, Cond.instanceMethod yX5_moveOf, Cond.selects RX5 yX5_moveOf yX5_moveOf, Cond.initialized RX5, Cond.code yX5_moveOf cX5_moveOf 6 (some .int), Cond.fieldLink RX5 18 "CardBand$Threading" "packOf" "[I", Cond.methodLink RX7 64 yX7_findLacking, Cond.instanceMethod yX7_findLacking, Cond.selects RX7 yX7_findLacking yX7_findLacking, Cond.code yX7_findLacking cX7_findLacking 4 (some .int), Cond.fieldLink RX7 86 "CardBand$Threading" "colours" "I", Cond.fieldLink RX7 30 "CardBand$Weave" "wanted" "[I", Cond.methodLink RX7 82 yX7_countWanted, Cond.instanceMethod yX7_countWanted, Cond.selects RX7 yX7_countWanted yX7_countWanted, Cond.code yX7_countWanted cX7_countWanted 6 none, Cond.methodLink RX7 50 yJ7_fill_53178, Cond.static yJ7_fill_53178, Cond.initialized RJ7]
def wsX8_countPicks_r3 : List Cond := [Cond.code yJ7_fill_53178 cJ7_fill_53178 4 none, Cond.methodLink RX7 89 yX7_holeShownBy, Cond.instanceMethod yX7_holeShownBy, Cond.selects RX7 yX7_holeShownBy yX7_holeShownBy, Cond.code yX7_holeShownBy cX7_holeShownBy 4 (some .int), Cond.methodLink RX7 92 yX5_colourAt, Cond.instanceMethod yX5_colourAt, Cond.selects RX5 yX5_colourAt yX5_colourAt, Cond.code yX5_colourAt cX5_colourAt 3 (some .int), Cond.fieldLink RX5 9 "CardBand$Threading" "holeColours" "[I", Cond.methodLink RX5 46 yX5_indexOf, Cond.static yX5_indexOf, Cond.code yX5_indexOf cX5_indexOf 2 (some .int), Cond.methodLink RX7 75 yX7_turnCard, Cond.instanceMethod yX7_turnCard, Cond.selects RX7 yX7_turnCard yX7_turnCard, Cond.code yX7_turnCard cX7_turnCard 6 none, Cond.methodLink RX7 79 yX7_addRow, Cond.instanceMethod yX7_addRow, Cond.selects RX7 yX7_addRow yX7_addRow, Cond.code yX7_addRow cX7_addRow 1 none, Cond.methodLink RX7 95 yX7_slotOf, Cond.static yX7_slotOf, Cond.code yX7_slotOf cX7_slotOf 1 (some .int)]
def wsX8_countPicks_r4 : List Cond := [Cond.methodLink RX7 99 yJ9_floorMod_7cf53, Cond.static yJ9_floorMod_7cf53, Cond.initialized RJ9, Cond.code yJ9_floorMod_7cf53 cJ9_floorMod_7cf53 3 (some .int)]
def wsX8_countPicks : List Cond := .code yX8_countPicks cX8_countPicks 4 (some .int) :: ((wsX8_countPicks_r1 ++ (wsX8_countPicks_r2 ++ (wsX8_countPicks_r3 ++ wsX8_countPicks_r4))) ++ wsX80 ++ wsX70 ++ wsX50)
def wsX8_pick_r1 : List Cond := [Cond.fieldLink RX8 49 "CardBand" "threading" "LCardBand$Threading;", Cond.constant RX8 57 (-1000000002), Cond.constant RX8 185 (-1000000003), Cond.fieldLink RX8 19 "CardBand" "weave" "LCardBand$Weave;", Cond.fieldLink RX8 97 "CardBand$Weave" "picks" "I", Cond.constant RX8 62 (-1000000004), Cond.fieldLink RX8 29 "CardBand" "deeds" "LCardBand$Deeds;", Cond.methodLink RX8 175 yX5_takesMoves, Cond.instanceMethod yX5_takesMoves, Cond.selects RX5 yX5_takesMoves yX5_takesMoves, Cond.initialized RX5, Cond.code yX5_takesMoves cX5_takesMoves 4 (some .boolean), Cond.fieldLink RX5 34 "CardBand$Threading" "packs" "I", Cond.methodLink RX8 178 yX5_isMade, Cond.instanceMethod yX5_isMade, Cond.selects RX5 yX5_isMade yX5_isMade, Cond.code yX5_isMade cX5_isMade 1 (some .boolean), Cond.fieldLink RX5 27 "CardBand$Threading" "colours" "I", Cond.methodLink RX8 182 yX8_countPicks, Cond.instanceMethod yX8_countPicks, Cond.selects RX8 yX8_countPicks yX8_countPicks, Cond.initialized RX8, Cond.code yX8_countPicks cX8_countPicks 4 (some .int), Cond.fieldLink RX8 23 "CardBand" "trial" "LCardBand$Weave;"]
def wsX8_pick_r2 : List Cond := [Cond.methodLink RX8 296 yX7_become, Cond.instanceMethod yX7_become, Cond.selects RX7 yX7_become yX7_become, Cond.initialized RX7, Cond.code yX7_become cX7_become 2 none, Cond.fieldLink RX7 9 "CardBand$Weave" "ways" "[I", Cond.methodLink RX7 41 arraycopyName, Cond.native arraycopyName, Cond.static arraycopyName, Cond.initialized "java/lang/System", Cond.fieldLink RX7 15 "CardBand$Weave" "stands" "[I", Cond.fieldLink RX7 18 "CardBand$Weave" "twists" "[I", Cond.fieldLink RX7 21 "CardBand$Weave" "shows" "[I", Cond.fieldLink RX7 24 "CardBand$Weave" "slants" "[I", Cond.fieldLink RX7 27 "CardBand$Weave" "yarns" "[I", Cond.fieldLink RX7 33 "CardBand$Weave" "band" "[I", Cond.fieldLink RX7 56 "CardBand$Weave" "picks" "I", Cond.methodLink RX8 190 yX7_weaveOnce, Cond.instanceMethod yX7_weaveOnce, Cond.selects RX7 yX7_weaveOnce yX7_weaveOnce, Cond.code yX7_weaveOnce cX7_weaveOnce 4 (some .boolean), Cond.fieldLink RX7 68 "CardBand$Threading" "cards" "I", Cond.methodLink RX7 60 yX7_isOvertwisted, Cond.instanceMethod yX7_isOvertwisted]
def wsX8_pick_r3 : List Cond := [Cond.selects RX7 yX7_isOvertwisted yX7_isOvertwisted, Cond.code yX7_isOvertwisted cX7_isOvertwisted 5 (some .boolean), Cond.methodLink RX7 71 yX5_moveOf, Cond.instanceMethod yX5_moveOf, Cond.selects RX5 yX5_moveOf yX5_moveOf, Cond.code yX5_moveOf cX5_moveOf 6 (some .int), Cond.fieldLink RX5 18 "CardBand$Threading" "packOf" "[I", Cond.methodLink RX7 64 yX7_findLacking, Cond.instanceMethod yX7_findLacking, Cond.selects RX7 yX7_findLacking yX7_findLacking, Cond.code yX7_findLacking cX7_findLacking 4 (some .int), Cond.fieldLink RX7 86 "CardBand$Threading" "colours" "I", Cond.fieldLink RX7 30 "CardBand$Weave" "wanted" "[I", Cond.methodLink RX7 82 yX7_countWanted, Cond.instanceMethod yX7_countWanted, Cond.selects RX7 yX7_countWanted yX7_countWanted, Cond.code yX7_countWanted cX7_countWanted 6 none, Cond.methodLink RX7 50 yJ7_fill_53178, Cond.static yJ7_fill_53178, Cond.initialized RJ7, Cond.code yJ7_fill_53178 cJ7_fill_53178 4 none, Cond.methodLink RX7 89 yX7_holeShownBy, Cond.instanceMethod yX7_holeShownBy, Cond.selects RX7 yX7_holeShownBy yX7_holeShownBy]
def wsX8_pick_r4 : List Cond := [Cond.code yX7_holeShownBy cX7_holeShownBy 4 (some .int), Cond.methodLink RX7 92 yX5_colourAt, Cond.instanceMethod yX5_colourAt, Cond.selects RX5 yX5_colourAt yX5_colourAt, Cond.code yX5_colourAt cX5_colourAt 3 (some .int), Cond.fieldLink RX5 9 "CardBand$Threading" "holeColours" "[I", Cond.methodLink RX5 46 yX5_indexOf, Cond.static yX5_indexOf, Cond.code yX5_indexOf cX5_indexOf 2 (some .int), Cond.methodLink RX7 75 yX7_turnCard, Cond.instanceMethod yX7_turnCard, Cond.selects RX7 yX7_turnCard yX7_turnCard, Cond.code yX7_turnCard cX7_turnCard 6 none, Cond.methodLink RX7 79 yX7_addRow, Cond.instanceMethod yX7_addRow, Cond.selects RX7 yX7_addRow yX7_addRow, Cond.code yX7_addRow cX7_addRow 1 none, Cond.methodLink RX7 95 yX7_slotOf, Cond.static yX7_slotOf, Cond.code yX7_slotOf cX7_slotOf 1 (some .int), Cond.methodLink RX7 99 yJ9_floorMod_7cf53, Cond.static yJ9_floorMod_7cf53, Cond.initialized RJ9, Cond.code yJ9_floorMod_7cf53 cJ9_floorMod_7cf53 3 (some .int)]
def wsX8_pick_r5 : List Cond := [Cond.methodLink RX8 186 yX1_remember, Cond.instanceMethod yX1_remember, Cond.selects RX1 yX1_remember yX1_remember, Cond.initialized RX1, Cond.code yX1_remember cX1_remember 3 none, Cond.fieldLink RX1 22 "CardBand$Deeds" "next" "I", Cond.fieldLink RX1 18 "CardBand$Deeds" "count" "I", Cond.methodLink RX1 33 Lib.Math.min.name, Cond.static Lib.Math.min.name, Cond.initialized "java/lang/Math", Cond.code Lib.Math.min.name Lib.Math.min.code 2 (some .int), Cond.methodLink RX1 25 yX1_weaveAt, Cond.instanceMethod yX1_weaveAt, Cond.selects RX1 yX1_weaveAt yX1_weaveAt, Cond.code yX1_weaveAt cX1_weaveAt 2 (some (.object "CardBand$Weave")), Cond.fieldLink RX1 11 "CardBand$Deeds" "before" "[LCardBand$Weave;", Cond.methodLink RX1 29 yX7_become]
def wsX8_pick : List Cond := .code yX8_pick cX8_pick 4 (some .int) :: ((wsX8_pick_r1 ++ (wsX8_pick_r2 ++ (wsX8_pick_r3 ++ (wsX8_pick_r4 ++ wsX8_pick_r5)))) ++ wsX80 ++ wsX70 ++ wsX50 ++ wsX10)
def wsX8_flip_r1 : List Cond := [Cond.fieldLink RX8 49 "CardBand" "threading" "LCardBand$Threading;", Cond.constant RX8 136 (-1000000001), Cond.fieldLink RX8 29 "CardBand" "deeds" "LCardBand$Deeds;", Cond.fieldLink RX8 19 "CardBand" "weave" "LCardBand$Weave;", Cond.fieldLink RX8 141 "CardBand$Weave" "ways" "[I", Cond.methodLink RX8 133 yX5_hasCard, Cond.instanceMethod yX5_hasCard, Cond.selects RX5 yX5_hasCard yX5_hasCard, Cond.initialized RX5, Cond.code yX5_hasCard cX5_hasCard 2 (some .boolean), Cond.fieldLink RX5 31 "CardBand$Threading" "cards" "I", Cond.methodLink RX8 186 yX1_remember, Cond.instanceMethod yX1_remember, Cond.selects RX1 yX1_remember yX1_remember, Cond.initialized RX1, Cond.code yX1_remember cX1_remember 3 none, Cond.fieldLink RX1 22 "CardBand$Deeds" "next" "I", Cond.fieldLink RX1 18 "CardBand$Deeds" "count" "I", Cond.methodLink RX1 33 Lib.Math.min.name, Cond.static Lib.Math.min.name, Cond.initialized "java/lang/Math", Cond.code Lib.Math.min.name Lib.Math.min.code 2 (some .int), Cond.methodLink RX1 25 yX1_weaveAt, Cond.instanceMethod yX1_weaveAt]
def wsX8_flip_r2 : List Cond := [Cond.selects RX1 yX1_weaveAt yX1_weaveAt, Cond.code yX1_weaveAt cX1_weaveAt 2 (some (.object "CardBand$Weave")), Cond.fieldLink RX1 11 "CardBand$Deeds" "before" "[LCardBand$Weave;", Cond.methodLink RX1 29 yX7_become, Cond.instanceMethod yX7_become, Cond.selects RX7 yX7_become yX7_become, Cond.initialized RX7, Cond.code yX7_become cX7_become 2 none, Cond.fieldLink RX7 9 "CardBand$Weave" "ways" "[I", Cond.methodLink RX7 41 arraycopyName, Cond.native arraycopyName, Cond.static arraycopyName, Cond.initialized "java/lang/System", Cond.fieldLink RX7 15 "CardBand$Weave" "stands" "[I", Cond.fieldLink RX7 18 "CardBand$Weave" "twists" "[I", Cond.fieldLink RX7 21 "CardBand$Weave" "shows" "[I", Cond.fieldLink RX7 24 "CardBand$Weave" "slants" "[I", Cond.fieldLink RX7 27 "CardBand$Weave" "yarns" "[I", Cond.fieldLink RX7 33 "CardBand$Weave" "band" "[I", Cond.fieldLink RX7 56 "CardBand$Weave" "picks" "I"]
def wsX8_flip : List Cond := .code yX8_flip cX8_flip 2 (some .int) :: ((wsX8_flip_r1 ++ wsX8_flip_r2) ++ wsX80 ++ wsX70 ++ wsX50 ++ wsX10)
def wsX8_shift_r1 : List Cond := [Cond.fieldLink RX8 49 "CardBand" "threading" "LCardBand$Threading;", Cond.constant RX8 136 (-1000000001), Cond.constant RX8 57 (-1000000002), Cond.fieldLink RX8 29 "CardBand" "deeds" "LCardBand$Deeds;", Cond.fieldLink RX8 19 "CardBand" "weave" "LCardBand$Weave;", Cond.fieldLink RX8 145 "CardBand$Weave" "stands" "[I", Cond.methodLink RX8 133 yX5_hasCard, Cond.instanceMethod yX5_hasCard, Cond.selects RX5 yX5_hasCard yX5_hasCard, Cond.initialized RX5, Cond.code yX5_hasCard cX5_hasCard 2 (some .boolean), Cond.fieldLink RX5 31 "CardBand$Threading" "cards" "I", Cond.methodLink RX8 186 yX1_remember, Cond.instanceMethod yX1_remember, Cond.selects RX1 yX1_remember yX1_remember, Cond.initialized RX1, Cond.code yX1_remember cX1_remember 3 none, Cond.fieldLink RX1 22 "CardBand$Deeds" "next" "I", Cond.fieldLink RX1 18 "CardBand$Deeds" "count" "I", Cond.methodLink RX1 33 Lib.Math.min.name, Cond.static Lib.Math.min.name, Cond.initialized "java/lang/Math", Cond.code Lib.Math.min.name Lib.Math.min.code 2 (some .int), Cond.methodLink RX1 25 yX1_weaveAt]
def wsX8_shift_r2 : List Cond := [Cond.instanceMethod yX1_weaveAt, Cond.selects RX1 yX1_weaveAt yX1_weaveAt, Cond.code yX1_weaveAt cX1_weaveAt 2 (some (.object "CardBand$Weave")), Cond.fieldLink RX1 11 "CardBand$Deeds" "before" "[LCardBand$Weave;", Cond.methodLink RX1 29 yX7_become, Cond.instanceMethod yX7_become, Cond.selects RX7 yX7_become yX7_become, Cond.initialized RX7, Cond.code yX7_become cX7_become 2 none, Cond.fieldLink RX7 9 "CardBand$Weave" "ways" "[I", Cond.methodLink RX7 41 arraycopyName, Cond.native arraycopyName, Cond.static arraycopyName, Cond.initialized "java/lang/System", Cond.fieldLink RX7 15 "CardBand$Weave" "stands" "[I", Cond.fieldLink RX7 18 "CardBand$Weave" "twists" "[I", Cond.fieldLink RX7 21 "CardBand$Weave" "shows" "[I", Cond.fieldLink RX7 24 "CardBand$Weave" "slants" "[I", Cond.fieldLink RX7 27 "CardBand$Weave" "yarns" "[I", Cond.fieldLink RX7 33 "CardBand$Weave" "band" "[I", Cond.fieldLink RX7 56 "CardBand$Weave" "picks" "I"]
def wsX8_shift : List Cond := .code yX8_shift cX8_shift 3 (some .int) :: ((wsX8_shift_r1 ++ wsX8_shift_r2) ++ wsX80 ++ wsX70 ++ wsX50 ++ wsX10)
def wsX8_buy_r1 : List Cond := [Cond.fieldLink RX8 49 "CardBand" "threading" "LCardBand$Threading;", Cond.constant RX8 136 (-1000000001), Cond.constant RX8 57 (-1000000002), Cond.fieldLink RX8 29 "CardBand" "deeds" "LCardBand$Deeds;", Cond.fieldLink RX8 19 "CardBand" "weave" "LCardBand$Weave;", Cond.fieldLink RX8 169 "CardBand$Weave" "yarns" "[I", Cond.methodLink RX8 194 Lib.Math.min.name, Cond.static Lib.Math.min.name, Cond.initialized "java/lang/Math", Cond.code Lib.Math.min.name Lib.Math.min.code 2 (some .int), Cond.methodLink RX8 166 yX5_hasColour, Cond.instanceMethod yX5_hasColour, Cond.selects RX5 yX5_hasColour yX5_hasColour, Cond.initialized RX5, Cond.code yX5_hasColour cX5_hasColour 2 (some .boolean), Cond.fieldLink RX5 27 "CardBand$Threading" "colours" "I", Cond.methodLink RX8 186 yX1_remember, Cond.instanceMethod yX1_remember, Cond.selects RX1 yX1_remember yX1_remember, Cond.initialized RX1, Cond.code yX1_remember cX1_remember 3 none, Cond.fieldLink RX1 22 "CardBand$Deeds" "next" "I", Cond.fieldLink RX1 18 "CardBand$Deeds" "count" "I", Cond.methodLink RX1 33 Lib.Math.min.name]
def wsX8_buy_r2 : List Cond := [Cond.methodLink RX1 25 yX1_weaveAt, Cond.instanceMethod yX1_weaveAt, Cond.selects RX1 yX1_weaveAt yX1_weaveAt, Cond.code yX1_weaveAt cX1_weaveAt 2 (some (.object "CardBand$Weave")), Cond.fieldLink RX1 11 "CardBand$Deeds" "before" "[LCardBand$Weave;", Cond.methodLink RX1 29 yX7_become, Cond.instanceMethod yX7_become, Cond.selects RX7 yX7_become yX7_become, Cond.initialized RX7, Cond.code yX7_become cX7_become 2 none, Cond.fieldLink RX7 9 "CardBand$Weave" "ways" "[I", Cond.methodLink RX7 41 arraycopyName, Cond.native arraycopyName, Cond.static arraycopyName, Cond.initialized "java/lang/System", Cond.fieldLink RX7 15 "CardBand$Weave" "stands" "[I", Cond.fieldLink RX7 18 "CardBand$Weave" "twists" "[I", Cond.fieldLink RX7 21 "CardBand$Weave" "shows" "[I", Cond.fieldLink RX7 24 "CardBand$Weave" "slants" "[I", Cond.fieldLink RX7 27 "CardBand$Weave" "yarns" "[I", Cond.fieldLink RX7 33 "CardBand$Weave" "band" "[I", Cond.fieldLink RX7 56 "CardBand$Weave" "picks" "I"]
def wsX8_buy : List Cond := .code yX8_buy cX8_buy 3 (some .int) :: ((wsX8_buy_r1 ++ wsX8_buy_r2) ++ wsX80 ++ wsX70 ++ wsX50 ++ wsX10)
def wsX8_drawFigure : List Cond := .code yX8_drawFigure cX8_drawFigure 1 (some .int) :: ([.fieldLink RX8 287 "CardBand" "drawn" "J", .constantLong RX8 307 (1103515245), .constantLong RX8 309 (12345), .constantLong RX8 311 (2147483648), .constantLong RX8 313 (65536), .constantLong RX8 315 (3)] ++ wsX80)
def wsX8_drawMoves : List Cond := .code yX8_drawMoves cX8_drawMoves 4 (some .int) :: ([.fieldLink RX8 49 "CardBand" "threading" "LCardBand$Threading;", .fieldLink RX8 94 "CardBand$Threading" "packs" "I", .methodLink RX8 304 yX8_drawFigure, .instanceMethod yX8_drawFigure, .selects RX8 yX8_drawFigure yX8_drawFigure, .initialized RX8, .code yX8_drawFigure cX8_drawFigure 1 (some .int), .fieldLink RX8 287 "CardBand" "drawn" "J", .constantLong RX8 307 (1103515245), .constantLong RX8 309 (12345), .constantLong RX8 311 (2147483648), .constantLong RX8 313 (65536), .constantLong RX8 315 (3)] ++ wsX80 ++ wsX50)
def wsX8_drift_r1 : List Cond := [Cond.constant RX8 57 (-1000000002), Cond.fieldLink RX8 49 "CardBand" "threading" "LCardBand$Threading;", Cond.constant RX8 185 (-1000000003), Cond.fieldLink RX8 19 "CardBand" "weave" "LCardBand$Weave;", Cond.fieldLink RX8 97 "CardBand$Weave" "picks" "I", Cond.constant RX8 62 (-1000000004), Cond.fieldLink RX8 29 "CardBand" "deeds" "LCardBand$Deeds;", Cond.methodLink RX8 178 yX5_isMade, Cond.instanceMethod yX5_isMade, Cond.selects RX5 yX5_isMade yX5_isMade, Cond.initialized RX5, Cond.code yX5_isMade cX5_isMade 1 (some .boolean), Cond.fieldLink RX5 27 "CardBand$Threading" "colours" "I", Cond.methodLink RX8 186 yX1_remember, Cond.instanceMethod yX1_remember, Cond.selects RX1 yX1_remember yX1_remember, Cond.initialized RX1, Cond.code yX1_remember cX1_remember 3 none, Cond.fieldLink RX1 22 "CardBand$Deeds" "next" "I", Cond.fieldLink RX1 18 "CardBand$Deeds" "count" "I", Cond.methodLink RX1 33 Lib.Math.min.name, Cond.static Lib.Math.min.name, Cond.initialized "java/lang/Math", Cond.code Lib.Math.min.name Lib.Math.min.code 2 (some .int)]
def wsX8_drift_r2 : List Cond := [Cond.methodLink RX1 25 yX1_weaveAt, Cond.instanceMethod yX1_weaveAt, Cond.selects RX1 yX1_weaveAt yX1_weaveAt, Cond.code yX1_weaveAt cX1_weaveAt 2 (some (.object "CardBand$Weave")), Cond.fieldLink RX1 11 "CardBand$Deeds" "before" "[LCardBand$Weave;", Cond.methodLink RX1 29 yX7_become, Cond.instanceMethod yX7_become, Cond.selects RX7 yX7_become yX7_become, Cond.initialized RX7, Cond.code yX7_become cX7_become 2 none, Cond.fieldLink RX7 9 "CardBand$Weave" "ways" "[I", Cond.methodLink RX7 41 arraycopyName, Cond.native arraycopyName, Cond.static arraycopyName, Cond.initialized "java/lang/System", Cond.fieldLink RX7 15 "CardBand$Weave" "stands" "[I", Cond.fieldLink RX7 18 "CardBand$Weave" "twists" "[I", Cond.fieldLink RX7 21 "CardBand$Weave" "shows" "[I", Cond.fieldLink RX7 24 "CardBand$Weave" "slants" "[I", Cond.fieldLink RX7 27 "CardBand$Weave" "yarns" "[I", Cond.fieldLink RX7 33 "CardBand$Weave" "band" "[I", Cond.fieldLink RX7 56 "CardBand$Weave" "picks" "I", Cond.methodLink RX8 199 yX8_drawMoves, Cond.instanceMethod yX8_drawMoves]
def wsX8_drift_r3 : List Cond := [Cond.selects RX8 yX8_drawMoves yX8_drawMoves, Cond.initialized RX8, Cond.code yX8_drawMoves cX8_drawMoves 4 (some .int), Cond.fieldLink RX8 94 "CardBand$Threading" "packs" "I", Cond.methodLink RX8 304 yX8_drawFigure, Cond.instanceMethod yX8_drawFigure, Cond.selects RX8 yX8_drawFigure yX8_drawFigure, Cond.code yX8_drawFigure cX8_drawFigure 1 (some .int), Cond.fieldLink RX8 287 "CardBand" "drawn" "J", Cond.constantLong RX8 307 (1103515245), Cond.constantLong RX8 309 (12345), Cond.constantLong RX8 311 (2147483648), Cond.constantLong RX8 313 (65536), Cond.constantLong RX8 315 (3), Cond.methodLink RX8 190 yX7_weaveOnce, Cond.instanceMethod yX7_weaveOnce, Cond.selects RX7 yX7_weaveOnce yX7_weaveOnce, Cond.code yX7_weaveOnce cX7_weaveOnce 4 (some .boolean), Cond.fieldLink RX7 68 "CardBand$Threading" "cards" "I", Cond.methodLink RX7 60 yX7_isOvertwisted, Cond.instanceMethod yX7_isOvertwisted, Cond.selects RX7 yX7_isOvertwisted yX7_isOvertwisted, Cond.code yX7_isOvertwisted cX7_isOvertwisted 5 (some .boolean), Cond.methodLink RX7 71 yX5_moveOf]
def wsX8_drift_r4 : List Cond := [Cond.instanceMethod yX5_moveOf, Cond.selects RX5 yX5_moveOf yX5_moveOf, Cond.code yX5_moveOf cX5_moveOf 6 (some .int), Cond.fieldLink RX5 18 "CardBand$Threading" "packOf" "[I", Cond.methodLink RX7 64 yX7_findLacking, Cond.instanceMethod yX7_findLacking, Cond.selects RX7 yX7_findLacking yX7_findLacking, Cond.code yX7_findLacking cX7_findLacking 4 (some .int), Cond.fieldLink RX7 86 "CardBand$Threading" "colours" "I", Cond.fieldLink RX7 30 "CardBand$Weave" "wanted" "[I", Cond.methodLink RX7 82 yX7_countWanted, Cond.instanceMethod yX7_countWanted, Cond.selects RX7 yX7_countWanted yX7_countWanted, Cond.code yX7_countWanted cX7_countWanted 6 none, Cond.methodLink RX7 50 yJ7_fill_53178, Cond.static yJ7_fill_53178, Cond.initialized RJ7, Cond.code yJ7_fill_53178 cJ7_fill_53178 4 none, Cond.methodLink RX7 89 yX7_holeShownBy, Cond.instanceMethod yX7_holeShownBy, Cond.selects RX7 yX7_holeShownBy yX7_holeShownBy, Cond.code yX7_holeShownBy cX7_holeShownBy 4 (some .int), Cond.methodLink RX7 92 yX5_colourAt, Cond.instanceMethod yX5_colourAt]
def wsX8_drift_r5 : List Cond := [Cond.selects RX5 yX5_colourAt yX5_colourAt, Cond.code yX5_colourAt cX5_colourAt 3 (some .int), Cond.fieldLink RX5 9 "CardBand$Threading" "holeColours" "[I", Cond.methodLink RX5 46 yX5_indexOf, Cond.static yX5_indexOf, Cond.code yX5_indexOf cX5_indexOf 2 (some .int), Cond.methodLink RX7 75 yX7_turnCard, Cond.instanceMethod yX7_turnCard, Cond.selects RX7 yX7_turnCard yX7_turnCard, Cond.code yX7_turnCard cX7_turnCard 6 none, Cond.methodLink RX7 79 yX7_addRow, Cond.instanceMethod yX7_addRow, Cond.selects RX7 yX7_addRow yX7_addRow, Cond.code yX7_addRow cX7_addRow 1 none, Cond.methodLink RX7 95 yX7_slotOf, Cond.static yX7_slotOf, Cond.code yX7_slotOf cX7_slotOf 1 (some .int), Cond.methodLink RX7 99 yJ9_floorMod_7cf53, Cond.static yJ9_floorMod_7cf53, Cond.initialized RJ9, Cond.code yJ9_floorMod_7cf53 cJ9_floorMod_7cf53 3 (some .int)]
def wsX8_drift : List Cond := .code yX8_drift cX8_drift 3 (some .int) :: ((wsX8_drift_r1 ++ (wsX8_drift_r2 ++ (wsX8_drift_r3 ++ (wsX8_drift_r4 ++ wsX8_drift_r5)))) ++ wsX80 ++ wsX70 ++ wsX50 ++ wsX10)
def wsX8_undo_r1 : List Cond := [Cond.constant RX8 57 (-1000000002), Cond.fieldLink RX8 29 "CardBand" "deeds" "LCardBand$Deeds;", Cond.fieldLink RX8 19 "CardBand" "weave" "LCardBand$Weave;", Cond.fieldLink RX8 97 "CardBand$Weave" "picks" "I", Cond.constant RX8 185 (-1000000003), Cond.methodLink RX8 202 yX1_takeBack, Cond.instanceMethod yX1_takeBack, Cond.selects RX1 yX1_takeBack yX1_takeBack, Cond.initialized RX1, Cond.code yX1_takeBack cX1_takeBack 5 (some .boolean), Cond.fieldLink RX1 22 "CardBand$Deeds" "next" "I", Cond.fieldLink RX1 18 "CardBand$Deeds" "count" "I", Cond.methodLink RX1 39 yJ9_floorMod_7cf53, Cond.static yJ9_floorMod_7cf53, Cond.initialized RJ9, Cond.code yJ9_floorMod_7cf53 cJ9_floorMod_7cf53 3 (some .int), Cond.methodLink RX1 25 yX1_weaveAt, Cond.instanceMethod yX1_weaveAt, Cond.selects RX1 yX1_weaveAt yX1_weaveAt, Cond.code yX1_weaveAt cX1_weaveAt 2 (some (.object "CardBand$Weave")), Cond.fieldLink RX1 11 "CardBand$Deeds" "before" "[LCardBand$Weave;", Cond.methodLink RX1 29 yX7_become, Cond.instanceMethod yX7_become, Cond.selects RX7 yX7_become yX7_become]
def wsX8_undo_r2 : List Cond := [Cond.initialized RX7, Cond.code yX7_become cX7_become 2 none, Cond.fieldLink RX7 9 "CardBand$Weave" "ways" "[I", Cond.methodLink RX7 41 arraycopyName, Cond.native arraycopyName, Cond.static arraycopyName, Cond.initialized "java/lang/System", Cond.fieldLink RX7 15 "CardBand$Weave" "stands" "[I", Cond.fieldLink RX7 18 "CardBand$Weave" "twists" "[I", Cond.fieldLink RX7 21 "CardBand$Weave" "shows" "[I", Cond.fieldLink RX7 24 "CardBand$Weave" "slants" "[I", Cond.fieldLink RX7 27 "CardBand$Weave" "yarns" "[I", Cond.fieldLink RX7 33 "CardBand$Weave" "band" "[I", Cond.fieldLink RX7 56 "CardBand$Weave" "picks" "I"]
def wsX8_undo : List Cond := .code yX8_undo cX8_undo 2 (some .int) :: ((wsX8_undo_r1 ++ wsX8_undo_r2) ++ wsX80 ++ wsX70 ++ wsX10)
def wsX8_ahead : List Cond := .code yX8_ahead cX8_ahead 5 (some .int) :: ([.fieldLink RX8 49 "CardBand" "threading" "LCardBand$Threading;", .constant RX8 136 (-1000000001), .constant RX8 57 (-1000000002), .fieldLink RX8 19 "CardBand" "weave" "LCardBand$Weave;", .fieldLink RX8 145 "CardBand$Weave" "stands" "[I", .methodLink RX8 133 yX5_hasCard, .instanceMethod yX5_hasCard, .selects RX5 yX5_hasCard yX5_hasCard, .initialized RX5, .code yX5_hasCard cX5_hasCard 2 (some .boolean), .fieldLink RX5 31 "CardBand$Threading" "cards" "I", .methodLink RX8 137 yX5_colourAt, .instanceMethod yX5_colourAt, .selects RX5 yX5_colourAt yX5_colourAt, .code yX5_colourAt cX5_colourAt 3 (some .int), .fieldLink RX5 9 "CardBand$Threading" "holeColours" "[I", .methodLink RX5 46 yX5_indexOf, .static yX5_indexOf, .code yX5_indexOf cX5_indexOf 2 (some .int)] ++ wsX80 ++ wsX70 ++ wsX50)
def wsX8_isHowOrMoves : List Cond := .code yX8_isHowOrMoves cX8_isHowOrMoves 1 (some .boolean) :: ([])
def wsX8_lasts_r1 : List Cond := [Cond.fieldLink RX8 49 "CardBand" "threading" "LCardBand$Threading;", Cond.constant RX8 57 (-1000000002), Cond.constant RX8 185 (-1000000003), Cond.fieldLink RX8 23 "CardBand" "trial" "LCardBand$Weave;", Cond.methodLink RX8 175 yX5_takesMoves, Cond.instanceMethod yX5_takesMoves, Cond.selects RX5 yX5_takesMoves yX5_takesMoves, Cond.initialized RX5, Cond.code yX5_takesMoves cX5_takesMoves 4 (some .boolean), Cond.fieldLink RX5 34 "CardBand$Threading" "packs" "I", Cond.methodLink RX8 206 yX8_isHowOrMoves, Cond.static yX8_isHowOrMoves, Cond.initialized RX8, Cond.code yX8_isHowOrMoves cX8_isHowOrMoves 1 (some .boolean), Cond.methodLink RX8 178 yX5_isMade, Cond.instanceMethod yX5_isMade, Cond.selects RX5 yX5_isMade yX5_isMade, Cond.code yX5_isMade cX5_isMade 1 (some .boolean), Cond.fieldLink RX5 27 "CardBand$Threading" "colours" "I", Cond.methodLink RX8 182 yX8_countPicks, Cond.instanceMethod yX8_countPicks, Cond.selects RX8 yX8_countPicks yX8_countPicks, Cond.code yX8_countPicks cX8_countPicks 4 (some .int), Cond.fieldLink RX8 19 "CardBand" "weave" "LCardBand$Weave;"]
def wsX8_lasts_r2 : List Cond := [Cond.methodLink RX8 296 yX7_become, Cond.instanceMethod yX7_become, Cond.selects RX7 yX7_become yX7_become, Cond.initialized RX7, Cond.code yX7_become cX7_become 2 none, Cond.fieldLink RX7 9 "CardBand$Weave" "ways" "[I", Cond.methodLink RX7 41 arraycopyName, Cond.native arraycopyName, Cond.static arraycopyName, Cond.initialized "java/lang/System", Cond.fieldLink RX7 15 "CardBand$Weave" "stands" "[I", Cond.fieldLink RX7 18 "CardBand$Weave" "twists" "[I", Cond.fieldLink RX7 21 "CardBand$Weave" "shows" "[I", Cond.fieldLink RX7 24 "CardBand$Weave" "slants" "[I", Cond.fieldLink RX7 27 "CardBand$Weave" "yarns" "[I", Cond.fieldLink RX7 33 "CardBand$Weave" "band" "[I", Cond.fieldLink RX7 56 "CardBand$Weave" "picks" "I", Cond.methodLink RX8 190 yX7_weaveOnce, Cond.instanceMethod yX7_weaveOnce, Cond.selects RX7 yX7_weaveOnce yX7_weaveOnce, Cond.code yX7_weaveOnce cX7_weaveOnce 4 (some .boolean), Cond.fieldLink RX7 68 "CardBand$Threading" "cards" "I", Cond.methodLink RX7 60 yX7_isOvertwisted, Cond.instanceMethod yX7_isOvertwisted]
def wsX8_lasts_r3 : List Cond := [Cond.selects RX7 yX7_isOvertwisted yX7_isOvertwisted, Cond.code yX7_isOvertwisted cX7_isOvertwisted 5 (some .boolean), Cond.methodLink RX7 71 yX5_moveOf, Cond.instanceMethod yX5_moveOf, Cond.selects RX5 yX5_moveOf yX5_moveOf, Cond.code yX5_moveOf cX5_moveOf 6 (some .int), Cond.fieldLink RX5 18 "CardBand$Threading" "packOf" "[I", Cond.methodLink RX7 64 yX7_findLacking, Cond.instanceMethod yX7_findLacking, Cond.selects RX7 yX7_findLacking yX7_findLacking, Cond.code yX7_findLacking cX7_findLacking 4 (some .int), Cond.fieldLink RX7 86 "CardBand$Threading" "colours" "I", Cond.fieldLink RX7 30 "CardBand$Weave" "wanted" "[I", Cond.methodLink RX7 82 yX7_countWanted, Cond.instanceMethod yX7_countWanted, Cond.selects RX7 yX7_countWanted yX7_countWanted, Cond.code yX7_countWanted cX7_countWanted 6 none, Cond.methodLink RX7 50 yJ7_fill_53178, Cond.static yJ7_fill_53178, Cond.initialized RJ7, Cond.code yJ7_fill_53178 cJ7_fill_53178 4 none, Cond.methodLink RX7 89 yX7_holeShownBy, Cond.instanceMethod yX7_holeShownBy, Cond.selects RX7 yX7_holeShownBy yX7_holeShownBy]
def wsX8_lasts_r4 : List Cond := [Cond.code yX7_holeShownBy cX7_holeShownBy 4 (some .int), Cond.methodLink RX7 92 yX5_colourAt, Cond.instanceMethod yX5_colourAt, Cond.selects RX5 yX5_colourAt yX5_colourAt, Cond.code yX5_colourAt cX5_colourAt 3 (some .int), Cond.fieldLink RX5 9 "CardBand$Threading" "holeColours" "[I", Cond.methodLink RX5 46 yX5_indexOf, Cond.static yX5_indexOf, Cond.code yX5_indexOf cX5_indexOf 2 (some .int), Cond.methodLink RX7 75 yX7_turnCard, Cond.instanceMethod yX7_turnCard, Cond.selects RX7 yX7_turnCard yX7_turnCard, Cond.code yX7_turnCard cX7_turnCard 6 none, Cond.methodLink RX7 79 yX7_addRow, Cond.instanceMethod yX7_addRow, Cond.selects RX7 yX7_addRow yX7_addRow, Cond.code yX7_addRow cX7_addRow 1 none, Cond.methodLink RX7 95 yX7_slotOf, Cond.static yX7_slotOf, Cond.code yX7_slotOf cX7_slotOf 1 (some .int), Cond.methodLink RX7 99 yJ9_floorMod_7cf53, Cond.static yJ9_floorMod_7cf53, Cond.initialized RJ9, Cond.code yJ9_floorMod_7cf53 cJ9_floorMod_7cf53 3 (some .int)]
def wsX8_lasts_r5 : List Cond := [Cond.methodLink RX8 209 yX7_findLacking]
def wsX8_lasts : List Cond := .code yX8_lasts cX8_lasts 4 (some .int) :: ((wsX8_lasts_r1 ++ (wsX8_lasts_r2 ++ (wsX8_lasts_r3 ++ (wsX8_lasts_r4 ++ wsX8_lasts_r5)))) ++ wsX80 ++ wsX50 ++ wsX70)
def wsX8_untwist_r1 : List Cond := [Cond.constant RX8 57 (-1000000002), Cond.fieldLink RX8 49 "CardBand" "threading" "LCardBand$Threading;", Cond.constant RX8 185 (-1000000003), Cond.fieldLink RX8 19 "CardBand" "weave" "LCardBand$Weave;", Cond.methodLink RX8 206 yX8_isHowOrMoves, Cond.static yX8_isHowOrMoves, Cond.initialized RX8, Cond.code yX8_isHowOrMoves cX8_isHowOrMoves 1 (some .boolean), Cond.methodLink RX8 178 yX5_isMade, Cond.instanceMethod yX5_isMade, Cond.selects RX5 yX5_isMade yX5_isMade, Cond.initialized RX5, Cond.code yX5_isMade cX5_isMade 1 (some .boolean), Cond.fieldLink RX5 27 "CardBand$Threading" "colours" "I", Cond.methodLink RX8 213 yX6_countUntwist, Cond.static yX6_countUntwist, Cond.initialized RX6, Cond.code yX6_countUntwist cX6_countUntwist 4 (some .int), Cond.fieldLink RX6 34 "CardBand$Threading" "packs" "I", Cond.methodLink RX6 41 Lib.Math.abs.name, Cond.static Lib.Math.abs.name, Cond.initialized "java/lang/Math", Cond.code Lib.Math.abs.name Lib.Math.abs.code 1 (some .int), Cond.methodLink RX6 47 Lib.Math.max.name]
def wsX8_untwist_r2 : List Cond := [Cond.static Lib.Math.max.name, Cond.code Lib.Math.max.name Lib.Math.max.code 2 (some .int), Cond.methodLink RX6 37 yX6_twistOf, Cond.static yX6_twistOf, Cond.code yX6_twistOf cX6_twistOf 3 (some .int), Cond.fieldLink RX6 19 "CardBand$Weave" "twists" "[I", Cond.methodLink RX6 25 yX6_firstCardOf, Cond.static yX6_firstCardOf, Cond.code yX6_firstCardOf cX6_firstCardOf 3 (some .int), Cond.fieldLink RX6 9 "CardBand$Threading" "cards" "I", Cond.methodLink RX6 15 yX5_isInPack, Cond.instanceMethod yX5_isInPack, Cond.selects RX5 yX5_isInPack yX5_isInPack, Cond.code yX5_isInPack cX5_isInPack 3 (some .boolean), Cond.fieldLink RX5 18 "CardBand$Threading" "packOf" "[I", Cond.methodLink RX8 218 yX6_firstUntwist, Cond.static yX6_firstUntwist, Cond.code yX6_firstUntwist cX6_firstUntwist 6 (some .int)]
def wsX8_untwist : List Cond := .code yX8_untwist cX8_untwist 2 (some .int) :: ((wsX8_untwist_r1 ++ wsX8_untwist_r2) ++ wsX80 ++ wsX50 ++ wsX70)
def wsX8_home_r1 : List Cond := [Cond.constant RX8 57 (-1000000002), Cond.fieldLink RX8 49 "CardBand" "threading" "LCardBand$Threading;", Cond.constant RX8 185 (-1000000003), Cond.fieldLink RX8 19 "CardBand" "weave" "LCardBand$Weave;", Cond.methodLink RX8 206 yX8_isHowOrMoves, Cond.static yX8_isHowOrMoves, Cond.initialized RX8, Cond.code yX8_isHowOrMoves cX8_isHowOrMoves 1 (some .boolean), Cond.methodLink RX8 178 yX5_isMade, Cond.instanceMethod yX5_isMade, Cond.selects RX5 yX5_isMade yX5_isMade, Cond.initialized RX5, Cond.code yX5_isMade cX5_isMade 1 (some .boolean), Cond.fieldLink RX5 27 "CardBand$Threading" "colours" "I", Cond.methodLink RX8 221 yX6_packsStandAlike, Cond.static yX6_packsStandAlike, Cond.initialized RX6, Cond.code yX6_packsStandAlike cX6_packsStandAlike 4 (some .boolean), Cond.fieldLink RX6 9 "CardBand$Threading" "cards" "I", Cond.fieldLink RX6 51 "CardBand$Threading" "packOf" "[I", Cond.fieldLink RX6 31 "CardBand$Weave" "stands" "[I", Cond.methodLink RX6 54 yX6_standOf, Cond.static yX6_standOf, Cond.code yX6_standOf cX6_standOf 3 (some .int)]
def wsX8_home_r2 : List Cond := [Cond.methodLink RX6 25 yX6_firstCardOf, Cond.static yX6_firstCardOf, Cond.code yX6_firstCardOf cX6_firstCardOf 3 (some .int), Cond.methodLink RX6 15 yX5_isInPack, Cond.instanceMethod yX5_isInPack, Cond.selects RX5 yX5_isInPack yX5_isInPack, Cond.code yX5_isInPack cX5_isInPack 3 (some .boolean), Cond.fieldLink RX5 18 "CardBand$Threading" "packOf" "[I", Cond.methodLink RX8 225 yX6_countHome, Cond.static yX6_countHome, Cond.code yX6_countHome cX6_countHome 5 (some .int), Cond.fieldLink RX6 34 "CardBand$Threading" "packs" "I", Cond.methodLink RX6 57 Lib.Math.min.name, Cond.static Lib.Math.min.name, Cond.initialized "java/lang/Math", Cond.code Lib.Math.min.name Lib.Math.min.code 2 (some .int), Cond.methodLink RX6 47 Lib.Math.max.name, Cond.static Lib.Math.max.name, Cond.code Lib.Math.max.name Lib.Math.max.code 2 (some .int), Cond.methodLink RX8 228 yX6_firstHome, Cond.static yX6_firstHome, Cond.code yX6_firstHome cX6_firstHome 6 (some .int)]
def wsX8_home : List Cond := .code yX8_home cX8_home 2 (some .int) :: ((wsX8_home_r1 ++ wsX8_home_r2) ++ wsX80 ++ wsX50 ++ wsX70)
def wsX8_together_r1 : List Cond := [Cond.fieldLink RX8 49 "CardBand" "threading" "LCardBand$Threading;", Cond.constant RX8 136 (-1000000001), Cond.constant RX8 57 (-1000000002), Cond.constant RX8 185 (-1000000003), Cond.fieldLink RX8 19 "CardBand" "weave" "LCardBand$Weave;", Cond.methodLink RX8 231 yX5_hasCards, Cond.instanceMethod yX5_hasCards, Cond.selects RX5 yX5_hasCards yX5_hasCards, Cond.initialized RX5, Cond.code yX5_hasCards cX5_hasCards 2 (some .boolean), Cond.fieldLink RX5 31 "CardBand$Threading" "cards" "I", Cond.methodLink RX8 166 yX5_hasColour, Cond.instanceMethod yX5_hasColour, Cond.selects RX5 yX5_hasColour yX5_hasColour, Cond.code yX5_hasColour cX5_hasColour 2 (some .boolean), Cond.fieldLink RX5 27 "CardBand$Threading" "colours" "I", Cond.methodLink RX8 206 yX8_isHowOrMoves, Cond.static yX8_isHowOrMoves, Cond.initialized RX8, Cond.code yX8_isHowOrMoves cX8_isHowOrMoves 1 (some .boolean), Cond.methodLink RX8 178 yX5_isMade, Cond.instanceMethod yX5_isMade, Cond.selects RX5 yX5_isMade yX5_isMade, Cond.code yX5_isMade cX5_isMade 1 (some .boolean)]
def wsX8_together_r2 : List Cond := [Cond.methodLink RX8 234 yX6_countTogether, Cond.static yX6_countTogether, Cond.initialized RX6, Cond.code yX6_countTogether cX6_countTogether 6 (some .int), Cond.fieldLink RX6 60 "CardBand$Threading" "cardsInPacks" "I", Cond.fieldLink RX6 34 "CardBand$Threading" "packs" "I", Cond.fieldLink RX6 67 "CardBand$Threading" "packSets" "[I", Cond.methodLink RX6 47 Lib.Math.max.name, Cond.static Lib.Math.max.name, Cond.initialized "java/lang/Math", Cond.code Lib.Math.max.name Lib.Math.max.code 2 (some .int), Cond.methodLink RX6 63 yX6_showNow, Cond.static yX6_showNow, Cond.code yX6_showNow cX6_showNow 5 (some .boolean), Cond.fieldLink RX6 9 "CardBand$Threading" "cards" "I", Cond.fieldLink RX6 78 "CardBand$Weave" "shows" "[I", Cond.methodLink RX6 70 yX6_countForPack, Cond.static yX6_countForPack, Cond.code yX6_countForPack cX6_countForPack 5 (some .int), Cond.methodLink RX6 74 yX6_showAhead, Cond.static yX6_showAhead, Cond.code yX6_showAhead cX6_showAhead 6 (some .boolean), Cond.fieldLink RX6 31 "CardBand$Weave" "stands" "[I", Cond.methodLink RX6 81 yX5_colourAt]
def wsX8_together_r3 : List Cond := [Cond.instanceMethod yX5_colourAt, Cond.selects RX5 yX5_colourAt yX5_colourAt, Cond.code yX5_colourAt cX5_colourAt 3 (some .int), Cond.fieldLink RX5 9 "CardBand$Threading" "holeColours" "[I", Cond.methodLink RX5 46 yX5_indexOf, Cond.static yX5_indexOf, Cond.code yX5_indexOf cX5_indexOf 2 (some .int), Cond.methodLink RX8 238 yX6_firstTogether, Cond.static yX6_firstTogether, Cond.code yX6_firstTogether cX6_firstTogether 9 (some .int), Cond.methodLink RX6 57 Lib.Math.min.name, Cond.static Lib.Math.min.name, Cond.code Lib.Math.min.name Lib.Math.min.code 2 (some .int)]
def wsX8_together : List Cond := .code yX8_together cX8_together 5 (some .int) :: ((wsX8_together_r1 ++ (wsX8_together_r2 ++ wsX8_together_r3)) ++ wsX80 ++ wsX50 ++ wsX70)
def wsX8_repeat : List Cond := .code yX8_repeat cX8_repeat 1 (some .int) :: ([.fieldLink RX8 49 "CardBand" "threading" "LCardBand$Threading;", .constant RX8 185 (-1000000003), .methodLink RX8 178 yX5_isMade, .instanceMethod yX5_isMade, .selects RX5 yX5_isMade yX5_isMade, .initialized RX5, .code yX5_isMade cX5_isMade 1 (some .boolean), .fieldLink RX5 27 "CardBand$Threading" "colours" "I", .methodLink RX8 242 yX5_isSameAfter, .instanceMethod yX5_isSameAfter, .selects RX5 yX5_isSameAfter yX5_isSameAfter, .code yX5_isSameAfter cX5_isSameAfter 4 (some .boolean), .fieldLink RX5 31 "CardBand$Threading" "cards" "I", .methodLink RX5 50 yX5_colourAt, .instanceMethod yX5_colourAt, .selects RX5 yX5_colourAt yX5_colourAt, .code yX5_colourAt cX5_colourAt 3 (some .int), .fieldLink RX5 9 "CardBand$Threading" "holeColours" "[I", .methodLink RX5 46 yX5_indexOf, .static yX5_indexOf, .code yX5_indexOf cX5_indexOf 2 (some .int)] ++ wsX80 ++ wsX50)
def wsX8_floats_r1 : List Cond := [Cond.fieldLink RX8 49 "CardBand" "threading" "LCardBand$Threading;", Cond.fieldLink RX8 19 "CardBand" "weave" "LCardBand$Weave;", Cond.constant RX8 136 (-1000000001), Cond.methodLink RX8 133 yX5_hasCard, Cond.instanceMethod yX5_hasCard, Cond.selects RX5 yX5_hasCard yX5_hasCard, Cond.initialized RX5, Cond.code yX5_hasCard cX5_hasCard 2 (some .boolean), Cond.fieldLink RX5 31 "CardBand$Threading" "cards" "I", Cond.methodLink RX8 245 yX0_findFloat, Cond.static yX0_findFloat, Cond.initialized RX0, Cond.code yX0_findFloat cX0_findFloat 6 (some .int), Cond.methodLink RX0 28 Lib.Math.max.name, Cond.static Lib.Math.max.name, Cond.initialized "java/lang/Math", Cond.code Lib.Math.max.name Lib.Math.max.code 2 (some .int), Cond.methodLink RX0 9 yX7_countRows, Cond.instanceMethod yX7_countRows, Cond.selects RX7 yX7_countRows yX7_countRows, Cond.initialized RX7, Cond.code yX7_countRows cX7_countRows 1 (some .int), Cond.fieldLink RX7 56 "CardBand$Weave" "picks" "I", Cond.methodLink RX7 104 Lib.Math.min.name]
def wsX8_floats_r2 : List Cond := [Cond.static Lib.Math.min.name, Cond.code Lib.Math.min.name Lib.Math.min.code 2 (some .int), Cond.methodLink RX0 21 yX7_showedAt, Cond.instanceMethod yX7_showedAt, Cond.selects RX7 yX7_showedAt yX7_showedAt, Cond.code yX7_showedAt cX7_showedAt 3 (some .int), Cond.fieldLink RX7 33 "CardBand$Weave" "band" "[I", Cond.methodLink RX7 107 yX7_countRows, Cond.methodLink RX7 95 yX7_slotOf, Cond.static yX7_slotOf, Cond.code yX7_slotOf cX7_slotOf 1 (some .int), Cond.methodLink RX7 99 yJ9_floorMod_7cf53, Cond.static yJ9_floorMod_7cf53, Cond.initialized RJ9, Cond.code yJ9_floorMod_7cf53 cJ9_floorMod_7cf53 3 (some .int)]
def wsX8_floats : List Cond := .code yX8_floats cX8_floats 2 (some .int) :: ((wsX8_floats_r1 ++ wsX8_floats_r2) ++ wsX80 ++ wsX50 ++ wsX70)
def wsX8_alike_r1 : List Cond := [Cond.fieldLink RX8 19 "CardBand" "weave" "LCardBand$Weave;", Cond.fieldLink RX8 49 "CardBand" "threading" "LCardBand$Threading;", Cond.fieldLink RX8 85 "CardBand$Threading" "cards" "I", Cond.methodLink RX8 248 yX0_findAlike, Cond.static yX0_findAlike, Cond.initialized RX0, Cond.code yX0_findAlike cX0_findAlike 6 (some .int), Cond.methodLink RX0 50 yX0_showedSame, Cond.static yX0_showedSame, Cond.code yX0_showedSame cX0_showedSame 4 (some .boolean), Cond.methodLink RX0 9 yX7_countRows, Cond.instanceMethod yX7_countRows, Cond.selects RX7 yX7_countRows yX7_countRows, Cond.initialized RX7, Cond.code yX7_countRows cX7_countRows 1 (some .int), Cond.fieldLink RX7 56 "CardBand$Weave" "picks" "I", Cond.methodLink RX7 104 Lib.Math.min.name, Cond.static Lib.Math.min.name, Cond.initialized "java/lang/Math", Cond.code Lib.Math.min.name Lib.Math.min.code 2 (some .int), Cond.methodLink RX0 21 yX7_showedAt, Cond.instanceMethod yX7_showedAt, Cond.selects RX7 yX7_showedAt yX7_showedAt, Cond.code yX7_showedAt cX7_showedAt 3 (some .int)]
def wsX8_alike_r2 : List Cond := [Cond.fieldLink RX7 33 "CardBand$Weave" "band" "[I", Cond.methodLink RX7 107 yX7_countRows, Cond.methodLink RX7 95 yX7_slotOf, Cond.static yX7_slotOf, Cond.code yX7_slotOf cX7_slotOf 1 (some .int), Cond.methodLink RX7 99 yJ9_floorMod_7cf53, Cond.static yJ9_floorMod_7cf53, Cond.initialized RJ9, Cond.code yJ9_floorMod_7cf53 cJ9_floorMod_7cf53 3 (some .int)]
def wsX8_alike : List Cond := .code yX8_alike cX8_alike 2 (some .int) :: ((wsX8_alike_r1 ++ wsX8_alike_r2) ++ wsX80 ++ wsX50 ++ wsX70)
def wsX8_shown_r1 : List Cond := [Cond.fieldLink RX8 49 "CardBand" "threading" "LCardBand$Threading;", Cond.fieldLink RX8 19 "CardBand" "weave" "LCardBand$Weave;", Cond.fieldLink RX8 85 "CardBand$Threading" "cards" "I", Cond.constant RX8 136 (-1000000001), Cond.methodLink RX8 166 yX5_hasColour, Cond.instanceMethod yX5_hasColour, Cond.selects RX5 yX5_hasColour yX5_hasColour, Cond.initialized RX5, Cond.code yX5_hasColour cX5_hasColour 2 (some .boolean), Cond.fieldLink RX5 27 "CardBand$Threading" "colours" "I", Cond.methodLink RX8 252 yX0_countShown, Cond.static yX0_countShown, Cond.initialized RX0, Cond.code yX0_countShown cX0_countShown 6 (some .int), Cond.methodLink RX0 9 yX7_countRows, Cond.instanceMethod yX7_countRows, Cond.selects RX7 yX7_countRows yX7_countRows, Cond.initialized RX7, Cond.code yX7_countRows cX7_countRows 1 (some .int), Cond.fieldLink RX7 56 "CardBand$Weave" "picks" "I", Cond.methodLink RX7 104 Lib.Math.min.name, Cond.static Lib.Math.min.name, Cond.initialized "java/lang/Math", Cond.code Lib.Math.min.name Lib.Math.min.code 2 (some .int)]
def wsX8_shown_r2 : List Cond := [Cond.methodLink RX0 21 yX7_showedAt, Cond.instanceMethod yX7_showedAt, Cond.selects RX7 yX7_showedAt yX7_showedAt, Cond.code yX7_showedAt cX7_showedAt 3 (some .int), Cond.fieldLink RX7 33 "CardBand$Weave" "band" "[I", Cond.methodLink RX7 107 yX7_countRows, Cond.methodLink RX7 95 yX7_slotOf, Cond.static yX7_slotOf, Cond.code yX7_slotOf cX7_slotOf 1 (some .int), Cond.methodLink RX7 99 yJ9_floorMod_7cf53, Cond.static yJ9_floorMod_7cf53, Cond.initialized RJ9, Cond.code yJ9_floorMod_7cf53 cJ9_floorMod_7cf53 3 (some .int)]
def wsX8_shown : List Cond := .code yX8_shown cX8_shown 2 (some .int) :: ((wsX8_shown_r1 ++ wsX8_shown_r2) ++ wsX80 ++ wsX50 ++ wsX70)
def wsX8_turned_r1 : List Cond := [Cond.fieldLink RX8 49 "CardBand" "threading" "LCardBand$Threading;", Cond.constant RX8 136 (-1000000001), Cond.constant RX8 57 (-1000000002), Cond.fieldLink RX8 19 "CardBand" "weave" "LCardBand$Weave;", Cond.constant RX8 185 (-1000000003), Cond.methodLink RX8 133 yX5_hasCard, Cond.instanceMethod yX5_hasCard, Cond.selects RX5 yX5_hasCard yX5_hasCard, Cond.initialized RX5, Cond.code yX5_hasCard cX5_hasCard 2 (some .boolean), Cond.fieldLink RX5 31 "CardBand$Threading" "cards" "I", Cond.methodLink RX8 100 yX7_countRows, Cond.instanceMethod yX7_countRows, Cond.selects RX7 yX7_countRows yX7_countRows, Cond.initialized RX7, Cond.code yX7_countRows cX7_countRows 1 (some .int), Cond.fieldLink RX7 56 "CardBand$Weave" "picks" "I", Cond.methodLink RX7 104 Lib.Math.min.name, Cond.static Lib.Math.min.name, Cond.initialized "java/lang/Math", Cond.code Lib.Math.min.name Lib.Math.min.code 2 (some .int), Cond.methodLink RX8 172 yX7_showedAt, Cond.instanceMethod yX7_showedAt, Cond.selects RX7 yX7_showedAt yX7_showedAt]
def wsX8_turned_r2 : List Cond := [Cond.code yX7_showedAt cX7_showedAt 3 (some .int), Cond.fieldLink RX7 33 "CardBand$Weave" "band" "[I", Cond.methodLink RX7 107 yX7_countRows, Cond.methodLink RX7 95 yX7_slotOf, Cond.static yX7_slotOf, Cond.code yX7_slotOf cX7_slotOf 1 (some .int), Cond.methodLink RX7 99 yJ9_floorMod_7cf53, Cond.static yJ9_floorMod_7cf53, Cond.initialized RJ9, Cond.code yJ9_floorMod_7cf53 cJ9_floorMod_7cf53 3 (some .int), Cond.methodLink RX8 255 yX0_findTurns, Cond.static yX0_findTurns, Cond.initialized RX0, Cond.code yX0_findTurns cX0_findTurns 7 (some .int), Cond.methodLink RX0 53 yX5_colourAt, Cond.instanceMethod yX5_colourAt, Cond.selects RX5 yX5_colourAt yX5_colourAt, Cond.code yX5_colourAt cX5_colourAt 3 (some .int), Cond.fieldLink RX5 9 "CardBand$Threading" "holeColours" "[I", Cond.methodLink RX5 46 yX5_indexOf, Cond.static yX5_indexOf, Cond.code yX5_indexOf cX5_indexOf 2 (some .int)]
def wsX8_turned : List Cond := .code yX8_turned cX8_turned 3 (some .int) :: ((wsX8_turned_r1 ++ wsX8_turned_r2) ++ wsX80 ++ wsX50 ++ wsX70)
def wsX8_share : List Cond := .code yX8_share cX8_share 3 (some .int) :: ([.fieldLink RX8 49 "CardBand" "threading" "LCardBand$Threading;", .constant RX8 136 (-1000000001), .constant RX8 57 (-1000000002), .methodLink RX8 166 yX5_hasColour, .instanceMethod yX5_hasColour, .selects RX5 yX5_hasColour yX5_hasColour, .initialized RX5, .code yX5_hasColour cX5_hasColour 2 (some .boolean), .fieldLink RX5 27 "CardBand$Threading" "colours" "I", .methodLink RX8 259 yX5_countLeftOver, .instanceMethod yX5_countLeftOver, .selects RX5 yX5_countLeftOver yX5_countLeftOver, .code yX5_countLeftOver cX5_countLeftOver 4 (some .int), .methodLink RX5 53 yX5_shareOf, .instanceMethod yX5_shareOf, .selects RX5 yX5_shareOf yX5_shareOf, .code yX5_shareOf cX5_shareOf 5 (some .int), .fieldLink RX5 31 "CardBand$Threading" "cards" "I", .fieldLink RX5 9 "CardBand$Threading" "holeColours" "[I", .methodLink RX8 262 yX5_shareOf] ++ wsX80 ++ wsX50)
def wsX8_plain : List Cond := .code yX8_plain cX8_plain 6 (some .int) :: ([.constant RX8 57 (-1000000002), .constantLong RX8 265 (1000000000), .constantLong RX8 267 (100)])
def wsX8_see_r1 : List Cond := [Cond.fieldLink RX8 49 "CardBand" "threading" "LCardBand$Threading;", Cond.constant RX8 136 (-1000000001), Cond.constant RX8 57 (-1000000002), Cond.fieldLink RX8 36 "CardBand" "notes" "LCardBand$Notes;", Cond.fieldLink RX8 124 "CardBand$Notes" "seenCount" "I", Cond.constant RX8 62 (-1000000004), Cond.methodLink RX8 133 yX5_hasCard, Cond.instanceMethod yX5_hasCard, Cond.selects RX5 yX5_hasCard yX5_hasCard, Cond.initialized RX5, Cond.code yX5_hasCard cX5_hasCard 2 (some .boolean), Cond.fieldLink RX5 31 "CardBand$Threading" "cards" "I", Cond.methodLink RX8 166 yX5_hasColour, Cond.instanceMethod yX5_hasColour, Cond.selects RX5 yX5_hasColour yX5_hasColour, Cond.code yX5_hasColour cX5_hasColour 2 (some .boolean), Cond.fieldLink RX5 27 "CardBand$Threading" "colours" "I", Cond.methodLink RX8 269 yX3_addSeen, Cond.instanceMethod yX3_addSeen, Cond.selects RX3 yX3_addSeen yX3_addSeen, Cond.initialized RX3, Cond.code yX3_addSeen cX3_addSeen 4 (some .boolean), Cond.fieldLink RX3 27 "CardBand$Notes" "seenCount" "I", Cond.fieldLink RX3 9 "CardBand$Notes" "seenCards" "[I"]
def wsX8_see_r2 : List Cond := [Cond.fieldLink RX3 15 "CardBand$Notes" "seenTurns" "[I", Cond.fieldLink RX3 18 "CardBand$Notes" "seenColours" "[I"]
def wsX8_see : List Cond := .code yX8_see cX8_see 4 (some .int) :: ((wsX8_see_r1 ++ wsX8_see_r2) ++ wsX80 ++ wsX30 ++ wsX50)
def wsX8_holes_r1 : List Cond := [Cond.fieldLink RX8 49 "CardBand" "threading" "LCardBand$Threading;", Cond.fieldLink RX8 36 "CardBand" "notes" "LCardBand$Notes;", Cond.constant RX8 136 (-1000000001), Cond.methodLink RX8 133 yX5_hasCard, Cond.instanceMethod yX5_hasCard, Cond.selects RX5 yX5_hasCard yX5_hasCard, Cond.initialized RX5, Cond.code yX5_hasCard cX5_hasCard 2 (some .boolean), Cond.fieldLink RX5 31 "CardBand$Threading" "cards" "I", Cond.methodLink RX8 273 yX3_findHoles, Cond.instanceMethod yX3_findHoles, Cond.selects RX3 yX3_findHoles yX3_findHoles, Cond.initialized RX3, Cond.code yX3_findHoles cX3_findHoles 5 (some .int), Cond.fieldLink RX3 27 "CardBand$Notes" "seenCount" "I", Cond.fieldLink RX3 9 "CardBand$Notes" "seenCards" "[I", Cond.fieldLink RX3 15 "CardBand$Notes" "seenTurns" "[I", Cond.fieldLink RX3 18 "CardBand$Notes" "seenColours" "[I", Cond.methodLink RX3 39 yX3_holesThatShow, Cond.static yX3_holesThatShow, Cond.code yX3_holesThatShow cX3_holesThatShow 6 (some .int), Cond.methodLink RX3 43 yX5_colourAt, Cond.instanceMethod yX5_colourAt, Cond.selects RX5 yX5_colourAt yX5_colourAt]
def wsX8_holes_r2 : List Cond := [Cond.code yX5_colourAt cX5_colourAt 3 (some .int), Cond.fieldLink RX5 9 "CardBand$Threading" "holeColours" "[I", Cond.methodLink RX5 46 yX5_indexOf, Cond.static yX5_indexOf, Cond.code yX5_indexOf cX5_indexOf 2 (some .int)]
def wsX8_holes : List Cond := .code yX8_holes cX8_holes 2 (some .int) :: ((wsX8_holes_r1 ++ wsX8_holes_r2) ++ wsX80 ++ wsX50 ++ wsX30)
def wsX8_lookAt_r1 : List Cond := [Cond.fieldLink RX8 49 "CardBand" "threading" "LCardBand$Threading;", Cond.fieldLink RX8 36 "CardBand" "notes" "LCardBand$Notes;", Cond.constant RX8 136 (-1000000001), Cond.methodLink RX8 133 yX5_hasCard, Cond.instanceMethod yX5_hasCard, Cond.selects RX5 yX5_hasCard yX5_hasCard, Cond.initialized RX5, Cond.code yX5_hasCard cX5_hasCard 2 (some .boolean), Cond.fieldLink RX5 31 "CardBand$Threading" "cards" "I", Cond.methodLink RX8 276 yX3_findLook, Cond.instanceMethod yX3_findLook, Cond.selects RX3 yX3_findLook yX3_findLook, Cond.initialized RX3, Cond.code yX3_findLook cX3_findLook 8 (some .int), Cond.methodLink RX3 49 yX3_findHoles, Cond.instanceMethod yX3_findHoles, Cond.selects RX3 yX3_findHoles yX3_findHoles, Cond.code yX3_findHoles cX3_findHoles 5 (some .int), Cond.fieldLink RX3 27 "CardBand$Notes" "seenCount" "I", Cond.fieldLink RX3 9 "CardBand$Notes" "seenCards" "[I", Cond.fieldLink RX3 15 "CardBand$Notes" "seenTurns" "[I", Cond.fieldLink RX3 18 "CardBand$Notes" "seenColours" "[I", Cond.methodLink RX3 39 yX3_holesThatShow, Cond.static yX3_holesThatShow]
def wsX8_lookAt_r2 : List Cond := [Cond.code yX3_holesThatShow cX3_holesThatShow 6 (some .int), Cond.methodLink RX3 43 yX5_colourAt, Cond.instanceMethod yX5_colourAt, Cond.selects RX5 yX5_colourAt yX5_colourAt, Cond.code yX5_colourAt cX5_colourAt 3 (some .int), Cond.fieldLink RX5 9 "CardBand$Threading" "holeColours" "[I", Cond.methodLink RX5 46 yX5_indexOf, Cond.static yX5_indexOf, Cond.code yX5_indexOf cX5_indexOf 2 (some .int), Cond.methodLink RX3 53 yJ6_bitCount_0f7a4, Cond.static yJ6_bitCount_0f7a4, Cond.initialized RJ6, Cond.code yJ6_bitCount_0f7a4 cJ6_bitCount_0f7a4 1 (some .int), Cond.constant RJ6 265 (1431655765), Cond.constant RJ6 266 (858993459), Cond.constant RJ6 267 (252645135), Cond.methodLink RX3 59 yX3_findGreatestPart, Cond.static yX3_findGreatestPart, Cond.code yX3_findGreatestPart cX3_findGreatestPart 7 (some .int), Cond.fieldLink RX3 62 "CardBand$Threading" "colours" "I", Cond.methodLink RX3 65 Lib.Math.max.name, Cond.static Lib.Math.max.name, Cond.initialized "java/lang/Math", Cond.code Lib.Math.max.name Lib.Math.max.code 2 (some .int)]
def wsX8_lookAt : List Cond := .code yX8_lookAt cX8_lookAt 2 (some .int) :: ((wsX8_lookAt_r1 ++ wsX8_lookAt_r2) ++ wsX80 ++ wsX50 ++ wsX30)
def wsX8_write : List Cond := .code yX8_write cX8_write 3 (some .int) :: ([.fieldLink RX8 49 "CardBand" "threading" "LCardBand$Threading;", .constant RX8 136 (-1000000001), .fieldLink RX8 36 "CardBand" "notes" "LCardBand$Notes;", .fieldLink RX8 127 "CardBand$Notes" "bookCount" "I", .constant RX8 62 (-1000000004), .methodLink RX8 133 yX5_hasCard, .instanceMethod yX5_hasCard, .selects RX5 yX5_hasCard yX5_hasCard, .initialized RX5, .code yX5_hasCard cX5_hasCard 2 (some .boolean), .fieldLink RX5 31 "CardBand$Threading" "cards" "I", .methodLink RX8 166 yX5_hasColour, .instanceMethod yX5_hasColour, .selects RX5 yX5_hasColour yX5_hasColour, .code yX5_hasColour cX5_hasColour 2 (some .boolean), .fieldLink RX5 27 "CardBand$Threading" "colours" "I", .methodLink RX8 279 yX3_addEntry, .instanceMethod yX3_addEntry, .selects RX3 yX3_addEntry yX3_addEntry, .initialized RX3, .code yX3_addEntry cX3_addEntry 3 (some .boolean), .fieldLink RX3 31 "CardBand$Notes" "bookCount" "I", .fieldLink RX3 21 "CardBand$Notes" "bookCards" "[I", .fieldLink RX3 24 "CardBand$Notes" "bookColours" "[I"] ++ wsX80 ++ wsX30 ++ wsX50)
def wsX8_judge : List Cond := .code yX8_judge cX8_judge 1 (some .int) :: ([.fieldLink RX8 36 "CardBand" "notes" "LCardBand$Notes;", .fieldLink RX8 19 "CardBand" "weave" "LCardBand$Weave;", .methodLink RX8 283 yX3_findWrong, .instanceMethod yX3_findWrong, .selects RX3 yX3_findWrong yX3_findWrong, .initialized RX3, .code yX3_findWrong cX3_findWrong 3 (some .int), .fieldLink RX3 31 "CardBand$Notes" "bookCount" "I", .fieldLink RX3 34 "CardBand$Weave" "shows" "[I", .fieldLink RX3 21 "CardBand$Notes" "bookCards" "[I", .fieldLink RX3 24 "CardBand$Notes" "bookColours" "[I"] ++ wsX80 ++ wsX30 ++ wsX70)
def wsX8_tear : List Cond := .code yX8_tear cX8_tear 2 (some .int) :: ([.fieldLink RX8 36 "CardBand" "notes" "LCardBand$Notes;", .fieldLink RX8 124 "CardBand$Notes" "seenCount" "I", .fieldLink RX8 127 "CardBand$Notes" "bookCount" "I", .methodLink RX8 81 yX3_forget, .instanceMethod yX3_forget, .selects RX3 yX3_forget yX3_forget, .initialized RX3, .code yX3_forget cX3_forget 1 none, .fieldLink RX3 27 "CardBand$Notes" "seenCount" "I", .fieldLink RX3 31 "CardBand$Notes" "bookCount" "I"] ++ wsX80 ++ wsX30)
def wsX8_seed : List Cond := .code yX8_seed cX8_seed 3 (some .int) :: ([.constant RX8 57 (-1000000002), .fieldLink RX8 287 "CardBand" "drawn" "J"] ++ wsX80)
def wsX8_imageAt : List Cond := .code yX8_imageAt cX8_imageAt 2 (some (.object "CardBand$Image")) :: ([.fieldLink RX8 42 "CardBand" "images" "[LCardBand$Image;"] ++ wsX80)
def wsX8_keep_r1 : List Cond := [Cond.constant RX8 136 (-1000000001), Cond.fieldLink RX8 295 "CardBand$Image" "weave" "LCardBand$Weave;", Cond.fieldLink RX8 19 "CardBand" "weave" "LCardBand$Weave;", Cond.fieldLink RX8 287 "CardBand" "drawn" "J", Cond.fieldLink RX8 299 "CardBand$Image" "drawn" "J", Cond.fieldLink RX8 300 "CardBand$Image" "kept" "Z", Cond.fieldLink RX8 29 "CardBand" "deeds" "LCardBand$Deeds;", Cond.methodLink RX8 291 yX8_imageAt, Cond.instanceMethod yX8_imageAt, Cond.selects RX8 yX8_imageAt yX8_imageAt, Cond.initialized RX8, Cond.code yX8_imageAt cX8_imageAt 2 (some (.object "CardBand$Image")), Cond.fieldLink RX8 42 "CardBand" "images" "[LCardBand$Image;", Cond.methodLink RX8 296 yX7_become, Cond.instanceMethod yX7_become, Cond.selects RX7 yX7_become yX7_become, Cond.initialized RX7, Cond.code yX7_become cX7_become 2 none, Cond.fieldLink RX7 9 "CardBand$Weave" "ways" "[I", Cond.methodLink RX7 41 arraycopyName, Cond.native arraycopyName, Cond.static arraycopyName, Cond.initialized "java/lang/System", Cond.fieldLink RX7 15 "CardBand$Weave" "stands" "[I"]
def wsX8_keep_r2 : List Cond := [Cond.fieldLink RX7 18 "CardBand$Weave" "twists" "[I", Cond.fieldLink RX7 21 "CardBand$Weave" "shows" "[I", Cond.fieldLink RX7 24 "CardBand$Weave" "slants" "[I", Cond.fieldLink RX7 27 "CardBand$Weave" "yarns" "[I", Cond.fieldLink RX7 33 "CardBand$Weave" "band" "[I", Cond.fieldLink RX7 56 "CardBand$Weave" "picks" "I", Cond.methodLink RX8 78 yX1_forget, Cond.instanceMethod yX1_forget, Cond.selects RX1 yX1_forget yX1_forget, Cond.initialized RX1, Cond.code yX1_forget cX1_forget 1 none, Cond.fieldLink RX1 18 "CardBand$Deeds" "count" "I"]
def wsX8_keep : List Cond := .code yX8_keep cX8_keep 3 (some .int) :: ((wsX8_keep_r1 ++ wsX8_keep_r2) ++ wsX20 ++ wsX80 ++ wsX70 ++ wsX10)
def wsX8_goBack_r1 : List Cond := [Cond.constant RX8 136 (-1000000001), Cond.fieldLink RX8 300 "CardBand$Image" "kept" "Z", Cond.constant RX8 185 (-1000000003), Cond.fieldLink RX8 19 "CardBand" "weave" "LCardBand$Weave;", Cond.fieldLink RX8 295 "CardBand$Image" "weave" "LCardBand$Weave;", Cond.fieldLink RX8 299 "CardBand$Image" "drawn" "J", Cond.fieldLink RX8 287 "CardBand" "drawn" "J", Cond.fieldLink RX8 29 "CardBand" "deeds" "LCardBand$Deeds;", Cond.methodLink RX8 291 yX8_imageAt, Cond.instanceMethod yX8_imageAt, Cond.selects RX8 yX8_imageAt yX8_imageAt, Cond.initialized RX8, Cond.code yX8_imageAt cX8_imageAt 2 (some (.object "CardBand$Image")), Cond.fieldLink RX8 42 "CardBand" "images" "[LCardBand$Image;", Cond.methodLink RX8 296 yX7_become, Cond.instanceMethod yX7_become, Cond.selects RX7 yX7_become yX7_become, Cond.initialized RX7, Cond.code yX7_become cX7_become 2 none, Cond.fieldLink RX7 9 "CardBand$Weave" "ways" "[I", Cond.methodLink RX7 41 arraycopyName, Cond.native arraycopyName, Cond.static arraycopyName, Cond.initialized "java/lang/System"]
def wsX8_goBack_r2 : List Cond := [Cond.fieldLink RX7 15 "CardBand$Weave" "stands" "[I", Cond.fieldLink RX7 18 "CardBand$Weave" "twists" "[I", Cond.fieldLink RX7 21 "CardBand$Weave" "shows" "[I", Cond.fieldLink RX7 24 "CardBand$Weave" "slants" "[I", Cond.fieldLink RX7 27 "CardBand$Weave" "yarns" "[I", Cond.fieldLink RX7 33 "CardBand$Weave" "band" "[I", Cond.fieldLink RX7 56 "CardBand$Weave" "picks" "I", Cond.methodLink RX8 78 yX1_forget, Cond.instanceMethod yX1_forget, Cond.selects RX1 yX1_forget yX1_forget, Cond.initialized RX1, Cond.code yX1_forget cX1_forget 1 none, Cond.fieldLink RX1 18 "CardBand$Deeds" "count" "I"]
def wsX8_goBack : List Cond := .code yX8_goBack cX8_goBack 3 (some .int) :: ((wsX8_goBack_r1 ++ wsX8_goBack_r2) ++ wsX20 ++ wsX80 ++ wsX70 ++ wsX10)
def wsX9_init : List Cond := .code yX9_init cX9_init 1 none :: ([.methodLink RX9 1 objectInit, .instanceMethod objectInit, .code objectInit ⟨#[0xb1]⟩ 1 none, .arrayClass .int, .fieldLink RX9 7 "CardBandModel" "w" "[I", .arrayClass .boolean, .fieldLink RX9 13 "CardBandModel" "isKept" "[Z", .fieldLink RX9 17 "CardBandModel" "hole" "[I", .fieldLink RX9 20 "CardBandModel" "threaded" "[I", .fieldLink RX9 23 "CardBandModel" "pack" "[I", .fieldLink RX9 26 "CardBandModel" "newYarn" "[I", .fieldLink RX9 29 "CardBandModel" "text" "[I", .fieldLink RX9 32 "CardBandModel" "fault" "I", .fieldLink RX9 36 "CardBandModel" "far" "[I", .fieldLink RX9 39 "CardBandModel" "seenCard" "[I", .fieldLink RX9 42 "CardBandModel" "seenTurns" "[I", .fieldLink RX9 45 "CardBandModel" "seenColour" "[I", .fieldLink RX9 48 "CardBandModel" "bookOf" "[I", .fieldLink RX9 51 "CardBandModel" "bookColour" "[I"] ++ wsX90)
def wsX9_in : List Cond := .code yX9_in cX9_in 6 (some .boolean) :: ([])
def wsX9_most : List Cond := .code yX9_most cX9_most 2 (some .int) :: ([])
def wsX9_least : List Cond := .code yX9_least cX9_least 2 (some .int) :: ([])
def wsX9_size : List Cond := .code yX9_size cX9_size 1 (some .int) :: ([])
def wsX9_has : List Cond := .code yX9_has cX9_has 2 (some .boolean) :: ([])
def wsX9_one : List Cond := .code yX9_one cX9_one 1 (some .int) :: ([])
def wsX9_feed : List Cond := .code yX9_feed cX9_feed 2 (some .int) :: ([.constantLong RX9 54 (255), .constant RX9 60 (-1000000002), .fieldLink RX9 61 "CardBandModel" "textSize" "I", .constant RX9 64 (-1000000004), .fieldLink RX9 29 "CardBandModel" "text" "[I", .methodLink RX9 56 yX9_in, .static yX9_in, .initialized RX9, .code yX9_in cX9_in 6 (some .boolean)] ++ wsX90)
def wsX9_here : List Cond := .code yX9_here cX9_here 1 (some .int) :: ([.fieldLink RX9 65 "CardBandModel" "at" "I", .fieldLink RX9 61 "CardBandModel" "textSize" "I", .fieldLink RX9 29 "CardBandModel" "text" "[I"] ++ wsX90)
def wsX9_want : List Cond := .code yX9_want cX9_want 4 (some .boolean) :: ([.fieldLink RX9 68 "CardBandModel" "faultOf" "I", .fieldLink RX9 32 "CardBandModel" "fault" "I"] ++ wsX90)
def wsX9_takeNumber : List Cond := .code yX9_takeNumber cX9_takeNumber 4 (some .int) :: ([.fieldLink RX9 68 "CardBandModel" "faultOf" "I", .fieldLink RX9 65 "CardBandModel" "at" "I", .fieldLink RX9 75 "CardBandModel" "first" "I", .constantLong RX9 78 (48), .constantLong RX9 80 (57), .fieldLink RX9 61 "CardBandModel" "textSize" "I", .fieldLink RX9 29 "CardBandModel" "text" "[I", .constant RX9 86 (99999), .methodLink RX9 71 yX9_here, .instanceMethod yX9_here, .selects RX9 yX9_here yX9_here, .initialized RX9, .code yX9_here cX9_here 1 (some .int), .methodLink RX9 56 yX9_in, .static yX9_in, .code yX9_in cX9_in 6 (some .boolean), .methodLink RX9 82 yX9_want, .instanceMethod yX9_want, .selects RX9 yX9_want yX9_want, .code yX9_want cX9_want 4 (some .boolean), .fieldLink RX9 32 "CardBandModel" "fault" "I"] ++ wsX90)
def wsX9_takeIn_r1 : List Cond := [Cond.fieldLink RX9 68 "CardBandModel" "faultOf" "I", Cond.fieldLink RX9 75 "CardBandModel" "first" "I", Cond.methodLink RX9 87 yX9_takeNumber, Cond.instanceMethod yX9_takeNumber, Cond.selects RX9 yX9_takeNumber yX9_takeNumber, Cond.initialized RX9, Cond.code yX9_takeNumber cX9_takeNumber 4 (some .int), Cond.fieldLink RX9 65 "CardBandModel" "at" "I", Cond.constantLong RX9 78 (48), Cond.constantLong RX9 80 (57), Cond.fieldLink RX9 61 "CardBandModel" "textSize" "I", Cond.fieldLink RX9 29 "CardBandModel" "text" "[I", Cond.constant RX9 86 (99999), Cond.methodLink RX9 71 yX9_here, Cond.instanceMethod yX9_here, Cond.selects RX9 yX9_here yX9_here, Cond.code yX9_here cX9_here 1 (some .int), Cond.methodLink RX9 56 yX9_in, Cond.static yX9_in, Cond.code yX9_in cX9_in 6 (some .boolean), Cond.methodLink RX9 82 yX9_want, Cond.instanceMethod yX9_want, Cond.selects RX9 yX9_want yX9_want, Cond.code yX9_want cX9_want 4 (some .boolean)]
def wsX9_takeIn_r2 : List Cond := [Cond.fieldLink RX9 32 "CardBandModel" "fault" "I"]
def wsX9_takeIn : List Cond := .code yX9_takeIn cX9_takeIn 5 (some .int) :: ((wsX9_takeIn_r1 ++ wsX9_takeIn_r2) ++ wsX90)
def wsX9_takeColours_r1 : List Cond := [Cond.fieldLink RX9 90 "CardBandModel" "newColours" "I", Cond.methodLink RX9 82 yX9_want, Cond.instanceMethod yX9_want, Cond.selects RX9 yX9_want yX9_want, Cond.initialized RX9, Cond.code yX9_want cX9_want 4 (some .boolean), Cond.fieldLink RX9 68 "CardBandModel" "faultOf" "I", Cond.fieldLink RX9 32 "CardBandModel" "fault" "I", Cond.methodLink RX9 93 yX9_takeIn, Cond.instanceMethod yX9_takeIn, Cond.selects RX9 yX9_takeIn yX9_takeIn, Cond.code yX9_takeIn cX9_takeIn 5 (some .int), Cond.fieldLink RX9 75 "CardBandModel" "first" "I", Cond.methodLink RX9 87 yX9_takeNumber, Cond.instanceMethod yX9_takeNumber, Cond.selects RX9 yX9_takeNumber yX9_takeNumber, Cond.code yX9_takeNumber cX9_takeNumber 4 (some .int), Cond.fieldLink RX9 65 "CardBandModel" "at" "I", Cond.constantLong RX9 78 (48), Cond.constantLong RX9 80 (57), Cond.fieldLink RX9 61 "CardBandModel" "textSize" "I", Cond.fieldLink RX9 29 "CardBandModel" "text" "[I", Cond.constant RX9 86 (99999), Cond.methodLink RX9 71 yX9_here]
def wsX9_takeColours_r2 : List Cond := [Cond.instanceMethod yX9_here, Cond.selects RX9 yX9_here yX9_here, Cond.code yX9_here cX9_here 1 (some .int), Cond.methodLink RX9 56 yX9_in, Cond.static yX9_in, Cond.code yX9_in cX9_in 6 (some .boolean)]
def wsX9_takeColours : List Cond := .code yX9_takeColours cX9_takeColours 2 none :: ((wsX9_takeColours_r1 ++ wsX9_takeColours_r2) ++ wsX90)
def wsX9_takeCard_r1 : List Cond := [Cond.fieldLink RX9 97 "CardBandModel" "newCards" "I", Cond.fieldLink RX9 17 "CardBandModel" "hole" "[I", Cond.fieldLink RX9 90 "CardBandModel" "newColours" "I", Cond.fieldLink RX9 20 "CardBandModel" "threaded" "[I", Cond.methodLink RX9 82 yX9_want, Cond.instanceMethod yX9_want, Cond.selects RX9 yX9_want yX9_want, Cond.initialized RX9, Cond.code yX9_want cX9_want 4 (some .boolean), Cond.fieldLink RX9 68 "CardBandModel" "faultOf" "I", Cond.fieldLink RX9 32 "CardBandModel" "fault" "I", Cond.methodLink RX9 93 yX9_takeIn, Cond.instanceMethod yX9_takeIn, Cond.selects RX9 yX9_takeIn yX9_takeIn, Cond.code yX9_takeIn cX9_takeIn 5 (some .int), Cond.fieldLink RX9 75 "CardBandModel" "first" "I", Cond.methodLink RX9 87 yX9_takeNumber, Cond.instanceMethod yX9_takeNumber, Cond.selects RX9 yX9_takeNumber yX9_takeNumber, Cond.code yX9_takeNumber cX9_takeNumber 4 (some .int), Cond.fieldLink RX9 65 "CardBandModel" "at" "I", Cond.constantLong RX9 78 (48), Cond.constantLong RX9 80 (57), Cond.fieldLink RX9 61 "CardBandModel" "textSize" "I"]
def wsX9_takeCard_r2 : List Cond := [Cond.fieldLink RX9 29 "CardBandModel" "text" "[I", Cond.constant RX9 86 (99999), Cond.methodLink RX9 71 yX9_here, Cond.instanceMethod yX9_here, Cond.selects RX9 yX9_here yX9_here, Cond.code yX9_here cX9_here 1 (some .int), Cond.methodLink RX9 56 yX9_in, Cond.static yX9_in, Cond.code yX9_in cX9_in 6 (some .boolean)]
def wsX9_takeCard : List Cond := .code yX9_takeCard cX9_takeCard 3 none :: ((wsX9_takeCard_r1 ++ wsX9_takeCard_r2) ++ wsX90)
def wsX9_takePack_r1 : List Cond := [Cond.fieldLink RX9 100 "CardBandModel" "newPacks" "I", Cond.fieldLink RX9 68 "CardBandModel" "faultOf" "I", Cond.fieldLink RX9 97 "CardBandModel" "newCards" "I", Cond.fieldLink RX9 75 "CardBandModel" "first" "I", Cond.fieldLink RX9 23 "CardBandModel" "pack" "[I", Cond.methodLink RX9 82 yX9_want, Cond.instanceMethod yX9_want, Cond.selects RX9 yX9_want yX9_want, Cond.initialized RX9, Cond.code yX9_want cX9_want 4 (some .boolean), Cond.fieldLink RX9 32 "CardBandModel" "fault" "I", Cond.methodLink RX9 93 yX9_takeIn, Cond.instanceMethod yX9_takeIn, Cond.selects RX9 yX9_takeIn yX9_takeIn, Cond.code yX9_takeIn cX9_takeIn 5 (some .int), Cond.methodLink RX9 87 yX9_takeNumber, Cond.instanceMethod yX9_takeNumber, Cond.selects RX9 yX9_takeNumber yX9_takeNumber, Cond.code yX9_takeNumber cX9_takeNumber 4 (some .int), Cond.fieldLink RX9 65 "CardBandModel" "at" "I", Cond.constantLong RX9 78 (48), Cond.constantLong RX9 80 (57), Cond.fieldLink RX9 61 "CardBandModel" "textSize" "I", Cond.fieldLink RX9 29 "CardBandModel" "text" "[I"]
def wsX9_takePack_r2 : List Cond := [Cond.constant RX9 86 (99999), Cond.methodLink RX9 71 yX9_here, Cond.instanceMethod yX9_here, Cond.selects RX9 yX9_here yX9_here, Cond.code yX9_here cX9_here 1 (some .int), Cond.methodLink RX9 56 yX9_in, Cond.static yX9_in, Cond.code yX9_in cX9_in 6 (some .boolean)]
def wsX9_takePack : List Cond := .code yX9_takePack cX9_takePack 5 none :: ((wsX9_takePack_r1 ++ wsX9_takePack_r2) ++ wsX90)
def wsX9_takeYarn_r1 : List Cond := [Cond.fieldLink RX9 90 "CardBandModel" "newColours" "I", Cond.fieldLink RX9 68 "CardBandModel" "faultOf" "I", Cond.fieldLink RX9 26 "CardBandModel" "newYarn" "[I", Cond.methodLink RX9 93 yX9_takeIn, Cond.instanceMethod yX9_takeIn, Cond.selects RX9 yX9_takeIn yX9_takeIn, Cond.initialized RX9, Cond.code yX9_takeIn cX9_takeIn 5 (some .int), Cond.fieldLink RX9 75 "CardBandModel" "first" "I", Cond.methodLink RX9 87 yX9_takeNumber, Cond.instanceMethod yX9_takeNumber, Cond.selects RX9 yX9_takeNumber yX9_takeNumber, Cond.code yX9_takeNumber cX9_takeNumber 4 (some .int), Cond.fieldLink RX9 65 "CardBandModel" "at" "I", Cond.constantLong RX9 78 (48), Cond.constantLong RX9 80 (57), Cond.fieldLink RX9 61 "CardBandModel" "textSize" "I", Cond.fieldLink RX9 29 "CardBandModel" "text" "[I", Cond.constant RX9 86 (99999), Cond.methodLink RX9 71 yX9_here, Cond.instanceMethod yX9_here, Cond.selects RX9 yX9_here yX9_here, Cond.code yX9_here cX9_here 1 (some .int), Cond.methodLink RX9 56 yX9_in]
def wsX9_takeYarn_r2 : List Cond := [Cond.static yX9_in, Cond.code yX9_in cX9_in 6 (some .boolean), Cond.methodLink RX9 82 yX9_want, Cond.instanceMethod yX9_want, Cond.selects RX9 yX9_want yX9_want, Cond.code yX9_want cX9_want 4 (some .boolean), Cond.fieldLink RX9 32 "CardBandModel" "fault" "I"]
def wsX9_takeYarn : List Cond := .code yX9_takeYarn cX9_takeYarn 3 none :: ((wsX9_takeYarn_r1 ++ wsX9_takeYarn_r2) ++ wsX90)
def wsX9_takeClause_r1 : List Cond := [Cond.fieldLink RX9 65 "CardBandModel" "at" "I", Cond.fieldLink RX9 90 "CardBandModel" "newColours" "I", Cond.methodLink RX9 71 yX9_here, Cond.instanceMethod yX9_here, Cond.selects RX9 yX9_here yX9_here, Cond.initialized RX9, Cond.code yX9_here cX9_here 1 (some .int), Cond.fieldLink RX9 61 "CardBandModel" "textSize" "I", Cond.fieldLink RX9 29 "CardBandModel" "text" "[I", Cond.methodLink RX9 82 yX9_want, Cond.instanceMethod yX9_want, Cond.selects RX9 yX9_want yX9_want, Cond.code yX9_want cX9_want 4 (some .boolean), Cond.fieldLink RX9 68 "CardBandModel" "faultOf" "I", Cond.fieldLink RX9 32 "CardBandModel" "fault" "I", Cond.methodLink RX9 103 yX9_takeColours, Cond.instanceMethod yX9_takeColours, Cond.selects RX9 yX9_takeColours yX9_takeColours, Cond.code yX9_takeColours cX9_takeColours 2 none, Cond.methodLink RX9 93 yX9_takeIn, Cond.instanceMethod yX9_takeIn, Cond.selects RX9 yX9_takeIn yX9_takeIn, Cond.code yX9_takeIn cX9_takeIn 5 (some .int), Cond.fieldLink RX9 75 "CardBandModel" "first" "I"]
def wsX9_takeClause_r2 : List Cond := [Cond.methodLink RX9 87 yX9_takeNumber, Cond.instanceMethod yX9_takeNumber, Cond.selects RX9 yX9_takeNumber yX9_takeNumber, Cond.code yX9_takeNumber cX9_takeNumber 4 (some .int), Cond.constantLong RX9 78 (48), Cond.constantLong RX9 80 (57), Cond.constant RX9 86 (99999), Cond.methodLink RX9 56 yX9_in, Cond.static yX9_in, Cond.code yX9_in cX9_in 6 (some .boolean), Cond.methodLink RX9 107 yX9_takeCard, Cond.instanceMethod yX9_takeCard, Cond.selects RX9 yX9_takeCard yX9_takeCard, Cond.code yX9_takeCard cX9_takeCard 3 none, Cond.fieldLink RX9 97 "CardBandModel" "newCards" "I", Cond.fieldLink RX9 17 "CardBandModel" "hole" "[I", Cond.fieldLink RX9 20 "CardBandModel" "threaded" "[I", Cond.methodLink RX9 110 yX9_takePack, Cond.instanceMethod yX9_takePack, Cond.selects RX9 yX9_takePack yX9_takePack, Cond.code yX9_takePack cX9_takePack 5 none, Cond.fieldLink RX9 100 "CardBandModel" "newPacks" "I", Cond.fieldLink RX9 23 "CardBandModel" "pack" "[I", Cond.methodLink RX9 113 yX9_takeYarn]
def wsX9_takeClause_r3 : List Cond := [Cond.instanceMethod yX9_takeYarn, Cond.selects RX9 yX9_takeYarn yX9_takeYarn, Cond.code yX9_takeYarn cX9_takeYarn 3 none, Cond.fieldLink RX9 26 "CardBandModel" "newYarn" "[I"]
def wsX9_takeClause : List Cond := .code yX9_takeClause cX9_takeClause 4 none :: ((wsX9_takeClause_r1 ++ (wsX9_takeClause_r2 ++ wsX9_takeClause_r3)) ++ wsX90)
def wsX9_take : List Cond := .code yX9_take cX9_take 3 none :: ([.fieldLink RX9 90 "CardBandModel" "newColours" "I", .fieldLink RX9 125 "CardBandModel" "colours" "I", .fieldLink RX9 97 "CardBandModel" "newCards" "I", .fieldLink RX9 122 "CardBandModel" "cards" "I", .fieldLink RX9 100 "CardBandModel" "newPacks" "I", .fieldLink RX9 128 "CardBandModel" "packs" "I", .fieldLink RX9 7 "CardBandModel" "w" "[I", .fieldLink RX9 17 "CardBandModel" "hole" "[I", .fieldLink RX9 20 "CardBandModel" "threaded" "[I", .fieldLink RX9 23 "CardBandModel" "pack" "[I", .fieldLink RX9 26 "CardBandModel" "newYarn" "[I", .fieldLink RX9 131 "CardBandModel" "seen" "I", .fieldLink RX9 134 "CardBandModel" "written" "I", .fieldLink RX9 137 "CardBandModel" "undoMany" "I", .fieldLink RX9 13 "CardBandModel" "isKept" "[Z"] ++ wsX90)
def wsX9_loom_r1 : List Cond := [Cond.fieldLink RX9 65 "CardBandModel" "at" "I", Cond.fieldLink RX9 68 "CardBandModel" "faultOf" "I", Cond.fieldLink RX9 32 "CardBandModel" "fault" "I", Cond.fieldLink RX9 90 "CardBandModel" "newColours" "I", Cond.fieldLink RX9 97 "CardBandModel" "newCards" "I", Cond.fieldLink RX9 100 "CardBandModel" "newPacks" "I", Cond.fieldLink RX9 26 "CardBandModel" "newYarn" "[I", Cond.fieldLink RX9 61 "CardBandModel" "textSize" "I", Cond.fieldLink RX9 122 "CardBandModel" "cards" "I", Cond.methodLink RX9 71 yX9_here, Cond.instanceMethod yX9_here, Cond.selects RX9 yX9_here yX9_here, Cond.initialized RX9, Cond.code yX9_here cX9_here 1 (some .int), Cond.fieldLink RX9 29 "CardBandModel" "text" "[I", Cond.methodLink RX9 116 yX9_takeClause, Cond.instanceMethod yX9_takeClause, Cond.selects RX9 yX9_takeClause yX9_takeClause, Cond.code yX9_takeClause cX9_takeClause 4 none, Cond.methodLink RX9 82 yX9_want, Cond.instanceMethod yX9_want, Cond.selects RX9 yX9_want yX9_want, Cond.code yX9_want cX9_want 4 (some .boolean), Cond.methodLink RX9 103 yX9_takeColours]
def wsX9_loom_r2 : List Cond := [Cond.instanceMethod yX9_takeColours, Cond.selects RX9 yX9_takeColours yX9_takeColours, Cond.code yX9_takeColours cX9_takeColours 2 none, Cond.methodLink RX9 93 yX9_takeIn, Cond.instanceMethod yX9_takeIn, Cond.selects RX9 yX9_takeIn yX9_takeIn, Cond.code yX9_takeIn cX9_takeIn 5 (some .int), Cond.fieldLink RX9 75 "CardBandModel" "first" "I", Cond.methodLink RX9 87 yX9_takeNumber, Cond.instanceMethod yX9_takeNumber, Cond.selects RX9 yX9_takeNumber yX9_takeNumber, Cond.code yX9_takeNumber cX9_takeNumber 4 (some .int), Cond.constantLong RX9 78 (48), Cond.constantLong RX9 80 (57), Cond.constant RX9 86 (99999), Cond.methodLink RX9 56 yX9_in, Cond.static yX9_in, Cond.code yX9_in cX9_in 6 (some .boolean), Cond.methodLink RX9 107 yX9_takeCard, Cond.instanceMethod yX9_takeCard, Cond.selects RX9 yX9_takeCard yX9_takeCard, Cond.code yX9_takeCard cX9_takeCard 3 none, Cond.fieldLink RX9 17 "CardBandModel" "hole" "[I", Cond.fieldLink RX9 20 "CardBandModel" "threaded" "[I"]
def wsX9_loom_r3 : List Cond := [Cond.methodLink RX9 110 yX9_takePack, Cond.instanceMethod yX9_takePack, Cond.selects RX9 yX9_takePack yX9_takePack, Cond.code yX9_takePack cX9_takePack 5 none, Cond.fieldLink RX9 23 "CardBandModel" "pack" "[I", Cond.methodLink RX9 113 yX9_takeYarn, Cond.instanceMethod yX9_takeYarn, Cond.selects RX9 yX9_takeYarn yX9_takeYarn, Cond.code yX9_takeYarn cX9_takeYarn 3 none, Cond.methodLink RX9 119 yX9_take, Cond.instanceMethod yX9_take, Cond.selects RX9 yX9_take yX9_take, Cond.code yX9_take cX9_take 3 none, Cond.fieldLink RX9 125 "CardBandModel" "colours" "I", Cond.fieldLink RX9 128 "CardBandModel" "packs" "I", Cond.fieldLink RX9 7 "CardBandModel" "w" "[I", Cond.fieldLink RX9 131 "CardBandModel" "seen" "I", Cond.fieldLink RX9 134 "CardBandModel" "written" "I", Cond.fieldLink RX9 137 "CardBandModel" "undoMany" "I", Cond.fieldLink RX9 13 "CardBandModel" "isKept" "[Z"]
def wsX9_loom : List Cond := .code yX9_loom cX9_loom 2 (some .int) :: ((wsX9_loom_r1 ++ (wsX9_loom_r2 ++ wsX9_loom_r3)) ++ wsX90)
def wsX9_fault : List Cond := .code yX9_fault cX9_fault 1 (some .int) :: ([.fieldLink RX9 32 "CardBandModel" "fault" "I"] ++ wsX90)
def wsX9_isCard : List Cond := .code yX9_isCard cX9_isCard 2 (some .boolean) :: ([.fieldLink RX9 122 "CardBandModel" "cards" "I", .methodLink RX9 56 yX9_in, .static yX9_in, .initialized RX9, .code yX9_in cX9_in 6 (some .boolean)] ++ wsX90)
def wsX9_isColour : List Cond := .code yX9_isColour cX9_isColour 2 (some .boolean) :: ([.fieldLink RX9 125 "CardBandModel" "colours" "I", .methodLink RX9 56 yX9_in, .static yX9_in, .initialized RX9, .code yX9_in cX9_in 6 (some .boolean)] ++ wsX90)
def wsX9_isLoom : List Cond := .code yX9_isLoom cX9_isLoom 1 (some .boolean) :: ([.fieldLink RX9 125 "CardBandModel" "colours" "I"] ++ wsX90)
def wsX9_colourOf : List Cond := .code yX9_colourOf cX9_colourOf 3 (some .int) :: ([.fieldLink RX9 17 "CardBandModel" "hole" "[I"] ++ wsX90)
def wsX9_packOf : List Cond := .code yX9_packOf cX9_packOf 4 (some .int) :: ([.fieldLink RX9 128 "CardBandModel" "packs" "I", .fieldLink RX9 23 "CardBandModel" "pack" "[I", .methodLink RX9 140 yX9_has, .static yX9_has, .initialized RX9, .code yX9_has cX9_has 2 (some .boolean)] ++ wsX90)
def wsX9_was : List Cond := .code yX9_was cX9_was 3 (some .int) :: ([.fieldLink RX9 7 "CardBandModel" "w" "[I"] ++ wsX90)
def wsX9_mirrored : List Cond := .code yX9_mirrored cX9_mirrored 5 (some .int) :: ([.fieldLink RX9 7 "CardBandModel" "w" "[I", .fieldLink RX9 122 "CardBandModel" "cards" "I", .methodLink RX9 144 yX9_was, .instanceMethod yX9_was, .selects RX9 yX9_was yX9_was, .initialized RX9, .code yX9_was cX9_was 3 (some .int), .methodLink RX9 147 yX9_one, .static yX9_one, .code yX9_one cX9_one 1 (some .int)] ++ wsX90)
def wsX9_isPeriod : List Cond := .code yX9_isPeriod cX9_isPeriod 5 (some .boolean) :: ([.fieldLink RX9 7 "CardBandModel" "w" "[I", .fieldLink RX9 122 "CardBandModel" "cards" "I", .methodLink RX9 144 yX9_was, .instanceMethod yX9_was, .selects RX9 yX9_was yX9_was, .initialized RX9, .code yX9_was cX9_was 3 (some .int)] ++ wsX90)
def wsX9_period : List Cond := .code yX9_period cX9_period 2 (some .int) :: ([.fieldLink RX9 7 "CardBandModel" "w" "[I", .methodLink RX9 151 yX9_isPeriod, .instanceMethod yX9_isPeriod, .selects RX9 yX9_isPeriod yX9_isPeriod, .initialized RX9, .code yX9_isPeriod cX9_isPeriod 5 (some .boolean), .fieldLink RX9 122 "CardBandModel" "cards" "I", .methodLink RX9 144 yX9_was, .instanceMethod yX9_was, .selects RX9 yX9_was yX9_was, .code yX9_was cX9_was 3 (some .int)] ++ wsX90)
def wsX9_floatOf : List Cond := .code yX9_floatOf cX9_floatOf 6 (some .int) :: ([.fieldLink RX9 7 "CardBandModel" "w" "[I", .methodLink RX9 144 yX9_was, .instanceMethod yX9_was, .selects RX9 yX9_was yX9_was, .initialized RX9, .code yX9_was cX9_was 3 (some .int), .methodLink RX9 155 yX9_most, .static yX9_most, .code yX9_most cX9_most 2 (some .int)] ++ wsX90)
def wsX9_longest : List Cond := .code yX9_longest cX9_longest 5 (some .int) :: ([.fieldLink RX9 122 "CardBandModel" "cards" "I", .fieldLink RX9 7 "CardBandModel" "w" "[I", .methodLink RX9 158 yX9_floatOf, .instanceMethod yX9_floatOf, .selects RX9 yX9_floatOf yX9_floatOf, .initialized RX9, .code yX9_floatOf cX9_floatOf 6 (some .int), .methodLink RX9 144 yX9_was, .instanceMethod yX9_was, .selects RX9 yX9_was yX9_was, .code yX9_was cX9_was 3 (some .int), .methodLink RX9 155 yX9_most, .static yX9_most, .code yX9_most cX9_most 2 (some .int)] ++ wsX90)
def wsX9_shownOf : List Cond := .code yX9_shownOf cX9_shownOf 5 (some .int) :: ([.fieldLink RX9 7 "CardBandModel" "w" "[I", .fieldLink RX9 122 "CardBandModel" "cards" "I", .methodLink RX9 144 yX9_was, .instanceMethod yX9_was, .selects RX9 yX9_was yX9_was, .initialized RX9, .code yX9_was cX9_was 3 (some .int), .methodLink RX9 147 yX9_one, .static yX9_one, .code yX9_one cX9_one 1 (some .int)] ++ wsX90)
def wsX9_mostShown : List Cond := .code yX9_mostShown cX9_mostShown 5 (some .int) :: ([.fieldLink RX9 125 "CardBandModel" "colours" "I", .methodLink RX9 162 yX9_shownOf, .instanceMethod yX9_shownOf, .selects RX9 yX9_shownOf yX9_shownOf, .initialized RX9, .code yX9_shownOf cX9_shownOf 5 (some .int), .fieldLink RX9 7 "CardBandModel" "w" "[I", .fieldLink RX9 122 "CardBandModel" "cards" "I", .methodLink RX9 144 yX9_was, .instanceMethod yX9_was, .selects RX9 yX9_was yX9_was, .code yX9_was cX9_was 3 (some .int), .methodLink RX9 147 yX9_one, .static yX9_one, .code yX9_one cX9_one 1 (some .int), .methodLink RX9 155 yX9_most, .static yX9_most, .code yX9_most cX9_most 2 (some .int)] ++ wsX90)
def wsX9_allYarn : List Cond := .code yX9_allYarn cX9_allYarn 3 (some .int) :: ([.fieldLink RX9 7 "CardBandModel" "w" "[I"] ++ wsX90)
def wsX9_told_r1 : List Cond := [Cond.fieldLink RX9 125 "CardBandModel" "colours" "I", Cond.fieldLink RX9 122 "CardBandModel" "cards" "I", Cond.fieldLink RX9 128 "CardBandModel" "packs" "I", Cond.fieldLink RX9 61 "CardBandModel" "textSize" "I", Cond.fieldLink RX9 7 "CardBandModel" "w" "[I", Cond.fieldLink RX9 131 "CardBandModel" "seen" "I", Cond.fieldLink RX9 134 "CardBandModel" "written" "I", Cond.fieldLink RX9 137 "CardBandModel" "undoMany" "I", Cond.constant RX9 60 (-1000000002), Cond.methodLink RX9 165 yX9_mirrored, Cond.instanceMethod yX9_mirrored, Cond.selects RX9 yX9_mirrored yX9_mirrored, Cond.initialized RX9, Cond.code yX9_mirrored cX9_mirrored 5 (some .int), Cond.methodLink RX9 144 yX9_was, Cond.instanceMethod yX9_was, Cond.selects RX9 yX9_was yX9_was, Cond.code yX9_was cX9_was 3 (some .int), Cond.methodLink RX9 147 yX9_one, Cond.static yX9_one, Cond.code yX9_one cX9_one 1 (some .int), Cond.methodLink RX9 168 yX9_period, Cond.instanceMethod yX9_period, Cond.selects RX9 yX9_period yX9_period]
def wsX9_told_r2 : List Cond := [Cond.code yX9_period cX9_period 2 (some .int), Cond.methodLink RX9 151 yX9_isPeriod, Cond.instanceMethod yX9_isPeriod, Cond.selects RX9 yX9_isPeriod yX9_isPeriod, Cond.code yX9_isPeriod cX9_isPeriod 5 (some .boolean), Cond.methodLink RX9 171 yX9_longest, Cond.instanceMethod yX9_longest, Cond.selects RX9 yX9_longest yX9_longest, Cond.code yX9_longest cX9_longest 5 (some .int), Cond.methodLink RX9 158 yX9_floatOf, Cond.instanceMethod yX9_floatOf, Cond.selects RX9 yX9_floatOf yX9_floatOf, Cond.code yX9_floatOf cX9_floatOf 6 (some .int), Cond.methodLink RX9 155 yX9_most, Cond.static yX9_most, Cond.code yX9_most cX9_most 2 (some .int), Cond.methodLink RX9 174 yX9_mostShown, Cond.instanceMethod yX9_mostShown, Cond.selects RX9 yX9_mostShown yX9_mostShown, Cond.code yX9_mostShown cX9_mostShown 5 (some .int), Cond.methodLink RX9 162 yX9_shownOf, Cond.instanceMethod yX9_shownOf, Cond.selects RX9 yX9_shownOf yX9_shownOf, Cond.code yX9_shownOf cX9_shownOf 5 (some .int)]
def wsX9_told_r3 : List Cond := [Cond.methodLink RX9 177 yX9_allYarn, Cond.instanceMethod yX9_allYarn, Cond.selects RX9 yX9_allYarn yX9_allYarn, Cond.code yX9_allYarn cX9_allYarn 3 (some .int)]
def wsX9_told : List Cond := .code yX9_told cX9_told 2 (some .int) :: ((wsX9_told_r1 ++ (wsX9_told_r2 ++ wsX9_told_r3)) ++ wsX90)
def wsX9_card_r1 : List Cond := [Cond.constant RX9 183 (-1000000001), Cond.fieldLink RX9 7 "CardBandModel" "w" "[I", Cond.constant RX9 60 (-1000000002), Cond.methodLink RX9 180 yX9_isCard, Cond.instanceMethod yX9_isCard, Cond.selects RX9 yX9_isCard yX9_isCard, Cond.initialized RX9, Cond.code yX9_isCard cX9_isCard 2 (some .boolean), Cond.fieldLink RX9 122 "CardBandModel" "cards" "I", Cond.methodLink RX9 56 yX9_in, Cond.static yX9_in, Cond.code yX9_in cX9_in 6 (some .boolean), Cond.methodLink RX9 184 yX9_colourOf, Cond.instanceMethod yX9_colourOf, Cond.selects RX9 yX9_colourOf yX9_colourOf, Cond.code yX9_colourOf cX9_colourOf 3 (some .int), Cond.fieldLink RX9 17 "CardBandModel" "hole" "[I", Cond.methodLink RX9 187 yX9_packOf, Cond.instanceMethod yX9_packOf, Cond.selects RX9 yX9_packOf yX9_packOf, Cond.code yX9_packOf cX9_packOf 4 (some .int), Cond.fieldLink RX9 128 "CardBandModel" "packs" "I", Cond.fieldLink RX9 23 "CardBandModel" "pack" "[I", Cond.methodLink RX9 140 yX9_has]
def wsX9_card_r2 : List Cond := [Cond.static yX9_has, Cond.code yX9_has cX9_has 2 (some .boolean)]
def wsX9_card : List Cond := .code yX9_card cX9_card 3 (some .int) :: ((wsX9_card_r1 ++ wsX9_card_r2) ++ wsX90)
def wsX9_pack : List Cond := .code yX9_pack cX9_pack 2 (some .int) :: ([.fieldLink RX9 128 "CardBandModel" "packs" "I", .fieldLink RX9 23 "CardBandModel" "pack" "[I", .constant RX9 183 (-1000000001), .methodLink RX9 56 yX9_in, .static yX9_in, .initialized RX9, .code yX9_in cX9_in 6 (some .boolean)] ++ wsX90)
def wsX9_yarn : List Cond := .code yX9_yarn cX9_yarn 2 (some .int) :: ([.fieldLink RX9 7 "CardBandModel" "w" "[I", .constant RX9 183 (-1000000001), .methodLink RX9 190 yX9_isColour, .instanceMethod yX9_isColour, .selects RX9 yX9_isColour yX9_isColour, .initialized RX9, .code yX9_isColour cX9_isColour 2 (some .boolean), .fieldLink RX9 125 "CardBandModel" "colours" "I", .methodLink RX9 56 yX9_in, .static yX9_in, .code yX9_in cX9_in 6 (some .boolean)] ++ wsX90)
def wsX9_row : List Cond := .code yX9_row cX9_row 3 (some .int) :: ([.constant RX9 183 (-1000000001), .fieldLink RX9 7 "CardBandModel" "w" "[I", .methodLink RX9 180 yX9_isCard, .instanceMethod yX9_isCard, .selects RX9 yX9_isCard yX9_isCard, .initialized RX9, .code yX9_isCard cX9_isCard 2 (some .boolean), .fieldLink RX9 122 "CardBandModel" "cards" "I", .methodLink RX9 56 yX9_in, .static yX9_in, .code yX9_in cX9_in 6 (some .boolean), .methodLink RX9 144 yX9_was, .instanceMethod yX9_was, .selects RX9 yX9_was yX9_was, .code yX9_was cX9_was 3 (some .int)] ++ wsX90)
def wsX9_copy : List Cond := .code yX9_copy cX9_copy 4 none :: ([.fieldLink RX9 7 "CardBandModel" "w" "[I"] ++ wsX90)
def wsX9_remember : List Cond := .code yX9_remember cX9_remember 2 none :: ([.fieldLink RX9 137 "CardBandModel" "undoMany" "I", .methodLink RX9 193 yX9_copy, .instanceMethod yX9_copy, .selects RX9 yX9_copy yX9_copy, .initialized RX9, .code yX9_copy cX9_copy 4 none, .fieldLink RX9 7 "CardBandModel" "w" "[I"] ++ wsX90)
def wsX9_figureOf : List Cond := .code yX9_figureOf cX9_figureOf 4 (some .int) :: ([])
def wsX9_isMoves : List Cond := .code yX9_isMoves cX9_isMoves 4 (some .boolean) :: ([.fieldLink RX9 128 "CardBandModel" "packs" "I", .methodLink RX9 56 yX9_in, .static yX9_in, .initialized RX9, .code yX9_in cX9_in 6 (some .boolean)] ++ wsX90)
def wsX9_turn : List Cond := .code yX9_turn cX9_turn 5 none :: ([.fieldLink RX9 7 "CardBandModel" "w" "[I", .methodLink RX9 184 yX9_colourOf, .instanceMethod yX9_colourOf, .selects RX9 yX9_colourOf yX9_colourOf, .initialized RX9, .code yX9_colourOf cX9_colourOf 3 (some .int), .fieldLink RX9 17 "CardBandModel" "hole" "[I"] ++ wsX90)
def wsX9_lay : List Cond := .code yX9_lay cX9_lay 3 none :: ([.fieldLink RX9 7 "CardBandModel" "w" "[I"] ++ wsX90)
def wsX9_pickIn_r1 : List Cond := [Cond.fieldLink RX9 122 "CardBandModel" "cards" "I", Cond.methodLink RX9 187 yX9_packOf, Cond.instanceMethod yX9_packOf, Cond.selects RX9 yX9_packOf yX9_packOf, Cond.initialized RX9, Cond.code yX9_packOf cX9_packOf 4 (some .int), Cond.fieldLink RX9 128 "CardBandModel" "packs" "I", Cond.fieldLink RX9 23 "CardBandModel" "pack" "[I", Cond.methodLink RX9 140 yX9_has, Cond.static yX9_has, Cond.code yX9_has cX9_has 2 (some .boolean), Cond.methodLink RX9 197 yX9_figureOf, Cond.static yX9_figureOf, Cond.code yX9_figureOf cX9_figureOf 4 (some .int), Cond.methodLink RX9 200 yX9_turn, Cond.instanceMethod yX9_turn, Cond.selects RX9 yX9_turn yX9_turn, Cond.code yX9_turn cX9_turn 5 none, Cond.fieldLink RX9 7 "CardBandModel" "w" "[I", Cond.methodLink RX9 184 yX9_colourOf, Cond.instanceMethod yX9_colourOf, Cond.selects RX9 yX9_colourOf yX9_colourOf, Cond.code yX9_colourOf cX9_colourOf 3 (some .int), Cond.fieldLink RX9 17 "CardBandModel" "hole" "[I"]
def wsX9_pickIn_r2 : List Cond := [Cond.methodLink RX9 204 yX9_lay, Cond.instanceMethod yX9_lay, Cond.selects RX9 yX9_lay yX9_lay, Cond.code yX9_lay cX9_lay 3 none]
def wsX9_pickIn : List Cond := .code yX9_pickIn cX9_pickIn 6 none :: ((wsX9_pickIn_r1 ++ wsX9_pickIn_r2) ++ wsX90)
def wsX9_lacks : List Cond := .code yX9_lacks cX9_lacks 4 (some .int) :: ([.fieldLink RX9 125 "CardBandModel" "colours" "I", .fieldLink RX9 7 "CardBandModel" "w" "[I"] ++ wsX90)
def wsX9_isTight : List Cond := .code yX9_isTight cX9_isTight 4 (some .boolean) :: ([.fieldLink RX9 122 "CardBandModel" "cards" "I", .fieldLink RX9 7 "CardBandModel" "w" "[I", .methodLink RX9 207 yX9_size, .static yX9_size, .initialized RX9, .code yX9_size cX9_size 1 (some .int)] ++ wsX90)
def wsX9_canPick_r1 : List Cond := [Cond.methodLink RX9 193 yX9_copy, Cond.instanceMethod yX9_copy, Cond.selects RX9 yX9_copy yX9_copy, Cond.initialized RX9, Cond.code yX9_copy cX9_copy 4 none, Cond.fieldLink RX9 7 "CardBandModel" "w" "[I", Cond.methodLink RX9 210 yX9_pickIn, Cond.instanceMethod yX9_pickIn, Cond.selects RX9 yX9_pickIn yX9_pickIn, Cond.code yX9_pickIn cX9_pickIn 6 none, Cond.fieldLink RX9 122 "CardBandModel" "cards" "I", Cond.methodLink RX9 187 yX9_packOf, Cond.instanceMethod yX9_packOf, Cond.selects RX9 yX9_packOf yX9_packOf, Cond.code yX9_packOf cX9_packOf 4 (some .int), Cond.fieldLink RX9 128 "CardBandModel" "packs" "I", Cond.fieldLink RX9 23 "CardBandModel" "pack" "[I", Cond.methodLink RX9 140 yX9_has, Cond.static yX9_has, Cond.code yX9_has cX9_has 2 (some .boolean), Cond.methodLink RX9 197 yX9_figureOf, Cond.static yX9_figureOf, Cond.code yX9_figureOf cX9_figureOf 4 (some .int), Cond.methodLink RX9 200 yX9_turn]
def wsX9_canPick_r2 : List Cond := [Cond.instanceMethod yX9_turn, Cond.selects RX9 yX9_turn yX9_turn, Cond.code yX9_turn cX9_turn 5 none, Cond.methodLink RX9 184 yX9_colourOf, Cond.instanceMethod yX9_colourOf, Cond.selects RX9 yX9_colourOf yX9_colourOf, Cond.code yX9_colourOf cX9_colourOf 3 (some .int), Cond.fieldLink RX9 17 "CardBandModel" "hole" "[I", Cond.methodLink RX9 204 yX9_lay, Cond.instanceMethod yX9_lay, Cond.selects RX9 yX9_lay yX9_lay, Cond.code yX9_lay cX9_lay 3 none, Cond.methodLink RX9 213 yX9_lacks, Cond.instanceMethod yX9_lacks, Cond.selects RX9 yX9_lacks yX9_lacks, Cond.code yX9_lacks cX9_lacks 4 (some .int), Cond.fieldLink RX9 125 "CardBandModel" "colours" "I", Cond.methodLink RX9 216 yX9_isTight, Cond.instanceMethod yX9_isTight, Cond.selects RX9 yX9_isTight yX9_isTight, Cond.code yX9_isTight cX9_isTight 4 (some .boolean), Cond.methodLink RX9 207 yX9_size, Cond.static yX9_size, Cond.code yX9_size cX9_size 1 (some .int)]
def wsX9_canPick : List Cond := .code yX9_canPick cX9_canPick 5 (some .boolean) :: ((wsX9_canPick_r1 ++ wsX9_canPick_r2) ++ wsX90)
def wsX9_pick_r1 : List Cond := [Cond.constantLong RX9 222 (30), Cond.constant RX9 60 (-1000000002), Cond.constant RX9 231 (-1000000003), Cond.fieldLink RX9 7 "CardBandModel" "w" "[I", Cond.constant RX9 64 (-1000000004), Cond.methodLink RX9 219 yX9_isMoves, Cond.instanceMethod yX9_isMoves, Cond.selects RX9 yX9_isMoves yX9_isMoves, Cond.initialized RX9, Cond.code yX9_isMoves cX9_isMoves 4 (some .boolean), Cond.fieldLink RX9 128 "CardBandModel" "packs" "I", Cond.methodLink RX9 56 yX9_in, Cond.static yX9_in, Cond.code yX9_in cX9_in 6 (some .boolean), Cond.methodLink RX9 224 yX9_isLoom, Cond.instanceMethod yX9_isLoom, Cond.selects RX9 yX9_isLoom yX9_isLoom, Cond.code yX9_isLoom cX9_isLoom 1 (some .boolean), Cond.fieldLink RX9 125 "CardBandModel" "colours" "I", Cond.methodLink RX9 228 yX9_canPick, Cond.instanceMethod yX9_canPick, Cond.selects RX9 yX9_canPick yX9_canPick, Cond.code yX9_canPick cX9_canPick 5 (some .boolean), Cond.methodLink RX9 193 yX9_copy]
def wsX9_pick_r2 : List Cond := [Cond.instanceMethod yX9_copy, Cond.selects RX9 yX9_copy yX9_copy, Cond.code yX9_copy cX9_copy 4 none, Cond.methodLink RX9 210 yX9_pickIn, Cond.instanceMethod yX9_pickIn, Cond.selects RX9 yX9_pickIn yX9_pickIn, Cond.code yX9_pickIn cX9_pickIn 6 none, Cond.fieldLink RX9 122 "CardBandModel" "cards" "I", Cond.methodLink RX9 187 yX9_packOf, Cond.instanceMethod yX9_packOf, Cond.selects RX9 yX9_packOf yX9_packOf, Cond.code yX9_packOf cX9_packOf 4 (some .int), Cond.fieldLink RX9 23 "CardBandModel" "pack" "[I", Cond.methodLink RX9 140 yX9_has, Cond.static yX9_has, Cond.code yX9_has cX9_has 2 (some .boolean), Cond.methodLink RX9 197 yX9_figureOf, Cond.static yX9_figureOf, Cond.code yX9_figureOf cX9_figureOf 4 (some .int), Cond.methodLink RX9 200 yX9_turn, Cond.instanceMethod yX9_turn, Cond.selects RX9 yX9_turn yX9_turn, Cond.code yX9_turn cX9_turn 5 none, Cond.methodLink RX9 184 yX9_colourOf]
def wsX9_pick_r3 : List Cond := [Cond.instanceMethod yX9_colourOf, Cond.selects RX9 yX9_colourOf yX9_colourOf, Cond.code yX9_colourOf cX9_colourOf 3 (some .int), Cond.fieldLink RX9 17 "CardBandModel" "hole" "[I", Cond.methodLink RX9 204 yX9_lay, Cond.instanceMethod yX9_lay, Cond.selects RX9 yX9_lay yX9_lay, Cond.code yX9_lay cX9_lay 3 none, Cond.methodLink RX9 213 yX9_lacks, Cond.instanceMethod yX9_lacks, Cond.selects RX9 yX9_lacks yX9_lacks, Cond.code yX9_lacks cX9_lacks 4 (some .int), Cond.methodLink RX9 216 yX9_isTight, Cond.instanceMethod yX9_isTight, Cond.selects RX9 yX9_isTight yX9_isTight, Cond.code yX9_isTight cX9_isTight 4 (some .boolean), Cond.methodLink RX9 207 yX9_size, Cond.static yX9_size, Cond.code yX9_size cX9_size 1 (some .int), Cond.methodLink RX9 232 yX9_remember, Cond.instanceMethod yX9_remember, Cond.selects RX9 yX9_remember yX9_remember, Cond.code yX9_remember cX9_remember 2 none, Cond.fieldLink RX9 137 "CardBandModel" "undoMany" "I"]
def wsX9_pick : List Cond := .code yX9_pick cX9_pick 4 (some .int) :: ((wsX9_pick_r1 ++ (wsX9_pick_r2 ++ wsX9_pick_r3)) ++ wsX90)
def wsX9_flip : List Cond := .code yX9_flip cX9_flip 2 (some .int) :: ([.constant RX9 183 (-1000000001), .fieldLink RX9 7 "CardBandModel" "w" "[I", .methodLink RX9 180 yX9_isCard, .instanceMethod yX9_isCard, .selects RX9 yX9_isCard yX9_isCard, .initialized RX9, .code yX9_isCard cX9_isCard 2 (some .boolean), .fieldLink RX9 122 "CardBandModel" "cards" "I", .methodLink RX9 56 yX9_in, .static yX9_in, .code yX9_in cX9_in 6 (some .boolean), .methodLink RX9 232 yX9_remember, .instanceMethod yX9_remember, .selects RX9 yX9_remember yX9_remember, .code yX9_remember cX9_remember 2 none, .fieldLink RX9 137 "CardBandModel" "undoMany" "I", .methodLink RX9 193 yX9_copy, .instanceMethod yX9_copy, .selects RX9 yX9_copy yX9_copy, .code yX9_copy cX9_copy 4 none] ++ wsX90)
def wsX9_shift : List Cond := .code yX9_shift cX9_shift 3 (some .int) :: ([.constant RX9 183 (-1000000001), .constantLong RX9 235 (3), .constant RX9 60 (-1000000002), .fieldLink RX9 7 "CardBandModel" "w" "[I", .methodLink RX9 180 yX9_isCard, .instanceMethod yX9_isCard, .selects RX9 yX9_isCard yX9_isCard, .initialized RX9, .code yX9_isCard cX9_isCard 2 (some .boolean), .fieldLink RX9 122 "CardBandModel" "cards" "I", .methodLink RX9 56 yX9_in, .static yX9_in, .code yX9_in cX9_in 6 (some .boolean), .methodLink RX9 232 yX9_remember, .instanceMethod yX9_remember, .selects RX9 yX9_remember yX9_remember, .code yX9_remember cX9_remember 2 none, .fieldLink RX9 137 "CardBandModel" "undoMany" "I", .methodLink RX9 193 yX9_copy, .instanceMethod yX9_copy, .selects RX9 yX9_copy yX9_copy, .code yX9_copy cX9_copy 4 none] ++ wsX90)
def wsX9_buy_r1 : List Cond := [Cond.constant RX9 183 (-1000000001), Cond.constantLong RX9 237 (999), Cond.constant RX9 60 (-1000000002), Cond.fieldLink RX9 7 "CardBandModel" "w" "[I", Cond.methodLink RX9 190 yX9_isColour, Cond.instanceMethod yX9_isColour, Cond.selects RX9 yX9_isColour yX9_isColour, Cond.initialized RX9, Cond.code yX9_isColour cX9_isColour 2 (some .boolean), Cond.fieldLink RX9 125 "CardBandModel" "colours" "I", Cond.methodLink RX9 56 yX9_in, Cond.static yX9_in, Cond.code yX9_in cX9_in 6 (some .boolean), Cond.methodLink RX9 232 yX9_remember, Cond.instanceMethod yX9_remember, Cond.selects RX9 yX9_remember yX9_remember, Cond.code yX9_remember cX9_remember 2 none, Cond.fieldLink RX9 137 "CardBandModel" "undoMany" "I", Cond.methodLink RX9 193 yX9_copy, Cond.instanceMethod yX9_copy, Cond.selects RX9 yX9_copy yX9_copy, Cond.code yX9_copy cX9_copy 4 none, Cond.methodLink RX9 239 yX9_least, Cond.static yX9_least]
def wsX9_buy_r2 : List Cond := [Cond.code yX9_least cX9_least 2 (some .int)]
def wsX9_buy : List Cond := .code yX9_buy cX9_buy 3 (some .int) :: ((wsX9_buy_r1 ++ wsX9_buy_r2) ++ wsX90)
def wsX9_draw : List Cond := .code yX9_draw cX9_draw 2 (some .int) :: ([.fieldLink RX9 7 "CardBandModel" "w" "[I", .constantLong RX9 242 (1103515245), .constantLong RX9 244 (12345), .constantLong RX9 246 (2147483648), .constant RX9 248 (65536)] ++ wsX90)
def wsX9_drawMoves : List Cond := .code yX9_drawMoves cX9_drawMoves 4 (some .int) :: ([.fieldLink RX9 128 "CardBandModel" "packs" "I", .methodLink RX9 249 yX9_draw, .instanceMethod yX9_draw, .selects RX9 yX9_draw yX9_draw, .initialized RX9, .code yX9_draw cX9_draw 2 (some .int), .fieldLink RX9 7 "CardBandModel" "w" "[I", .constantLong RX9 242 (1103515245), .constantLong RX9 244 (12345), .constantLong RX9 246 (2147483648), .constant RX9 248 (65536)] ++ wsX90)
def wsX9_drift_r1 : List Cond := [Cond.constantLong RX9 222 (30), Cond.constant RX9 60 (-1000000002), Cond.constant RX9 231 (-1000000003), Cond.fieldLink RX9 7 "CardBandModel" "w" "[I", Cond.constant RX9 64 (-1000000004), Cond.methodLink RX9 56 yX9_in, Cond.static yX9_in, Cond.initialized RX9, Cond.code yX9_in cX9_in 6 (some .boolean), Cond.methodLink RX9 224 yX9_isLoom, Cond.instanceMethod yX9_isLoom, Cond.selects RX9 yX9_isLoom yX9_isLoom, Cond.code yX9_isLoom cX9_isLoom 1 (some .boolean), Cond.fieldLink RX9 125 "CardBandModel" "colours" "I", Cond.methodLink RX9 232 yX9_remember, Cond.instanceMethod yX9_remember, Cond.selects RX9 yX9_remember yX9_remember, Cond.code yX9_remember cX9_remember 2 none, Cond.fieldLink RX9 137 "CardBandModel" "undoMany" "I", Cond.methodLink RX9 193 yX9_copy, Cond.instanceMethod yX9_copy, Cond.selects RX9 yX9_copy yX9_copy, Cond.code yX9_copy cX9_copy 4 none, Cond.methodLink RX9 252 yX9_drawMoves]
def wsX9_drift_r2 : List Cond := [Cond.instanceMethod yX9_drawMoves, Cond.selects RX9 yX9_drawMoves yX9_drawMoves, Cond.code yX9_drawMoves cX9_drawMoves 4 (some .int), Cond.fieldLink RX9 128 "CardBandModel" "packs" "I", Cond.methodLink RX9 249 yX9_draw, Cond.instanceMethod yX9_draw, Cond.selects RX9 yX9_draw yX9_draw, Cond.code yX9_draw cX9_draw 2 (some .int), Cond.constantLong RX9 242 (1103515245), Cond.constantLong RX9 244 (12345), Cond.constantLong RX9 246 (2147483648), Cond.constant RX9 248 (65536), Cond.methodLink RX9 228 yX9_canPick, Cond.instanceMethod yX9_canPick, Cond.selects RX9 yX9_canPick yX9_canPick, Cond.code yX9_canPick cX9_canPick 5 (some .boolean), Cond.methodLink RX9 210 yX9_pickIn, Cond.instanceMethod yX9_pickIn, Cond.selects RX9 yX9_pickIn yX9_pickIn, Cond.code yX9_pickIn cX9_pickIn 6 none, Cond.fieldLink RX9 122 "CardBandModel" "cards" "I", Cond.methodLink RX9 187 yX9_packOf, Cond.instanceMethod yX9_packOf, Cond.selects RX9 yX9_packOf yX9_packOf]
def wsX9_drift_r3 : List Cond := [Cond.code yX9_packOf cX9_packOf 4 (some .int), Cond.fieldLink RX9 23 "CardBandModel" "pack" "[I", Cond.methodLink RX9 140 yX9_has, Cond.static yX9_has, Cond.code yX9_has cX9_has 2 (some .boolean), Cond.methodLink RX9 197 yX9_figureOf, Cond.static yX9_figureOf, Cond.code yX9_figureOf cX9_figureOf 4 (some .int), Cond.methodLink RX9 200 yX9_turn, Cond.instanceMethod yX9_turn, Cond.selects RX9 yX9_turn yX9_turn, Cond.code yX9_turn cX9_turn 5 none, Cond.methodLink RX9 184 yX9_colourOf, Cond.instanceMethod yX9_colourOf, Cond.selects RX9 yX9_colourOf yX9_colourOf, Cond.code yX9_colourOf cX9_colourOf 3 (some .int), Cond.fieldLink RX9 17 "CardBandModel" "hole" "[I", Cond.methodLink RX9 204 yX9_lay, Cond.instanceMethod yX9_lay, Cond.selects RX9 yX9_lay yX9_lay, Cond.code yX9_lay cX9_lay 3 none, Cond.methodLink RX9 213 yX9_lacks, Cond.instanceMethod yX9_lacks, Cond.selects RX9 yX9_lacks yX9_lacks]
def wsX9_drift_r4 : List Cond := [Cond.code yX9_lacks cX9_lacks 4 (some .int), Cond.methodLink RX9 216 yX9_isTight, Cond.instanceMethod yX9_isTight, Cond.selects RX9 yX9_isTight yX9_isTight, Cond.code yX9_isTight cX9_isTight 4 (some .boolean), Cond.methodLink RX9 207 yX9_size, Cond.static yX9_size, Cond.code yX9_size cX9_size 1 (some .int)]
def wsX9_drift : List Cond := .code yX9_drift cX9_drift 4 (some .int) :: ((wsX9_drift_r1 ++ (wsX9_drift_r2 ++ (wsX9_drift_r3 ++ wsX9_drift_r4))) ++ wsX90)
def wsX9_undo : List Cond := .code yX9_undo cX9_undo 3 (some .int) :: ([.constantLong RX9 222 (30), .constant RX9 60 (-1000000002), .fieldLink RX9 137 "CardBandModel" "undoMany" "I", .constant RX9 231 (-1000000003), .fieldLink RX9 7 "CardBandModel" "w" "[I", .methodLink RX9 56 yX9_in, .static yX9_in, .initialized RX9, .code yX9_in cX9_in 6 (some .boolean), .methodLink RX9 193 yX9_copy, .instanceMethod yX9_copy, .selects RX9 yX9_copy yX9_copy, .code yX9_copy cX9_copy 4 none] ++ wsX90)
def wsX9_ahead : List Cond := .code yX9_ahead cX9_ahead 4 (some .int) :: ([.constant RX9 183 (-1000000001), .constantLong RX9 255 (99), .constant RX9 60 (-1000000002), .fieldLink RX9 7 "CardBandModel" "w" "[I", .methodLink RX9 180 yX9_isCard, .instanceMethod yX9_isCard, .selects RX9 yX9_isCard yX9_isCard, .initialized RX9, .code yX9_isCard cX9_isCard 2 (some .boolean), .fieldLink RX9 122 "CardBandModel" "cards" "I", .methodLink RX9 56 yX9_in, .static yX9_in, .code yX9_in cX9_in 6 (some .boolean), .methodLink RX9 184 yX9_colourOf, .instanceMethod yX9_colourOf, .selects RX9 yX9_colourOf yX9_colourOf, .code yX9_colourOf cX9_colourOf 3 (some .int), .fieldLink RX9 17 "CardBandModel" "hole" "[I"] ++ wsX90)
def wsX9_lasts_r1 : List Cond := [Cond.constant RX9 60 (-1000000002), Cond.constant RX9 231 (-1000000003), Cond.methodLink RX9 219 yX9_isMoves, Cond.instanceMethod yX9_isMoves, Cond.selects RX9 yX9_isMoves yX9_isMoves, Cond.initialized RX9, Cond.code yX9_isMoves cX9_isMoves 4 (some .boolean), Cond.fieldLink RX9 128 "CardBandModel" "packs" "I", Cond.methodLink RX9 56 yX9_in, Cond.static yX9_in, Cond.code yX9_in cX9_in 6 (some .boolean), Cond.methodLink RX9 224 yX9_isLoom, Cond.instanceMethod yX9_isLoom, Cond.selects RX9 yX9_isLoom yX9_isLoom, Cond.code yX9_isLoom cX9_isLoom 1 (some .boolean), Cond.fieldLink RX9 125 "CardBandModel" "colours" "I", Cond.methodLink RX9 193 yX9_copy, Cond.instanceMethod yX9_copy, Cond.selects RX9 yX9_copy yX9_copy, Cond.code yX9_copy cX9_copy 4 none, Cond.fieldLink RX9 7 "CardBandModel" "w" "[I", Cond.methodLink RX9 210 yX9_pickIn, Cond.instanceMethod yX9_pickIn, Cond.selects RX9 yX9_pickIn yX9_pickIn]
def wsX9_lasts_r2 : List Cond := [Cond.code yX9_pickIn cX9_pickIn 6 none, Cond.fieldLink RX9 122 "CardBandModel" "cards" "I", Cond.methodLink RX9 187 yX9_packOf, Cond.instanceMethod yX9_packOf, Cond.selects RX9 yX9_packOf yX9_packOf, Cond.code yX9_packOf cX9_packOf 4 (some .int), Cond.fieldLink RX9 23 "CardBandModel" "pack" "[I", Cond.methodLink RX9 140 yX9_has, Cond.static yX9_has, Cond.code yX9_has cX9_has 2 (some .boolean), Cond.methodLink RX9 197 yX9_figureOf, Cond.static yX9_figureOf, Cond.code yX9_figureOf cX9_figureOf 4 (some .int), Cond.methodLink RX9 200 yX9_turn, Cond.instanceMethod yX9_turn, Cond.selects RX9 yX9_turn yX9_turn, Cond.code yX9_turn cX9_turn 5 none, Cond.methodLink RX9 184 yX9_colourOf, Cond.instanceMethod yX9_colourOf, Cond.selects RX9 yX9_colourOf yX9_colourOf, Cond.code yX9_colourOf cX9_colourOf 3 (some .int), Cond.fieldLink RX9 17 "CardBandModel" "hole" "[I", Cond.methodLink RX9 204 yX9_lay, Cond.instanceMethod yX9_lay]
def wsX9_lasts_r3 : List Cond := [Cond.selects RX9 yX9_lay yX9_lay, Cond.code yX9_lay cX9_lay 3 none, Cond.methodLink RX9 213 yX9_lacks, Cond.instanceMethod yX9_lacks, Cond.selects RX9 yX9_lacks yX9_lacks, Cond.code yX9_lacks cX9_lacks 4 (some .int), Cond.methodLink RX9 216 yX9_isTight, Cond.instanceMethod yX9_isTight, Cond.selects RX9 yX9_isTight yX9_isTight, Cond.code yX9_isTight cX9_isTight 4 (some .boolean), Cond.methodLink RX9 207 yX9_size, Cond.static yX9_size, Cond.code yX9_size cX9_size 1 (some .int)]
def wsX9_lasts : List Cond := .code yX9_lasts cX9_lasts 4 (some .int) :: ((wsX9_lasts_r1 ++ (wsX9_lasts_r2 ++ wsX9_lasts_r3)) ++ wsX90)
def wsX9_firstOf : List Cond := .code yX9_firstOf cX9_firstOf 3 (some .int) :: ([.fieldLink RX9 23 "CardBandModel" "pack" "[I", .methodLink RX9 140 yX9_has, .static yX9_has, .initialized RX9, .code yX9_has cX9_has 2 (some .boolean)] ++ wsX90)
def wsX9_untwist_r1 : List Cond := [Cond.constant RX9 60 (-1000000002), Cond.constant RX9 231 (-1000000003), Cond.fieldLink RX9 128 "CardBandModel" "packs" "I", Cond.fieldLink RX9 7 "CardBandModel" "w" "[I", Cond.methodLink RX9 56 yX9_in, Cond.static yX9_in, Cond.initialized RX9, Cond.code yX9_in cX9_in 6 (some .boolean), Cond.methodLink RX9 224 yX9_isLoom, Cond.instanceMethod yX9_isLoom, Cond.selects RX9 yX9_isLoom yX9_isLoom, Cond.code yX9_isLoom cX9_isLoom 1 (some .boolean), Cond.fieldLink RX9 125 "CardBandModel" "colours" "I", Cond.methodLink RX9 257 yX9_firstOf, Cond.instanceMethod yX9_firstOf, Cond.selects RX9 yX9_firstOf yX9_firstOf, Cond.code yX9_firstOf cX9_firstOf 3 (some .int), Cond.fieldLink RX9 23 "CardBandModel" "pack" "[I", Cond.methodLink RX9 140 yX9_has, Cond.static yX9_has, Cond.code yX9_has cX9_has 2 (some .boolean), Cond.methodLink RX9 207 yX9_size, Cond.static yX9_size, Cond.code yX9_size cX9_size 1 (some .int)]
def wsX9_untwist_r2 : List Cond := [Cond.methodLink RX9 155 yX9_most, Cond.static yX9_most, Cond.code yX9_most cX9_most 2 (some .int)]
def wsX9_untwist : List Cond := .code yX9_untwist cX9_untwist 7 (some .int) :: ((wsX9_untwist_r1 ++ wsX9_untwist_r2) ++ wsX90)
def wsX9_standsAlike : List Cond := .code yX9_standsAlike cX9_standsAlike 4 (some .boolean) :: ([.fieldLink RX9 122 "CardBandModel" "cards" "I", .fieldLink RX9 23 "CardBandModel" "pack" "[I", .fieldLink RX9 7 "CardBandModel" "w" "[I", .methodLink RX9 140 yX9_has, .static yX9_has, .initialized RX9, .code yX9_has cX9_has 2 (some .boolean), .methodLink RX9 257 yX9_firstOf, .instanceMethod yX9_firstOf, .selects RX9 yX9_firstOf yX9_firstOf, .code yX9_firstOf cX9_firstOf 3 (some .int)] ++ wsX90)
def wsX9_home_r1 : List Cond := [Cond.constant RX9 60 (-1000000002), Cond.constant RX9 231 (-1000000003), Cond.fieldLink RX9 128 "CardBandModel" "packs" "I", Cond.fieldLink RX9 7 "CardBandModel" "w" "[I", Cond.methodLink RX9 56 yX9_in, Cond.static yX9_in, Cond.initialized RX9, Cond.code yX9_in cX9_in 6 (some .boolean), Cond.methodLink RX9 224 yX9_isLoom, Cond.instanceMethod yX9_isLoom, Cond.selects RX9 yX9_isLoom yX9_isLoom, Cond.code yX9_isLoom cX9_isLoom 1 (some .boolean), Cond.fieldLink RX9 125 "CardBandModel" "colours" "I", Cond.methodLink RX9 260 yX9_standsAlike, Cond.instanceMethod yX9_standsAlike, Cond.selects RX9 yX9_standsAlike yX9_standsAlike, Cond.code yX9_standsAlike cX9_standsAlike 4 (some .boolean), Cond.fieldLink RX9 122 "CardBandModel" "cards" "I", Cond.fieldLink RX9 23 "CardBandModel" "pack" "[I", Cond.methodLink RX9 140 yX9_has, Cond.static yX9_has, Cond.code yX9_has cX9_has 2 (some .boolean), Cond.methodLink RX9 257 yX9_firstOf, Cond.instanceMethod yX9_firstOf]
def wsX9_home_r2 : List Cond := [Cond.selects RX9 yX9_firstOf yX9_firstOf, Cond.code yX9_firstOf cX9_firstOf 3 (some .int), Cond.methodLink RX9 155 yX9_most, Cond.static yX9_most, Cond.code yX9_most cX9_most 2 (some .int)]
def wsX9_home : List Cond := .code yX9_home cX9_home 7 (some .int) :: ((wsX9_home_r1 ++ wsX9_home_r2) ++ wsX90)
def wsX9_allShow : List Cond := .code yX9_allShow cX9_allShow 7 (some .boolean) :: ([.fieldLink RX9 122 "CardBandModel" "cards" "I", .fieldLink RX9 7 "CardBandModel" "w" "[I", .methodLink RX9 184 yX9_colourOf, .instanceMethod yX9_colourOf, .selects RX9 yX9_colourOf yX9_colourOf, .initialized RX9, .code yX9_colourOf cX9_colourOf 3 (some .int), .fieldLink RX9 17 "CardBandModel" "hole" "[I", .methodLink RX9 140 yX9_has, .static yX9_has, .code yX9_has cX9_has 2 (some .boolean)] ++ wsX90)
def wsX9_layFar : List Cond := .code yX9_layFar cX9_layFar 8 none :: ([.fieldLink RX9 36 "CardBandModel" "far" "[I", .methodLink RX9 263 yX9_allShow, .instanceMethod yX9_allShow, .selects RX9 yX9_allShow yX9_allShow, .initialized RX9, .code yX9_allShow cX9_allShow 7 (some .boolean), .fieldLink RX9 122 "CardBandModel" "cards" "I", .fieldLink RX9 7 "CardBandModel" "w" "[I", .methodLink RX9 184 yX9_colourOf, .instanceMethod yX9_colourOf, .selects RX9 yX9_colourOf yX9_colourOf, .code yX9_colourOf cX9_colourOf 3 (some .int), .fieldLink RX9 17 "CardBandModel" "hole" "[I", .methodLink RX9 140 yX9_has, .static yX9_has, .code yX9_has cX9_has 2 (some .boolean), .methodLink RX9 239 yX9_least, .static yX9_least, .code yX9_least cX9_least 2 (some .int)] ++ wsX90)
def wsX9_farBehind : List Cond := .code yX9_farBehind cX9_farBehind 2 (some .int) :: ([.fieldLink RX9 36 "CardBandModel" "far" "[I"] ++ wsX90)
def wsX9_packsOf : List Cond := .code yX9_packsOf cX9_packsOf 4 (some .int) :: ([.fieldLink RX9 128 "CardBandModel" "packs" "I", .fieldLink RX9 23 "CardBandModel" "pack" "[I"] ++ wsX90)
def wsX9_together_r1 : List Cond := [Cond.fieldLink RX9 122 "CardBandModel" "cards" "I", Cond.constant RX9 183 (-1000000001), Cond.constant RX9 60 (-1000000002), Cond.constant RX9 231 (-1000000003), Cond.fieldLink RX9 128 "CardBandModel" "packs" "I", Cond.fieldLink RX9 23 "CardBandModel" "pack" "[I", Cond.fieldLink RX9 36 "CardBandModel" "far" "[I", Cond.methodLink RX9 56 yX9_in, Cond.static yX9_in, Cond.initialized RX9, Cond.code yX9_in cX9_in 6 (some .boolean), Cond.methodLink RX9 190 yX9_isColour, Cond.instanceMethod yX9_isColour, Cond.selects RX9 yX9_isColour yX9_isColour, Cond.code yX9_isColour cX9_isColour 2 (some .boolean), Cond.fieldLink RX9 125 "CardBandModel" "colours" "I", Cond.methodLink RX9 224 yX9_isLoom, Cond.instanceMethod yX9_isLoom, Cond.selects RX9 yX9_isLoom yX9_isLoom, Cond.code yX9_isLoom cX9_isLoom 1 (some .boolean), Cond.methodLink RX9 267 yX9_packsOf, Cond.instanceMethod yX9_packsOf, Cond.selects RX9 yX9_packsOf yX9_packsOf, Cond.code yX9_packsOf cX9_packsOf 4 (some .int)]
def wsX9_together_r2 : List Cond := [Cond.methodLink RX9 263 yX9_allShow, Cond.instanceMethod yX9_allShow, Cond.selects RX9 yX9_allShow yX9_allShow, Cond.code yX9_allShow cX9_allShow 7 (some .boolean), Cond.fieldLink RX9 7 "CardBandModel" "w" "[I", Cond.methodLink RX9 184 yX9_colourOf, Cond.instanceMethod yX9_colourOf, Cond.selects RX9 yX9_colourOf yX9_colourOf, Cond.code yX9_colourOf cX9_colourOf 3 (some .int), Cond.fieldLink RX9 17 "CardBandModel" "hole" "[I", Cond.methodLink RX9 140 yX9_has, Cond.static yX9_has, Cond.code yX9_has cX9_has 2 (some .boolean), Cond.methodLink RX9 270 yX9_layFar, Cond.instanceMethod yX9_layFar, Cond.selects RX9 yX9_layFar yX9_layFar, Cond.code yX9_layFar cX9_layFar 8 none, Cond.methodLink RX9 239 yX9_least, Cond.static yX9_least, Cond.code yX9_least cX9_least 2 (some .int), Cond.methodLink RX9 155 yX9_most, Cond.static yX9_most, Cond.code yX9_most cX9_most 2 (some .int), Cond.methodLink RX9 273 yX9_farBehind]
def wsX9_together_r3 : List Cond := [Cond.instanceMethod yX9_farBehind, Cond.selects RX9 yX9_farBehind yX9_farBehind, Cond.code yX9_farBehind cX9_farBehind 2 (some .int)]
def wsX9_together : List Cond := .code yX9_together cX9_together 9 (some .int) :: ((wsX9_together_r1 ++ (wsX9_together_r2 ++ wsX9_together_r3)) ++ wsX90)
def wsX9_repeat : List Cond := .code yX9_repeat cX9_repeat 4 (some .int) :: ([.constant RX9 231 (-1000000003), .fieldLink RX9 122 "CardBandModel" "cards" "I", .methodLink RX9 224 yX9_isLoom, .instanceMethod yX9_isLoom, .selects RX9 yX9_isLoom yX9_isLoom, .initialized RX9, .code yX9_isLoom cX9_isLoom 1 (some .boolean), .fieldLink RX9 125 "CardBandModel" "colours" "I", .methodLink RX9 184 yX9_colourOf, .instanceMethod yX9_colourOf, .selects RX9 yX9_colourOf yX9_colourOf, .code yX9_colourOf cX9_colourOf 3 (some .int), .fieldLink RX9 17 "CardBandModel" "hole" "[I"] ++ wsX90)
def wsX9_floats : List Cond := .code yX9_floats cX9_floats 2 (some .int) :: ([.constant RX9 183 (-1000000001), .methodLink RX9 180 yX9_isCard, .instanceMethod yX9_isCard, .selects RX9 yX9_isCard yX9_isCard, .initialized RX9, .code yX9_isCard cX9_isCard 2 (some .boolean), .fieldLink RX9 122 "CardBandModel" "cards" "I", .methodLink RX9 56 yX9_in, .static yX9_in, .code yX9_in cX9_in 6 (some .boolean), .methodLink RX9 158 yX9_floatOf, .instanceMethod yX9_floatOf, .selects RX9 yX9_floatOf yX9_floatOf, .code yX9_floatOf cX9_floatOf 6 (some .int), .fieldLink RX9 7 "CardBandModel" "w" "[I", .methodLink RX9 144 yX9_was, .instanceMethod yX9_was, .selects RX9 yX9_was yX9_was, .code yX9_was cX9_was 3 (some .int), .methodLink RX9 155 yX9_most, .static yX9_most, .code yX9_most cX9_most 2 (some .int)] ++ wsX90)
def wsX9_areAlike : List Cond := .code yX9_areAlike cX9_areAlike 5 (some .boolean) :: ([.fieldLink RX9 7 "CardBandModel" "w" "[I", .methodLink RX9 144 yX9_was, .instanceMethod yX9_was, .selects RX9 yX9_was yX9_was, .initialized RX9, .code yX9_was cX9_was 3 (some .int)] ++ wsX90)
def wsX9_alike : List Cond := .code yX9_alike cX9_alike 6 (some .int) :: ([.fieldLink RX9 122 "CardBandModel" "cards" "I", .methodLink RX9 276 yX9_areAlike, .instanceMethod yX9_areAlike, .selects RX9 yX9_areAlike yX9_areAlike, .initialized RX9, .code yX9_areAlike cX9_areAlike 5 (some .boolean), .fieldLink RX9 7 "CardBandModel" "w" "[I", .methodLink RX9 144 yX9_was, .instanceMethod yX9_was, .selects RX9 yX9_was yX9_was, .code yX9_was cX9_was 3 (some .int)] ++ wsX90)
def wsX9_shown : List Cond := .code yX9_shown cX9_shown 2 (some .int) :: ([.constant RX9 183 (-1000000001), .methodLink RX9 190 yX9_isColour, .instanceMethod yX9_isColour, .selects RX9 yX9_isColour yX9_isColour, .initialized RX9, .code yX9_isColour cX9_isColour 2 (some .boolean), .fieldLink RX9 125 "CardBandModel" "colours" "I", .methodLink RX9 56 yX9_in, .static yX9_in, .code yX9_in cX9_in 6 (some .boolean), .methodLink RX9 162 yX9_shownOf, .instanceMethod yX9_shownOf, .selects RX9 yX9_shownOf yX9_shownOf, .code yX9_shownOf cX9_shownOf 5 (some .int), .fieldLink RX9 7 "CardBandModel" "w" "[I", .fieldLink RX9 122 "CardBandModel" "cards" "I", .methodLink RX9 144 yX9_was, .instanceMethod yX9_was, .selects RX9 yX9_was yX9_was, .code yX9_was cX9_was 3 (some .int), .methodLink RX9 147 yX9_one, .static yX9_one, .code yX9_one cX9_one 1 (some .int)] ++ wsX90)
def wsX9_turned_r1 : List Cond := [Cond.constant RX9 183 (-1000000001), Cond.constantLong RX9 279 (22), Cond.constant RX9 60 (-1000000002), Cond.fieldLink RX9 7 "CardBandModel" "w" "[I", Cond.constant RX9 231 (-1000000003), Cond.methodLink RX9 180 yX9_isCard, Cond.instanceMethod yX9_isCard, Cond.selects RX9 yX9_isCard yX9_isCard, Cond.initialized RX9, Cond.code yX9_isCard cX9_isCard 2 (some .boolean), Cond.fieldLink RX9 122 "CardBandModel" "cards" "I", Cond.methodLink RX9 56 yX9_in, Cond.static yX9_in, Cond.code yX9_in cX9_in 6 (some .boolean), Cond.methodLink RX9 144 yX9_was, Cond.instanceMethod yX9_was, Cond.selects RX9 yX9_was yX9_was, Cond.code yX9_was cX9_was 3 (some .int), Cond.methodLink RX9 147 yX9_one, Cond.static yX9_one, Cond.code yX9_one cX9_one 1 (some .int), Cond.methodLink RX9 184 yX9_colourOf, Cond.instanceMethod yX9_colourOf, Cond.selects RX9 yX9_colourOf yX9_colourOf]
def wsX9_turned_r2 : List Cond := [Cond.code yX9_colourOf cX9_colourOf 3 (some .int), Cond.fieldLink RX9 17 "CardBandModel" "hole" "[I"]
def wsX9_turned : List Cond := .code yX9_turned cX9_turned 9 (some .int) :: ((wsX9_turned_r1 ++ wsX9_turned_r2) ++ wsX90)
def wsX9_shareOf : List Cond := .code yX9_shareOf cX9_shareOf 6 (some .int) :: ([.fieldLink RX9 122 "CardBandModel" "cards" "I", .methodLink RX9 184 yX9_colourOf, .instanceMethod yX9_colourOf, .selects RX9 yX9_colourOf yX9_colourOf, .initialized RX9, .code yX9_colourOf cX9_colourOf 3 (some .int), .fieldLink RX9 17 "CardBandModel" "hole" "[I", .methodLink RX9 147 yX9_one, .static yX9_one, .code yX9_one cX9_one 1 (some .int)] ++ wsX90)
def wsX9_share_r1 : List Cond := [Cond.constant RX9 183 (-1000000001), Cond.constantLong RX9 237 (999), Cond.constant RX9 60 (-1000000002), Cond.fieldLink RX9 125 "CardBandModel" "colours" "I", Cond.methodLink RX9 190 yX9_isColour, Cond.instanceMethod yX9_isColour, Cond.selects RX9 yX9_isColour yX9_isColour, Cond.initialized RX9, Cond.code yX9_isColour cX9_isColour 2 (some .boolean), Cond.methodLink RX9 56 yX9_in, Cond.static yX9_in, Cond.code yX9_in cX9_in 6 (some .boolean), Cond.methodLink RX9 281 yX9_shareOf, Cond.instanceMethod yX9_shareOf, Cond.selects RX9 yX9_shareOf yX9_shareOf, Cond.code yX9_shareOf cX9_shareOf 6 (some .int), Cond.fieldLink RX9 122 "CardBandModel" "cards" "I", Cond.methodLink RX9 184 yX9_colourOf, Cond.instanceMethod yX9_colourOf, Cond.selects RX9 yX9_colourOf yX9_colourOf, Cond.code yX9_colourOf cX9_colourOf 3 (some .int), Cond.fieldLink RX9 17 "CardBandModel" "hole" "[I", Cond.methodLink RX9 147 yX9_one, Cond.static yX9_one]
def wsX9_share_r2 : List Cond := [Cond.code yX9_one cX9_one 1 (some .int)]
def wsX9_share : List Cond := .code yX9_share cX9_share 5 (some .int) :: ((wsX9_share_r1 ++ wsX9_share_r2) ++ wsX90)
def wsX9_plain : List Cond := .code yX9_plain cX9_plain 6 (some .int) :: ([.constantLong RX9 284 (60), .constantLong RX9 286 (100), .constant RX9 60 (-1000000002), .constantLong RX9 288 (1000000000), .methodLink RX9 56 yX9_in, .static yX9_in, .initialized RX9, .code yX9_in cX9_in 6 (some .boolean)])
def wsX9_see : List Cond := .code yX9_see cX9_see 4 (some .int) :: ([.constant RX9 183 (-1000000001), .constantLong RX9 255 (99), .constant RX9 60 (-1000000002), .fieldLink RX9 131 "CardBandModel" "seen" "I", .constant RX9 64 (-1000000004), .fieldLink RX9 39 "CardBandModel" "seenCard" "[I", .fieldLink RX9 42 "CardBandModel" "seenTurns" "[I", .fieldLink RX9 45 "CardBandModel" "seenColour" "[I", .methodLink RX9 180 yX9_isCard, .instanceMethod yX9_isCard, .selects RX9 yX9_isCard yX9_isCard, .initialized RX9, .code yX9_isCard cX9_isCard 2 (some .boolean), .fieldLink RX9 122 "CardBandModel" "cards" "I", .methodLink RX9 56 yX9_in, .static yX9_in, .code yX9_in cX9_in 6 (some .boolean), .methodLink RX9 190 yX9_isColour, .instanceMethod yX9_isColour, .selects RX9 yX9_isColour yX9_isColour, .code yX9_isColour cX9_isColour 2 (some .boolean), .fieldLink RX9 125 "CardBandModel" "colours" "I"] ++ wsX90)
def wsX9_holesOf : List Cond := .code yX9_holesOf cX9_holesOf 6 (some .int) :: ([.fieldLink RX9 131 "CardBandModel" "seen" "I", .fieldLink RX9 39 "CardBandModel" "seenCard" "[I", .fieldLink RX9 42 "CardBandModel" "seenTurns" "[I", .fieldLink RX9 45 "CardBandModel" "seenColour" "[I", .methodLink RX9 184 yX9_colourOf, .instanceMethod yX9_colourOf, .selects RX9 yX9_colourOf yX9_colourOf, .initialized RX9, .code yX9_colourOf cX9_colourOf 3 (some .int), .fieldLink RX9 17 "CardBandModel" "hole" "[I", .methodLink RX9 147 yX9_one, .static yX9_one, .code yX9_one cX9_one 1 (some .int)] ++ wsX90)
def wsX9_holes_r1 : List Cond := [Cond.constant RX9 183 (-1000000001), Cond.methodLink RX9 180 yX9_isCard, Cond.instanceMethod yX9_isCard, Cond.selects RX9 yX9_isCard yX9_isCard, Cond.initialized RX9, Cond.code yX9_isCard cX9_isCard 2 (some .boolean), Cond.fieldLink RX9 122 "CardBandModel" "cards" "I", Cond.methodLink RX9 56 yX9_in, Cond.static yX9_in, Cond.code yX9_in cX9_in 6 (some .boolean), Cond.methodLink RX9 290 yX9_holesOf, Cond.instanceMethod yX9_holesOf, Cond.selects RX9 yX9_holesOf yX9_holesOf, Cond.code yX9_holesOf cX9_holesOf 6 (some .int), Cond.fieldLink RX9 131 "CardBandModel" "seen" "I", Cond.fieldLink RX9 39 "CardBandModel" "seenCard" "[I", Cond.fieldLink RX9 42 "CardBandModel" "seenTurns" "[I", Cond.fieldLink RX9 45 "CardBandModel" "seenColour" "[I", Cond.methodLink RX9 184 yX9_colourOf, Cond.instanceMethod yX9_colourOf, Cond.selects RX9 yX9_colourOf yX9_colourOf, Cond.code yX9_colourOf cX9_colourOf 3 (some .int), Cond.fieldLink RX9 17 "CardBandModel" "hole" "[I", Cond.methodLink RX9 147 yX9_one]
def wsX9_holes_r2 : List Cond := [Cond.static yX9_one, Cond.code yX9_one cX9_one 1 (some .int)]
def wsX9_holes : List Cond := .code yX9_holes cX9_holes 2 (some .int) :: ((wsX9_holes_r1 ++ wsX9_holes_r2) ++ wsX90)
def wsX9_greatestPart : List Cond := .code yX9_greatestPart cX9_greatestPart 8 (some .int) :: ([.fieldLink RX9 125 "CardBandModel" "colours" "I", .methodLink RX9 140 yX9_has, .static yX9_has, .initialized RX9, .code yX9_has cX9_has 2 (some .boolean), .methodLink RX9 184 yX9_colourOf, .instanceMethod yX9_colourOf, .selects RX9 yX9_colourOf yX9_colourOf, .code yX9_colourOf cX9_colourOf 3 (some .int), .fieldLink RX9 17 "CardBandModel" "hole" "[I", .methodLink RX9 147 yX9_one, .static yX9_one, .code yX9_one cX9_one 1 (some .int), .methodLink RX9 155 yX9_most, .static yX9_most, .code yX9_most cX9_most 2 (some .int)] ++ wsX90)
def wsX9_lookAt_r1 : List Cond := [Cond.constant RX9 183 (-1000000001), Cond.methodLink RX9 180 yX9_isCard, Cond.instanceMethod yX9_isCard, Cond.selects RX9 yX9_isCard yX9_isCard, Cond.initialized RX9, Cond.code yX9_isCard cX9_isCard 2 (some .boolean), Cond.fieldLink RX9 122 "CardBandModel" "cards" "I", Cond.methodLink RX9 56 yX9_in, Cond.static yX9_in, Cond.code yX9_in cX9_in 6 (some .boolean), Cond.methodLink RX9 290 yX9_holesOf, Cond.instanceMethod yX9_holesOf, Cond.selects RX9 yX9_holesOf yX9_holesOf, Cond.code yX9_holesOf cX9_holesOf 6 (some .int), Cond.fieldLink RX9 131 "CardBandModel" "seen" "I", Cond.fieldLink RX9 39 "CardBandModel" "seenCard" "[I", Cond.fieldLink RX9 42 "CardBandModel" "seenTurns" "[I", Cond.fieldLink RX9 45 "CardBandModel" "seenColour" "[I", Cond.methodLink RX9 184 yX9_colourOf, Cond.instanceMethod yX9_colourOf, Cond.selects RX9 yX9_colourOf yX9_colourOf, Cond.code yX9_colourOf cX9_colourOf 3 (some .int), Cond.fieldLink RX9 17 "CardBandModel" "hole" "[I", Cond.methodLink RX9 147 yX9_one]
def wsX9_lookAt_r2 : List Cond := [Cond.static yX9_one, Cond.code yX9_one cX9_one 1 (some .int), Cond.methodLink RX9 293 yX9_greatestPart, Cond.instanceMethod yX9_greatestPart, Cond.selects RX9 yX9_greatestPart yX9_greatestPart, Cond.code yX9_greatestPart cX9_greatestPart 8 (some .int), Cond.fieldLink RX9 125 "CardBandModel" "colours" "I", Cond.methodLink RX9 140 yX9_has, Cond.static yX9_has, Cond.code yX9_has cX9_has 2 (some .boolean), Cond.methodLink RX9 155 yX9_most, Cond.static yX9_most, Cond.code yX9_most cX9_most 2 (some .int), Cond.methodLink RX9 239 yX9_least, Cond.static yX9_least, Cond.code yX9_least cX9_least 2 (some .int)]
def wsX9_lookAt : List Cond := .code yX9_lookAt cX9_lookAt 7 (some .int) :: ((wsX9_lookAt_r1 ++ wsX9_lookAt_r2) ++ wsX90)
def wsX9_write : List Cond := .code yX9_write cX9_write 3 (some .int) :: ([.constant RX9 183 (-1000000001), .fieldLink RX9 134 "CardBandModel" "written" "I", .constant RX9 64 (-1000000004), .fieldLink RX9 48 "CardBandModel" "bookOf" "[I", .fieldLink RX9 51 "CardBandModel" "bookColour" "[I", .methodLink RX9 180 yX9_isCard, .instanceMethod yX9_isCard, .selects RX9 yX9_isCard yX9_isCard, .initialized RX9, .code yX9_isCard cX9_isCard 2 (some .boolean), .fieldLink RX9 122 "CardBandModel" "cards" "I", .methodLink RX9 56 yX9_in, .static yX9_in, .code yX9_in cX9_in 6 (some .boolean), .methodLink RX9 190 yX9_isColour, .instanceMethod yX9_isColour, .selects RX9 yX9_isColour yX9_isColour, .code yX9_isColour cX9_isColour 2 (some .boolean), .fieldLink RX9 125 "CardBandModel" "colours" "I"] ++ wsX90)
def wsX9_judge : List Cond := .code yX9_judge cX9_judge 2 (some .int) :: ([.fieldLink RX9 134 "CardBandModel" "written" "I", .fieldLink RX9 7 "CardBandModel" "w" "[I", .fieldLink RX9 48 "CardBandModel" "bookOf" "[I", .fieldLink RX9 51 "CardBandModel" "bookColour" "[I"] ++ wsX90)
def wsX9_tear : List Cond := .code yX9_tear cX9_tear 2 (some .int) :: ([.fieldLink RX9 131 "CardBandModel" "seen" "I", .fieldLink RX9 134 "CardBandModel" "written" "I"] ++ wsX90)
def wsX9_seed : List Cond := .code yX9_seed cX9_seed 3 (some .int) :: ([.constant RX9 60 (-1000000002), .fieldLink RX9 7 "CardBandModel" "w" "[I"] ++ wsX90)
def wsX9_keep : List Cond := .code yX9_keep cX9_keep 2 (some .int) :: ([.constant RX9 183 (-1000000001), .fieldLink RX9 13 "CardBandModel" "isKept" "[Z", .fieldLink RX9 137 "CardBandModel" "undoMany" "I", .methodLink RX9 56 yX9_in, .static yX9_in, .initialized RX9, .code yX9_in cX9_in 6 (some .boolean), .methodLink RX9 193 yX9_copy, .instanceMethod yX9_copy, .selects RX9 yX9_copy yX9_copy, .code yX9_copy cX9_copy 4 none, .fieldLink RX9 7 "CardBandModel" "w" "[I"] ++ wsX90)
def wsX9_goBack : List Cond := .code yX9_goBack cX9_goBack 2 (some .int) :: ([.constant RX9 183 (-1000000001), .fieldLink RX9 13 "CardBandModel" "isKept" "[Z", .constant RX9 231 (-1000000003), .fieldLink RX9 137 "CardBandModel" "undoMany" "I", .methodLink RX9 56 yX9_in, .static yX9_in, .initialized RX9, .code yX9_in cX9_in 6 (some .boolean), .methodLink RX9 193 yX9_copy, .instanceMethod yX9_copy, .selects RX9 yX9_copy yX9_copy, .code yX9_copy cX9_copy 4 none, .fieldLink RX9 7 "CardBandModel" "w" "[I"] ++ wsX90)
def wsJ9_abs_0f7a4 : List Cond := .code yJ9_abs_0f7a4 cJ9_abs_0f7a4 1 (some .int) :: ([])
def wsJ9_max_7cf53 : List Cond := .code yJ9_max_7cf53 cJ9_max_7cf53 2 (some .int) :: ([])
def wsJ9_min_7cf53 : List Cond := .code yJ9_min_7cf53 cJ9_min_7cf53 2 (some .int) :: ([])
abbrev vwCl : List vw_C := [(RX1, TX1, 3), (RX2, TX2, 3), (RX3, TX3, 7), (RX4, TX4, 6), (RX5, TX5, 9), (RX7, TX7, 9), (RX8, TX8, 9), (RX9, TX9, 27)]
end
section
/-! THE WORLD: one flat memory (relative address, slot or index) for all cells of the class and of the reference; how values are written; what a method may ask of it -/
abbrev Mm := Nat → Nat → Int32
abbrev CS := ClassId × ClassId × ClassId × ClassId
def wr (a : Int) : Int := (a + 2147483648) % 4294967296 - 2147483648
def wL (a : Int) : Int := (a + 9223372036854775808) % 18446744073709551616 - 9223372036854775808
def jI (e : Int) : Value := .int (Int32.ofInt e)
def jL (e : Int) : Value := .long (Int64.ofInt e)
def jR (b a : Nat) : Value := .ref (b + a)
def jN (b : Nat) (e : Int) : Value := if e < 0 then .null else .ref (b + e.toNat)
def gI (μ : Mm) (a k : Nat) : Int := (μ a k).toInt
def sM (μ : Mm) (a : Nat) (g : Nat → Int32) : Mm := fun x => if x = a then g else μ x
def pI (μ : Mm) (a k : Nat) (v : Int) : Mm := sM μ a (upd (μ a) k (Int32.ofInt v))
def ldA (μ : Mm) (a n : Nat) (i : Int) : Option Int := if 0 ≤ wr i ∧ wr i < n then some (gI μ a (wr i).toNat) else none
def ckI (n : Nat) (i : Int) : Option Int := if 0 ≤ wr i ∧ wr i < n then some (wr i) else none
def stA (μ : Mm) (a n : Nat) (i v : Int) : Option Mm := if 0 ≤ wr i ∧ wr i < n then some (pI μ a (wr i).toNat v) else none
def cpA (μ : Mm) (a n c k : Nat) (sp dp z : Int) : Option Mm := if (0 ≤ wr sp ∧ 0 ≤ wr dp ∧ 0 ≤ wr z) ∧ (wr sp + wr z ≤ n ∧ wr dp + wr z ≤ k) then some (sM μ c (va_cpy (μ a) (μ c) (wr sp).toNat (wr dp).toNat (wr z).toNat)) else none
def kdL : List Nat := [6, 3, 1240, 5, 1008, 1008, 1008, 1008, 1008, 1008, 1008, 1192, 5, 1008, 1008, 1008, 1008, 1008, 1008, 1008, 1192, 0, 51, 5, 1008, 1008, 1008, 1008, 1008, 1008, 1008, 1192, 5, 1008, 1008, 1008, 1008, 1008, 1008, 1008, 1192, 5, 1008, 1008, 1008, 1008, 1008, 1008, 1008, 1192, 5, 1008, 1008, 1008, 1008, 1008, 1008, 1008, 1192, 5, 1008, 1008, 1008, 1008, 1008, 1008, 1008, 1192, 5, 1008, 1008, 1008, 1008, 1008, 1008, 1008, 1192, 5, 1008, 1008, 1008, 1008, 1008, 1008, 1008, 1192, 5, 1008, 1008, 1008, 1008, 1008, 1008, 1008, 1192, 5, 1008, 1008, 1008, 1008, 1008, 1008, 1008, 1192, 5, 1008, 1008, 1008, 1008, 1008, 1008, 1008, 1192, 5, 1008, 1008, 1008, 1008, 1008, 1008, 1008, 1192, 5, 1008, 1008, 1008, 1008, 1008, 1008, 1008, 1192, 5, 1008, 1008, 1008, 1008, 1008, 1008, 1008, 1192, 5, 1008, 1008, 1008, 1008, 1008, 1008, 1008, 1192, 5, 1008, 1008, 1008, 1008, 1008, 1008, 1008, 1192, 5, 1008, 1008, 1008, 1008, 1008, 1008, 1008, 1192, 5, 1008, 1008, 1008, 1008, 1008, 1008, 1008, 1192, 5, 1008, 1008, 1008, 1008, 1008, 1008, 1008, 1192, 5, 1008, 1008, 1008, 1008, 1008, 1008, 1008, 1192, 5, 1008, 1008, 1008, 1008, 1008, 1008, 1008, 1192, 5, 1008, 1008, 1008, 1008, 1008, 1008, 1008, 1192, 5, 1008, 1008, 1008, 1008, 1008, 1008, 1008, 1192, 5, 1008, 1008, 1008, 1008, 1008, 1008, 1008, 1192, 5, 1008, 1008, 1008, 1008, 1008, 1008, 1008, 1192, 5, 1008, 1008, 1008, 1008, 1008, 1008, 1008, 1192, 5, 1008, 1008, 1008, 1008, 1008, 1008, 1008, 1192, 5, 1008, 1008, 1008, 1008, 1008, 1008, 1008, 1192, 5, 1008, 1008, 1008, 1008, 1008, 1008, 1008, 1192, 5, 1008, 1008, 1008, 1008, 1008, 1008, 1008, 1192, 5, 1008, 1008, 1008, 1008, 1008, 1008, 1008, 1192, 2, 1008, 1008, 1008, 1020, 1020, 52, 4, 1032, 1008, 1008, 1004, 1008, 4, 1032, 1008, 1008, 1004, 1008, 1, 5, 1008, 1008, 1008, 1008, 1008, 1008, 1008, 1192, 1, 5, 1008, 1008, 1008, 1008, 1008, 1008, 1008, 1192, 7, 9262, 50, 1064, 1016, 1008, 1008, 1240, 1020, 1008, 1008, 1008, 1020, 1020]
def kd (a : Nat) : Nat := kdL.getD a 99
def flds (b ci a : Nat) (g : Nat → Int32) : List Value := match ci with
  | 0 => [.ref (b + (a + 1)), .int (g 1), .int (g 2)]
  | 1 => [.ref (b + (a + 1)), .long (g 1).toInt64, .int (g 2)]
  | 2 => [.ref (b + (a + 1)), .ref (b + (a + 2)), .ref (b + (a + 3)), .ref (b + (a + 4)), .ref (b + (a + 5)), .int (g 5), .int (g 6)]
  | 3 => [.ref (b + (a + 1)), .int (g 1), .int (g 2), .int (g 3), .int (g 4), .int (g 5)]
  | 4 => [.ref (b + (a + 1)), .ref (b + (a + 2)), .ref (b + (a + 3)), .ref (b + (a + 4)), .ref (b + (a + 5)), .int (g 5), .int (g 6), .int (g 7), .int (g 8)]
  | 5 => [.ref (b + (a + 1)), .ref (b + (a + 2)), .ref (b + (a + 3)), .ref (b + (a + 4)), .ref (b + (a + 5)), .ref (b + (a + 6)), .ref (b + (a + 7)), .ref (b + (a + 8)), .int (g 8)]
  | 6 => [.ref (b + (a + 1)), .ref (b + (a + 3)), .ref (b + (a + 12)), .ref (b + (a + 21)), .ref (b + (a + 293)), .ref (b + (a + 299)), .ref (b + (g 6).toInt.toNat), .ref (b + (g 7).toInt.toNat), .long (g 8).toInt64]
  | _ => [.ref (b + (a + 1)), .ref (b + (a + 2)), .int (g 2), .int (g 3), .ref (b + (a + 3)), .ref (b + (a + 4)), .int (g 6), .int (g 7), .ref (b + (a + 5)), .int (g 9), .int (g 10), .ref (b + (a + 6)), .ref (b + (a + 7)), .int (g 13), .int (g 14), .int (g 15), .int (g 16), .int (g 17), .int (g 18), .ref (b + (a + 8)), .ref (b + (a + 9)), .ref (b + (a + 10)), .ref (b + (a + 11)), .int (g 23), .ref (b + (a + 12)), .ref (b + (a + 13)), .int (g 26)]
def layc (b : Nat) (cs : CS) (a : Nat) (g : Nat → Int32) : va_E :=
  if kd a < 8 then .inr (kd a, flds b (kd a) a g) else
  if kd a = 50 then .inl (cs.2.1, 2, .inl g) else
  if kd a = 51 then .inl (cs.2.2.1, 30, .inr (.inr (.inr (.inr (fun i => some (b + (23 + 9 * i))))))) else
  if kd a = 52 then .inl (cs.2.2.2, 2, .inr (.inr (.inr (.inr (fun i => some (b + (312 + 10 * i))))))) else
  .inl (cs.1, kd a - 1000, .inl g)
def wl (b : Nat) (cs : CS) (μ : Mm) : va_W := (List.range 346).map (fun a => (b + a, layc b cs a (μ a)))
def tyl (cs : CS) : List (ClassId × FieldType) := [(cs.1, .int), (cs.2.1, .boolean), (cs.2.2.1, .object "CardBand$Weave"), (cs.2.2.2, .object "CardBand$Image")]
def bA (b : Nat) : Nat → Prop := fun q => b ≤ q
theorem kd_lt {a : Nat} (h : kd a ≠ 99) : a < 346 := by
  rcases Nat.lt_or_ge a 346 with q | q
  · exact q
  · exact absurd (by have e : kdL.length = 346 := by decide +kernel
                     rw [kd, List.getD_eq_getElem?_getD, List.getElem?_eq_none (by rw [e]; exact q)]; rfl) h
theorem wl_at (b : Nat) (cs : CS) (μ : Mm) {a : Nat} (h : a < 346) : (wl b cs μ)[a]? = some (b + a, layc b cs a (μ a)) := by
  simp [wl, List.getElem?_range, h]
theorem wl_set (b : Nat) (cs : CS) (μ : Mm) {a : Nat} (h : a < 346) (g : Nat → Int32) : (wl b cs μ).set a (b + a, layc b cs a g) = wl b cs (sM μ a g) := by
  apply List.ext_getElem?
  intro i
  rcases Nat.lt_or_ge i 346 with q | q
  · rw [wl_at b cs (sM μ a g) q, List.getElem?_set]
    by_cases e : a = i
    · subst e
      rw [if_pos rfl, if_pos (by simpa [wl] using h)]
      simp [sM]
    · rw [if_neg e, wl_at b cs μ q]
      simp [sM, Ne.symm e]
  · rw [List.getElem?_eq_none (by simpa [wl] using q), List.getElem?_eq_none (by simpa [wl] using q)]
theorem wl_D (b : Nat) (cs : CS) (μ : Mm) : va_D (bA b) (wl b cs μ) := by
  have key : ∀ (i : Nat) (p : Nat × va_E), (wl b cs μ)[i]? = some p → i < 346 ∧ p.1 = b + i := by
    intro i p hp
    rcases Nat.lt_or_ge i 346 with q | q
    · rw [wl_at b cs μ q] at hp
      cases hp
      exact ⟨q, rfl⟩
    · rw [List.getElem?_eq_none (by simpa [wl] using q)] at hp
      cases hp
  refine ⟨fun i j p q hi hj hpq => ?_, fun k q hk => ?_⟩
  · have h1 := (key i p hi).2
    have h2 := (key j q hj).2
    omega
  · have h1 := (key k q hk).2
    show b ≤ q.1
    omega
theorem wr_eq (a : Int) : (Int32.ofInt a).toInt = wr a := by
  rw [Int32.toInt_ofInt]
  simp only [Int.bmod, wr, Int32.size]
  split <;> omega
theorem wL_eq (a : Int) : (Int64.ofInt a).toInt = wL a := by
  rw [Int64.toInt_ofInt]
  simp only [Int.bmod, wL, Int64.size]
  split <;> omega
theorem wr_id {a : Int} (h1 : -2147483648 ≤ a) (h2 : a < 2147483648) : wr a = a := by unfold wr; omega
theorem wL_id {a : Int} (h1 : -9223372036854775808 ≤ a) (h2 : a < 9223372036854775808) : wL a = a := by unfold wL; omega
theorem wr_lo (a : Int) : -2147483648 ≤ wr a := by unfold wr; omega
theorem wr_hi (a : Int) : wr a < 2147483648 := by unfold wr; omega
theorem wr_wr (a : Int) : wr (wr a) = wr a := wr_id (wr_lo a) (wr_hi a)
theorem o32_wr (a : Int) : Int32.ofInt (wr a) = Int32.ofInt a := by
  apply Int32.toInt_inj.mp
  rw [wr_eq, wr_eq, wr_wr]
theorem gI_lo (μ : Mm) (a k : Nat) : -2147483648 ≤ gI μ a k := Int32.le_toInt _
theorem gI_hi (μ : Mm) (a k : Nat) : gI μ a k < 2147483648 := Int32.toInt_lt _
theorem wr_gI (μ : Mm) (a k : Nat) : wr (gI μ a k) = gI μ a k := wr_id (gI_lo μ a k) (gI_hi μ a k)
theorem jI_g (μ : Mm) (a k : Nat) : jI (gI μ a k) = .int (μ a k) := by
  unfold jI gI
  rw [Int32.ofInt_toInt]
theorem jI_i (x : Int32) : jI x.toInt = .int x := by
  unfold jI
  rw [Int32.ofInt_toInt]
theorem jI_wr (a : Int) : jI (wr a) = jI a := by
  unfold jI
  rw [o32_wr]
theorem i32_inj {a b : Int} : Int32.ofInt a = Int32.ofInt b ↔ wr a = wr b := by
  rw [← Int32.toInt_inj, wr_eq, wr_eq]
theorem i32_lt {a b : Int} : Int32.ofInt a < Int32.ofInt b ↔ wr a < wr b := by
  rw [Int32.lt_iff_toInt_lt, wr_eq, wr_eq]
theorem i32_le {a b : Int} : Int32.ofInt a ≤ Int32.ofInt b ↔ wr a ≤ wr b := by
  rw [Int32.le_iff_toInt_le, wr_eq, wr_eq]
theorem i32_0 : (0 : Int32) = Int32.ofInt 0 := by decide
theorem i32_cl {a : Int} (h : 0 ≤ wr a) : (Int32.ofInt a).toNatClampNeg = (wr a).toNat := by
  rw [Int32.toNatClampNeg, wr_eq]
theorem vp_in_w {a : Int} {n : Nat} (h : 0 ≤ wr a ∧ wr a < n) : vp_in (Int32.ofInt a) n := by
  rw [vp_in_iff, wr_eq]
  exact h
def shlI (a b : Int) : Int := (Int32.ofInt a <<< (Int32.ofInt b &&& 31)).toInt
def shrI (a b : Int) : Int := (Int32.ofInt a >>> (Int32.ofInt b &&& 31)).toInt
def ushI (a b : Int) : Int := ((Int32.ofInt a).toUInt32 >>> ((Int32.ofInt b).toUInt32 &&& Int32.toUInt32 31)).toInt32.toInt
def andI (a b : Int) : Int := (Int32.ofInt a &&& Int32.ofInt b).toInt
def orI (a b : Int) : Int := (Int32.ofInt a ||| Int32.ofInt b).toInt
def xorI (a b : Int) : Int := (Int32.ofInt a ^^^ Int32.ofInt b).toInt
def dvI (a b : Int) : Int := (wr a).tdiv (wr b)
def rmI (a b : Int) : Int := (wr a).tmod (wr b)
def dvL (a b : Int) : Int := (wL a).tdiv (wL b)
def rmL (a b : Int) : Int := (wL a).tmod (wL b)
def lcI (a b : Int) : Int := if wL a < wL b then -1 else if wL a = wL b then 0 else 1
theorem o32_div (a b : Int) : Int32.ofInt a / Int32.ofInt b = Int32.ofInt (dvI a b) := by
  apply Int32.toInt_inj.mp
  rw [Int32.toInt_div, wr_eq, wr_eq, Int32.toInt_ofInt]
  rfl
theorem o64_div (a b : Int) : Int64.ofInt a / Int64.ofInt b = Int64.ofInt (dvL a b) := by
  apply Int64.toInt_inj.mp
  rw [Int64.toInt_div, wL_eq, wL_eq, Int64.toInt_ofInt]
  rfl
end
section
/-! THE ROWS over that world -/
section JROWS
variable {p : Program} {l : Launch} {e : Env} {R : Room} {s : State} {m : MethodId} {args : Array Value} {below : List Frame} {meth : Method} {c : Code} {H : Heap} {locs : List Loc} {cells slots : Nat} {Q : State → Prop}
variable {cc : ByteArray} {pc : Nat} {ls : Array Slot} {rest : List Value} {D : va_G} {b : Nat} {cs : CS} {μ μ1 : Mm} {H0 : Heap} {i nL : Nat} {lv lv2 : List (Nat × Value)} {tgt : Nat} {off : Int}
theorem j_iconst (hx : p.tables.exec = Jvm.exec) (hb : c.code = cc) {n : Int} (hdg : decode cc pc = .ok (.iconst n, 1)) (k : W p l e R s m args below meth c H locs cells slots Q (F0 m (pc + 1) ls (jI n :: rest))) : W p l e R s m args below meth c H locs cells slots Q (F0 m pc ls rest) := lv_iconst hx hb hdg rfl k
theorem j_bipush (hx : p.tables.exec = Jvm.exec) (hb : c.code = cc) {n : Int} (hdg : decode cc pc = .ok (.bipush n, 2)) (hv : (Int8.ofInt n).toInt32 = Int32.ofInt n) (k : W p l e R s m args below meth c H locs cells slots Q (F0 m (pc + 2) ls (jI n :: rest))) : W p l e R s m args below meth c H locs cells slots Q (F0 m pc ls rest) := lv_bipush hx hb hdg hv k
theorem j_sipush (hx : p.tables.exec = Jvm.exec) (hb : c.code = cc) {n : Int} (hdg : decode cc pc = .ok (.sipush n, 3)) (hv : (Int16.ofInt n).toInt32 = Int32.ofInt n) (k : W p l e R s m args below meth c H locs cells slots Q (F0 m (pc + 3) ls (jI n :: rest))) : W p l e R s m args below meth c H locs cells slots Q (F0 m pc ls rest) := lv_sipush hx hb hdg hv k
theorem j_ldc (hx : p.tables.exec = Jvm.exec) (hb : c.code = cc) {own : String} {index : Nat} {v : Int32} {n : Int} (hown : s.vm.findClass own = some m.cls) (hc : (Jvm.Cond.constant own index v).before args s = true) (hv : v = Int32.ofInt n) (hdg : decode cc pc = .ok (.ldc index, 2)) (k : W p l e R s m args below meth c H locs cells slots Q (F0 m (pc + 2) ls (jI n :: rest))) : W p l e R s m args below meth c H locs cells slots Q (F0 m pc ls rest) := lv_ldc hx hb hown hc hdg (by rw [hv]; exact k)
theorem j_ldc2 (hx : p.tables.exec = Jvm.exec) (hb : c.code = cc) {own : String} {index : Nat} {v : Int64} {n : Int} (hown : s.vm.findClass own = some m.cls) (hc : (Jvm.Cond.constantLong own index v).before args s = true) (hv : v = Int64.ofInt n) (hdg : decode cc pc = .ok (.ldc2_w index, 3)) (k : W p l e R s m args below meth c H locs cells slots Q (F0 m (pc + 3) ls (jL n :: rest))) : W p l e R s m args below meth c H locs cells slots Q (F0 m pc ls rest) := lv_ldc2 hx hb hown hc hdg (by rw [hv]; exact k)
theorem j_lconst (hx : p.tables.exec = Jvm.exec) (hb : c.code = cc) {f : Fin 2} {n : Int} (hdg : decode cc pc = .ok (.lconst f, 1)) (hv : Int64.ofNat (f : Nat) = Int64.ofInt n) (k : W p l e R s m args below meth c H locs cells slots Q (F0 m (pc + 1) ls (jL n :: rest))) : W p l e R s m args below meth c H locs cells slots Q (F0 m pc ls rest) := lv_lconst hx hb hdg hv k
theorem j_null (hx : p.tables.exec = Jvm.exec) (hb : c.code = cc) (hdg : decode cc pc = .ok (.aconst_null, 1)) (k : W p l e R s m args below meth c H locs cells slots Q (F0 m (pc + 1) ls (jN b (-1) :: rest))) : W p l e R s m args below meth c H locs cells slots Q (F0 m pc ls rest) := lv_null hx hb hdg k
theorem j_iload_n (hx : p.tables.exec = Jvm.exec) (hb : c.code = cc) {f : Fin 4} {x : Int} (hdg : decode cc pc = .ok (.iload_n f, 1)) (hi : (f : Nat) = i) (hl : ls[i]? = some (.val (jI x))) (k : W p l e R s m args below meth c H locs cells slots Q (F0 m (pc + 1) ls (jI x :: rest))) : W p l e R s m args below meth c H locs cells slots Q (F0 m pc ls rest) := lv_iload_n hx hb hdg hi hl k
theorem j_iload (hx : p.tables.exec = Jvm.exec) (hb : c.code = cc) {x : Int} (hdg : decode cc pc = .ok (.iload i, 2)) (hl : ls[i]? = some (.val (jI x))) (k : W p l e R s m args below meth c H locs cells slots Q (F0 m (pc + 2) ls (jI x :: rest))) : W p l e R s m args below meth c H locs cells slots Q (F0 m pc ls rest) := lv_iload hx hb hdg hl k
theorem j_lload_n (hx : p.tables.exec = Jvm.exec) (hb : c.code = cc) {f : Fin 4} {x : Int} (hdg : decode cc pc = .ok (.lload_n f, 1)) (hi : (f : Nat) = i) (hl : ls[i]? = some (.val (jL x))) (k : W p l e R s m args below meth c H locs cells slots Q (F0 m (pc + 1) ls (jL x :: rest))) : W p l e R s m args below meth c H locs cells slots Q (F0 m pc ls rest) := lv_lload_n hx hb hdg hi hl k
theorem j_lload (hx : p.tables.exec = Jvm.exec) (hb : c.code = cc) {x : Int} (hdg : decode cc pc = .ok (.lload i, 2)) (hl : ls[i]? = some (.val (jL x))) (k : W p l e R s m args below meth c H locs cells slots Q (F0 m (pc + 2) ls (jL x :: rest))) : W p l e R s m args below meth c H locs cells slots Q (F0 m pc ls rest) := lv_lload hx hb hdg hl k
theorem j_aload_n (hx : p.tables.exec = Jvm.exec) (hb : c.code = cc) {f : Fin 4} {x : Nat} (hdg : decode cc pc = .ok (.aload_n f, 1)) (hi : (f : Nat) = i) (hl : ls[i]? = some (.val (jR b x))) (k : W p l e R s m args below meth c H locs cells slots Q (F0 m (pc + 1) ls (jR b x :: rest))) : W p l e R s m args below meth c H locs cells slots Q (F0 m pc ls rest) := lv_aload_n hx hb hdg hi hl k
theorem j_aload (hx : p.tables.exec = Jvm.exec) (hb : c.code = cc) {x : Nat} (hdg : decode cc pc = .ok (.aload i, 2)) (hl : ls[i]? = some (.val (jR b x))) (k : W p l e R s m args below meth c H locs cells slots Q (F0 m (pc + 2) ls (jR b x :: rest))) : W p l e R s m args below meth c H locs cells slots Q (F0 m pc ls rest) := lv_aload hx hb hdg hl k
theorem j_aload_nN (hx : p.tables.exec = Jvm.exec) (hb : c.code = cc) {f : Fin 4} {x : Int} (hdg : decode cc pc = .ok (.aload_n f, 1)) (hi : (f : Nat) = i) (hl : ls[i]? = some (.val (jN b x))) (k : W p l e R s m args below meth c H locs cells slots Q (F0 m (pc + 1) ls (jN b x :: rest))) : W p l e R s m args below meth c H locs cells slots Q (F0 m pc ls rest) := by
  unfold jN at hl k
  split at hl
  · rw [if_pos (by assumption)] at k; exact lv_aload_nN hx hb hdg hi hl k
  · rw [if_neg (by assumption)] at k; exact lv_aload_n hx hb hdg hi hl k
theorem j_aloadN (hx : p.tables.exec = Jvm.exec) (hb : c.code = cc) {x : Int} (hdg : decode cc pc = .ok (.aload i, 2)) (hl : ls[i]? = some (.val (jN b x))) (k : W p l e R s m args below meth c H locs cells slots Q (F0 m (pc + 2) ls (jN b x :: rest))) : W p l e R s m args below meth c H locs cells slots Q (F0 m pc ls rest) := by
  unfold jN at hl k
  split at hl
  · rw [if_pos (by assumption)] at k; exact lv_aloadN hx hb hdg hl k
  · rw [if_neg (by assumption)] at k; exact lv_aload hx hb hdg hl k
theorem j_istore_n (hx : p.tables.exec = Jvm.exec) (hb : c.code = cc) {f : Fin 4} {x : Int} (hdg : decode cc pc = .ok (.istore_n f, 1)) (hi : (f : Nat) = i) (h : lv_has ls nL lv) (hn : i < nL) (hl : (i, jI x) :: lv.filter (fun q => !(q.1 == i) && !(q.1 + 1 == i && q.2.category == 2)) = lv2) (k : ∀ ls2 : Array Slot, lv_has ls2 nL lv2 → W p l e R s m args below meth c H locs cells slots Q (F0 m (pc + 1) ls2 rest)) : W p l e R s m args below meth c H locs cells slots Q (F0 m pc ls (jI x :: rest)) := lv_istore_n hx hb hdg hi h hn hl k
theorem j_istore (hx : p.tables.exec = Jvm.exec) (hb : c.code = cc) {x : Int} (hdg : decode cc pc = .ok (.istore i, 2)) (h : lv_has ls nL lv) (hn : i < nL) (hl : (i, jI x) :: lv.filter (fun q => !(q.1 == i) && !(q.1 + 1 == i && q.2.category == 2)) = lv2) (k : ∀ ls2 : Array Slot, lv_has ls2 nL lv2 → W p l e R s m args below meth c H locs cells slots Q (F0 m (pc + 2) ls2 rest)) : W p l e R s m args below meth c H locs cells slots Q (F0 m pc ls (jI x :: rest)) := lv_istore hx hb hdg h hn hl k
theorem j_lstore_n (hx : p.tables.exec = Jvm.exec) (hb : c.code = cc) {f : Fin 4} {x : Int} (hdg : decode cc pc = .ok (.lstore_n f, 1)) (hi : (f : Nat) = i) (h : lv_has ls nL lv) (hn : i + 1 < nL) (hl : (i, jL x) :: lv.filter (fun q => !(q.1 == i) && (!(q.1 == i + 1) && !(q.1 + 1 == i && q.2.category == 2))) = lv2) (k : ∀ ls2 : Array Slot, lv_has ls2 nL lv2 → W p l e R s m args below meth c H locs cells slots Q (F0 m (pc + 1) ls2 rest)) : W p l e R s m args below meth c H locs cells slots Q (F0 m pc ls (jL x :: rest)) := lv_lstore_n hx hb hdg hi h hn hl k
theorem j_astore_n (hx : p.tables.exec = Jvm.exec) (hb : c.code = cc) {f : Fin 4} {x : Nat} (hdg : decode cc pc = .ok (.astore_n f, 1)) (hi : (f : Nat) = i) (h : lv_has ls nL lv) (hn : i < nL) (hl : (i, jR b x) :: lv.filter (fun q => !(q.1 == i) && !(q.1 + 1 == i && q.2.category == 2)) = lv2) (k : ∀ ls2 : Array Slot, lv_has ls2 nL lv2 → W p l e R s m args below meth c H locs cells slots Q (F0 m (pc + 1) ls2 rest)) : W p l e R s m args below meth c H locs cells slots Q (F0 m pc ls (jR b x :: rest)) := lv_astore_n hx hb hdg hi h hn hl k
theorem j_astore (hx : p.tables.exec = Jvm.exec) (hb : c.code = cc) {x : Nat} (hdg : decode cc pc = .ok (.astore i, 2)) (h : lv_has ls nL lv) (hn : i < nL) (hl : (i, jR b x) :: lv.filter (fun q => !(q.1 == i) && !(q.1 + 1 == i && q.2.category == 2)) = lv2) (k : ∀ ls2 : Array Slot, lv_has ls2 nL lv2 → W p l e R s m args below meth c H locs cells slots Q (F0 m (pc + 2) ls2 rest)) : W p l e R s m args below meth c H locs cells slots Q (F0 m pc ls (jR b x :: rest)) := lv_astore hx hb hdg h hn hl k
theorem j_astore_nN (hx : p.tables.exec = Jvm.exec) (hb : c.code = cc) {f : Fin 4} {x : Int} (hdg : decode cc pc = .ok (.astore_n f, 1)) (hi : (f : Nat) = i) (h : lv_has ls nL lv) (hn : i < nL) (hl : (i, jN b x) :: lv.filter (fun q => !(q.1 == i) && !(q.1 + 1 == i && q.2.category == 2)) = lv2) (k : ∀ ls2 : Array Slot, lv_has ls2 nL lv2 → W p l e R s m args below meth c H locs cells slots Q (F0 m (pc + 1) ls2 rest)) : W p l e R s m args below meth c H locs cells slots Q (F0 m pc ls (jN b x :: rest)) := by
  subst hl
  rcases (by unfold jN; split; exact Or.inl rfl; exact Or.inr ⟨_, rfl⟩ : jN b x = .null ∨ ∃ a : Nat, jN b x = .ref a) with hv | ⟨a, hv⟩
  · rw [hv] at k ⊢; exact lv_astore_nN hx hb hdg hi h hn rfl k
  · rw [hv] at k ⊢; exact lv_astore_n hx hb hdg hi h hn rfl k
theorem j_astoreN (hx : p.tables.exec = Jvm.exec) (hb : c.code = cc) {x : Int} (hdg : decode cc pc = .ok (.astore i, 2)) (h : lv_has ls nL lv) (hn : i < nL) (hl : (i, jN b x) :: lv.filter (fun q => !(q.1 == i) && !(q.1 + 1 == i && q.2.category == 2)) = lv2) (k : ∀ ls2 : Array Slot, lv_has ls2 nL lv2 → W p l e R s m args below meth c H locs cells slots Q (F0 m (pc + 2) ls2 rest)) : W p l e R s m args below meth c H locs cells slots Q (F0 m pc ls (jN b x :: rest)) := by
  subst hl
  rcases (by unfold jN; split; exact Or.inl rfl; exact Or.inr ⟨_, rfl⟩ : jN b x = .null ∨ ∃ a : Nat, jN b x = .ref a) with hv | ⟨a, hv⟩
  · rw [hv] at k ⊢; exact lv_astoreN hx hb hdg h hn rfl k
  · rw [hv] at k ⊢; exact lv_astore hx hb hdg h hn rfl k
theorem j_iinc (hx : p.tables.exec = Jvm.exec) (hb : c.code = cc) {k : Nat} {n x : Int} (hdg : decode cc pc = .ok (.iinc i n, 3)) (h : lv_has ls nL lv) (hk : lv[k]? = some (i, jI x)) (hn : i < nL) (hl : (i, jI (x + n)) :: lv.filter (fun q => !(q.1 == i) && !(q.1 + 1 == i && q.2.category == 2)) = lv2) (kk : ∀ ls2 : Array Slot, lv_has ls2 nL lv2 → W p l e R s m args below meth c H locs cells slots Q (F0 m (pc + 3) ls2 rest)) : W p l e R s m args below meth c H locs cells slots Q (F0 m pc ls rest) := lv_iinc hx hb hdg h hk (Int32.ofInt_add x n).symm hn hl kk
theorem j_iadd (hx : p.tables.exec = Jvm.exec) (hb : c.code = cc) {a z : Int} (hdg : decode cc pc = .ok (.iadd, 1)) (k : W p l e R s m args below meth c H locs cells slots Q (F0 m (pc + 1) ls (jI (a + z) :: rest))) : W p l e R s m args below meth c H locs cells slots Q (F0 m pc ls (jI z :: jI a :: rest)) := lv_iadd hx hb hdg (by unfold jI at k; rw [Int32.ofInt_add] at k; exact k)
theorem j_isub (hx : p.tables.exec = Jvm.exec) (hb : c.code = cc) {a z : Int} (hdg : decode cc pc = .ok (.isub, 1)) (k : W p l e R s m args below meth c H locs cells slots Q (F0 m (pc + 1) ls (jI (a - z) :: rest))) : W p l e R s m args below meth c H locs cells slots Q (F0 m pc ls (jI z :: jI a :: rest)) := lv_isub hx hb hdg (by unfold jI at k; rw [Int32.ofInt_sub] at k; exact k)
theorem j_imul (hx : p.tables.exec = Jvm.exec) (hb : c.code = cc) {a z : Int} (hdg : decode cc pc = .ok (.imul, 1)) (k : W p l e R s m args below meth c H locs cells slots Q (F0 m (pc + 1) ls (jI (a * z) :: rest))) : W p l e R s m args below meth c H locs cells slots Q (F0 m pc ls (jI z :: jI a :: rest)) := lv_imul hx hb hdg (by unfold jI at k; rw [Int32.ofInt_mul] at k; exact k)
theorem j_ladd (hx : p.tables.exec = Jvm.exec) (hb : c.code = cc) {a z : Int} (hdg : decode cc pc = .ok (.ladd, 1)) (k : W p l e R s m args below meth c H locs cells slots Q (F0 m (pc + 1) ls (jL (a + z) :: rest))) : W p l e R s m args below meth c H locs cells slots Q (F0 m pc ls (jL z :: jL a :: rest)) := lv_ladd hx hb hdg (by unfold jL at k; rw [Int64.ofInt_add] at k; exact k)
theorem j_lsub (hx : p.tables.exec = Jvm.exec) (hb : c.code = cc) {a z : Int} (hdg : decode cc pc = .ok (.lsub, 1)) (k : W p l e R s m args below meth c H locs cells slots Q (F0 m (pc + 1) ls (jL (a - z) :: rest))) : W p l e R s m args below meth c H locs cells slots Q (F0 m pc ls (jL z :: jL a :: rest)) := lv_lsub hx hb hdg (by unfold jL at k; rw [Int64.ofInt_sub] at k; exact k)
theorem j_lmul (hx : p.tables.exec = Jvm.exec) (hb : c.code = cc) {a z : Int} (hdg : decode cc pc = .ok (.lmul, 1)) (k : W p l e R s m args below meth c H locs cells slots Q (F0 m (pc + 1) ls (jL (a * z) :: rest))) : W p l e R s m args below meth c H locs cells slots Q (F0 m pc ls (jL z :: jL a :: rest)) := lv_lmul hx hb hdg (by unfold jL at k; rw [Int64.ofInt_mul] at k; exact k)
theorem j_iand (hx : p.tables.exec = Jvm.exec) (hb : c.code = cc) {a z : Int} (hdg : decode cc pc = .ok (.iand, 1)) (k : W p l e R s m args below meth c H locs cells slots Q (F0 m (pc + 1) ls (jI (andI a z) :: rest))) : W p l e R s m args below meth c H locs cells slots Q (F0 m pc ls (jI z :: jI a :: rest)) := lv_iand hx hb hdg (by rw [andI, jI_i] at k; exact k)
theorem j_ior (hx : p.tables.exec = Jvm.exec) (hb : c.code = cc) {a z : Int} (hdg : decode cc pc = .ok (.ior, 1)) (k : W p l e R s m args below meth c H locs cells slots Q (F0 m (pc + 1) ls (jI (orI a z) :: rest))) : W p l e R s m args below meth c H locs cells slots Q (F0 m pc ls (jI z :: jI a :: rest)) := lv_ior hx hb hdg (by rw [orI, jI_i] at k; exact k)
theorem j_ixor (hx : p.tables.exec = Jvm.exec) (hb : c.code = cc) {a z : Int} (hdg : decode cc pc = .ok (.ixor, 1)) (k : W p l e R s m args below meth c H locs cells slots Q (F0 m (pc + 1) ls (jI (xorI a z) :: rest))) : W p l e R s m args below meth c H locs cells slots Q (F0 m pc ls (jI z :: jI a :: rest)) := lv_ixor hx hb hdg (by rw [xorI, jI_i] at k; exact k)
theorem j_ishl (hx : p.tables.exec = Jvm.exec) (hb : c.code = cc) {a z : Int} (hdg : decode cc pc = .ok (.ishl, 1)) (k : W p l e R s m args below meth c H locs cells slots Q (F0 m (pc + 1) ls (jI (shlI a z) :: rest))) : W p l e R s m args below meth c H locs cells slots Q (F0 m pc ls (jI z :: jI a :: rest)) := lv_ishl hx hb hdg (by rw [shlI, jI_i] at k; exact k)
theorem j_ishr (hx : p.tables.exec = Jvm.exec) (hb : c.code = cc) {a z : Int} (hdg : decode cc pc = .ok (.ishr, 1)) (k : W p l e R s m args below meth c H locs cells slots Q (F0 m (pc + 1) ls (jI (shrI a z) :: rest))) : W p l e R s m args below meth c H locs cells slots Q (F0 m pc ls (jI z :: jI a :: rest)) := lv_ishr hx hb hdg (by rw [shrI, jI_i] at k; exact k)
theorem j_iushr (hx : p.tables.exec = Jvm.exec) (hb : c.code = cc) {a z : Int} (hdg : decode cc pc = .ok (.iushr, 1)) (k : W p l e R s m args below meth c H locs cells slots Q (F0 m (pc + 1) ls (jI (ushI a z) :: rest))) : W p l e R s m args below meth c H locs cells slots Q (F0 m pc ls (jI z :: jI a :: rest)) := lv_iushr hx hb hdg rfl (by rw [ushI, jI_i] at k; exact k)
theorem j_ineg (hx : p.tables.exec = Jvm.exec) (hb : c.code = cc) {a : Int} (hdg : decode cc pc = .ok (.ineg, 1)) (k : W p l e R s m args below meth c H locs cells slots Q (F0 m (pc + 1) ls (jI (-a) :: rest))) : W p l e R s m args below meth c H locs cells slots Q (F0 m pc ls (jI a :: rest)) := lv_ineg hx hb hdg (by unfold jI at k; rw [Int32.ofInt_neg] at k; exact k)
theorem o32_ne {z : Int} (h : ¬ wr z = 0) : ¬ Int32.ofInt z = 0 := by
  intro q
  rw [i32_0, i32_inj] at q
  exact h (q.trans (by decide))
theorem o64_ne {z : Int} (h : ¬ wL z = 0) : ¬ Int64.ofInt z = 0 := by
  intro q
  have := congrArg Int64.toInt q
  rw [wL_eq] at this
  exact h (this.trans (by decide))
theorem o32_rem (a z : Int) : Int32.ofInt a - Int32.ofInt a / Int32.ofInt z * Int32.ofInt z = Int32.ofInt (rmI a z) := by
  rw [o32_div, ← o32_wr a, ← o32_wr z, ← Int32.ofInt_mul, ← Int32.ofInt_sub]
  congr 1
  unfold dvI rmI
  rw [Int.tmod_def, Int.mul_comm]
theorem o64_wL (a : Int) : Int64.ofInt (wL a) = Int64.ofInt a := by
  apply Int64.toInt_inj.mp
  rw [wL_eq, wL_eq]
  unfold wL
  omega
theorem o64_rem (a z : Int) : Int64.ofInt a - Int64.ofInt a / Int64.ofInt z * Int64.ofInt z = Int64.ofInt (rmL a z) := by
  rw [o64_div, ← o64_wL a, ← o64_wL z, ← Int64.ofInt_mul, ← Int64.ofInt_sub]
  congr 1
  unfold dvL rmL
  rw [Int.tmod_def, Int.mul_comm]
theorem j_idiv (hx : p.tables.exec = Jvm.exec) (hb : c.code = cc) {a z : Int} (hdg : decode cc pc = .ok (.idiv, 1)) (hz : ¬ wr z = 0) (k : W p l e R s m args below meth c H locs cells slots Q (F0 m (pc + 1) ls (jI (dvI a z) :: rest))) : W p l e R s m args below meth c H locs cells slots Q (F0 m pc ls (jI z :: jI a :: rest)) := lv_idiv hx hb hdg (o32_ne hz) (by rw [o32_div]; exact k)
theorem j_irem (hx : p.tables.exec = Jvm.exec) (hb : c.code = cc) {a z : Int} (hdg : decode cc pc = .ok (.irem, 1)) (hz : ¬ wr z = 0) (k : W p l e R s m args below meth c H locs cells slots Q (F0 m (pc + 1) ls (jI (rmI a z) :: rest))) : W p l e R s m args below meth c H locs cells slots Q (F0 m pc ls (jI z :: jI a :: rest)) := lv_irem hx hb hdg (o32_ne hz) (by rw [o32_rem]; exact k)
theorem j_ldiv (hx : p.tables.exec = Jvm.exec) (hb : c.code = cc) {a z : Int} (hdg : decode cc pc = .ok (.ldiv, 1)) (hz : ¬ wL z = 0) (k : W p l e R s m args below meth c H locs cells slots Q (F0 m (pc + 1) ls (jL (dvL a z) :: rest))) : W p l e R s m args below meth c H locs cells slots Q (F0 m pc ls (jL z :: jL a :: rest)) := lv_ldiv hx hb hdg (o64_ne hz) (by rw [o64_div]; exact k)
theorem j_lrem (hx : p.tables.exec = Jvm.exec) (hb : c.code = cc) {a z : Int} (hdg : decode cc pc = .ok (.lrem, 1)) (hz : ¬ wL z = 0) (k : W p l e R s m args below meth c H locs cells slots Q (F0 m (pc + 1) ls (jL (rmL a z) :: rest))) : W p l e R s m args below meth c H locs cells slots Q (F0 m pc ls (jL z :: jL a :: rest)) := lv_lrem hx hb hdg (o64_ne hz) (by rw [o64_rem]; exact k)
theorem j_i2l (hx : p.tables.exec = Jvm.exec) (hb : c.code = cc) {a : Int} (hdg : decode cc pc = .ok (.i2l, 1)) (k : W p l e R s m args below meth c H locs cells slots Q (F0 m (pc + 1) ls (jL (wr a) :: rest))) : W p l e R s m args below meth c H locs cells slots Q (F0 m pc ls (jI a :: rest)) := lv_i2l hx hb hdg (by
  apply Int64.toInt_inj.mp
  rw [Int32.toInt_toInt64, wr_eq, wL_eq]
  exact (wL_id (by have := wr_lo a; omega) (by have := wr_hi a; omega)).symm) k
theorem bm_wr (x : Int) : Int.bmod x 4294967296 = wr x := by
  show (if x % 4294967296 < (4294967296 + 1) / 2 then x % 4294967296 else x % 4294967296 - 4294967296) = wr x
  unfold wr
  split <;> omega
theorem o64_32 (a : Int) : (Int64.ofInt a).toInt32 = Int32.ofInt a := by
  apply Int32.toInt_inj.mp
  rw [Int64.toInt_toInt32, wr_eq, wL_eq, show (2 ^ 32 : Nat) = 4294967296 from rfl, bm_wr]
  unfold wr wL
  omega
theorem j_l2i (hx : p.tables.exec = Jvm.exec) (hb : c.code = cc) {a : Int} (hdg : decode cc pc = .ok (.l2i, 1)) (k : W p l e R s m args below meth c H locs cells slots Q (F0 m (pc + 1) ls (jI a :: rest))) : W p l e R s m args below meth c H locs cells slots Q (F0 m pc ls (jL a :: rest)) := lv_l2i hx hb hdg (o64_32 a) k
theorem j_lcmp (hx : p.tables.exec = Jvm.exec) (hb : c.code = cc) {a z : Int} (hdg : decode cc pc = .ok (.lcmp, 1)) (k : W p l e R s m args below meth c H locs cells slots Q (F0 m (pc + 1) ls (jI (lcI a z) :: rest))) : W p l e R s m args below meth c H locs cells slots Q (F0 m pc ls (jL z :: jL a :: rest)) := W.lcmp hx hb hdg (by
  have e : lg_cmp (Int64.ofInt a) (Int64.ofInt z) = Int32.ofInt (lcI a z) := by
    unfold lg_cmp lcI
    have h1 : Int64.ofInt a > Int64.ofInt z ↔ wL z < wL a := by
      show Int64.ofInt z < Int64.ofInt a ↔ _
      rw [Int64.lt_iff_toInt_lt, wL_eq, wL_eq]
    have h2 : Int64.ofInt a = Int64.ofInt z ↔ wL a = wL z := by rw [← Int64.toInt_inj, wL_eq, wL_eq]
    rcases Int.lt_trichotomy (wL a) (wL z) with q | q | q
    · rw [if_neg (fun y => by have := h1.mp y; omega), if_neg (fun y => by have := h2.mp y; omega), if_pos q]; rfl
    · rw [if_neg (fun y => by have := h1.mp y; omega), if_pos (h2.mpr q), if_neg (by omega), if_pos q]; rfl
    · rw [if_pos (h1.mpr q), if_neg (by omega), if_neg (by omega)]; rfl
  rw [e]; exact k)
theorem j_dup (hx : p.tables.exec = Jvm.exec) (hb : c.code = cc) {v : Value} (hdg : decode cc pc = .ok (.dup, 1)) (hv : v.category = 1) (k : W p l e R s m args below meth c H locs cells slots Q (F0 m (pc + 1) ls (v :: v :: rest))) : W p l e R s m args below meth c H locs cells slots Q (F0 m pc ls (v :: rest)) := lv_dup hx hb hdg hv k
theorem j_dup2 (hx : p.tables.exec = Jvm.exec) (hb : c.code = cc) {v w : Value} (hdg : decode cc pc = .ok (.dup2, 1)) (hv : v.category = 1) (hw : w.category = 1) (k : W p l e R s m args below meth c H locs cells slots Q (F0 m (pc + 1) ls (v :: w :: v :: w :: rest))) : W p l e R s m args below meth c H locs cells slots Q (F0 m pc ls (v :: w :: rest)) := lv_dup2_11 hx hb hdg hv hw k
theorem j_pop (hx : p.tables.exec = Jvm.exec) (hb : c.code = cc) {v : Value} (hdg : decode cc pc = .ok (.pop, 1)) (hv : v.category = 1) (k : W p l e R s m args below meth c H locs cells slots Q (F0 m (pc + 1) ls rest)) : W p l e R s m args below meth c H locs cells slots Q (F0 m pc ls (v :: rest)) := lv_pop hx hb hdg hv k
theorem j_goto (hx : p.tables.exec = Jvm.exec) (hb : c.code = cc) (hdg : decode cc pc = .ok (.goto off, 3)) (ht : (pc : Int) + off = (tgt : Int)) (k : W p l e R s m args below meth c H locs cells slots Q (F0 m tgt ls rest)) : W p l e R s m args below meth c H locs cells slots Q (F0 m pc ls rest) := lv_goto hx hb hdg ht k
theorem i32_0' {a A : Int} (hA : wr a = A) : (Int32.ofInt a = 0) ↔ A = 0 := by
  rw [i32_0, i32_inj, hA]; exact Iff.of_eq (congrArg (A = ·) (by decide))
theorem i32_rel {a z A B : Int} (hA : wr a = A) (hB : wr z = B) : (Int32.ofInt a = Int32.ofInt z ↔ A = B) ∧ (Int32.ofInt a < Int32.ofInt z ↔ A < B) ∧ (Int32.ofInt a ≤ Int32.ofInt z ↔ A ≤ B) := by
  subst hA; subst hB
  exact ⟨i32_inj, i32_lt, i32_le⟩
theorem i32_rel0 {a A : Int} (hA : wr a = A) : (Int32.ofInt a = 0 ↔ A = 0) ∧ (Int32.ofInt a < 0 ↔ A < 0) ∧ (Int32.ofInt a ≤ 0 ↔ A ≤ 0) ∧ ((0 : Int32) ≤ Int32.ofInt a ↔ 0 ≤ A) ∧ ((0 : Int32) < Int32.ofInt a ↔ 0 < A) := by
  have h := i32_rel (a := a) (z := 0) hA (B := 0) (by decide)
  have h' := i32_rel (a := 0) (z := a) (A := 0) (by decide) hA
  rw [i32_0]
  exact ⟨h.1, h.2.1, h.2.2, h'.2.2, h'.2.1⟩theorem j_icmp_eq (hx : p.tables.exec = Jvm.exec) (hb : c.code = cc) {a z A B : Int} (hA : wr a = A) (hB : wr z = B) (hdg : decode cc pc = .ok (.if_icmp .eq off, 3)) (ht : (pc : Int) + off = (tgt : Int)) (kt : A = B → W p l e R s m args below meth c H locs cells slots Q (F0 m tgt ls rest)) (kf : ¬ A = B → W p l e R s m args below meth c H locs cells slots Q (F0 m (pc + 3) ls rest)) : W p l e R s m args below meth c H locs cells slots Q (F0 m pc ls (jI z :: jI a :: rest)) := lv_icmp_eq hx hb hdg ht (fun q => kt ((i32_rel hA hB).1.mp q)) (fun q => kf (fun y => q ((i32_rel hA hB).1.mpr y)))
theorem j_if_eq (hx : p.tables.exec = Jvm.exec) (hb : c.code = cc) {a A : Int} (hA : wr a = A) (hdg : decode cc pc = .ok (.ifCond .eq off, 3)) (ht : (pc : Int) + off = (tgt : Int)) (kt : A = 0 → W p l e R s m args below meth c H locs cells slots Q (F0 m tgt ls rest)) (kf : ¬ A = 0 → W p l e R s m args below meth c H locs cells slots Q (F0 m (pc + 3) ls rest)) : W p l e R s m args below meth c H locs cells slots Q (F0 m pc ls (jI a :: rest)) := lv_if_eq hx hb hdg ht (fun q => kt ((i32_rel0 hA).1.mp q)) (fun q => kf (fun y => q ((i32_rel0 hA).1.mpr y)))
theorem j_icmp_ne (hx : p.tables.exec = Jvm.exec) (hb : c.code = cc) {a z A B : Int} (hA : wr a = A) (hB : wr z = B) (hdg : decode cc pc = .ok (.if_icmp .ne off, 3)) (ht : (pc : Int) + off = (tgt : Int)) (kt : ¬ A = B → W p l e R s m args below meth c H locs cells slots Q (F0 m tgt ls rest)) (kf : A = B → W p l e R s m args below meth c H locs cells slots Q (F0 m (pc + 3) ls rest)) : W p l e R s m args below meth c H locs cells slots Q (F0 m pc ls (jI z :: jI a :: rest)) := lv_icmp_ne hx hb hdg ht (fun q => kt (fun y => q ((i32_rel hA hB).1.mpr y))) (fun q => kf ((i32_rel hA hB).1.mp q))
theorem j_if_ne (hx : p.tables.exec = Jvm.exec) (hb : c.code = cc) {a A : Int} (hA : wr a = A) (hdg : decode cc pc = .ok (.ifCond .ne off, 3)) (ht : (pc : Int) + off = (tgt : Int)) (kt : ¬ A = 0 → W p l e R s m args below meth c H locs cells slots Q (F0 m tgt ls rest)) (kf : A = 0 → W p l e R s m args below meth c H locs cells slots Q (F0 m (pc + 3) ls rest)) : W p l e R s m args below meth c H locs cells slots Q (F0 m pc ls (jI a :: rest)) := lv_if_ne hx hb hdg ht (fun q => kt (fun y => q ((i32_rel0 hA).1.mpr y))) (fun q => kf ((i32_rel0 hA).1.mp q))
theorem j_icmp_lt (hx : p.tables.exec = Jvm.exec) (hb : c.code = cc) {a z A B : Int} (hA : wr a = A) (hB : wr z = B) (hdg : decode cc pc = .ok (.if_icmp .lt off, 3)) (ht : (pc : Int) + off = (tgt : Int)) (kt : A < B → W p l e R s m args below meth c H locs cells slots Q (F0 m tgt ls rest)) (kf : ¬ A < B → W p l e R s m args below meth c H locs cells slots Q (F0 m (pc + 3) ls rest)) : W p l e R s m args below meth c H locs cells slots Q (F0 m pc ls (jI z :: jI a :: rest)) := lv_icmp_lt hx hb hdg ht (fun q => kt ((i32_rel hA hB).2.1.mp q)) (fun q => kf (fun y => q ((i32_rel hA hB).2.1.mpr y)))
theorem j_if_lt (hx : p.tables.exec = Jvm.exec) (hb : c.code = cc) {a A : Int} (hA : wr a = A) (hdg : decode cc pc = .ok (.ifCond .lt off, 3)) (ht : (pc : Int) + off = (tgt : Int)) (kt : A < 0 → W p l e R s m args below meth c H locs cells slots Q (F0 m tgt ls rest)) (kf : ¬ A < 0 → W p l e R s m args below meth c H locs cells slots Q (F0 m (pc + 3) ls rest)) : W p l e R s m args below meth c H locs cells slots Q (F0 m pc ls (jI a :: rest)) := lv_if_lt hx hb hdg ht (fun q => kt ((i32_rel0 hA).2.1.mp q)) (fun q => kf (fun y => q ((i32_rel0 hA).2.1.mpr y)))
theorem j_icmp_ge (hx : p.tables.exec = Jvm.exec) (hb : c.code = cc) {a z A B : Int} (hA : wr a = A) (hB : wr z = B) (hdg : decode cc pc = .ok (.if_icmp .ge off, 3)) (ht : (pc : Int) + off = (tgt : Int)) (kt : B ≤ A → W p l e R s m args below meth c H locs cells slots Q (F0 m tgt ls rest)) (kf : ¬ B ≤ A → W p l e R s m args below meth c H locs cells slots Q (F0 m (pc + 3) ls rest)) : W p l e R s m args below meth c H locs cells slots Q (F0 m pc ls (jI z :: jI a :: rest)) := lv_icmp_ge hx hb hdg ht (fun q => kt ((i32_rel hB hA).2.2.mp q)) (fun q => kf (fun y => q ((i32_rel hB hA).2.2.mpr y)))
theorem j_if_ge (hx : p.tables.exec = Jvm.exec) (hb : c.code = cc) {a A : Int} (hA : wr a = A) (hdg : decode cc pc = .ok (.ifCond .ge off, 3)) (ht : (pc : Int) + off = (tgt : Int)) (kt : 0 ≤ A → W p l e R s m args below meth c H locs cells slots Q (F0 m tgt ls rest)) (kf : ¬ 0 ≤ A → W p l e R s m args below meth c H locs cells slots Q (F0 m (pc + 3) ls rest)) : W p l e R s m args below meth c H locs cells slots Q (F0 m pc ls (jI a :: rest)) := lv_if_ge hx hb hdg ht (fun q => kt ((i32_rel0 hA).2.2.2.1.mp q)) (fun q => kf (fun y => q ((i32_rel0 hA).2.2.2.1.mpr y)))
theorem j_icmp_gt (hx : p.tables.exec = Jvm.exec) (hb : c.code = cc) {a z A B : Int} (hA : wr a = A) (hB : wr z = B) (hdg : decode cc pc = .ok (.if_icmp .gt off, 3)) (ht : (pc : Int) + off = (tgt : Int)) (kt : B < A → W p l e R s m args below meth c H locs cells slots Q (F0 m tgt ls rest)) (kf : ¬ B < A → W p l e R s m args below meth c H locs cells slots Q (F0 m (pc + 3) ls rest)) : W p l e R s m args below meth c H locs cells slots Q (F0 m pc ls (jI z :: jI a :: rest)) := lv_icmp_gt hx hb hdg ht (fun q => kt ((i32_rel hB hA).2.1.mp q)) (fun q => kf (fun y => q ((i32_rel hB hA).2.1.mpr y)))
theorem j_if_gt (hx : p.tables.exec = Jvm.exec) (hb : c.code = cc) {a A : Int} (hA : wr a = A) (hdg : decode cc pc = .ok (.ifCond .gt off, 3)) (ht : (pc : Int) + off = (tgt : Int)) (kt : 0 < A → W p l e R s m args below meth c H locs cells slots Q (F0 m tgt ls rest)) (kf : ¬ 0 < A → W p l e R s m args below meth c H locs cells slots Q (F0 m (pc + 3) ls rest)) : W p l e R s m args below meth c H locs cells slots Q (F0 m pc ls (jI a :: rest)) := lv_if_gt hx hb hdg ht (fun q => kt ((i32_rel0 hA).2.2.2.2.mp q)) (fun q => kf (fun y => q ((i32_rel0 hA).2.2.2.2.mpr y)))
theorem j_icmp_le (hx : p.tables.exec = Jvm.exec) (hb : c.code = cc) {a z A B : Int} (hA : wr a = A) (hB : wr z = B) (hdg : decode cc pc = .ok (.if_icmp .le off, 3)) (ht : (pc : Int) + off = (tgt : Int)) (kt : A ≤ B → W p l e R s m args below meth c H locs cells slots Q (F0 m tgt ls rest)) (kf : ¬ A ≤ B → W p l e R s m args below meth c H locs cells slots Q (F0 m (pc + 3) ls rest)) : W p l e R s m args below meth c H locs cells slots Q (F0 m pc ls (jI z :: jI a :: rest)) := lv_icmp_le hx hb hdg ht (fun q => kt ((i32_rel hA hB).2.2.mp q)) (fun q => kf (fun y => q ((i32_rel hA hB).2.2.mpr y)))
theorem j_if_le (hx : p.tables.exec = Jvm.exec) (hb : c.code = cc) {a A : Int} (hA : wr a = A) (hdg : decode cc pc = .ok (.ifCond .le off, 3)) (ht : (pc : Int) + off = (tgt : Int)) (kt : A ≤ 0 → W p l e R s m args below meth c H locs cells slots Q (F0 m tgt ls rest)) (kf : ¬ A ≤ 0 → W p l e R s m args below meth c H locs cells slots Q (F0 m (pc + 3) ls rest)) : W p l e R s m args below meth c H locs cells slots Q (F0 m pc ls (jI a :: rest)) := lv_if_le hx hb hdg ht (fun q => kt ((i32_rel0 hA).2.2.1.mp q)) (fun q => kf (fun y => q ((i32_rel0 hA).2.2.1.mpr y)))
theorem j_ifnull (hx : p.tables.exec = Jvm.exec) (hb : c.code = cc) {a : Int} (hdg : decode cc pc = .ok (.ifnull off, 3)) (ht : (pc : Int) + off = (tgt : Int)) (kt : a < 0 → W p l e R s m args below meth c H locs cells slots Q (F0 m tgt ls rest)) (kf : ¬ a < 0 → W p l e R s m args below meth c H locs cells slots Q (F0 m (pc + 3) ls rest)) : W p l e R s m args below meth c H locs cells slots Q (F0 m pc ls (jN b a :: rest)) := by
  unfold jN
  split
  · exact lv_ifnullN hx hb hdg ht (kt (by assumption))
  · exact lv_ifnull hx hb hdg (kf (by assumption))
theorem j_ifnonnull (hx : p.tables.exec = Jvm.exec) (hb : c.code = cc) {a : Int} (hdg : decode cc pc = .ok (.ifnonnull off, 3)) (ht : (pc : Int) + off = (tgt : Int)) (kt : ¬ a < 0 → W p l e R s m args below meth c H locs cells slots Q (F0 m tgt ls rest)) (kf : a < 0 → W p l e R s m args below meth c H locs cells slots Q (F0 m (pc + 3) ls rest)) : W p l e R s m args below meth c H locs cells slots Q (F0 m pc ls (jN b a :: rest)) := by
  unfold jN
  split
  · exact lv_ifnonnullN hx hb hdg (kf (by assumption))
  · exact lv_ifnonnull hx hb hdg ht (kt (by assumption))
theorem j_ifnullR (hx : p.tables.exec = Jvm.exec) (hb : c.code = cc) {a : Nat} (hdg : decode cc pc = .ok (.ifnull off, 3)) (k : W p l e R s m args below meth c H locs cells slots Q (F0 m (pc + 3) ls rest)) : W p l e R s m args below meth c H locs cells slots Q (F0 m pc ls (jR b a :: rest)) := lv_ifnull hx hb hdg k
theorem jN_R {b : Nat} {e : Int} (h : ¬ e < 0) : jN b e = jR b e.toNat := if_neg h
theorem jR_N (b a : Nat) : jR b a = jN b (a : Int) := by
  unfold jN jR
  rw [if_neg (by omega), Int.toNat_natCast]
theorem j_tabOut (hx : p.tables.exec = Jvm.exec) (hb : c.code = cc) {dflt lo hi : Int} {offs : Array Int} {len : Nat} {a A : Int} (hA : wr a = A) (hdg : decode cc pc = .ok (.tableswitch dflt lo hi offs, len)) (h : A < lo ∨ hi < A) (ht : (pc : Int) + dflt = (tgt : Int)) (k : W p l e R s m args below meth c H locs cells slots Q (F0 m tgt ls rest)) : W p l e R s m args below meth c H locs cells slots Q (F0 m pc ls (jI a :: rest)) := lv_tableOut hx hb hdg (by rw [wr_eq, hA]; exact h) ht k
theorem j_tabIn (hx : p.tables.exec = Jvm.exec) (hb : c.code = cc) {dflt lo hi : Int} {offs : Array Int} {len : Nat} {a A : Int} (hA : wr a = A) (hdg : decode cc pc = .ok (.tableswitch dflt lo hi offs, len)) (h1 : ¬ A < lo) (h2 : ¬ hi < A) (ho : offs[(A - lo).toNat]? = some off) (ht : (pc : Int) + off = (tgt : Int)) (k : W p l e R s m args below meth c H locs cells slots Q (F0 m tgt ls rest)) : W p l e R s m args below meth c H locs cells slots Q (F0 m pc ls (jI a :: rest)) := lv_tableIn hx hb hdg (by rw [wr_eq, hA]; exact h1) (by rw [wr_eq, hA]; exact h2) (by rw [wr_eq, hA]; exact ho) ht k
theorem j_look (hx : p.tables.exec = Jvm.exec) (hb : c.code = cc) {dflt : Int} {ps : Array (Int × Int)} {len : Nat} {a A : Int} (hA : wr a = A) (hdg : decode cc pc = .ok (.lookupswitch dflt ps, len)) (hp : (ps.toList.zip (ps.toList.drop 1)).all (fun (a, next) => a.1 < next.1) = true) (ho : Op.lookupswitch.offset ps.toList dflt A = off) (ht : (pc : Int) + off = (tgt : Int)) (k : W p l e R s m args below meth c H locs cells slots Q (F0 m tgt ls rest)) : W p l e R s m args below meth c H locs cells slots Q (F0 m pc ls (jI a :: rest)) := lv_lookup hx hb hdg hp (by rw [wr_eq, hA]; exact ho) ht k
theorem j_get (hx : p.tables.exec = Jvm.exec) (hb : c.code = cc) {own ref C : String} {Tf : u_T} {N ci index : Nat} {Ts : List Cond} {a : Nat} (hts : ∀ w ∈ Ts, w.before args s = true) (hin : ∀ w ∈ u_ws C Tf N, w ∈ Ts) (hown : s.vm.findClass own = some m.cls) (hK : va_K D vwCl (tyl cs) s) (hP : va_P D vwCl (wl b cs μ) H) (hk : kd a = ci) (h8 : ci < 8) (hc : vwCl[ci]? = some (C, Tf, N)) (k : Nat) (hkN : k < N) (hlink : (Cond.fieldLink own index ref (Tf k).2.1 (Tf k).2.2.1).before args s = true) (hsame : (Tf k).1 = ref) {v : Value} (hv : (flds b ci a (μ a))[k]? = some v) (hdg : decode cc pc = .ok (.getfield index, 3)) (kk : W p l e R s m args below meth c H locs cells slots Q (F0 m (pc + 3) ls (v :: rest))) : W p l e R s m args below meth c H locs cells slots Q (F0 m pc ls (jR b a :: rest)) := by
  have hlt : a < 346 := kd_lt (by omega)
  have hat := wl_at b cs μ hlt
  have e : layc b cs a (μ a) = .inr (ci, flds b ci a (μ a)) := by unfold layc; rw [hk, if_pos h8]
  rw [e] at hat
  exact va_get hx hb hts hin hown hK hP a hat hc k hkN hlink (fun x hx9 => by rw [← hsame]; exact hx9) hv hdg kk
theorem j_put (hx : p.tables.exec = Jvm.exec) (hb : c.code = cc) {own ref C : String} {Tf : u_T} {N ci index : Nat} {Ts : List Cond} {a : Nat} (hts : ∀ w ∈ Ts, w.before args s = true) (hin : ∀ w ∈ u_ws C Tf N, w ∈ Ts) (ty0 : Nat → FieldType) (hty : ∀ k, k < N → parseFieldDescriptor (Tf k).2.2.1 = some (ty0 k)) (hnm : ∀ a, a < N → ∀ b, b < N → a ≠ b → (Tf a).2.1 ≠ (Tf b).2.1) (hown : s.vm.findClass own = some m.cls) (hK : va_K D vwCl (tyl cs) s) (hP : va_P D vwCl (wl b cs μ) H) (hS : va_S (bA b) H0 H locs) (hk : kd a = ci) (h8 : ci < 8) (hc : vwCl[ci]? = some (C, Tf, N)) (k : Nat) (hkN : k < N) (hlink : (Cond.fieldLink own index ref (Tf k).2.1 (Tf k).2.2.1).before args s = true) (hsame : (Tf k).1 = ref) (hfin : (Tf k).2.2.2 = false) {ty : FieldType} {v : Value} {z : Int} (hd : parseFieldDescriptor (Tf k).2.2.1 = some ty) (hn : narrow ty v = v) (hfit : fits ty v = true) (hl : k < (flds b ci a (μ a)).length) (hset : (flds b ci a (μ a)).set k v = flds b ci a (upd (μ a) k (Int32.ofInt z))) (hdg : decode cc pc = .ok (.putfield index, 3)) (hμ : pI μ a k z = μ1) (kk : ∀ (H1 : Heap) (locs1 : List Loc), va_P D vwCl (wl b cs μ1) H1 → va_S (bA b) H0 H1 locs1 → W p l e R s m args below meth c H1 locs1 cells slots Q (F0 m (pc + 3) ls rest)) : W p l e R s m args below meth c H locs cells slots Q (F0 m pc ls (v :: jR b a :: rest)) := by
  have hlt : a < 346 := kd_lt (by omega)
  have hat := wl_at b cs μ hlt
  have e : ∀ g, layc b cs a g = .inr (ci, flds b ci a g) := fun g => by unfold layc; rw [hk, if_pos h8]
  rw [e] at hat
  refine va_put hx hb hts hin ty0 hty hnm hown hK hP (wl_D b cs μ) hS a hat hc k hkN hlink (fun x hx9 => by rw [← hsame]; exact hx9) hfin hd hn hfit hl hdg (fun H1 locs1 hP1 _ hS1 => ?_)
  rw [hset, ← e, wl_set b cs μ hlt] at hP1
  subst hμ
  exact kk H1 locs1 hP1 hS1
theorem lay_I {b : Nat} {cs : CS} {a n : Nat} (h : kd a = n + 1000) (g : Nat → Int32) : layc b cs a g = .inl (cs.1, n, .inl g) := by
  unfold layc
  rw [if_neg (by omega), if_neg (by omega), if_neg (by omega), if_neg (by omega), h, Nat.add_sub_cancel]
theorem j_iaload (hx : p.tables.exec = Jvm.exec) (hb : c.code = cc) (hK : va_K D vwCl (tyl cs) s) (hP : va_P D vwCl (wl b cs μ) H) {a n : Nat} {z r : Int} (hk : kd a = n + 1000) (h : ldA μ a n z = some r) (hdg : decode cc pc = .ok (.iaload, 1)) (kk : W p l e R s m args below meth c H locs cells slots Q (F0 m (pc + 1) ls (jI r :: rest))) : W p l e R s m args below meth c H locs cells slots Q (F0 m pc ls (jI z :: jR b a :: rest)) := by
  have hlt : a < 346 := kd_lt (by omega)
  have hat := wl_at b cs μ hlt
  rw [lay_I hk] at hat
  unfold ldA at h
  split at h
  · rename_i hz
    cases h
    rw [jI_g, ← i32_cl hz.1] at kk
    exact va_iald hx hb hK hP a 0 hat rfl (vp_in_w hz) hdg kk
  · cases h
theorem j_iastore (hx : p.tables.exec = Jvm.exec) (hb : c.code = cc) (hK : va_K D vwCl (tyl cs) s) (hP : va_P D vwCl (wl b cs μ) H) (hS : va_S (bA b) H0 H locs) {a n : Nat} {z v : Int} (hk : kd a = n + 1000) (h : stA μ a n z v = some μ1) (hdg : decode cc pc = .ok (.iastore, 1)) (kk : ∀ (H1 : Heap) (locs1 : List Loc), va_P D vwCl (wl b cs μ1) H1 → va_S (bA b) H0 H1 locs1 → W p l e R s m args below meth c H1 locs1 cells slots Q (F0 m (pc + 1) ls rest)) : W p l e R s m args below meth c H locs cells slots Q (F0 m pc ls (jI v :: jI z :: jR b a :: rest)) := by
  have hlt : a < 346 := kd_lt (by omega)
  have hat := wl_at b cs μ hlt
  rw [lay_I hk] at hat
  unfold stA at h
  split at h
  · rename_i hz
    cases h
    refine va_iast hx hb hK hP (wl_D b cs μ) hS a 0 hat rfl (vp_in_w hz) hdg (fun H1 locs1 hP1 _ hS1 => ?_)
    rw [i32_cl hz.1, ← lay_I (b := b) (cs := cs) hk, wl_set b cs μ hlt] at hP1
    exact kk H1 locs1 hP1 hS1
  · cases h
theorem lay_Z {b : Nat} {cs : CS} {a : Nat} (h : kd a = 50) (g : Nat → Int32) : layc b cs a g = .inl (cs.2.1, 2, .inl g) := by
  unfold layc
  rw [if_neg (by omega), if_pos (by omega)]
theorem j_zaload (hx : p.tables.exec = Jvm.exec) (hb : c.code = cc) (hK : va_K D vwCl (tyl cs) s) (hP : va_P D vwCl (wl b cs μ) H) {a : Nat} {z r : Int} (hk : kd a = 50) (h : ldA μ a 2 z = some r) (hdg : decode cc pc = .ok (.baload, 1)) (kk : W p l e R s m args below meth c H locs cells slots Q (F0 m (pc + 1) ls (jI r :: rest))) : W p l e R s m args below meth c H locs cells slots Q (F0 m pc ls (jI z :: jR b a :: rest)) := by
  have hlt : a < 346 := kd_lt (by omega)
  have hat := wl_at b cs μ hlt
  rw [lay_Z hk] at hat
  unfold ldA at h
  split at h
  · rename_i hz
    cases h
    rw [jI_g, ← i32_cl hz.1] at kk
    exact va_zald hx hb hK hP a 1 hat rfl (vp_in_w hz) hdg kk
  · cases h
theorem j_zastore (hx : p.tables.exec = Jvm.exec) (hb : c.code = cc) (hK : va_K D vwCl (tyl cs) s) (hP : va_P D vwCl (wl b cs μ) H) (hS : va_S (bA b) H0 H locs) {a : Nat} {z v : Int} (hk : kd a = 50) (hv : v = 0 ∨ v = 1) (h : stA μ a 2 z v = some μ1) (hdg : decode cc pc = .ok (.bastore, 1)) (kk : ∀ (H1 : Heap) (locs1 : List Loc), va_P D vwCl (wl b cs μ1) H1 → va_S (bA b) H0 H1 locs1 → W p l e R s m args below meth c H1 locs1 cells slots Q (F0 m (pc + 1) ls rest)) : W p l e R s m args below meth c H locs cells slots Q (F0 m pc ls (jI v :: jI z :: jR b a :: rest)) := by
  have hlt : a < 346 := kd_lt (by omega)
  have hat := wl_at b cs μ hlt
  rw [lay_Z hk] at hat
  unfold stA at h
  split at h
  · rename_i hz
    cases h
    refine va_zast hx hb hK hP (wl_D b cs μ) hS a 1 hat rfl (vp_in_w hz) hdg (fun H1 locs1 hP1 _ hS1 => ?_)
    rw [show vp_nar .boolean (Int32.ofInt v) = Int32.ofInt v by rcases hv with rfl | rfl <;> rfl, i32_cl hz.1, ← lay_Z (b := b) (cs := cs) hk, wl_set b cs μ hlt] at hP1
    exact kk H1 locs1 hP1 hS1
  · cases h
theorem j_aaW (hx : p.tables.exec = Jvm.exec) (hb : c.code = cc) (hK : va_K D vwCl (tyl cs) s) (hP : va_P D vwCl (wl b cs μ) H) {a : Nat} {z r : Int} (hk : kd a = 51) (h : ckI 30 z = some r) (hdg : decode cc pc = .ok (.aaload, 1)) (kk : W p l e R s m args below meth c H locs cells slots Q (F0 m (pc + 1) ls (jR b (23 + 9 * r.toNat) :: rest))) : W p l e R s m args below meth c H locs cells slots Q (F0 m pc ls (jI z :: jR b a :: rest)) := by
  have hlt : a < 346 := kd_lt (by omega)
  have hat := wl_at b cs μ hlt
  have e : layc b cs a (μ a) = .inl (cs.2.2.1, 30, .inr (.inr (.inr (.inr (fun i => some (b + (23 + 9 * i))))))) := by
    unfold layc
    rw [if_neg (by omega), if_neg (by omega), if_pos (by omega)]
  rw [e] at hat
  unfold ckI at h
  split at h
  · rename_i hz
    cases h
    refine va_aldq hx hb hK hP a 2 hat rfl (vp_in_w hz) hdg ?_
    rw [i32_cl hz.1]
    exact kk
  · cases h
theorem j_aaG (hx : p.tables.exec = Jvm.exec) (hb : c.code = cc) (hK : va_K D vwCl (tyl cs) s) (hP : va_P D vwCl (wl b cs μ) H) {a : Nat} {z r : Int} (hk : kd a = 52) (h : ckI 2 z = some r) (hdg : decode cc pc = .ok (.aaload, 1)) (kk : W p l e R s m args below meth c H locs cells slots Q (F0 m (pc + 1) ls (jR b (312 + 10 * r.toNat) :: rest))) : W p l e R s m args below meth c H locs cells slots Q (F0 m pc ls (jI z :: jR b a :: rest)) := by
  have hlt : a < 346 := kd_lt (by omega)
  have hat := wl_at b cs μ hlt
  have e : layc b cs a (μ a) = .inl (cs.2.2.2, 2, .inr (.inr (.inr (.inr (fun i => some (b + (312 + 10 * i))))))) := by
    unfold layc
    rw [if_neg (by omega), if_neg (by omega), if_neg (by omega), if_pos (by omega)]
  rw [e] at hat
  unfold ckI at h
  split at h
  · rename_i hz
    cases h
    refine va_aldq hx hb hK hP a 3 hat rfl (vp_in_w hz) hdg ?_
    rw [i32_cl hz.1]
    exact kk
  · cases h
theorem j_alen (hx : p.tables.exec = Jvm.exec) (hb : c.code = cc) (hK : va_K D vwCl (tyl cs) s) (hP : va_P D vwCl (wl b cs μ) H) {a n : Nat} (hk : kd a = n + 1000) (hdg : decode cc pc = .ok (.arraylength, 1)) (kk : W p l e R s m args below meth c H locs cells slots Q (F0 m (pc + 1) ls (jI n :: rest))) : W p l e R s m args below meth c H locs cells slots Q (F0 m pc ls (jR b a :: rest)) := by
  have hlt : a < 346 := kd_lt (by omega)
  have hat := wl_at b cs μ hlt
  rw [lay_I hk] at hat
  exact va_alen hx hb hK hP a 0 hat rfl (v := Int32.ofInt n) rfl hdg kk
theorem j_alenW (hx : p.tables.exec = Jvm.exec) (hb : c.code = cc) (hK : va_K D vwCl (tyl cs) s) (hP : va_P D vwCl (wl b cs μ) H) {a : Nat} (hk : kd a = 51) (hdg : decode cc pc = .ok (.arraylength, 1)) (kk : W p l e R s m args below meth c H locs cells slots Q (F0 m (pc + 1) ls (jI 30 :: rest))) : W p l e R s m args below meth c H locs cells slots Q (F0 m pc ls (jR b a :: rest)) := by
  have hlt : a < 346 := kd_lt (by omega)
  have hat := wl_at b cs μ hlt
  unfold layc at hat
  rw [if_neg (by omega), if_neg (by omega), if_pos (by omega)] at hat
  exact va_alen hx hb hK hP a 2 hat rfl (v := Int32.ofInt 30) rfl hdg kk
theorem j_alenG (hx : p.tables.exec = Jvm.exec) (hb : c.code = cc) (hK : va_K D vwCl (tyl cs) s) (hP : va_P D vwCl (wl b cs μ) H) {a : Nat} (hk : kd a = 52) (hdg : decode cc pc = .ok (.arraylength, 1)) (kk : W p l e R s m args below meth c H locs cells slots Q (F0 m (pc + 1) ls (jI 2 :: rest))) : W p l e R s m args below meth c H locs cells slots Q (F0 m pc ls (jR b a :: rest)) := by
  have hlt : a < 346 := kd_lt (by omega)
  have hat := wl_at b cs μ hlt
  unfold layc at hat
  rw [if_neg (by omega), if_neg (by omega), if_neg (by omega), if_pos (by omega)] at hat
  exact va_alen hx hb hK hP a 3 hat rfl (v := Int32.ofInt 2) rfl hdg kk
theorem j_copy (hx : p.tables.exec = Jvm.exec) (hb : c.code = cc) {nl : Nat} (hK : va_K D vwCl (tyl cs) s) (hP : va_P D vwCl (wl b cs μ) H) (hS : va_S (bA b) H0 H locs) (hml : c.maxLocals = nl) (hsz : ls.size = nl) {own : String} {index : Nat} (hown : s.vm.findClass own = some m.cls) (hlink : (Cond.methodLink own index arraycopyName).before args s = true) (hnat : (Cond.native arraycopyName).before args s = true) (hstat : (Cond.static arraycopyName).before args s = true) (hini : (Cond.initialized "java/lang/System").before args s = true) {a n a2 n2 : Nat} {sp dp z : Int} (hk : kd a = n + 1000) (hk2 : kd a2 = n2 + 1000) (h : cpA μ a n a2 n2 sp dp z = some μ1) (hfr : 1 ≤ R.frames) (hlo : (rest.map fun v => v.category).sum + (nativeFrameWords "java/lang/System" "arraycopy" 5 + 11) ≤ R.locals) (hdg : decode cc pc = .ok (.invokestatic index, 3)) (kk : ∀ (H1 : Heap) (locs1 : List Loc), va_P D vwCl (wl b cs μ1) H1 → va_S (bA b) H0 H1 locs1 → W p l e R s m args below meth c H1 locs1 cells slots Q (F0 m (pc + 3) ls rest)) : W p l e R s m args below meth c H locs cells slots Q (F0 m pc ls (jI z :: jI dp :: jR b a2 :: jI sp :: jR b a :: rest)) := by
  have hlt : a < 346 := kd_lt (by omega)
  have hlt2 : a2 < 346 := kd_lt (by omega)
  have hat := wl_at b cs μ hlt
  have hat2 := wl_at b cs μ hlt2
  rw [lay_I hk] at hat
  rw [lay_I hk2] at hat2
  unfold cpA at h
  split at h
  · rename_i hz
    obtain ⟨⟨h1, h2, h3⟩, h4, h5⟩ := hz
    cases h
    have ge : ∀ y : Int, 0 ≤ wr y → ¬ Int32.ofInt y < 0 := fun y hy q => by
      have := (i32_rel0 (a := y) rfl).2.1.mp q
      omega
    refine va_copyi hx hb (hml.trans hsz.symm) hown hlink hnat hstat hini hK hP (wl_D b cs μ) hS a a2 0 0 hat hat2 rfl rfl rfl (ge _ h1) (ge _ h2) (ge _ h3) (by rw [i32_cl h1, i32_cl h3]; omega) (by rw [i32_cl h2, i32_cl h3]; omega) (fun _ _ => rfl) hfr hlo hdg (fun H1 locs1 hP1 _ hS1 => ?_)
    rw [i32_cl h1, i32_cl h2, i32_cl h3, ← lay_I (b := b) (cs := cs) hk2, wl_set b cs μ hlt2] at hP1
    exact kk H1 locs1 hP1 hS1
  · cases h
def PM (D : va_G) (b : Nat) (cs : CS) (μ : Mm) (av : List Value) : Array Value → State → Prop := va_Pc av (fun U => va_P D vwCl (wl b cs μ) U.heap ∧ va_K D vwCl (tyl cs) U)
def QI (D : va_G) (b : Nat) (cs : CS) (μ : Mm) (r : Int) : Array Value → State → Outcome → State → Prop := va_Qi (S := Unit) (fun x _ => x = Int32.ofInt r) (fun _ t => va_P D vwCl (wl b cs μ) t.heap ∧ va_K D vwCl (tyl cs) t) (bA b)
def QM (D : va_G) (b : Nat) (cs : CS) (μ : Mm) : Array Value → State → Outcome → State → Prop := va_Qv (S := Unit) (fun _ => True) (fun _ t => va_P D vwCl (wl b cs μ) t.heap ∧ va_K D vwCl (tyl cs) t) (bA b)
def QN (D : va_G) (b : Nat) (cs : CS) (μ : Mm) (r : Int) : Array Value → State → Outcome → State → Prop := va_Qq (S := Unit) (fun o _ => va_rf o = jN b r) (fun _ t => va_P D vwCl (wl b cs μ) t.heap ∧ va_K D vwCl (tyl cs) t) (bA b)
def MI (l : Launch) (y : MethodName) (ws : List Cond) (rm : Room) (D : va_G) (b : Nat) (cs : CS) (av : List Value) (μ μ1 : Mm) (r : Int) : Prop := Met l y ws rm (PM D b cs μ av) (QI D b cs μ1 r) 0 0 (bA b)
def MM (l : Launch) (y : MethodName) (ws : List Cond) (rm : Room) (D : va_G) (b : Nat) (cs : CS) (av : List Value) (μ μ1 : Mm) : Prop := Met l y ws rm (PM D b cs μ av) (QM D b cs μ1) 0 0 (bA b)
def MN (l : Launch) (y : MethodName) (ws : List Cond) (rm : Room) (D : va_G) (b : Nat) (cs : CS) (av : List Value) (μ μ1 : Mm) (r : Int) : Prop := Met l y ws rm (PM D b cs μ av) (QN D b cs μ1 r) 0 0 (bA b)
theorem pm_blind (D : va_G) (b : Nat) (cs : CS) (μ : Mm) (av : List Value) : FrameBlind (PM D b cs μ av) := fun a U g mk q => by
  obtain ⟨q0, qP, qK⟩ := q
  exact ⟨q0, qP, va_K.moved (u := U) (U := U.calling g mk a) (Vm.Alike.refl U.vm) qK⟩
theorem pm_pre {D : va_G} {b : Nat} {cs : CS} {μ : Mm} {av : List Value} {s : State} {H : Heap} (hK : va_K D vwCl (tyl cs) s) (hP : va_P D vwCl (wl b cs μ) H) : ∀ U : State, U.heap = H → s.WarmedH U.vm → PM D b cs μ av av.toArray U := fun U hU hW => ⟨rfl, by rw [hU]; exact hP, va_K.moved hW.alike hK⟩
theorem j_recv {s : State} {H : Heap} {D : va_G} {b : Nat} {cs : CS} {μ : Mm} (hK : va_K D vwCl (tyl cs) s) (hP : va_P D vwCl (wl b cs μ) H) {a ci : Nat} {C : String} {Tf : u_T} {N : Nat} (hk : kd a = ci) (h8 : ci < 8) (hc : vwCl[ci]? = some (C, Tf, N)) : ∃ cell : Cell, H[b + a]? = some cell ∧ cell.vm.isStatics = false ∧ s.vm.findClass C = some cell.cls := by
  have hlt : a < 346 := kd_lt (by omega)
  have hat := wl_at b cs μ hlt
  have e : layc b cs a (μ a) = .inr (ci, flds b ci a (μ a)) := by unfold layc; rw [hk, if_pos h8]
  rw [e] at hat
  exact va_recv hK hP (ci := ci) (q0 := a) hc hat
theorem jc_VI {y : MethodName} {bytes : ByteArray} {maxL n index : Nat} {ret : Option FieldType} {ws : List Cond} {rm : Room} {Ts : List Cond} {own : String} {As st : List Value} {r : Int} {C : String} {Tf : u_T} {N a ci : Nat} (hk : kd a = ci) (h8 : ci < 8) (hc : vwCl[ci]? = some (C, Tf, N)) (F : CallFix p m c cc nL s args Ts own) (hK : va_K D vwCl (tyl cs) s) (hP : va_P D vwCl (wl b cs μ) H) (hS : va_S (bA b) H0 H locs) (hM : MI l y ws rm D b cs (jR b a :: As) μ μ1 r) (cw : CallW R s args own C index y bytes maxL ret ws rm 0 0 n) (hn : As.length = n) (hsz : ls.size = nL) (hst : st = As.reverse ++ jR b a :: rest) (hW : (rest.map fun v => v.category).sum ≤ 8) (hdg : decode cc pc = .ok (.invokevirtual index, 3)) (hcs : cells ≤ R.cells ∧ slots ≤ R.slots) (kk : ∀ (H1 : Heap) (locs1 : List Loc), va_P D vwCl (wl b cs μ1) H1 → va_S (bA b) H0 H1 locs1 → W p l e R s m args below meth c H1 locs1 cells slots Q (F0 m (pc + 3) ls (jI r :: rest))) : W p l e R s m args below meth c H locs cells slots Q (F0 m pc ls st) := by
  refine va_calli (va_runV (As := As) (rest := rest) F hM cw ⟨pm_blind D b cs μ _, j_recv hK hP hk h8 hc, pm_pre hK hP⟩ rfl hn hsz hst (lv_room hW) hdg hcs) hS (fun _ _ h => h) (fun _ h => h) (fun r2 u t H1 locs1 ht hvm hw hB hz hk1 hS1 => ?_)
  have hw : r2 = Int32.ofInt r := hw
  subst hw
  have hP1 := hB.1
  rw [ht] at hP1
  exact kk H1 locs1 hP1 hS1
theorem jc_SI {y : MethodName} {bytes : ByteArray} {maxL n index : Nat} {ret : Option FieldType} {ws : List Cond} {rm : Room} {Ts : List Cond} {own : String} {As st : List Value} {r : Int}  (F : CallFix p m c cc nL s args Ts own) (hK : va_K D vwCl (tyl cs) s) (hP : va_P D vwCl (wl b cs μ) H) (hS : va_S (bA b) H0 H locs) (hM : MI l y ws rm D b cs As μ μ1 r) (cw : CallB R s args own index y bytes maxL ret ws rm 0 0 n ∧ (Cond.static y).before args s = true) (hn : As.length = n) (hsz : ls.size = nL) (hst : st = As.reverse ++ rest) (hW : (rest.map fun v => v.category).sum ≤ 8) (hdg : decode cc pc = .ok (.invokestatic index, 3)) (hcs : cells ≤ R.cells ∧ slots ≤ R.slots) (kk : ∀ (H1 : Heap) (locs1 : List Loc), va_P D vwCl (wl b cs μ1) H1 → va_S (bA b) H0 H1 locs1 → W p l e R s m args below meth c H1 locs1 cells slots Q (F0 m (pc + 3) ls (jI r :: rest))) : W p l e R s m args below meth c H locs cells slots Q (F0 m pc ls st) := by
  refine va_calli (va_runS (As := As) (rest := rest) F hM cw ⟨pm_blind D b cs μ _, pm_pre hK hP⟩ rfl hn hsz hst (lv_room hW) hdg hcs) hS (fun _ _ h => h) (fun _ h => h) (fun r2 u t H1 locs1 ht hvm hw hB hz hk1 hS1 => ?_)
  have hw : r2 = Int32.ofInt r := hw
  subst hw
  have hP1 := hB.1
  rw [ht] at hP1
  exact kk H1 locs1 hP1 hS1
theorem jc_VM {y : MethodName} {bytes : ByteArray} {maxL n index : Nat} {ret : Option FieldType} {ws : List Cond} {rm : Room} {Ts : List Cond} {own : String} {As st : List Value}  {C : String} {Tf : u_T} {N a ci : Nat} (hk : kd a = ci) (h8 : ci < 8) (hc : vwCl[ci]? = some (C, Tf, N)) (F : CallFix p m c cc nL s args Ts own) (hK : va_K D vwCl (tyl cs) s) (hP : va_P D vwCl (wl b cs μ) H) (hS : va_S (bA b) H0 H locs) (hM : MM l y ws rm D b cs (jR b a :: As) μ μ1) (cw : CallW R s args own C index y bytes maxL ret ws rm 0 0 n) (hn : As.length = n) (hsz : ls.size = nL) (hst : st = As.reverse ++ jR b a :: rest) (hW : (rest.map fun v => v.category).sum ≤ 8) (hdg : decode cc pc = .ok (.invokevirtual index, 3)) (hcs : cells ≤ R.cells ∧ slots ≤ R.slots) (kk : ∀ (H1 : Heap) (locs1 : List Loc), va_P D vwCl (wl b cs μ1) H1 → va_S (bA b) H0 H1 locs1 → W p l e R s m args below meth c H1 locs1 cells slots Q (F0 m (pc + 3) ls (rest))) : W p l e R s m args below meth c H locs cells slots Q (F0 m pc ls st) := by
  refine va_callv (va_runV (As := As) (rest := rest) F hM cw ⟨pm_blind D b cs μ _, j_recv hK hP hk h8 hc, pm_pre hK hP⟩ rfl hn hsz hst (lv_room hW) hdg hcs) hS (fun _ _ h => h) (fun _ h => h) (fun u t H1 locs1 ht hvm hw hB hz hk1 hS1 => ?_)
  have hP1 := hB.1
  rw [ht] at hP1
  exact kk H1 locs1 hP1 hS1
theorem jc_SM {y : MethodName} {bytes : ByteArray} {maxL n index : Nat} {ret : Option FieldType} {ws : List Cond} {rm : Room} {Ts : List Cond} {own : String} {As st : List Value}   (F : CallFix p m c cc nL s args Ts own) (hK : va_K D vwCl (tyl cs) s) (hP : va_P D vwCl (wl b cs μ) H) (hS : va_S (bA b) H0 H locs) (hM : MM l y ws rm D b cs As μ μ1) (cw : CallB R s args own index y bytes maxL ret ws rm 0 0 n ∧ (Cond.static y).before args s = true) (hn : As.length = n) (hsz : ls.size = nL) (hst : st = As.reverse ++ rest) (hW : (rest.map fun v => v.category).sum ≤ 8) (hdg : decode cc pc = .ok (.invokestatic index, 3)) (hcs : cells ≤ R.cells ∧ slots ≤ R.slots) (kk : ∀ (H1 : Heap) (locs1 : List Loc), va_P D vwCl (wl b cs μ1) H1 → va_S (bA b) H0 H1 locs1 → W p l e R s m args below meth c H1 locs1 cells slots Q (F0 m (pc + 3) ls (rest))) : W p l e R s m args below meth c H locs cells slots Q (F0 m pc ls st) := by
  refine va_callv (va_runS (As := As) (rest := rest) F hM cw ⟨pm_blind D b cs μ _, pm_pre hK hP⟩ rfl hn hsz hst (lv_room hW) hdg hcs) hS (fun _ _ h => h) (fun _ h => h) (fun u t H1 locs1 ht hvm hw hB hz hk1 hS1 => ?_)
  have hP1 := hB.1
  rw [ht] at hP1
  exact kk H1 locs1 hP1 hS1
theorem jc_VN {y : MethodName} {bytes : ByteArray} {maxL n index : Nat} {ret : Option FieldType} {ws : List Cond} {rm : Room} {Ts : List Cond} {own : String} {As st : List Value} {r : Int} {C : String} {Tf : u_T} {N a ci : Nat} (hk : kd a = ci) (h8 : ci < 8) (hc : vwCl[ci]? = some (C, Tf, N)) (F : CallFix p m c cc nL s args Ts own) (hK : va_K D vwCl (tyl cs) s) (hP : va_P D vwCl (wl b cs μ) H) (hS : va_S (bA b) H0 H locs) (hM : MN l y ws rm D b cs (jR b a :: As) μ μ1 r) (cw : CallW R s args own C index y bytes maxL ret ws rm 0 0 n) (hn : As.length = n) (hsz : ls.size = nL) (hst : st = As.reverse ++ jR b a :: rest) (hW : (rest.map fun v => v.category).sum ≤ 8) (hdg : decode cc pc = .ok (.invokevirtual index, 3)) (hcs : cells ≤ R.cells ∧ slots ≤ R.slots) (kk : ∀ (H1 : Heap) (locs1 : List Loc), va_P D vwCl (wl b cs μ1) H1 → va_S (bA b) H0 H1 locs1 → W p l e R s m args below meth c H1 locs1 cells slots Q (F0 m (pc + 3) ls (jN b r :: rest))) : W p l e R s m args below meth c H locs cells slots Q (F0 m pc ls st) := by
  refine va_callq (va_runV (As := As) (rest := rest) F hM cw ⟨pm_blind D b cs μ _, j_recv hK hP hk h8 hc, pm_pre hK hP⟩ rfl hn hsz hst (lv_room hW) hdg hcs) hS (fun _ _ h => h) (fun _ h => h) (fun r2 u t H1 locs1 ht hvm hw hB hz hk1 hS1 => ?_)
  have hw : va_rf r2 = jN b r := hw
  rw [hw]
  have hP1 := hB.1
  rw [ht] at hP1
  exact kk H1 locs1 hP1 hS1
theorem jc_SN {y : MethodName} {bytes : ByteArray} {maxL n index : Nat} {ret : Option FieldType} {ws : List Cond} {rm : Room} {Ts : List Cond} {own : String} {As st : List Value} {r : Int}  (F : CallFix p m c cc nL s args Ts own) (hK : va_K D vwCl (tyl cs) s) (hP : va_P D vwCl (wl b cs μ) H) (hS : va_S (bA b) H0 H locs) (hM : MN l y ws rm D b cs As μ μ1 r) (cw : CallB R s args own index y bytes maxL ret ws rm 0 0 n ∧ (Cond.static y).before args s = true) (hn : As.length = n) (hsz : ls.size = nL) (hst : st = As.reverse ++ rest) (hW : (rest.map fun v => v.category).sum ≤ 8) (hdg : decode cc pc = .ok (.invokestatic index, 3)) (hcs : cells ≤ R.cells ∧ slots ≤ R.slots) (kk : ∀ (H1 : Heap) (locs1 : List Loc), va_P D vwCl (wl b cs μ1) H1 → va_S (bA b) H0 H1 locs1 → W p l e R s m args below meth c H1 locs1 cells slots Q (F0 m (pc + 3) ls (jN b r :: rest))) : W p l e R s m args below meth c H locs cells slots Q (F0 m pc ls st) := by
  refine va_callq (va_runS (As := As) (rest := rest) F hM cw ⟨pm_blind D b cs μ _, pm_pre hK hP⟩ rfl hn hsz hst (lv_room hW) hdg hcs) hS (fun _ _ h => h) (fun _ h => h) (fun r2 u t H1 locs1 ht hvm hw hB hz hk1 hS1 => ?_)
  have hw : va_rf r2 = jN b r := hw
  rw [hw]
  have hP1 := hB.1
  rw [ht] at hP1
  exact kk H1 locs1 hP1 hS1
theorem met_in {y : MethodName} {ws ws2 : List Cond} {rm : Room} {maxL : Nat} {ret : Option FieldType} {av : List Value} {Qc : Array Value → State → Outcome → State → Prop} {lv0 : List (Nat × Value)} (hy : plainName y.cls = true) (hw : ws = Cond.code y cc maxL ret :: ws2) (hsz : (lg_sl av).length ≤ maxL) (hv : lv_args 0 av = lv0)
    (body : ∀ p e s m args below meth c, p.tables.exec = Jvm.exec → c.code = cc → meth.sig.returnType = ret → meth.locks = false → c.maxLocals = maxL → s.vm.findClass y.cls = some m.cls → (∀ w ∈ ws, w.before args s = true) → va_P D vwCl (wl b cs μ) s.heap → va_K D vwCl (tyl cs) s → ∀ ls : Array Slot, lv_has ls maxL lv0 → W p l e rm s m args below meth c s.heap [] 0 0 (MQ below Qc args s 0 0 (bA b)) (F0 m 0 ls [])) : Met l y ws rm (PM D b cs μ av) Qc 0 0 (bA b) := by
  refine Met.ofW (cc := cc) (maxL := maxL) (ret := ret) hy hw ?_
  intro p e s m args below meth c s₁ B hml hv2
  obtain ⟨rfl, hP, hK⟩ := hv2
  have hl := lv_entry av (n := maxL) hsz
  rw [lg_entry_eq]
  rw [hv] at hl
  exact body p e s m _ below meth c B.exec B.bytes B.returns B.notSynchronized hml (findClass_of_methodNamed B.named) (atoms_spec (ws := ws) B.pre) hP hK _ hl
theorem j_retI (hx : p.tables.exec = Jvm.exec) (hb : c.code = cc) (hK : va_K D vwCl (tyl cs) s) (hP : va_P D vwCl (wl b cs μ) H) (hS : va_S (bA b) s.heap H locs) {a r : Int} (hr : meth.sig.returnType = some .int) (hlk : meth.locks = false) (hA : a = r) (hdg : decode cc pc = .ok (.ireturn, 1)) : W p l e R s m args below meth c H locs 0 0 (MQ below (QI D b cs μ r) args s 0 0 (bA b)) (F0 m pc ls [jI a]) := by
  subst hA
  exact W.iret hx hb hr (fun t ht hW => ⟨⟨_, (), rfl, rfl, by rw [ht]; exact hP, va_K.moved hW.alike hK⟩, hS.F ht⟩) hS.2.2 hdg hlk
theorem j_retZ (hx : p.tables.exec = Jvm.exec) (hb : c.code = cc) (hK : va_K D vwCl (tyl cs) s) (hP : va_P D vwCl (wl b cs μ) H) (hS : va_S (bA b) s.heap H locs) {a r : Int} (hr : meth.sig.returnType = some .boolean) (hlk : meth.locks = false) (hz : a = 0 ∨ a = 1) (hA : a = r) (hdg : decode cc pc = .ok (.ireturn, 1)) : W p l e R s m args below meth c H locs 0 0 (MQ below (QI D b cs μ r) args s 0 0 (bA b)) (F0 m pc ls [jI a]) := by
  subst hA
  exact W.zret hx hb hr (by rcases hz with rfl | rfl <;> rfl) (fun t ht hW => ⟨⟨_, (), rfl, rfl, by rw [ht]; exact hP, va_K.moved hW.alike hK⟩, hS.F ht⟩) hS.2.2 hdg hlk
theorem j_retM (hx : p.tables.exec = Jvm.exec) (hb : c.code = cc) (hK : va_K D vwCl (tyl cs) s) (hP : va_P D vwCl (wl b cs μ) H) (hS : va_S (bA b) s.heap H locs) (hr : meth.sig.returnType = none) (hlk : meth.locks = false) (hdg : decode cc pc = .ok (.return_, 1)) : W p l e R s m args below meth c H locs 0 0 (MQ below (QM D b cs μ) args s 0 0 (bA b)) (F0 m pc ls []) :=
  W.vret hx hb hr (fun t ht hW => ⟨⟨(), rfl, trivial, by rw [ht]; exact hP, va_K.moved hW.alike hK⟩, hS.F ht⟩) hS.2.2 hdg hlk
theorem j_retN (hx : p.tables.exec = Jvm.exec) (hb : c.code = cc) (hK : va_K D vwCl (tyl cs) s) (hP : va_P D vwCl (wl b cs μ) H) (hS : va_S (bA b) s.heap H locs) {a r : Int} {cl : String} (hr : meth.sig.returnType = some (.object cl)) (hlk : meth.locks = false) (hA : a = r) (hdg : decode cc pc = .ok (.areturn, 1)) : W p l e R s m args below meth c H locs 0 0 (MQ below (QN D b cs μ r) args s 0 0 (bA b)) (F0 m pc ls [jN b a]) := by
  subst hA
  refine W.aret hx hb hr (Or.inl ⟨_, rfl⟩) (by unfold jN; split; exact Or.inl rfl; exact Or.inr ⟨_, rfl⟩) (fun t ht hW => ⟨⟨if a < 0 then none else some (b + a.toNat), (), ?_, ?_, by rw [ht]; exact hP, va_K.moved hW.alike hK⟩, hS.F ht⟩) hS.2.2 hdg hlk
  · unfold jN; split <;> rfl
  · show va_rf _ = _; unfold jN; split <;> rfl
theorem ob_I {α β : Type} {x : Option α} {k : α → Option β} {r : β} (h : Option.bind x k = some r) : ∃ v, x = some v ∧ k v = some r := Option.bind_eq_some_iff.mp h
def bP {β : Type} (x : Option (Int × Mm)) (k : Int → Mm → Option β) : Option β := match x with
  | none => none
  | some q => k q.1 q.2
theorem ob_P {β : Type} {x : Option (Int × Mm)} {k : Int → Mm → Option β} {r : β} (h : bP x k = some r) : ∃ v μ, x = some (v, μ) ∧ k v μ = some r := by
  cases x with
  | none => cases h
  | some q => exact ⟨q.1, q.2, rfl, h⟩
def gd {β : Type} (q : Bool) (k : Option β) : Option β := if q = true then k else none
theorem ob_g {β : Type} {q : Bool} {k : Option β} {r : β} (h : gd q k = some r) : q = true ∧ k = some r := by
  unfold gd at h
  split at h
  · exact ⟨by assumption, h⟩
  · cases h
theorem j_max (hx : p.tables.exec = Jvm.exec) (hb : c.code = cc) {nl : Nat} (hml : c.maxLocals = nl) (hsz : ls.size = nl) {own : String} {index : Nat} (hown : s.vm.findClass own = some m.cls) (hlink : (Cond.methodLink own index Lib.Math.max.name).before args s = true) (hstat : (Cond.static Lib.Math.max.name).before args s = true) (hini : (Cond.initialized "java/lang/Math").before args s = true) (hcode : (Cond.code Lib.Math.max.name Lib.Math.max.code 2 (some .int)).before args s = true) (hfr : 1 ≤ R.frames) (hlo : (rest.map fun v => v.category).sum + 13 ≤ R.locals) (hc : cells ≤ R.cells) (hs : slots ≤ R.slots) {a z : Int} (hdg : decode cc pc = .ok (.invokestatic index, 3)) (kk : W p l e R s m args below meth c H locs cells slots Q (F0 m (pc + 3) ls (jI (if wr a < wr z then z else a) :: rest))) : W p l e R s m args below meth c H locs cells slots Q (F0 m pc ls (jI z :: jI a :: rest)) := by
  refine va_mmax hx hb (hml.trans hsz.symm) hown hlink hstat hini hcode hfr hlo hc hs hdg ?_
  have e : (Value.int (if Int32.ofInt a < Int32.ofInt z then Int32.ofInt z else Int32.ofInt a)) = jI (if wr a < wr z then z else a) := by
    simp only [i32_lt]
    unfold jI
    split <;> rfl
  rw [e]
  exact kk
theorem j_min (hx : p.tables.exec = Jvm.exec) (hb : c.code = cc) {nl : Nat} (hml : c.maxLocals = nl) (hsz : ls.size = nl) {own : String} {index : Nat} (hown : s.vm.findClass own = some m.cls) (hlink : (Cond.methodLink own index Lib.Math.min.name).before args s = true) (hstat : (Cond.static Lib.Math.min.name).before args s = true) (hini : (Cond.initialized "java/lang/Math").before args s = true) (hcode : (Cond.code Lib.Math.min.name Lib.Math.min.code 2 (some .int)).before args s = true) (hfr : 1 ≤ R.frames) (hlo : (rest.map fun v => v.category).sum + 13 ≤ R.locals) (hc : cells ≤ R.cells) (hs : slots ≤ R.slots) {a z : Int} (hdg : decode cc pc = .ok (.invokestatic index, 3)) (kk : W p l e R s m args below meth c H locs cells slots Q (F0 m (pc + 3) ls (jI (if wr z < wr a then z else a) :: rest))) : W p l e R s m args below meth c H locs cells slots Q (F0 m pc ls (jI z :: jI a :: rest)) := by
  refine va_mmin hx hb (hml.trans hsz.symm) hown hlink hstat hini hcode hfr hlo hc hs hdg ?_
  have e : (Value.int (if Int32.ofInt z < Int32.ofInt a then Int32.ofInt z else Int32.ofInt a)) = jI (if wr z < wr a then z else a) := by
    simp only [i32_lt]
    unfold jI
    split <;> rfl
  rw [e]
  exact kk
theorem j_abs (hx : p.tables.exec = Jvm.exec) (hb : c.code = cc) {nl : Nat} (hml : c.maxLocals = nl) (hsz : ls.size = nl) {own : String} {index : Nat} (hown : s.vm.findClass own = some m.cls) (hlink : (Cond.methodLink own index Lib.Math.abs.name).before args s = true) (hstat : (Cond.static Lib.Math.abs.name).before args s = true) (hini : (Cond.initialized "java/lang/Math").before args s = true) (hcode : (Cond.code Lib.Math.abs.name Lib.Math.abs.code 1 (some .int)).before args s = true) (hfr : 1 ≤ R.frames) (hlo : (rest.map fun v => v.category).sum + 13 ≤ R.locals) (hc : cells ≤ R.cells) (hs : slots ≤ R.slots) {a : Int} (hdg : decode cc pc = .ok (.invokestatic index, 3)) (kk : W p l e R s m args below meth c H locs cells slots Q (F0 m (pc + 3) ls (jI (if 0 ≤ wr a then a else 0 - a) :: rest))) : W p l e R s m args below meth c H locs cells slots Q (F0 m pc ls (jI a :: rest)) := by
  refine va_mabs hx hb (hml.trans hsz.symm) hown hlink hstat hini hcode hfr hlo hc hs hdg ?_
  have e : (Value.int (if 0 ≤ Int32.ofInt a then Int32.ofInt a else 0 - Int32.ofInt a)) = jI (if 0 ≤ wr a then a else 0 - a) := by
    simp only [(i32_rel0 (a := a) rfl).2.2.2.1]
    unfold jI
    split
    · rfl
    · rw [Int32.ofInt_sub, ← i32_0]
  rw [e]
  exact kk
theorem jL_g (μ : Mm) (a k : Nat) : jL (gI μ a k) = .long (μ a k).toInt64 := by
  unfold jL gI
  congr 1
theorem jL_w {e : Int} (h : -2147483648 ≤ e ∧ e < 2147483648) : jL e = .long (Int32.ofInt e).toInt64 := by
  unfold jL
  congr 1
  apply Int64.toInt_inj.mp
  rw [Int32.toInt_toInt64, wL_eq, wr_eq, wr_id h.1 h.2]
  exact wL_id (by omega) (by omega)
theorem o32_nat {t : Nat} (h : t < 346) : (Int32.ofInt (t : Int)).toInt.toNat = t := by
  rw [wr_eq, wr_id (by omega) (by omega), Int.toNat_natCast]
theorem set_J6 {b a : Nat} {g : Nat → Int32} {e : Int} (h : -2147483648 ≤ e ∧ e < 2147483648) : (flds b 6 a g).set 8 (jL e) = flds b 6 a (upd g 8 (Int32.ofInt e)) := by
  rw [jL_w h]; rfl
theorem set_J1 {b a : Nat} {g : Nat → Int32} {e : Int} (h : -2147483648 ≤ e ∧ e < 2147483648) : (flds b 1 a g).set 1 (jL e) = flds b 1 a (upd g 1 (Int32.ofInt e)) := by
  rw [jL_w h]; rfl
theorem set_T6 {b a t : Nat} {g : Nat → Int32} (h : t < 346) : (flds b 6 a g).set 6 (jR b t) = flds b 6 a (upd g 6 (Int32.ofInt (t : Int))) := by
  have e : jR b t = .ref (b + (Int32.ofInt (t : Int)).toInt.toNat) := by rw [o32_nat h]; rfl
  rw [e]; rfl
theorem set_T7 {b a t : Nat} {g : Nat → Int32} (h : t < 346) : (flds b 6 a g).set 7 (jR b t) = flds b 6 a (upd g 7 (Int32.ofInt (t : Int))) := by
  have e : jR b t = .ref (b + (Int32.ofInt (t : Int)).toInt.toNat) := by rw [o32_nat h]; rfl
  rw [e]; rfl
theorem j_ldcw (hx : p.tables.exec = Jvm.exec) (hb : c.code = cc) {own : String} {index : Nat} {v : Int32} {n : Int} (hown : s.vm.findClass own = some m.cls) (hc : (Jvm.Cond.constant own index v).before args s = true) (hv : v = Int32.ofInt n) (hdg : decode cc pc = .ok (.ldc_w index, 3)) (k : W p l e R s m args below meth c H locs cells slots Q (F0 m (pc + 3) ls (jI n :: rest))) : W p l e R s m args below meth c H locs cells slots Q (F0 m pc ls rest) := lv_ldcw hx hb hown hc hdg (by rw [hv]; exact k)
theorem kdW {a : Nat} (h : kd a = 5) : kd (a + 1) = 1008 ∧ kd (a + 2) = 1008 ∧ kd (a + 3) = 1008 ∧ kd (a + 4) = 1008 ∧ kd (a + 5) = 1008 ∧ kd (a + 6) = 1008 ∧ kd (a + 7) = 1008 ∧ kd (a + 8) = 1192 := by
  have key : ∀ x, x < 346 → kd x = 5 → kd (x + 1) = 1008 ∧ kd (x + 2) = 1008 ∧ kd (x + 3) = 1008 ∧ kd (x + 4) = 1008 ∧ kd (x + 5) = 1008 ∧ kd (x + 6) = 1008 ∧ kd (x + 7) = 1008 ∧ kd (x + 8) = 1192 := by decide +kernel
  exact key a (kd_lt (by omega)) h
theorem kdT {a : Nat} (h : kd a = 4) : kd (a + 1) = 1032 ∧ kd (a + 2) = 1008 ∧ kd (a + 3) = 1008 ∧ kd (a + 4) = 1004 ∧ kd (a + 5) = 1008 := by
  have key : ∀ x, x < 346 → kd x = 4 → kd (x + 1) = 1032 ∧ kd (x + 2) = 1008 ∧ kd (x + 3) = 1008 ∧ kd (x + 4) = 1004 ∧ kd (x + 5) = 1008 := by decide +kernel
  exact key a (kd_lt (by omega)) h
theorem kX7_1 {a : Nat} (h : kd a = 5) : kd (a + 1) = 1008 := (kdW h).1
theorem kX7_2 {a : Nat} (h : kd a = 5) : kd (a + 2) = 1008 := (kdW h).2.1
theorem kX7_3 {a : Nat} (h : kd a = 5) : kd (a + 3) = 1008 := (kdW h).2.2.1
theorem kX7_4 {a : Nat} (h : kd a = 5) : kd (a + 4) = 1008 := (kdW h).2.2.2.1
theorem kX7_5 {a : Nat} (h : kd a = 5) : kd (a + 5) = 1008 := (kdW h).2.2.2.2.1
theorem kX7_6 {a : Nat} (h : kd a = 5) : kd (a + 6) = 1008 := (kdW h).2.2.2.2.2.1
theorem kX7_7 {a : Nat} (h : kd a = 5) : kd (a + 7) = 1008 := (kdW h).2.2.2.2.2.2.1
theorem kX7_8 {a : Nat} (h : kd a = 5) : kd (a + 8) = 1192 := (kdW h).2.2.2.2.2.2.2
theorem kX5_1 {a : Nat} (h : kd a = 4) : kd (a + 1) = 1032 := (kdT h).1
theorem kX5_2 {a : Nat} (h : kd a = 4) : kd (a + 2) = 1008 := (kdT h).2.1
theorem kX5_3 {a : Nat} (h : kd a = 4) : kd (a + 3) = 1008 := (kdT h).2.2.1
theorem kX5_4 {a : Nat} (h : kd a = 4) : kd (a + 4) = 1004 := (kdT h).2.2.2.1
theorem kX5_5 {a : Nat} (h : kd a = 4) : kd (a + 5) = 1008 := (kdT h).2.2.2.2
theorem kz_0 : kd 0 = 6 := by decide +kernel
theorem kz_1 : kd 1 = 3 := by decide +kernel
theorem kz_2 : kd 2 = 1240 := by decide +kernel
theorem kz_3 : kd 3 = 5 := by decide +kernel
theorem kz_4 : kd 4 = 1008 := by decide +kernel
theorem kz_5 : kd 5 = 1008 := by decide +kernel
theorem kz_6 : kd 6 = 1008 := by decide +kernel
theorem kz_7 : kd 7 = 1008 := by decide +kernel
theorem kz_8 : kd 8 = 1008 := by decide +kernel
theorem kz_9 : kd 9 = 1008 := by decide +kernel
theorem kz_10 : kd 10 = 1008 := by decide +kernel
theorem kz_11 : kd 11 = 1192 := by decide +kernel
theorem kz_12 : kd 12 = 5 := by decide +kernel
theorem kz_13 : kd 13 = 1008 := by decide +kernel
theorem kz_14 : kd 14 = 1008 := by decide +kernel
theorem kz_15 : kd 15 = 1008 := by decide +kernel
theorem kz_16 : kd 16 = 1008 := by decide +kernel
theorem kz_17 : kd 17 = 1008 := by decide +kernel
theorem kz_18 : kd 18 = 1008 := by decide +kernel
theorem kz_19 : kd 19 = 1008 := by decide +kernel
theorem kz_20 : kd 20 = 1192 := by decide +kernel
theorem kz_21 : kd 21 = 0 := by decide +kernel
theorem kz_22 : kd 22 = 51 := by decide +kernel
theorem kz_293 : kd 293 = 2 := by decide +kernel
theorem kz_294 : kd 294 = 1008 := by decide +kernel
theorem kz_295 : kd 295 = 1008 := by decide +kernel
theorem kz_296 : kd 296 = 1008 := by decide +kernel
theorem kz_297 : kd 297 = 1020 := by decide +kernel
theorem kz_298 : kd 298 = 1020 := by decide +kernel
theorem kz_299 : kd 299 = 52 := by decide +kernel
theorem kz_300 : kd 300 = 4 := by decide +kernel
theorem kz_301 : kd 301 = 1032 := by decide +kernel
theorem kz_302 : kd 302 = 1008 := by decide +kernel
theorem kz_303 : kd 303 = 1008 := by decide +kernel
theorem kz_304 : kd 304 = 1004 := by decide +kernel
theorem kz_305 : kd 305 = 1008 := by decide +kernel
theorem kz_306 : kd 306 = 4 := by decide +kernel
theorem kz_307 : kd 307 = 1032 := by decide +kernel
theorem kz_308 : kd 308 = 1008 := by decide +kernel
theorem kz_309 : kd 309 = 1008 := by decide +kernel
theorem kz_310 : kd 310 = 1004 := by decide +kernel
theorem kz_311 : kd 311 = 1008 := by decide +kernel
theorem kz_312 : kd 312 = 1 := by decide +kernel
theorem kz_313 : kd 313 = 5 := by decide +kernel
theorem kz_314 : kd 314 = 1008 := by decide +kernel
theorem kz_315 : kd 315 = 1008 := by decide +kernel
theorem kz_316 : kd 316 = 1008 := by decide +kernel
theorem kz_317 : kd 317 = 1008 := by decide +kernel
theorem kz_318 : kd 318 = 1008 := by decide +kernel
theorem kz_319 : kd 319 = 1008 := by decide +kernel
theorem kz_320 : kd 320 = 1008 := by decide +kernel
theorem kz_321 : kd 321 = 1192 := by decide +kernel
theorem kz_322 : kd 322 = 1 := by decide +kernel
theorem kz_323 : kd 323 = 5 := by decide +kernel
theorem kz_324 : kd 324 = 1008 := by decide +kernel
theorem kz_325 : kd 325 = 1008 := by decide +kernel
theorem kz_326 : kd 326 = 1008 := by decide +kernel
theorem kz_327 : kd 327 = 1008 := by decide +kernel
theorem kz_328 : kd 328 = 1008 := by decide +kernel
theorem kz_329 : kd 329 = 1008 := by decide +kernel
theorem kz_330 : kd 330 = 1008 := by decide +kernel
theorem kz_331 : kd 331 = 1192 := by decide +kernel
theorem kz_332 : kd 332 = 7 := by decide +kernel
theorem kz_333 : kd 333 = 9262 := by decide +kernel
theorem kz_334 : kd 334 = 50 := by decide +kernel
theorem kz_335 : kd 335 = 1064 := by decide +kernel
theorem kz_336 : kd 336 = 1016 := by decide +kernel
theorem kz_337 : kd 337 = 1008 := by decide +kernel
theorem kz_338 : kd 338 = 1008 := by decide +kernel
theorem kz_339 : kd 339 = 1240 := by decide +kernel
theorem kz_340 : kd 340 = 1020 := by decide +kernel
theorem kz_341 : kd 341 = 1008 := by decide +kernel
theorem kz_342 : kd 342 = 1008 := by decide +kernel
theorem kz_343 : kd 343 = 1008 := by decide +kernel
theorem kz_344 : kd 344 = 1020 := by decide +kernel
theorem kz_345 : kd 345 = 1020 := by decide +kernel
theorem look_3 {A d o1 o2 o3 : Int} {k1 k2 k3 : Int} (h1 : ¬ A = k1) (h2 : ¬ A = k2) (h3 : ¬ A = k3) : Op.lookupswitch.offset [(k1, o1), (k2, o2), (k3, o3)] d A = d := by
  simp [Op.lookupswitch.offset, Ne.symm h1, Ne.symm h2, Ne.symm h3]
theorem look_4 {A d o1 o2 o3 o4 : Int} {k1 k2 k3 k4 : Int} (h1 : ¬ A = k1) (h2 : ¬ A = k2) (h3 : ¬ A = k3) (h4 : ¬ A = k4) : Op.lookupswitch.offset [(k1, o1), (k2, o2), (k3, o3), (k4, o4)] d A = d := by
  simp [Op.lookupswitch.offset, Ne.symm h1, Ne.symm h2, Ne.symm h3, Ne.symm h4]
end JROWS
end
