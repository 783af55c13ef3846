def wsL_law_r1 : List Cond := [Cond.classLink RL 7 RX8, Cond.instantiable RX8 9, Cond.initialized RX8, Cond.classLink RL 10 RX9, Cond.instantiable RX9 27, Cond.initialized RX9, Cond.methodLink RL 9 yX8_init, Cond.instanceMethod yX8_init, Cond.code yX8_init cX8_init 2 none, Cond.methodLink RX8 1 objectInit, Cond.instanceMethod objectInit, Cond.code objectInit ⟨#[0xb1]⟩ 1 none, Cond.classLink RX8 7 RX4, Cond.instantiable RX4 6, Cond.initialized RX4, Cond.fieldLink RX8 10 "CardBand" "text" "LCardBand$Telling;", Cond.classLink RX8 16 RX7, Cond.instantiable RX7 9, Cond.initialized RX7, Cond.fieldLink RX8 19 "CardBand" "weave" "LCardBand$Weave;", Cond.fieldLink RX8 23 "CardBand" "trial" "LCardBand$Weave;", Cond.classLink RX8 26 RX1, Cond.instantiable RX1 3, Cond.initialized RX1]
def wsL_law_r2 : List Cond := [Cond.fieldLink RX8 29 "CardBand" "deeds" "LCardBand$Deeds;", Cond.classLink RX8 33 RX3, Cond.instantiable RX3 7, Cond.initialized RX3, Cond.fieldLink RX8 36 "CardBand" "notes" "LCardBand$Notes;", Cond.classLink RX8 40 RX2, Cond.fieldLink RX8 42 "CardBand" "images" "[LCardBand$Image;", Cond.classLink RX8 46 RX5, Cond.instantiable RX5 9, Cond.initialized RX5, Cond.fieldLink RX8 49 "CardBand" "threading" "LCardBand$Threading;", Cond.fieldLink RX8 53 "CardBand" "spare" "LCardBand$Threading;", Cond.instantiable RX2 3, Cond.initialized RX2, Cond.instanceMethod yX4_init, Cond.code yX4_init cX4_init 1 none, Cond.methodLink RX4 3 objectInit, Cond.arrayClass .int, Cond.fieldLink RX4 9 "CardBand$Telling" "letters" "[I", Cond.fieldLink RX4 15 "CardBand$Telling" "faultPlace" "I", Cond.instanceMethod yX7_init, Cond.code yX7_init cX7_init 1 none, Cond.methodLink RX7 3 objectInit, Cond.fieldLink RX7 9 "CardBand$Weave" "ways" "[I"]
def wsL_law_r3 : List Cond := [Cond.fieldLink RX7 15 "CardBand$Weave" "stands" "[I", Cond.fieldLink RX7 18 "CardBand$Weave" "twists" "[I", Cond.fieldLink RX7 21 "CardBand$Weave" "shows" "[I", Cond.fieldLink RX7 24 "CardBand$Weave" "slants" "[I", Cond.fieldLink RX7 27 "CardBand$Weave" "yarns" "[I", Cond.fieldLink RX7 30 "CardBand$Weave" "wanted" "[I", Cond.fieldLink RX7 33 "CardBand$Weave" "band" "[I", Cond.methodLink RX8 28 yX1_init, Cond.instanceMethod yX1_init, Cond.code yX1_init cX1_init 2 none, Cond.methodLink RX1 3 objectInit, Cond.classLink RX1 9 RX7, Cond.fieldLink RX1 11 "CardBand$Deeds" "before" "[LCardBand$Weave;", Cond.instanceMethod yX3_init, Cond.code yX3_init cX3_init 1 none, Cond.methodLink RX3 3 objectInit, Cond.fieldLink RX3 9 "CardBand$Notes" "seenCards" "[I", Cond.fieldLink RX3 15 "CardBand$Notes" "seenTurns" "[I", Cond.fieldLink RX3 18 "CardBand$Notes" "seenColours" "[I", Cond.fieldLink RX3 21 "CardBand$Notes" "bookCards" "[I", Cond.fieldLink RX3 24 "CardBand$Notes" "bookColours" "[I", Cond.instanceMethod yX5_init, Cond.code yX5_init cX5_init 1 none, Cond.methodLink RX5 3 objectInit]
def wsL_law_r4 : List Cond := [Cond.fieldLink RX5 9 "CardBand$Threading" "holeColours" "[I", Cond.fieldLink RX5 15 "CardBand$Threading" "waysTold" "[I", Cond.fieldLink RX5 18 "CardBand$Threading" "packOf" "[I", Cond.fieldLink RX5 21 "CardBand$Threading" "packSets" "[I", Cond.fieldLink RX5 24 "CardBand$Threading" "yarnsTold" "[I", Cond.instanceMethod yX2_init, Cond.code yX2_init cX2_init 1 none, Cond.methodLink RX2 1 objectInit, Cond.classLink RX2 7 RX7, Cond.fieldLink RX2 10 "CardBand$Image" "weave" "LCardBand$Weave;", Cond.methodLink RL 12 yX9_init, Cond.instanceMethod yX9_init, Cond.code yX9_init cX9_init 1 none, Cond.methodLink RX9 1 objectInit, Cond.fieldLink RX9 7 "CardBandModel" "w" "[I", Cond.arrayClass .boolean, Cond.fieldLink RX9 13 "CardBandModel" "isKept" "[Z", Cond.fieldLink RX9 17 "CardBandModel" "hole" "[I", Cond.fieldLink RX9 20 "CardBandModel" "threaded" "[I", Cond.fieldLink RX9 23 "CardBandModel" "pack" "[I", Cond.fieldLink RX9 26 "CardBandModel" "newYarn" "[I", Cond.fieldLink RX9 29 "CardBandModel" "text" "[I", Cond.fieldLink RX9 32 "CardBandModel" "fault" "I", Cond.fieldLink RX9 36 "CardBandModel" "far" "[I"]
def wsL_law_r5 : List Cond := [Cond.fieldLink RX9 39 "CardBandModel" "seenCard" "[I", Cond.fieldLink RX9 42 "CardBandModel" "seenTurns" "[I", Cond.fieldLink RX9 45 "CardBandModel" "seenColour" "[I", Cond.fieldLink RX9 48 "CardBandModel" "bookOf" "[I", Cond.fieldLink RX9 51 "CardBandModel" "bookColour" "[I", Cond.methodLink RL 13 yX8_feed, Cond.instanceMethod yX8_feed, Cond.selects RX8 yX8_feed yX8_feed, Cond.code yX8_feed cX8_feed 2 (some .int), Cond.constant RX8 57 (-1000000002), Cond.constant RX8 62 (-1000000004), Cond.fieldLink RX8 63 "CardBand$Telling" "length" "I", Cond.methodLink RX8 58 yX4_append, Cond.instanceMethod yX4_append, Cond.selects RX4 yX4_append yX4_append, Cond.code yX4_append cX4_append 2 (some .boolean), Cond.fieldLink RX4 19 "CardBand$Telling" "length" "I", Cond.methodLink RL 17 yX9_feed, Cond.instanceMethod yX9_feed, Cond.selects RX9 yX9_feed yX9_feed, Cond.code yX9_feed cX9_feed 2 (some .int), Cond.constantLong RX9 54 (255), Cond.constant RX9 60 (-1000000002), Cond.fieldLink RX9 61 "CardBandModel" "textSize" "I"]
def wsL_law_r6 : List Cond := [Cond.constant RX9 64 (-1000000004), Cond.methodLink RX9 56 yX9_in, Cond.static yX9_in, Cond.code yX9_in cX9_in 6 (some .boolean), Cond.methodLink RL 18 yX8_loom, Cond.instanceMethod yX8_loom, Cond.selects RX8 yX8_loom yX8_loom, Cond.code yX8_loom cX8_loom 3 (some .int), Cond.fieldLink RX8 71 "CardBand$Telling" "faultNumber" "I", Cond.fieldLink RX8 85 "CardBand$Threading" "cards" "I", Cond.methodLink RX8 67 yX4_readInto, Cond.instanceMethod yX4_readInto, Cond.selects RX4 yX4_readInto yX4_readInto, Cond.code yX4_readInto cX4_readInto 3 (some .boolean), Cond.fieldLink RX4 22 "CardBand$Telling" "place" "I", Cond.fieldLink RX4 25 "CardBand$Telling" "faultNumber" "I", Cond.methodLink RX4 28 yX5_clear, Cond.instanceMethod yX5_clear, Cond.selects RX5 yX5_clear yX5_clear, Cond.code yX5_clear cX5_clear 1 none, Cond.fieldLink RX5 27 "CardBand$Threading" "colours" "I", Cond.fieldLink RX5 31 "CardBand$Threading" "cards" "I", Cond.fieldLink RX5 34 "CardBand$Threading" "packs" "I", Cond.fieldLink RX5 37 "CardBand$Threading" "cardsInPacks" "I"]
def wsL_law_r7 : List Cond := [Cond.methodLink RX5 40 yJ7_fill_53178, Cond.static yJ7_fill_53178, Cond.initialized RJ7, Cond.code yJ7_fill_53178 cJ7_fill_53178 4 none, Cond.methodLink RX4 33 yX4_skipBlanks, Cond.instanceMethod yX4_skipBlanks, Cond.selects RX4 yX4_skipBlanks yX4_skipBlanks, Cond.code yX4_skipBlanks cX4_skipBlanks 1 none, Cond.methodLink RX4 40 yX4_letterHere, Cond.instanceMethod yX4_letterHere, Cond.selects RX4 yX4_letterHere yX4_letterHere, Cond.code yX4_letterHere cX4_letterHere 1 (some .int), Cond.methodLink RX4 36 yX4_readClause, Cond.instanceMethod yX4_readClause, Cond.selects RX4 yX4_readClause yX4_readClause, Cond.code yX4_readClause cX4_readClause 3 none, Cond.fieldLink RX4 48 "CardBand$Threading" "colours" "I", Cond.methodLink RX4 44 yX4_isWord, Cond.static yX4_isWord, Cond.code yX4_isWord cX4_isWord 1 (some .boolean), Cond.methodLink RX4 51 yX4_setFault, Cond.instanceMethod yX4_setFault, Cond.selects RX4 yX4_setFault yX4_setFault, Cond.code yX4_setFault cX4_setFault 3 none]
def wsL_law_r8 : List Cond := [Cond.methodLink RX4 55 yX4_isOneTooMany, Cond.static yX4_isOneTooMany, Cond.code yX4_isOneTooMany cX4_isOneTooMany 2 (some .boolean), Cond.fieldLink RX4 74 "CardBand$Threading" "cards" "I", Cond.fieldLink RX4 77 "CardBand$Threading" "packs" "I", Cond.methodLink RX4 59 yX4_readColours, Cond.instanceMethod yX4_readColours, Cond.selects RX4 yX4_readColours yX4_readColours, Cond.code yX4_readColours cX4_readColours 3 none, Cond.methodLink RX4 80 yX4_readNumber, Cond.instanceMethod yX4_readNumber, Cond.selects RX4 yX4_readNumber yX4_readNumber, Cond.code yX4_readNumber cX4_readNumber 4 (some .int), Cond.fieldLink RX4 95 "CardBand$Telling" "numberPlace" "I", Cond.methodLink RX4 104 yX4_isFigure, Cond.static yX4_isFigure, Cond.code yX4_isFigure cX4_isFigure 1 (some .boolean), Cond.methodLink RX4 62 yX4_readCard, Cond.instanceMethod yX4_readCard, Cond.selects RX4 yX4_readCard yX4_readCard, Cond.code yX4_readCard cX4_readCard 4 none, Cond.methodLink RX4 84 yX5_threadHole, Cond.instanceMethod yX5_threadHole, Cond.selects RX5 yX5_threadHole yX5_threadHole]
def wsL_law_r9 : List Cond := [Cond.code yX5_threadHole cX5_threadHole 4 none, Cond.methodLink RX5 46 yX5_indexOf, Cond.static yX5_indexOf, Cond.code yX5_indexOf cX5_indexOf 2 (some .int), Cond.methodLink RX4 88 yX5_addCard, Cond.instanceMethod yX5_addCard, Cond.selects RX5 yX5_addCard yX5_addCard, Cond.code yX5_addCard cX5_addCard 2 none, Cond.methodLink RX4 65 yX4_readPack, Cond.instanceMethod yX4_readPack, Cond.selects RX4 yX4_readPack yX4_readPack, Cond.code yX4_readPack cX4_readPack 3 none, Cond.fieldLink RX4 92 "CardBand$Threading" "cardsInPacks" "I", Cond.methodLink RX4 98 yX5_addPack, Cond.instanceMethod yX5_addPack, Cond.selects RX5 yX5_addPack yX5_addPack, Cond.code yX5_addPack cX5_addPack 3 none, Cond.methodLink RX4 68 yX4_readYarn, Cond.instanceMethod yX4_readYarn, Cond.selects RX4 yX4_readYarn yX4_readYarn, Cond.code yX4_readYarn cX4_readYarn 4 none, Cond.fieldLink RX4 101 "CardBand$Threading" "yarnsTold" "[I", Cond.methodLink RX4 71 yX4_readEnd, Cond.instanceMethod yX4_readEnd]
def wsL_law_r10 : List Cond := [Cond.selects RX4 yX4_readEnd yX4_readEnd, Cond.code yX4_readEnd cX4_readEnd 1 none, Cond.methodLink RX8 74 yX7_begin, Cond.instanceMethod yX7_begin, Cond.selects RX7 yX7_begin yX7_begin, Cond.code yX7_begin cX7_begin 2 none, Cond.fieldLink RX7 36 "CardBand$Threading" "waysTold" "[I", Cond.methodLink RX7 41 arraycopyName, Cond.native arraycopyName, Cond.static arraycopyName, Cond.initialized "java/lang/System", Cond.fieldLink RX7 47 "CardBand$Threading" "yarnsTold" "[I", Cond.fieldLink RX7 56 "CardBand$Weave" "picks" "I", Cond.methodLink RX7 50 yJ7_fill_53178, Cond.methodLink RX8 78 yX1_forget, Cond.instanceMethod yX1_forget, Cond.selects RX1 yX1_forget yX1_forget, Cond.code yX1_forget cX1_forget 1 none, Cond.fieldLink RX1 18 "CardBand$Deeds" "count" "I", Cond.methodLink RX8 81 yX3_forget, Cond.instanceMethod yX3_forget, Cond.selects RX3 yX3_forget yX3_forget, Cond.code yX3_forget cX3_forget 1 none, Cond.fieldLink RX3 27 "CardBand$Notes" "seenCount" "I"]
def wsL_law_r11 : List Cond := [Cond.fieldLink RX3 31 "CardBand$Notes" "bookCount" "I", Cond.methodLink RX8 82 yX8_forgetImages, Cond.instanceMethod yX8_forgetImages, Cond.selects RX8 yX8_forgetImages yX8_forgetImages, Cond.code yX8_forgetImages cX8_forgetImages 3 none, Cond.fieldLink RX8 300 "CardBand$Image" "kept" "Z", Cond.methodLink RL 22 yX9_loom, Cond.instanceMethod yX9_loom, Cond.selects RX9 yX9_loom yX9_loom, Cond.code yX9_loom cX9_loom 2 (some .int), Cond.fieldLink RX9 65 "CardBandModel" "at" "I", Cond.fieldLink RX9 68 "CardBandModel" "faultOf" "I", Cond.fieldLink RX9 90 "CardBandModel" "newColours" "I", Cond.fieldLink RX9 97 "CardBandModel" "newCards" "I", Cond.fieldLink RX9 100 "CardBandModel" "newPacks" "I", Cond.fieldLink RX9 122 "CardBandModel" "cards" "I", Cond.methodLink RX9 71 yX9_here, Cond.instanceMethod yX9_here, Cond.selects RX9 yX9_here yX9_here, Cond.code yX9_here cX9_here 1 (some .int), Cond.methodLink RX9 116 yX9_takeClause, Cond.instanceMethod yX9_takeClause, Cond.selects RX9 yX9_takeClause yX9_takeClause, Cond.code yX9_takeClause cX9_takeClause 4 none]
def wsL_law_r12 : List Cond := [Cond.methodLink RX9 82 yX9_want, Cond.instanceMethod yX9_want, Cond.selects RX9 yX9_want yX9_want, Cond.code yX9_want cX9_want 4 (some .boolean), Cond.methodLink RX9 103 yX9_takeColours, Cond.instanceMethod yX9_takeColours, Cond.selects RX9 yX9_takeColours yX9_takeColours, Cond.code yX9_takeColours cX9_takeColours 2 none, Cond.methodLink RX9 93 yX9_takeIn, Cond.instanceMethod yX9_takeIn, Cond.selects RX9 yX9_takeIn yX9_takeIn, Cond.code yX9_takeIn cX9_takeIn 5 (some .int), Cond.fieldLink RX9 75 "CardBandModel" "first" "I", Cond.methodLink RX9 87 yX9_takeNumber, Cond.instanceMethod yX9_takeNumber, Cond.selects RX9 yX9_takeNumber yX9_takeNumber, Cond.code yX9_takeNumber cX9_takeNumber 4 (some .int), Cond.constantLong RX9 78 (48), Cond.constantLong RX9 80 (57), Cond.constant RX9 86 (99999), Cond.methodLink RX9 107 yX9_takeCard, Cond.instanceMethod yX9_takeCard, Cond.selects RX9 yX9_takeCard yX9_takeCard, Cond.code yX9_takeCard cX9_takeCard 3 none]
def wsL_law_r13 : List Cond := [Cond.methodLink RX9 110 yX9_takePack, Cond.instanceMethod yX9_takePack, Cond.selects RX9 yX9_takePack yX9_takePack, Cond.code yX9_takePack cX9_takePack 5 none, Cond.methodLink RX9 113 yX9_takeYarn, Cond.instanceMethod yX9_takeYarn, Cond.selects RX9 yX9_takeYarn yX9_takeYarn, Cond.code yX9_takeYarn cX9_takeYarn 3 none, Cond.methodLink RX9 119 yX9_take, Cond.instanceMethod yX9_take, Cond.selects RX9 yX9_take yX9_take, Cond.code yX9_take cX9_take 3 none, Cond.fieldLink RX9 125 "CardBandModel" "colours" "I", Cond.fieldLink RX9 128 "CardBandModel" "packs" "I", Cond.fieldLink RX9 131 "CardBandModel" "seen" "I", Cond.fieldLink RX9 134 "CardBandModel" "written" "I", Cond.fieldLink RX9 137 "CardBandModel" "undoMany" "I", Cond.methodLink RL 23 yX8_fault, Cond.instanceMethod yX8_fault, Cond.selects RX8 yX8_fault yX8_fault, Cond.code yX8_fault cX8_fault 1 (some .int), Cond.fieldLink RX8 88 "CardBand$Telling" "faultPlace" "I", Cond.methodLink RL 26 yX9_fault, Cond.instanceMethod yX9_fault]
def wsL_law_r14 : List Cond := [Cond.selects RX9 yX9_fault yX9_fault, Cond.code yX9_fault cX9_fault 1 (some .int), Cond.methodLink RL 27 yX8_told, Cond.instanceMethod yX8_told, Cond.selects RX8 yX8_told yX8_told, Cond.code yX8_told cX8_told 2 (some .int), Cond.fieldLink RX8 91 "CardBand$Threading" "colours" "I", Cond.fieldLink RX8 94 "CardBand$Threading" "packs" "I", Cond.fieldLink RX8 97 "CardBand$Weave" "picks" "I", Cond.fieldLink RX8 124 "CardBand$Notes" "seenCount" "I", Cond.fieldLink RX8 127 "CardBand$Notes" "bookCount" "I", Cond.fieldLink RX8 130 "CardBand$Deeds" "count" "I", Cond.methodLink RX8 100 yX7_countRows, Cond.instanceMethod yX7_countRows, Cond.selects RX7 yX7_countRows yX7_countRows, Cond.code yX7_countRows cX7_countRows 1 (some .int), Cond.methodLink RX7 104 Lib.Math.min.name, Cond.static Lib.Math.min.name, Cond.initialized "java/lang/Math", Cond.code Lib.Math.min.name Lib.Math.min.code 2 (some .int), Cond.methodLink RX8 104 yX0_countMirrored, Cond.static yX0_countMirrored, Cond.initialized RX0, Cond.code yX0_countMirrored cX0_countMirrored 4 (some .int)]
def wsL_law_r15 : List Cond := [Cond.methodLink RX0 9 yX7_countRows, Cond.methodLink RX0 15 yX0_isMirrored, Cond.static yX0_isMirrored, Cond.code yX0_isMirrored cX0_isMirrored 4 (some .boolean), Cond.methodLink RX0 21 yX7_showedAt, Cond.instanceMethod yX7_showedAt, Cond.selects RX7 yX7_showedAt yX7_showedAt, Cond.code yX7_showedAt cX7_showedAt 3 (some .int), Cond.methodLink RX7 107 yX7_countRows, Cond.methodLink RX7 95 yX7_slotOf, Cond.static yX7_slotOf, Cond.code yX7_slotOf cX7_slotOf 1 (some .int), Cond.methodLink RX7 99 yJ9_floorMod_7cf53, Cond.static yJ9_floorMod_7cf53, Cond.initialized RJ9, Cond.code yJ9_floorMod_7cf53 cJ9_floorMod_7cf53 3 (some .int), Cond.methodLink RX8 110 yX0_findPeriod, Cond.static yX0_findPeriod, Cond.code yX0_findPeriod cX0_findPeriod 4 (some .int), Cond.methodLink RX0 25 yX0_isPeriod, Cond.static yX0_isPeriod, Cond.code yX0_isPeriod cX0_isPeriod 5 (some .boolean), Cond.methodLink RX8 113 yX0_findLongest, Cond.static yX0_findLongest]
def wsL_law_r16 : List Cond := [Cond.code yX0_findLongest cX0_findLongest 6 (some .int), Cond.methodLink RX0 33 yX0_findFloat, Cond.static yX0_findFloat, Cond.code yX0_findFloat cX0_findFloat 6 (some .int), Cond.methodLink RX0 28 Lib.Math.max.name, Cond.static Lib.Math.max.name, Cond.code Lib.Math.max.name Lib.Math.max.code 2 (some .int), Cond.methodLink RX8 116 yX0_findMost, Cond.static yX0_findMost, Cond.code yX0_findMost cX0_findMost 6 (some .int), Cond.fieldLink RX0 37 "CardBand$Threading" "colours" "I", Cond.fieldLink RX0 43 "CardBand$Threading" "cards" "I", Cond.methodLink RX0 46 yX0_countShown, Cond.static yX0_countShown, Cond.code yX0_countShown cX0_countShown 6 (some .int), Cond.methodLink RX8 120 yX7_sumYarn, Cond.instanceMethod yX7_sumYarn, Cond.selects RX7 yX7_sumYarn yX7_sumYarn, Cond.code yX7_sumYarn cX7_sumYarn 4 (some .int), Cond.methodLink RL 30 yX9_told, Cond.instanceMethod yX9_told, Cond.selects RX9 yX9_told yX9_told, Cond.code yX9_told cX9_told 2 (some .int), Cond.methodLink RX9 165 yX9_mirrored]
def wsL_law_r17 : List Cond := [Cond.instanceMethod yX9_mirrored, Cond.selects RX9 yX9_mirrored yX9_mirrored, Cond.code yX9_mirrored cX9_mirrored 5 (some .int), Cond.methodLink RX9 144 yX9_was, Cond.instanceMethod yX9_was, Cond.selects RX9 yX9_was yX9_was, Cond.code yX9_was cX9_was 3 (some .int), Cond.methodLink RX9 147 yX9_one, Cond.static yX9_one, Cond.code yX9_one cX9_one 1 (some .int), Cond.methodLink RX9 168 yX9_period, Cond.instanceMethod yX9_period, Cond.selects RX9 yX9_period yX9_period, Cond.code yX9_period cX9_period 2 (some .int), Cond.methodLink RX9 151 yX9_isPeriod, Cond.instanceMethod yX9_isPeriod, Cond.selects RX9 yX9_isPeriod yX9_isPeriod, Cond.code yX9_isPeriod cX9_isPeriod 5 (some .boolean), Cond.methodLink RX9 171 yX9_longest, Cond.instanceMethod yX9_longest, Cond.selects RX9 yX9_longest yX9_longest, Cond.code yX9_longest cX9_longest 5 (some .int), Cond.methodLink RX9 158 yX9_floatOf, Cond.instanceMethod yX9_floatOf]
def wsL_law_r18 : List Cond := [Cond.selects RX9 yX9_floatOf yX9_floatOf, Cond.code yX9_floatOf cX9_floatOf 6 (some .int), Cond.methodLink RX9 155 yX9_most, Cond.static yX9_most, Cond.code yX9_most cX9_most 2 (some .int), Cond.methodLink RX9 174 yX9_mostShown, Cond.instanceMethod yX9_mostShown, Cond.selects RX9 yX9_mostShown yX9_mostShown, Cond.code yX9_mostShown cX9_mostShown 5 (some .int), Cond.methodLink RX9 162 yX9_shownOf, Cond.instanceMethod yX9_shownOf, Cond.selects RX9 yX9_shownOf yX9_shownOf, Cond.code yX9_shownOf cX9_shownOf 5 (some .int), Cond.methodLink RX9 177 yX9_allYarn, Cond.instanceMethod yX9_allYarn, Cond.selects RX9 yX9_allYarn yX9_allYarn, Cond.code yX9_allYarn cX9_allYarn 3 (some .int), Cond.methodLink RL 31 yX8_card, Cond.instanceMethod yX8_card, Cond.selects RX8 yX8_card yX8_card, Cond.code yX8_card cX8_card 3 (some .int), Cond.constant RX8 136 (-1000000001), Cond.fieldLink RX8 141 "CardBand$Weave" "ways" "[I", Cond.fieldLink RX8 145 "CardBand$Weave" "stands" "[I"]
def wsL_law_r19 : List Cond := [Cond.fieldLink RX8 148 "CardBand$Weave" "twists" "[I", Cond.fieldLink RX8 151 "CardBand$Weave" "shows" "[I", Cond.fieldLink RX8 154 "CardBand$Weave" "slants" "[I", Cond.fieldLink RX8 157 "CardBand$Threading" "packOf" "[I", Cond.methodLink RX8 133 yX5_hasCard, Cond.instanceMethod yX5_hasCard, Cond.selects RX5 yX5_hasCard yX5_hasCard, Cond.code yX5_hasCard cX5_hasCard 2 (some .boolean), Cond.methodLink RX8 137 yX5_colourAt, Cond.instanceMethod yX5_colourAt, Cond.selects RX5 yX5_colourAt yX5_colourAt, Cond.code yX5_colourAt cX5_colourAt 3 (some .int), Cond.methodLink RL 35 yX9_card, Cond.instanceMethod yX9_card, Cond.selects RX9 yX9_card yX9_card, Cond.code yX9_card cX9_card 3 (some .int), Cond.constant RX9 183 (-1000000001), Cond.methodLink RX9 180 yX9_isCard, Cond.instanceMethod yX9_isCard, Cond.selects RX9 yX9_isCard yX9_isCard, Cond.code yX9_isCard cX9_isCard 2 (some .boolean), Cond.methodLink RX9 184 yX9_colourOf, Cond.instanceMethod yX9_colourOf, Cond.selects RX9 yX9_colourOf yX9_colourOf]
def wsL_law_r20 : List Cond := [Cond.code yX9_colourOf cX9_colourOf 3 (some .int), Cond.methodLink RX9 187 yX9_packOf, Cond.instanceMethod yX9_packOf, Cond.selects RX9 yX9_packOf yX9_packOf, Cond.code yX9_packOf cX9_packOf 4 (some .int), Cond.methodLink RX9 140 yX9_has, Cond.static yX9_has, Cond.code yX9_has cX9_has 2 (some .boolean), Cond.methodLink RL 36 yX8_pack, Cond.instanceMethod yX8_pack, Cond.selects RX8 yX8_pack yX8_pack, Cond.code yX8_pack cX8_pack 2 (some .int), Cond.fieldLink RX8 163 "CardBand$Threading" "packSets" "[I", Cond.methodLink RX8 160 yX5_hasPack, Cond.instanceMethod yX5_hasPack, Cond.selects RX5 yX5_hasPack yX5_hasPack, Cond.code yX5_hasPack cX5_hasPack 2 (some .boolean), Cond.methodLink RL 39 yX9_pack, Cond.instanceMethod yX9_pack, Cond.selects RX9 yX9_pack yX9_pack, Cond.code yX9_pack cX9_pack 2 (some .int), Cond.methodLink RL 40 yX8_yarn, Cond.instanceMethod yX8_yarn, Cond.selects RX8 yX8_yarn yX8_yarn]
def wsL_law_r21 : List Cond := [Cond.code yX8_yarn cX8_yarn 2 (some .int), Cond.fieldLink RX8 169 "CardBand$Weave" "yarns" "[I", Cond.methodLink RX8 166 yX5_hasColour, Cond.instanceMethod yX5_hasColour, Cond.selects RX5 yX5_hasColour yX5_hasColour, Cond.code yX5_hasColour cX5_hasColour 2 (some .boolean), Cond.methodLink RL 43 yX9_yarn, Cond.instanceMethod yX9_yarn, Cond.selects RX9 yX9_yarn yX9_yarn, Cond.code yX9_yarn cX9_yarn 2 (some .int), Cond.methodLink RX9 190 yX9_isColour, Cond.instanceMethod yX9_isColour, Cond.selects RX9 yX9_isColour yX9_isColour, Cond.code yX9_isColour cX9_isColour 2 (some .boolean), Cond.methodLink RL 44 yX8_row, Cond.instanceMethod yX8_row, Cond.selects RX8 yX8_row yX8_row, Cond.code yX8_row cX8_row 3 (some .int), Cond.methodLink RX8 172 yX7_showedAt, Cond.methodLink RL 47 yX9_row, Cond.instanceMethod yX9_row, Cond.selects RX9 yX9_row yX9_row, Cond.code yX9_row cX9_row 3 (some .int), Cond.methodLink RL 48 yX8_pick]
def wsL_law_r22 : List Cond := [Cond.instanceMethod yX8_pick, Cond.selects RX8 yX8_pick yX8_pick, Cond.code yX8_pick cX8_pick 4 (some .int), Cond.constant RX8 185 (-1000000003), Cond.methodLink RX8 175 yX5_takesMoves, Cond.instanceMethod yX5_takesMoves, Cond.selects RX5 yX5_takesMoves yX5_takesMoves, Cond.code yX5_takesMoves cX5_takesMoves 4 (some .boolean), Cond.methodLink RX8 178 yX5_isMade, Cond.instanceMethod yX5_isMade, Cond.selects RX5 yX5_isMade yX5_isMade, Cond.code yX5_isMade cX5_isMade 1 (some .boolean), Cond.methodLink RX8 182 yX8_countPicks, Cond.instanceMethod yX8_countPicks, Cond.selects RX8 yX8_countPicks yX8_countPicks, Cond.code yX8_countPicks cX8_countPicks 4 (some .int), Cond.methodLink RX8 296 yX7_become, Cond.instanceMethod yX7_become, Cond.selects RX7 yX7_become yX7_become, Cond.code yX7_become cX7_become 2 none, Cond.methodLink RX8 190 yX7_weaveOnce, Cond.instanceMethod yX7_weaveOnce, Cond.selects RX7 yX7_weaveOnce yX7_weaveOnce, Cond.code yX7_weaveOnce cX7_weaveOnce 4 (some .boolean)]
def wsL_law_r23 : List Cond := [Cond.fieldLink RX7 68 "CardBand$Threading" "cards" "I", Cond.methodLink RX7 60 yX7_isOvertwisted, Cond.instanceMethod yX7_isOvertwisted, Cond.selects RX7 yX7_isOvertwisted yX7_isOvertwisted, Cond.code yX7_isOvertwisted cX7_isOvertwisted 5 (some .boolean), Cond.methodLink RX7 71 yX5_moveOf, Cond.instanceMethod yX5_moveOf, Cond.selects RX5 yX5_moveOf yX5_moveOf, Cond.code yX5_moveOf cX5_moveOf 6 (some .int), Cond.methodLink RX7 64 yX7_findLacking, Cond.instanceMethod yX7_findLacking, Cond.selects RX7 yX7_findLacking yX7_findLacking, Cond.code yX7_findLacking cX7_findLacking 4 (some .int), Cond.fieldLink RX7 86 "CardBand$Threading" "colours" "I", Cond.methodLink RX7 82 yX7_countWanted, Cond.instanceMethod yX7_countWanted, Cond.selects RX7 yX7_countWanted yX7_countWanted, Cond.code yX7_countWanted cX7_countWanted 6 none, Cond.methodLink RX7 89 yX7_holeShownBy, Cond.instanceMethod yX7_holeShownBy, Cond.selects RX7 yX7_holeShownBy yX7_holeShownBy, Cond.code yX7_holeShownBy cX7_holeShownBy 4 (some .int), Cond.methodLink RX7 92 yX5_colourAt, Cond.methodLink RX7 75 yX7_turnCard]
def wsL_law_r24 : List Cond := [Cond.instanceMethod yX7_turnCard, Cond.selects RX7 yX7_turnCard yX7_turnCard, Cond.code yX7_turnCard cX7_turnCard 6 none, Cond.methodLink RX7 79 yX7_addRow, Cond.instanceMethod yX7_addRow, Cond.selects RX7 yX7_addRow yX7_addRow, Cond.code yX7_addRow cX7_addRow 1 none, Cond.methodLink RX8 186 yX1_remember, Cond.instanceMethod yX1_remember, Cond.selects RX1 yX1_remember yX1_remember, Cond.code yX1_remember cX1_remember 3 none, Cond.fieldLink RX1 22 "CardBand$Deeds" "next" "I", Cond.methodLink RX1 33 Lib.Math.min.name, Cond.methodLink RX1 25 yX1_weaveAt, Cond.instanceMethod yX1_weaveAt, Cond.selects RX1 yX1_weaveAt yX1_weaveAt, Cond.code yX1_weaveAt cX1_weaveAt 2 (some (.object "CardBand$Weave")), Cond.methodLink RX1 29 yX7_become, Cond.methodLink RL 51 yX9_pick, Cond.instanceMethod yX9_pick, Cond.selects RX9 yX9_pick yX9_pick, Cond.code yX9_pick cX9_pick 4 (some .int), Cond.constantLong RX9 222 (30), Cond.constant RX9 231 (-1000000003)]
def wsL_law_r25 : List Cond := [Cond.methodLink RX9 219 yX9_isMoves, Cond.instanceMethod yX9_isMoves, Cond.selects RX9 yX9_isMoves yX9_isMoves, Cond.code yX9_isMoves cX9_isMoves 4 (some .boolean), Cond.methodLink RX9 224 yX9_isLoom, Cond.instanceMethod yX9_isLoom, Cond.selects RX9 yX9_isLoom yX9_isLoom, Cond.code yX9_isLoom cX9_isLoom 1 (some .boolean), Cond.methodLink RX9 228 yX9_canPick, Cond.instanceMethod yX9_canPick, Cond.selects RX9 yX9_canPick yX9_canPick, Cond.code yX9_canPick cX9_canPick 5 (some .boolean), Cond.methodLink RX9 193 yX9_copy, Cond.instanceMethod yX9_copy, Cond.selects RX9 yX9_copy yX9_copy, Cond.code yX9_copy cX9_copy 4 none, Cond.methodLink RX9 210 yX9_pickIn, Cond.instanceMethod yX9_pickIn, Cond.selects RX9 yX9_pickIn yX9_pickIn, Cond.code yX9_pickIn cX9_pickIn 6 none, Cond.methodLink RX9 197 yX9_figureOf, Cond.static yX9_figureOf, Cond.code yX9_figureOf cX9_figureOf 4 (some .int), Cond.methodLink RX9 200 yX9_turn]
def wsL_law_r26 : List Cond := [Cond.instanceMethod yX9_turn, Cond.selects RX9 yX9_turn yX9_turn, Cond.code yX9_turn cX9_turn 5 none, Cond.methodLink RX9 204 yX9_lay, Cond.instanceMethod yX9_lay, Cond.selects RX9 yX9_lay yX9_lay, Cond.code yX9_lay cX9_lay 3 none, Cond.methodLink RX9 213 yX9_lacks, Cond.instanceMethod yX9_lacks, Cond.selects RX9 yX9_lacks yX9_lacks, Cond.code yX9_lacks cX9_lacks 4 (some .int), Cond.methodLink RX9 216 yX9_isTight, Cond.instanceMethod yX9_isTight, Cond.selects RX9 yX9_isTight yX9_isTight, Cond.code yX9_isTight cX9_isTight 4 (some .boolean), Cond.methodLink RX9 207 yX9_size, Cond.static yX9_size, Cond.code yX9_size cX9_size 1 (some .int), Cond.methodLink RX9 232 yX9_remember, Cond.instanceMethod yX9_remember, Cond.selects RX9 yX9_remember yX9_remember, Cond.code yX9_remember cX9_remember 2 none, Cond.methodLink RL 52 yX8_flip, Cond.instanceMethod yX8_flip]
def wsL_law_r27 : List Cond := [Cond.selects RX8 yX8_flip yX8_flip, Cond.code yX8_flip cX8_flip 2 (some .int), Cond.methodLink RL 55 yX9_flip, Cond.instanceMethod yX9_flip, Cond.selects RX9 yX9_flip yX9_flip, Cond.code yX9_flip cX9_flip 2 (some .int), Cond.methodLink RL 56 yX8_shift, Cond.instanceMethod yX8_shift, Cond.selects RX8 yX8_shift yX8_shift, Cond.code yX8_shift cX8_shift 3 (some .int), Cond.methodLink RL 59 yX9_shift, Cond.instanceMethod yX9_shift, Cond.selects RX9 yX9_shift yX9_shift, Cond.code yX9_shift cX9_shift 3 (some .int), Cond.constantLong RX9 235 (3), Cond.methodLink RL 60 yX8_buy, Cond.instanceMethod yX8_buy, Cond.selects RX8 yX8_buy yX8_buy, Cond.code yX8_buy cX8_buy 3 (some .int), Cond.methodLink RX8 194 Lib.Math.min.name, Cond.methodLink RL 63 yX9_buy, Cond.instanceMethod yX9_buy, Cond.selects RX9 yX9_buy yX9_buy, Cond.code yX9_buy cX9_buy 3 (some .int)]
def wsL_law_r28 : List Cond := [Cond.constantLong RX9 237 (999), Cond.methodLink RX9 239 yX9_least, Cond.static yX9_least, Cond.code yX9_least cX9_least 2 (some .int), Cond.methodLink RL 64 yX8_drift, Cond.instanceMethod yX8_drift, Cond.selects RX8 yX8_drift yX8_drift, Cond.code yX8_drift cX8_drift 3 (some .int), Cond.methodLink RX8 199 yX8_drawMoves, Cond.instanceMethod yX8_drawMoves, Cond.selects RX8 yX8_drawMoves yX8_drawMoves, Cond.code yX8_drawMoves cX8_drawMoves 4 (some .int), Cond.methodLink RX8 304 yX8_drawFigure, Cond.instanceMethod yX8_drawFigure, Cond.selects RX8 yX8_drawFigure yX8_drawFigure, Cond.code yX8_drawFigure cX8_drawFigure 1 (some .int), Cond.fieldLink RX8 287 "CardBand" "drawn" "J", Cond.constantLong RX8 307 (1103515245), Cond.constantLong RX8 309 (12345), Cond.constantLong RX8 311 (2147483648), Cond.constantLong RX8 313 (65536), Cond.constantLong RX8 315 (3), Cond.methodLink RL 67 yX9_drift, Cond.instanceMethod yX9_drift]
def wsL_law_r29 : List Cond := [Cond.selects RX9 yX9_drift yX9_drift, Cond.code yX9_drift cX9_drift 4 (some .int), Cond.methodLink RX9 252 yX9_drawMoves, Cond.instanceMethod yX9_drawMoves, Cond.selects RX9 yX9_drawMoves yX9_drawMoves, Cond.code yX9_drawMoves cX9_drawMoves 4 (some .int), Cond.methodLink RX9 249 yX9_draw, Cond.instanceMethod yX9_draw, Cond.selects RX9 yX9_draw yX9_draw, Cond.code yX9_draw cX9_draw 2 (some .int), Cond.constantLong RX9 242 (1103515245), Cond.constantLong RX9 244 (12345), Cond.constantLong RX9 246 (2147483648), Cond.constant RX9 248 (65536), Cond.methodLink RL 68 yX8_undo, Cond.instanceMethod yX8_undo, Cond.selects RX8 yX8_undo yX8_undo, Cond.code yX8_undo cX8_undo 2 (some .int), Cond.methodLink RX8 202 yX1_takeBack, Cond.instanceMethod yX1_takeBack, Cond.selects RX1 yX1_takeBack yX1_takeBack, Cond.code yX1_takeBack cX1_takeBack 5 (some .boolean), Cond.methodLink RX1 39 yJ9_floorMod_7cf53, Cond.methodLink RL 71 yX9_undo]
def wsL_law_r30 : List Cond := [Cond.instanceMethod yX9_undo, Cond.selects RX9 yX9_undo yX9_undo, Cond.code yX9_undo cX9_undo 3 (some .int), Cond.methodLink RL 72 yX8_ahead, Cond.instanceMethod yX8_ahead, Cond.selects RX8 yX8_ahead yX8_ahead, Cond.code yX8_ahead cX8_ahead 5 (some .int), Cond.methodLink RL 76 yX9_ahead, Cond.instanceMethod yX9_ahead, Cond.selects RX9 yX9_ahead yX9_ahead, Cond.code yX9_ahead cX9_ahead 4 (some .int), Cond.constantLong RX9 255 (99), Cond.methodLink RL 77 yX8_lasts, Cond.instanceMethod yX8_lasts, Cond.selects RX8 yX8_lasts yX8_lasts, Cond.code yX8_lasts cX8_lasts 4 (some .int), Cond.methodLink RX8 206 yX8_isHowOrMoves, Cond.static yX8_isHowOrMoves, Cond.code yX8_isHowOrMoves cX8_isHowOrMoves 1 (some .boolean), Cond.methodLink RX8 209 yX7_findLacking, Cond.methodLink RL 80 yX9_lasts, Cond.instanceMethod yX9_lasts, Cond.selects RX9 yX9_lasts yX9_lasts, Cond.code yX9_lasts cX9_lasts 4 (some .int)]
def wsL_law_r31 : List Cond := [Cond.methodLink RL 81 yX8_untwist, Cond.instanceMethod yX8_untwist, Cond.selects RX8 yX8_untwist yX8_untwist, Cond.code yX8_untwist cX8_untwist 2 (some .int), Cond.methodLink RX8 213 yX6_countUntwist, Cond.static yX6_countUntwist, Cond.initialized RX6, Cond.code yX6_countUntwist cX6_countUntwist 4 (some .int), Cond.fieldLink RX6 34 "CardBand$Threading" "packs" "I", Cond.methodLink RX6 41 Lib.Math.abs.name, Cond.static Lib.Math.abs.name, Cond.code Lib.Math.abs.name Lib.Math.abs.code 1 (some .int), Cond.methodLink RX6 47 Lib.Math.max.name, Cond.methodLink RX6 37 yX6_twistOf, Cond.static yX6_twistOf, Cond.code yX6_twistOf cX6_twistOf 3 (some .int), Cond.fieldLink RX6 19 "CardBand$Weave" "twists" "[I", Cond.methodLink RX6 25 yX6_firstCardOf, Cond.static yX6_firstCardOf, Cond.code yX6_firstCardOf cX6_firstCardOf 3 (some .int), Cond.fieldLink RX6 9 "CardBand$Threading" "cards" "I", Cond.methodLink RX6 15 yX5_isInPack, Cond.instanceMethod yX5_isInPack, Cond.selects RX5 yX5_isInPack yX5_isInPack]
def wsL_law_r32 : List Cond := [Cond.code yX5_isInPack cX5_isInPack 3 (some .boolean), Cond.methodLink RX8 218 yX6_firstUntwist, Cond.static yX6_firstUntwist, Cond.code yX6_firstUntwist cX6_firstUntwist 6 (some .int), Cond.methodLink RL 84 yX9_untwist, Cond.instanceMethod yX9_untwist, Cond.selects RX9 yX9_untwist yX9_untwist, Cond.code yX9_untwist cX9_untwist 7 (some .int), Cond.methodLink RX9 257 yX9_firstOf, Cond.instanceMethod yX9_firstOf, Cond.selects RX9 yX9_firstOf yX9_firstOf, Cond.code yX9_firstOf cX9_firstOf 3 (some .int), Cond.methodLink RL 85 yX8_home, Cond.instanceMethod yX8_home, Cond.selects RX8 yX8_home yX8_home, Cond.code yX8_home cX8_home 2 (some .int), Cond.methodLink RX8 221 yX6_packsStandAlike, Cond.static yX6_packsStandAlike, Cond.code yX6_packsStandAlike cX6_packsStandAlike 4 (some .boolean), Cond.fieldLink RX6 51 "CardBand$Threading" "packOf" "[I", Cond.fieldLink RX6 31 "CardBand$Weave" "stands" "[I", Cond.methodLink RX6 54 yX6_standOf, Cond.static yX6_standOf, Cond.code yX6_standOf cX6_standOf 3 (some .int)]
def wsL_law_r33 : List Cond := [Cond.methodLink RX8 225 yX6_countHome, Cond.static yX6_countHome, Cond.code yX6_countHome cX6_countHome 5 (some .int), Cond.methodLink RX6 57 Lib.Math.min.name, Cond.methodLink RX8 228 yX6_firstHome, Cond.static yX6_firstHome, Cond.code yX6_firstHome cX6_firstHome 6 (some .int), Cond.methodLink RL 88 yX9_home, Cond.instanceMethod yX9_home, Cond.selects RX9 yX9_home yX9_home, Cond.code yX9_home cX9_home 7 (some .int), Cond.methodLink RX9 260 yX9_standsAlike, Cond.instanceMethod yX9_standsAlike, Cond.selects RX9 yX9_standsAlike yX9_standsAlike, Cond.code yX9_standsAlike cX9_standsAlike 4 (some .boolean), Cond.methodLink RL 89 yX8_together, Cond.instanceMethod yX8_together, Cond.selects RX8 yX8_together yX8_together, Cond.code yX8_together cX8_together 5 (some .int), Cond.methodLink RX8 231 yX5_hasCards, Cond.instanceMethod yX5_hasCards, Cond.selects RX5 yX5_hasCards yX5_hasCards, Cond.code yX5_hasCards cX5_hasCards 2 (some .boolean), Cond.methodLink RX8 234 yX6_countTogether]
def wsL_law_r34 : List Cond := [Cond.static yX6_countTogether, Cond.code yX6_countTogether cX6_countTogether 6 (some .int), Cond.fieldLink RX6 60 "CardBand$Threading" "cardsInPacks" "I", Cond.fieldLink RX6 67 "CardBand$Threading" "packSets" "[I", Cond.methodLink RX6 63 yX6_showNow, Cond.static yX6_showNow, Cond.code yX6_showNow cX6_showNow 5 (some .boolean), Cond.fieldLink RX6 78 "CardBand$Weave" "shows" "[I", Cond.methodLink RX6 70 yX6_countForPack, Cond.static yX6_countForPack, Cond.code yX6_countForPack cX6_countForPack 5 (some .int), Cond.methodLink RX6 74 yX6_showAhead, Cond.static yX6_showAhead, Cond.code yX6_showAhead cX6_showAhead 6 (some .boolean), Cond.methodLink RX6 81 yX5_colourAt, Cond.methodLink RX8 238 yX6_firstTogether, Cond.static yX6_firstTogether, Cond.code yX6_firstTogether cX6_firstTogether 9 (some .int), Cond.methodLink RL 92 yX9_together, Cond.instanceMethod yX9_together, Cond.selects RX9 yX9_together yX9_together, Cond.code yX9_together cX9_together 9 (some .int), Cond.methodLink RX9 267 yX9_packsOf, Cond.instanceMethod yX9_packsOf]
def wsL_law_r35 : List Cond := [Cond.selects RX9 yX9_packsOf yX9_packsOf, Cond.code yX9_packsOf cX9_packsOf 4 (some .int), Cond.methodLink RX9 263 yX9_allShow, Cond.instanceMethod yX9_allShow, Cond.selects RX9 yX9_allShow yX9_allShow, Cond.code yX9_allShow cX9_allShow 7 (some .boolean), Cond.methodLink RX9 270 yX9_layFar, Cond.instanceMethod yX9_layFar, Cond.selects RX9 yX9_layFar yX9_layFar, Cond.code yX9_layFar cX9_layFar 8 none, Cond.methodLink RX9 273 yX9_farBehind, Cond.instanceMethod yX9_farBehind, Cond.selects RX9 yX9_farBehind yX9_farBehind, Cond.code yX9_farBehind cX9_farBehind 2 (some .int), Cond.methodLink RL 93 yX8_repeat, Cond.instanceMethod yX8_repeat, Cond.selects RX8 yX8_repeat yX8_repeat, Cond.code yX8_repeat cX8_repeat 1 (some .int), Cond.methodLink RX8 242 yX5_isSameAfter, Cond.instanceMethod yX5_isSameAfter, Cond.selects RX5 yX5_isSameAfter yX5_isSameAfter, Cond.code yX5_isSameAfter cX5_isSameAfter 4 (some .boolean), Cond.methodLink RX5 50 yX5_colourAt, Cond.methodLink RL 96 yX9_repeat]
def wsL_law_r36 : List Cond := [Cond.instanceMethod yX9_repeat, Cond.selects RX9 yX9_repeat yX9_repeat, Cond.code yX9_repeat cX9_repeat 4 (some .int), Cond.methodLink RL 97 yX8_floats, Cond.instanceMethod yX8_floats, Cond.selects RX8 yX8_floats yX8_floats, Cond.code yX8_floats cX8_floats 2 (some .int), Cond.methodLink RX8 245 yX0_findFloat, Cond.methodLink RL 100 yX9_floats, Cond.instanceMethod yX9_floats, Cond.selects RX9 yX9_floats yX9_floats, Cond.code yX9_floats cX9_floats 2 (some .int), Cond.methodLink RL 101 yX8_alike, Cond.instanceMethod yX8_alike, Cond.selects RX8 yX8_alike yX8_alike, Cond.code yX8_alike cX8_alike 2 (some .int), Cond.methodLink RX8 248 yX0_findAlike, Cond.static yX0_findAlike, Cond.code yX0_findAlike cX0_findAlike 6 (some .int), Cond.methodLink RX0 50 yX0_showedSame, Cond.static yX0_showedSame, Cond.code yX0_showedSame cX0_showedSame 4 (some .boolean), Cond.methodLink RL 104 yX9_alike, Cond.instanceMethod yX9_alike]
def wsL_law_r37 : List Cond := [Cond.selects RX9 yX9_alike yX9_alike, Cond.code yX9_alike cX9_alike 6 (some .int), Cond.methodLink RX9 276 yX9_areAlike, Cond.instanceMethod yX9_areAlike, Cond.selects RX9 yX9_areAlike yX9_areAlike, Cond.code yX9_areAlike cX9_areAlike 5 (some .boolean), Cond.methodLink RL 105 yX8_shown, Cond.instanceMethod yX8_shown, Cond.selects RX8 yX8_shown yX8_shown, Cond.code yX8_shown cX8_shown 2 (some .int), Cond.methodLink RX8 252 yX0_countShown, Cond.methodLink RL 108 yX9_shown, Cond.instanceMethod yX9_shown, Cond.selects RX9 yX9_shown yX9_shown, Cond.code yX9_shown cX9_shown 2 (some .int), Cond.methodLink RL 109 yX8_turned, Cond.instanceMethod yX8_turned, Cond.selects RX8 yX8_turned yX8_turned, Cond.code yX8_turned cX8_turned 3 (some .int), Cond.methodLink RX8 255 yX0_findTurns, Cond.static yX0_findTurns, Cond.code yX0_findTurns cX0_findTurns 7 (some .int), Cond.methodLink RX0 53 yX5_colourAt, Cond.methodLink RL 112 yX9_turned]
def wsL_law_r38 : List Cond := [Cond.instanceMethod yX9_turned, Cond.selects RX9 yX9_turned yX9_turned, Cond.code yX9_turned cX9_turned 9 (some .int), Cond.constantLong RX9 279 (22), Cond.methodLink RL 113 yX8_share, Cond.instanceMethod yX8_share, Cond.selects RX8 yX8_share yX8_share, Cond.code yX8_share cX8_share 3 (some .int), Cond.methodLink RX8 259 yX5_countLeftOver, Cond.instanceMethod yX5_countLeftOver, Cond.selects RX5 yX5_countLeftOver yX5_countLeftOver, Cond.code yX5_countLeftOver cX5_countLeftOver 4 (some .int), Cond.methodLink RX5 53 yX5_shareOf, Cond.instanceMethod yX5_shareOf, Cond.selects RX5 yX5_shareOf yX5_shareOf, Cond.code yX5_shareOf cX5_shareOf 5 (some .int), Cond.methodLink RX8 262 yX5_shareOf, Cond.methodLink RL 116 yX9_share, Cond.instanceMethod yX9_share, Cond.selects RX9 yX9_share yX9_share, Cond.code yX9_share cX9_share 5 (some .int), Cond.methodLink RX9 281 yX9_shareOf, Cond.instanceMethod yX9_shareOf, Cond.selects RX9 yX9_shareOf yX9_shareOf]
def wsL_law_r39 : List Cond := [Cond.code yX9_shareOf cX9_shareOf 6 (some .int), Cond.methodLink RL 117 yX8_plain, Cond.instanceMethod yX8_plain, Cond.selects RX8 yX8_plain yX8_plain, Cond.code yX8_plain cX8_plain 6 (some .int), Cond.constantLong RX8 265 (1000000000), Cond.constantLong RX8 267 (100), Cond.methodLink RL 120 yX9_plain, Cond.instanceMethod yX9_plain, Cond.selects RX9 yX9_plain yX9_plain, Cond.code yX9_plain cX9_plain 6 (some .int), Cond.constantLong RX9 284 (60), Cond.constantLong RX9 286 (100), Cond.constantLong RX9 288 (1000000000), Cond.methodLink RL 121 yX8_see, Cond.instanceMethod yX8_see, Cond.selects RX8 yX8_see yX8_see, Cond.code yX8_see cX8_see 4 (some .int), Cond.methodLink RX8 269 yX3_addSeen, Cond.instanceMethod yX3_addSeen, Cond.selects RX3 yX3_addSeen yX3_addSeen, Cond.code yX3_addSeen cX3_addSeen 4 (some .boolean), Cond.methodLink RL 124 yX9_see, Cond.instanceMethod yX9_see]
def wsL_law_r40 : List Cond := [Cond.selects RX9 yX9_see yX9_see, Cond.code yX9_see cX9_see 4 (some .int), Cond.methodLink RL 125 yX8_holes, Cond.instanceMethod yX8_holes, Cond.selects RX8 yX8_holes yX8_holes, Cond.code yX8_holes cX8_holes 2 (some .int), Cond.methodLink RX8 273 yX3_findHoles, Cond.instanceMethod yX3_findHoles, Cond.selects RX3 yX3_findHoles yX3_findHoles, Cond.code yX3_findHoles cX3_findHoles 5 (some .int), Cond.methodLink RX3 39 yX3_holesThatShow, Cond.static yX3_holesThatShow, Cond.code yX3_holesThatShow cX3_holesThatShow 6 (some .int), Cond.methodLink RX3 43 yX5_colourAt, Cond.methodLink RL 128 yX9_holes, Cond.instanceMethod yX9_holes, Cond.selects RX9 yX9_holes yX9_holes, Cond.code yX9_holes cX9_holes 2 (some .int), Cond.methodLink RX9 290 yX9_holesOf, Cond.instanceMethod yX9_holesOf, Cond.selects RX9 yX9_holesOf yX9_holesOf, Cond.code yX9_holesOf cX9_holesOf 6 (some .int), Cond.methodLink RL 129 yX8_lookAt, Cond.instanceMethod yX8_lookAt]
def wsL_law_r41 : List Cond := [Cond.selects RX8 yX8_lookAt yX8_lookAt, Cond.code yX8_lookAt cX8_lookAt 2 (some .int), Cond.methodLink RX8 276 yX3_findLook, Cond.instanceMethod yX3_findLook, Cond.selects RX3 yX3_findLook yX3_findLook, Cond.code yX3_findLook cX3_findLook 8 (some .int), Cond.methodLink RX3 49 yX3_findHoles, Cond.methodLink RX3 53 yJ6_bitCount_0f7a4, Cond.static yJ6_bitCount_0f7a4, Cond.initialized RJ6, Cond.code yJ6_bitCount_0f7a4 cJ6_bitCount_0f7a4 1 (some .int), Cond.constant RJ6 265 (1431655765), Cond.constant RJ6 266 (858993459), Cond.constant RJ6 267 (252645135), Cond.methodLink RX3 59 yX3_findGreatestPart, Cond.static yX3_findGreatestPart, Cond.code yX3_findGreatestPart cX3_findGreatestPart 7 (some .int), Cond.fieldLink RX3 62 "CardBand$Threading" "colours" "I", Cond.methodLink RX3 65 Lib.Math.max.name, Cond.methodLink RL 132 yX9_lookAt, Cond.instanceMethod yX9_lookAt, Cond.selects RX9 yX9_lookAt yX9_lookAt, Cond.code yX9_lookAt cX9_lookAt 7 (some .int), Cond.methodLink RX9 293 yX9_greatestPart]
def wsL_law_r42 : List Cond := [Cond.instanceMethod yX9_greatestPart, Cond.selects RX9 yX9_greatestPart yX9_greatestPart, Cond.code yX9_greatestPart cX9_greatestPart 8 (some .int), Cond.methodLink RL 133 yX8_write, Cond.instanceMethod yX8_write, Cond.selects RX8 yX8_write yX8_write, Cond.code yX8_write cX8_write 3 (some .int), Cond.methodLink RX8 279 yX3_addEntry, Cond.instanceMethod yX3_addEntry, Cond.selects RX3 yX3_addEntry yX3_addEntry, Cond.code yX3_addEntry cX3_addEntry 3 (some .boolean), Cond.methodLink RL 136 yX9_write, Cond.instanceMethod yX9_write, Cond.selects RX9 yX9_write yX9_write, Cond.code yX9_write cX9_write 3 (some .int), Cond.methodLink RL 137 yX8_judge, Cond.instanceMethod yX8_judge, Cond.selects RX8 yX8_judge yX8_judge, Cond.code yX8_judge cX8_judge 1 (some .int), Cond.methodLink RX8 283 yX3_findWrong, Cond.instanceMethod yX3_findWrong, Cond.selects RX3 yX3_findWrong yX3_findWrong, Cond.code yX3_findWrong cX3_findWrong 3 (some .int), Cond.fieldLink RX3 34 "CardBand$Weave" "shows" "[I"]
def wsL_law_r43 : List Cond := [Cond.methodLink RL 140 yX9_judge, Cond.instanceMethod yX9_judge, Cond.selects RX9 yX9_judge yX9_judge, Cond.code yX9_judge cX9_judge 2 (some .int), Cond.methodLink RL 141 yX8_tear, Cond.instanceMethod yX8_tear, Cond.selects RX8 yX8_tear yX8_tear, Cond.code yX8_tear cX8_tear 2 (some .int), Cond.methodLink RL 144 yX9_tear, Cond.instanceMethod yX9_tear, Cond.selects RX9 yX9_tear yX9_tear, Cond.code yX9_tear cX9_tear 2 (some .int), Cond.methodLink RL 145 yX8_seed, Cond.instanceMethod yX8_seed, Cond.selects RX8 yX8_seed yX8_seed, Cond.code yX8_seed cX8_seed 3 (some .int), Cond.methodLink RL 148 yX9_seed, Cond.instanceMethod yX9_seed, Cond.selects RX9 yX9_seed yX9_seed, Cond.code yX9_seed cX9_seed 3 (some .int), Cond.methodLink RL 149 yX8_keep, Cond.instanceMethod yX8_keep, Cond.selects RX8 yX8_keep yX8_keep, Cond.code yX8_keep cX8_keep 3 (some .int)]
def wsL_law_r44 : List Cond := [Cond.fieldLink RX8 295 "CardBand$Image" "weave" "LCardBand$Weave;", Cond.fieldLink RX8 299 "CardBand$Image" "drawn" "J", Cond.methodLink RX8 291 yX8_imageAt, Cond.instanceMethod yX8_imageAt, Cond.selects RX8 yX8_imageAt yX8_imageAt, Cond.code yX8_imageAt cX8_imageAt 2 (some (.object "CardBand$Image")), Cond.methodLink RL 152 yX9_keep, Cond.instanceMethod yX9_keep, Cond.selects RX9 yX9_keep yX9_keep, Cond.code yX9_keep cX9_keep 2 (some .int), Cond.methodLink RL 153 yX8_goBack, Cond.instanceMethod yX8_goBack, Cond.selects RX8 yX8_goBack yX8_goBack, Cond.code yX8_goBack cX8_goBack 3 (some .int), Cond.methodLink RL 156 yX9_goBack, Cond.instanceMethod yX9_goBack, Cond.selects RX9 yX9_goBack yX9_goBack, Cond.code yX9_goBack cX9_goBack 2 (some .int)]
def wsL_law : List Cond := (wsL_law_r1 ++ (wsL_law_r2 ++ (wsL_law_r3 ++ (wsL_law_r4 ++ (wsL_law_r5 ++ (wsL_law_r6 ++ (wsL_law_r7 ++ (wsL_law_r8 ++ (wsL_law_r9 ++ (wsL_law_r10 ++ (wsL_law_r11 ++ (wsL_law_r12 ++ (wsL_law_r13 ++ (wsL_law_r14 ++ (wsL_law_r15 ++ (wsL_law_r16 ++ (wsL_law_r17 ++ (wsL_law_r18 ++ (wsL_law_r19 ++ (wsL_law_r20 ++ (wsL_law_r21 ++ (wsL_law_r22 ++ (wsL_law_r23 ++ (wsL_law_r24 ++ (wsL_law_r25 ++ (wsL_law_r26 ++ (wsL_law_r27 ++ (wsL_law_r28 ++ (wsL_law_r29 ++ (wsL_law_r30 ++ (wsL_law_r31 ++ (wsL_law_r32 ++ (wsL_law_r33 ++ (wsL_law_r34 ++ (wsL_law_r35 ++ (wsL_law_r36 ++ (wsL_law_r37 ++ (wsL_law_r38 ++ (wsL_law_r39 ++ (wsL_law_r40 ++ (wsL_law_r41 ++ (wsL_law_r42 ++ (wsL_law_r43 ++ wsL_law_r44))))))))))))))))))))))))))))))))))))))))))) ++ wsX80 ++ wsX90 ++ wsX40 ++ wsX70 ++ wsX10 ++ wsX30 ++ wsX50 ++ wsX20 ++ ([] : List Cond)
set_option maxRecDepth 20000 in
theorem inX0 : ∀ w ∈ wsX00, w ∈ lw_tbl := by decide +kernel
theorem inlX1 : ∀ w ∈ wsX10, w ∈ wsL_law := fun _ h => List.mem_append_left _ (List.mem_append_left _ (List.mem_append_left _ (List.mem_append_left _ (List.mem_append_right _ h))))
theorem inlX2 : ∀ w ∈ wsX20, w ∈ wsL_law := fun _ h => List.mem_append_left _ (List.mem_append_right _ h)
theorem inlX3 : ∀ w ∈ wsX30, w ∈ wsL_law := fun _ h => List.mem_append_left _ (List.mem_append_left _ (List.mem_append_left _ (List.mem_append_right _ h)))
theorem inlX4 : ∀ w ∈ wsX40, w ∈ wsL_law := fun _ h => List.mem_append_left _ (List.mem_append_left _ (List.mem_append_left _ (List.mem_append_left _ (List.mem_append_left _ (List.mem_append_left _ (List.mem_append_right _ h))))))
theorem inlX5 : ∀ w ∈ wsX50, w ∈ wsL_law := fun _ h => List.mem_append_left _ (List.mem_append_left _ (List.mem_append_right _ h))
theorem inX6 : ∀ w ∈ wsX60, w ∈ lw_tbl := by decide +kernel
theorem inlX7 : ∀ w ∈ wsX70, w ∈ wsL_law := fun _ h => List.mem_append_left _ (List.mem_append_left _ (List.mem_append_left _ (List.mem_append_left _ (List.mem_append_left _ (List.mem_append_right _ h)))))
theorem inlX8 : ∀ w ∈ wsX80, w ∈ wsL_law := fun _ h => List.mem_append_left _ (List.mem_append_left _ (List.mem_append_left _ (List.mem_append_left _ (List.mem_append_left _ (List.mem_append_left _ (List.mem_append_left _ (List.mem_append_left _ (List.mem_append_right _ h))))))))
theorem inlX9 : ∀ w ∈ wsX90, w ∈ wsL_law := fun _ h => List.mem_append_left _ (List.mem_append_left _ (List.mem_append_left _ (List.mem_append_left _ (List.mem_append_left _ (List.mem_append_left _ (List.mem_append_left _ (List.mem_append_right _ h)))))))
theorem inJ6 : ∀ w ∈ wsJ60, w ∈ lw_tbl := by decide +kernel
theorem inJ9 : ∀ w ∈ wsJ90, w ∈ lw_tbl := by decide +kernel
theorem inJ10 : ∀ w ∈ wsJ100, w ∈ lw_tbl := by decide +kernel
theorem inJ7 : ∀ w ∈ wsJ70, w ∈ lw_tbl := by decide +kernel
set_option maxRecDepth 20000 in
theorem ggL_law_X8_init : GoodIn wsL_law wsX8_init := goodIn_r _ [8, 9, 10, 11, 12, 13, 14, 15, 16, 17, 18, 19, 20, 21, 22, 23, 24, 25, 26, 27, 28, 29, 30, 31, 32, 33, 34, 35, 36, 37, 38, 39, 40, 41, 42, 43, 44, 45, 46, 47, 48, 49, 50, 51, 52, 53, 54, 55, 56, 57, 58, 59, 60, 61, 62, 63, 64, 65, 66, 67, 68, 69, 70, 71, 72, 73, 74, 75, 76, 77, 78, 79, 80, 81, 1086, 1087, 1088, 1089, 1090, 1091, 1050, 1051, 1052, 1053, 1054, 1055, 1056, 1057, 1058, 1092, 1093, 1094, 1095, 1096, 1097, 1098, 1099, 1100, 1101, 1102, 1103, 1104, 1105, 1106, 1107, 1108, 1109, 1110, 1111, 1112, 1113, 1114, 1115, 1116, 1117, 1118, 1119, 1120, 1121, 1122] (by decide +kernel) (by decide +kernel)
set_option maxRecDepth 20000 in
theorem gL_law_X8_init : GoodIn wsL_law (wsX8_init) := ggL_law_X8_init
set_option maxRecDepth 20000 in
theorem ggL_law_X9_init : GoodIn wsL_law wsX9_init := goodIn_r _ [84, 85, 10, 11, 41, 86, 87, 88, 89, 90, 91, 92, 93, 94, 95, 96, 97, 98, 99, 100, 1059, 1060, 1061, 1062, 1063, 1064, 1065, 1066, 1067, 1068, 1069, 1070, 1071, 1072, 1073, 1074, 1075, 1076, 1077, 1078, 1079, 1080, 1081, 1082, 1083, 1084, 1085] (by decide +kernel) (by decide +kernel)
set_option maxRecDepth 20000 in
theorem gL_law_X9_init : GoodIn wsL_law (wsX9_init) := ggL_law_X9_init
set_option maxRecDepth 20000 in
theorem ggL_law_X8_feed : GoodIn wsL_law wsX8_feed := goodIn_r _ [104, 105, 15, 106, 107, 108, 109, 110, 14, 111, 112, 42, 1050, 1051, 1052, 1053, 1054, 1055, 1056, 1057, 1058, 1086, 1087, 1088, 1089, 1090, 1091] (by decide +kernel) (by decide +kernel)
set_option maxRecDepth 20000 in
theorem gL_law_X8_feed : GoodIn wsL_law (wsV RL 13 RX8 yX8_feed wsX8_feed) := goodIn_app (goodIn_of _ (by decide +kernel)) ggL_law_X8_feed
set_option maxRecDepth 20000 in
theorem ggL_law_X9_feed : GoodIn wsL_law wsX9_feed := goodIn_r _ [116, 117, 118, 119, 120, 93, 121, 122, 5, 123, 1059, 1060, 1061, 1062, 1063, 1064, 1065, 1066, 1067, 1068, 1069, 1070, 1071, 1072, 1073, 1074, 1075, 1076, 1077, 1078, 1079, 1080, 1081, 1082, 1083, 1084, 1085] (by decide +kernel) (by decide +kernel)
set_option maxRecDepth 20000 in
theorem gL_law_X9_feed : GoodIn wsL_law (wsV RL 17 RX9 yX9_feed wsX9_feed) := goodIn_app (goodIn_of _ (by decide +kernel)) ggL_law_X9_feed
set_option maxRecDepth 20000 in
theorem ggL_law_X8_loom : GoodIn wsL_law wsX8_loom := goodIn_r _ [127, 15, 35, 107, 128, 34, 19, 24, 28, 129, 130, 131, 132, 14, 133, 134, 135, 43, 112, 136, 137, 138, 33, 139, 140, 141, 142, 143, 74, 76, 144, 145, 146, 147, 148, 149, 150, 151, 152, 153, 154, 155, 42, 156, 157, 158, 159, 160, 161, 162, 163, 164, 165, 166, 167, 168, 169, 170, 171, 172, 173, 174, 175, 176, 177, 178, 179, 180, 181, 182, 183, 184, 185, 186, 187, 188, 189, 190, 191, 192, 72, 193, 194, 195, 196, 197, 198, 199, 73, 200, 201, 202, 203, 204, 205, 206, 207, 208, 75, 209, 210, 211, 212, 213, 214, 215, 216, 217, 218, 219, 220, 18, 221, 222, 47, 223, 224, 225, 226, 227, 52, 48, 49, 50, 51, 228, 229, 230, 231, 232, 23, 233, 234, 235, 236, 237, 27, 238, 239, 240, 241, 242, 243, 2, 244, 30, 245, 1050, 1051, 1052, 1053, 1054, 1055, 1056, 1057, 1058, 1086, 1087, 1088, 1089, 1090, 1091, 1111, 1112, 1113, 1114, 1115, 1116, 1117, 1118, 1119, 1092, 1093, 1094, 1095, 1096, 1097, 1098, 1099, 1100, 1101, 1102, 1103, 1104, 1105, 1106, 1107, 1108, 1109, 1110, 1120, 1121, 1122] (by decide +kernel) (by decide +kernel)
set_option maxRecDepth 20000 in
theorem gL_law_X8_loom : GoodIn wsL_law (wsV RL 18 RX8 yX8_loom wsX8_loom) := goodIn_app (goodIn_of _ (by decide +kernel)) ggL_law_X8_loom
set_option maxRecDepth 20000 in
theorem ggL_law_X9_loom : GoodIn wsL_law wsX9_loom := goodIn_r _ [249, 250, 251, 94, 252, 253, 254, 92, 119, 255, 256, 257, 258, 5, 259, 93, 260, 261, 262, 263, 264, 265, 266, 267, 268, 269, 270, 271, 272, 273, 274, 275, 276, 277, 278, 279, 280, 281, 282, 283, 121, 122, 123, 284, 285, 286, 287, 89, 90, 288, 289, 290, 291, 91, 292, 293, 294, 295, 296, 297, 298, 299, 300, 301, 86, 302, 303, 304, 88, 1059, 1060, 1061, 1062, 1063, 1064, 1065, 1066, 1067, 1068, 1069, 1070, 1071, 1072, 1073, 1074, 1075, 1076, 1077, 1078, 1079, 1080, 1081, 1082, 1083, 1084, 1085] (by decide +kernel) (by decide +kernel)
set_option maxRecDepth 20000 in
theorem gL_law_X9_loom : GoodIn wsL_law (wsV RL 22 RX9 yX9_loom wsX9_loom) := goodIn_app (goodIn_of _ (by decide +kernel)) ggL_law_X9_loom
set_option maxRecDepth 20000 in
theorem ggL_law_X8_fault : GoodIn wsL_law wsX8_fault := goodIn_r _ [308, 15, 309, 1050, 1051, 1052, 1053, 1054, 1055, 1056, 1057, 1058, 1086, 1087, 1088, 1089, 1090, 1091] (by decide +kernel) (by decide +kernel)
set_option maxRecDepth 20000 in
theorem gL_law_X8_fault : GoodIn wsL_law (wsV RL 23 RX8 yX8_fault wsX8_fault) := goodIn_app (goodIn_of _ (by decide +kernel)) ggL_law_X8_fault
set_option maxRecDepth 20000 in
theorem ggL_law_X9_fault : GoodIn wsL_law wsX9_fault := goodIn_r _ [313, 94, 1059, 1060, 1061, 1062, 1063, 1064, 1065, 1066, 1067, 1068, 1069, 1070, 1071, 1072, 1073, 1074, 1075, 1076, 1077, 1078, 1079, 1080, 1081, 1082, 1083, 1084, 1085] (by decide +kernel) (by decide +kernel)
set_option maxRecDepth 20000 in
theorem gL_law_X9_fault : GoodIn wsL_law (wsV RL 26 RX9 yX9_fault wsX9_fault) := goodIn_app (goodIn_of _ (by decide +kernel)) ggL_law_X9_fault
set_option maxRecDepth 20000 in
theorem ggL_law_X8_told : GoodIn wsL_law wsX8_told := goodIn_r _ [317, 34, 318, 129, 319, 15, 107, 19, 320, 28, 321, 322, 24, 323, 105, 324, 325, 326, 18, 327, 228, 328, 329, 330, 331, 332, 333, 334, 335, 336, 337, 338, 339, 340, 341, 342, 343, 54, 344, 345, 346, 347, 348, 349, 350, 351, 352, 353, 354, 355, 356, 357, 358, 359, 360, 361, 362, 363, 364, 365, 366, 367, 368, 369, 370, 371, 372, 373, 374, 375, 376, 377, 378, 52, 1050, 1051, 1052, 1053, 1054, 1055, 1056, 1057, 1058, 1111, 1112, 1113, 1114, 1115, 1116, 1117, 1118, 1119, 1086, 1087, 1088, 1089, 1090, 1091, 1092, 1093, 1094, 1095, 1096, 1097, 1098, 1099, 1100, 1104, 1105, 1106, 1107, 1108, 1109, 1110, 1101, 1102, 1103] (by decide +kernel) (by decide +kernel)
set_option maxRecDepth 20000 in
theorem gL_law_X8_told : GoodIn wsL_law (wsV RL 27 RX8 yX8_told wsX8_told) := goodIn_app (goodIn_of _ (by decide +kernel)) ggL_law_X8_told
set_option maxRecDepth 20000 in
theorem ggL_law_X9_told : GoodIn wsL_law wsX9_told := goodIn_r _ [382, 300, 255, 301, 119, 86, 302, 303, 304, 118, 383, 384, 385, 5, 386, 387, 388, 389, 390, 391, 392, 393, 394, 395, 396, 397, 398, 399, 400, 401, 402, 403, 404, 405, 406, 407, 408, 409, 410, 411, 412, 413, 414, 415, 416, 417, 418, 419, 420, 421, 422, 423, 424, 1059, 1060, 1061, 1062, 1063, 1064, 1065, 1066, 1067, 1068, 1069, 1070, 1071, 1072, 1073, 1074, 1075, 1076, 1077, 1078, 1079, 1080, 1081, 1082, 1083, 1084, 1085] (by decide +kernel) (by decide +kernel)
set_option maxRecDepth 20000 in
theorem gL_law_X9_told : GoodIn wsL_law (wsV RL 30 RX9 yX9_told wsX9_told) := goodIn_app (goodIn_of _ (by decide +kernel)) ggL_law_X9_told
set_option maxRecDepth 20000 in
theorem ggL_law_X8_card : GoodIn wsL_law wsX8_card := goodIn_r _ [428, 34, 429, 19, 430, 431, 432, 433, 434, 435, 105, 436, 437, 438, 33, 439, 141, 440, 441, 442, 443, 72, 193, 194, 195, 1050, 1051, 1052, 1053, 1054, 1055, 1056, 1057, 1058, 1092, 1093, 1094, 1095, 1096, 1097, 1098, 1099, 1100, 1111, 1112, 1113, 1114, 1115, 1116, 1117, 1118, 1119] (by decide +kernel) (by decide +kernel)
set_option maxRecDepth 20000 in
theorem gL_law_X8_card : GoodIn wsL_law (wsV RL 31 RX8 yX8_card wsX8_card) := goodIn_app (goodIn_of _ (by decide +kernel)) ggL_law_X8_card
set_option maxRecDepth 20000 in
theorem ggL_law_X9_card : GoodIn wsL_law wsX9_card := goodIn_r _ [447, 448, 86, 118, 449, 450, 451, 5, 452, 255, 121, 122, 123, 453, 454, 455, 456, 89, 457, 458, 459, 460, 301, 91, 461, 462, 463, 1059, 1060, 1061, 1062, 1063, 1064, 1065, 1066, 1067, 1068, 1069, 1070, 1071, 1072, 1073, 1074, 1075, 1076, 1077, 1078, 1079, 1080, 1081, 1082, 1083, 1084, 1085] (by decide +kernel) (by decide +kernel)
set_option maxRecDepth 20000 in
theorem gL_law_X9_card : GoodIn wsL_law (wsV RL 35 RX9 yX9_card wsX9_card) := goodIn_app (goodIn_of _ (by decide +kernel)) ggL_law_X9_card
set_option maxRecDepth 20000 in
theorem ggL_law_X8_pack : GoodIn wsL_law wsX8_pack := goodIn_r _ [467, 34, 468, 429, 469, 470, 471, 33, 472, 142, 1050, 1051, 1052, 1053, 1054, 1055, 1056, 1057, 1058, 1111, 1112, 1113, 1114, 1115, 1116, 1117, 1118, 1119] (by decide +kernel) (by decide +kernel)
set_option maxRecDepth 20000 in
theorem gL_law_X8_pack : GoodIn wsL_law (wsV RL 36 RX8 yX8_pack wsX8_pack) := goodIn_app (goodIn_of _ (by decide +kernel)) ggL_law_X8_pack
set_option maxRecDepth 20000 in
theorem ggL_law_X9_pack : GoodIn wsL_law wsX9_pack := goodIn_r _ [476, 301, 91, 448, 121, 122, 5, 123, 1059, 1060, 1061, 1062, 1063, 1064, 1065, 1066, 1067, 1068, 1069, 1070, 1071, 1072, 1073, 1074, 1075, 1076, 1077, 1078, 1079, 1080, 1081, 1082, 1083, 1084, 1085] (by decide +kernel) (by decide +kernel)
set_option maxRecDepth 20000 in
theorem gL_law_X9_pack : GoodIn wsL_law (wsV RL 39 RX9 yX9_pack wsX9_pack) := goodIn_app (goodIn_of _ (by decide +kernel)) ggL_law_X9_pack
set_option maxRecDepth 20000 in
theorem ggL_law_X8_yarn : GoodIn wsL_law wsX8_yarn := goodIn_r _ [480, 34, 19, 481, 429, 482, 483, 484, 33, 485, 140, 1050, 1051, 1052, 1053, 1054, 1055, 1056, 1057, 1058, 1092, 1093, 1094, 1095, 1096, 1097, 1098, 1099, 1100, 1111, 1112, 1113, 1114, 1115, 1116, 1117, 1118, 1119] (by decide +kernel) (by decide +kernel)
set_option maxRecDepth 20000 in
theorem gL_law_X8_yarn : GoodIn wsL_law (wsV RL 40 RX8 yX8_yarn wsX8_yarn) := goodIn_app (goodIn_of _ (by decide +kernel)) ggL_law_X8_yarn
set_option maxRecDepth 20000 in
theorem ggL_law_X9_yarn : GoodIn wsL_law wsX9_yarn := goodIn_r _ [489, 86, 448, 490, 491, 492, 5, 493, 300, 121, 122, 123, 1059, 1060, 1061, 1062, 1063, 1064, 1065, 1066, 1067, 1068, 1069, 1070, 1071, 1072, 1073, 1074, 1075, 1076, 1077, 1078, 1079, 1080, 1081, 1082, 1083, 1084, 1085] (by decide +kernel) (by decide +kernel)
set_option maxRecDepth 20000 in
theorem gL_law_X9_yarn : GoodIn wsL_law (wsV RL 43 RX9 yX9_yarn wsX9_yarn) := goodIn_app (goodIn_of _ (by decide +kernel)) ggL_law_X9_yarn
set_option maxRecDepth 20000 in
theorem ggL_law_X8_row : GoodIn wsL_law wsX8_row := goodIn_r _ [497, 34, 19, 429, 436, 437, 438, 33, 439, 141, 498, 341, 342, 18, 343, 54, 228, 344, 325, 326, 327, 328, 329, 330, 331, 345, 346, 347, 348, 349, 350, 351, 1050, 1051, 1052, 1053, 1054, 1055, 1056, 1057, 1058, 1111, 1112, 1113, 1114, 1115, 1116, 1117, 1118, 1119, 1092, 1093, 1094, 1095, 1096, 1097, 1098, 1099, 1100] (by decide +kernel) (by decide +kernel)
set_option maxRecDepth 20000 in
theorem gL_law_X8_row : GoodIn wsL_law (wsV RL 44 RX8 yX8_row wsX8_row) := goodIn_app (goodIn_of _ (by decide +kernel)) ggL_law_X8_row
set_option maxRecDepth 20000 in
theorem ggL_law_X9_row : GoodIn wsL_law wsX9_row := goodIn_r _ [502, 448, 86, 449, 450, 451, 5, 452, 255, 121, 122, 123, 387, 388, 389, 390, 1059, 1060, 1061, 1062, 1063, 1064, 1065, 1066, 1067, 1068, 1069, 1070, 1071, 1072, 1073, 1074, 1075, 1076, 1077, 1078, 1079, 1080, 1081, 1082, 1083, 1084, 1085] (by decide +kernel) (by decide +kernel)
set_option maxRecDepth 20000 in
theorem gL_law_X9_row : GoodIn wsL_law (wsV RL 47 RX9 yX9_row wsX9_row) := goodIn_app (goodIn_of _ (by decide +kernel)) ggL_law_X9_row
set_option maxRecDepth 20000 in
theorem ggL_law_X8_pick : GoodIn wsL_law wsX8_pick := goodIn_r _ [506, 34, 105, 507, 19, 320, 106, 24, 508, 509, 510, 33, 511, 142, 512, 513, 514, 515, 140, 516, 517, 518, 2, 519, 20, 520, 521, 522, 18, 523, 47, 223, 224, 225, 226, 48, 49, 50, 51, 52, 54, 228, 524, 525, 526, 527, 528, 529, 530, 531, 532, 533, 534, 535, 536, 74, 537, 538, 539, 540, 541, 53, 542, 543, 544, 545, 229, 145, 146, 147, 546, 547, 548, 549, 550, 441, 442, 443, 72, 193, 194, 195, 551, 552, 553, 554, 555, 556, 557, 558, 345, 346, 347, 348, 349, 350, 351, 559, 560, 561, 23, 562, 563, 234, 564, 329, 330, 331, 565, 566, 567, 568, 60, 569, 1050, 1051, 1052, 1053, 1054, 1055, 1056, 1057, 1058, 1092, 1093, 1094, 1095, 1096, 1097, 1098, 1099, 1100, 1111, 1112, 1113, 1114, 1115, 1116, 1117, 1118, 1119, 1101, 1102, 1103] (by decide +kernel) (by decide +kernel)
set_option maxRecDepth 20000 in
theorem gL_law_X8_pick : GoodIn wsL_law (wsV RL 48 RX8 yX8_pick wsX8_pick) := goodIn_app (goodIn_of _ (by decide +kernel)) ggL_law_X8_pick
set_option maxRecDepth 20000 in
theorem ggL_law_X9_pick : GoodIn wsL_law wsX9_pick := goodIn_r _ [573, 574, 118, 575, 86, 120, 576, 577, 578, 5, 579, 301, 121, 122, 123, 580, 581, 582, 583, 300, 584, 585, 586, 587, 588, 589, 590, 591, 592, 593, 594, 595, 255, 457, 458, 459, 460, 91, 461, 462, 463, 596, 597, 598, 599, 600, 601, 602, 453, 454, 455, 456, 89, 603, 604, 605, 606, 607, 608, 609, 610, 611, 612, 613, 614, 615, 616, 617, 618, 619, 620, 621, 304, 1059, 1060, 1061, 1062, 1063, 1064, 1065, 1066, 1067, 1068, 1069, 1070, 1071, 1072, 1073, 1074, 1075, 1076, 1077, 1078, 1079, 1080, 1081, 1082, 1083, 1084, 1085] (by decide +kernel) (by decide +kernel)
set_option maxRecDepth 20000 in
theorem gL_law_X9_pick : GoodIn wsL_law (wsV RL 51 RX9 yX9_pick wsX9_pick) := goodIn_app (goodIn_of _ (by decide +kernel)) ggL_law_X9_pick
set_option maxRecDepth 20000 in
theorem ggL_law_X8_flip : GoodIn wsL_law wsX8_flip := goodIn_r _ [625, 34, 429, 24, 19, 430, 436, 437, 438, 33, 439, 141, 559, 560, 561, 23, 562, 563, 234, 564, 329, 330, 331, 565, 566, 567, 568, 60, 569, 521, 522, 18, 523, 47, 223, 224, 225, 226, 48, 49, 50, 51, 52, 54, 228, 1050, 1051, 1052, 1053, 1054, 1055, 1056, 1057, 1058, 1092, 1093, 1094, 1095, 1096, 1097, 1098, 1099, 1100, 1111, 1112, 1113, 1114, 1115, 1116, 1117, 1118, 1119, 1101, 1102, 1103] (by decide +kernel) (by decide +kernel)
set_option maxRecDepth 20000 in
theorem gL_law_X8_flip : GoodIn wsL_law (wsV RL 52 RX8 yX8_flip wsX8_flip) := goodIn_app (goodIn_of _ (by decide +kernel)) ggL_law_X8_flip
set_option maxRecDepth 20000 in
theorem ggL_law_X9_flip : GoodIn wsL_law wsX9_flip := goodIn_r _ [629, 448, 86, 449, 450, 451, 5, 452, 255, 121, 122, 123, 618, 619, 620, 621, 304, 588, 589, 590, 591, 1059, 1060, 1061, 1062, 1063, 1064, 1065, 1066, 1067, 1068, 1069, 1070, 1071, 1072, 1073, 1074, 1075, 1076, 1077, 1078, 1079, 1080, 1081, 1082, 1083, 1084, 1085] (by decide +kernel) (by decide +kernel)
set_option maxRecDepth 20000 in
theorem gL_law_X9_flip : GoodIn wsL_law (wsV RL 55 RX9 yX9_flip wsX9_flip) := goodIn_app (goodIn_of _ (by decide +kernel)) ggL_law_X9_flip
set_option maxRecDepth 20000 in
theorem ggL_law_X8_shift : GoodIn wsL_law wsX8_shift := goodIn_r _ [633, 34, 429, 105, 24, 19, 431, 436, 437, 438, 33, 439, 141, 559, 560, 561, 23, 562, 563, 234, 564, 329, 330, 331, 565, 566, 567, 568, 60, 569, 521, 522, 18, 523, 47, 223, 224, 225, 226, 48, 49, 50, 51, 52, 54, 228, 1050, 1051, 1052, 1053, 1054, 1055, 1056, 1057, 1058, 1092, 1093, 1094, 1095, 1096, 1097, 1098, 1099, 1100, 1111, 1112, 1113, 1114, 1115, 1116, 1117, 1118, 1119, 1101, 1102, 1103] (by decide +kernel) (by decide +kernel)
set_option maxRecDepth 20000 in
theorem gL_law_X8_shift : GoodIn wsL_law (wsV RL 56 RX8 yX8_shift wsX8_shift) := goodIn_app (goodIn_of _ (by decide +kernel)) ggL_law_X8_shift
set_option maxRecDepth 20000 in
theorem ggL_law_X9_shift : GoodIn wsL_law wsX9_shift := goodIn_r _ [637, 448, 638, 118, 86, 449, 450, 451, 5, 452, 255, 121, 122, 123, 618, 619, 620, 621, 304, 588, 589, 590, 591, 1059, 1060, 1061, 1062, 1063, 1064, 1065, 1066, 1067, 1068, 1069, 1070, 1071, 1072, 1073, 1074, 1075, 1076, 1077, 1078, 1079, 1080, 1081, 1082, 1083, 1084, 1085] (by decide +kernel) (by decide +kernel)
set_option maxRecDepth 20000 in
theorem gL_law_X9_shift : GoodIn wsL_law (wsV RL 59 RX9 yX9_shift wsX9_shift) := goodIn_app (goodIn_of _ (by decide +kernel)) ggL_law_X9_shift
set_option maxRecDepth 20000 in
theorem ggL_law_X8_buy : GoodIn wsL_law wsX8_buy := goodIn_r _ [642, 34, 429, 105, 24, 19, 481, 643, 329, 330, 331, 482, 483, 484, 33, 485, 140, 559, 560, 561, 23, 562, 563, 234, 564, 565, 566, 567, 568, 60, 569, 521, 522, 18, 523, 47, 223, 224, 225, 226, 48, 49, 50, 51, 52, 54, 228, 1050, 1051, 1052, 1053, 1054, 1055, 1056, 1057, 1058, 1092, 1093, 1094, 1095, 1096, 1097, 1098, 1099, 1100, 1111, 1112, 1113, 1114, 1115, 1116, 1117, 1118, 1119, 1101, 1102, 1103] (by decide +kernel) (by decide +kernel)
set_option maxRecDepth 20000 in
theorem gL_law_X8_buy : GoodIn wsL_law (wsV RL 60 RX8 yX8_buy wsX8_buy) := goodIn_app (goodIn_of _ (by decide +kernel)) ggL_law_X8_buy
set_option maxRecDepth 20000 in
theorem ggL_law_X9_buy : GoodIn wsL_law wsX9_buy := goodIn_r _ [647, 448, 648, 118, 86, 490, 491, 492, 5, 493, 300, 121, 122, 123, 618, 619, 620, 621, 304, 588, 589, 590, 591, 649, 650, 651, 1059, 1060, 1061, 1062, 1063, 1064, 1065, 1066, 1067, 1068, 1069, 1070, 1071, 1072, 1073, 1074, 1075, 1076, 1077, 1078, 1079, 1080, 1081, 1082, 1083, 1084, 1085] (by decide +kernel) (by decide +kernel)
set_option maxRecDepth 20000 in
theorem gL_law_X9_buy : GoodIn wsL_law (wsV RL 63 RX9 yX9_buy wsX9_buy) := goodIn_app (goodIn_of _ (by decide +kernel)) ggL_law_X9_buy
set_option maxRecDepth 20000 in
theorem ggL_law_X8_drift : GoodIn wsL_law wsX8_drift := goodIn_r _ [655, 105, 34, 507, 19, 320, 106, 24, 512, 513, 514, 33, 515, 140, 559, 560, 561, 23, 562, 563, 234, 564, 329, 330, 331, 565, 566, 567, 568, 60, 569, 521, 522, 18, 523, 47, 223, 224, 225, 226, 48, 49, 50, 51, 52, 54, 228, 656, 657, 658, 2, 659, 319, 660, 661, 662, 663, 664, 665, 666, 667, 668, 669, 524, 525, 526, 527, 528, 529, 530, 531, 532, 533, 534, 535, 536, 74, 537, 538, 539, 540, 541, 53, 542, 543, 544, 545, 229, 145, 146, 147, 546, 547, 548, 549, 550, 441, 442, 443, 72, 193, 194, 195, 551, 552, 553, 554, 555, 556, 557, 558, 345, 346, 347, 348, 349, 350, 351, 1050, 1051, 1052, 1053, 1054, 1055, 1056, 1057, 1058, 1092, 1093, 1094, 1095, 1096, 1097, 1098, 1099, 1100, 1111, 1112, 1113, 1114, 1115, 1116, 1117, 1118, 1119, 1101, 1102, 1103] (by decide +kernel) (by decide +kernel)
set_option maxRecDepth 20000 in
theorem gL_law_X8_drift : GoodIn wsL_law (wsV RL 64 RX8 yX8_drift wsX8_drift) := goodIn_app (goodIn_of _ (by decide +kernel)) ggL_law_X8_drift
set_option maxRecDepth 20000 in
theorem ggL_law_X9_drift : GoodIn wsL_law wsX9_drift := goodIn_r _ [673, 574, 118, 575, 86, 120, 121, 122, 5, 123, 580, 581, 582, 583, 300, 618, 619, 620, 621, 304, 588, 589, 590, 591, 674, 675, 676, 677, 301, 678, 679, 680, 681, 682, 683, 684, 685, 584, 585, 586, 587, 592, 593, 594, 595, 255, 457, 458, 459, 460, 91, 461, 462, 463, 596, 597, 598, 599, 600, 601, 602, 453, 454, 455, 456, 89, 603, 604, 605, 606, 607, 608, 609, 610, 611, 612, 613, 614, 615, 616, 617, 1059, 1060, 1061, 1062, 1063, 1064, 1065, 1066, 1067, 1068, 1069, 1070, 1071, 1072, 1073, 1074, 1075, 1076, 1077, 1078, 1079, 1080, 1081, 1082, 1083, 1084, 1085] (by decide +kernel) (by decide +kernel)
set_option maxRecDepth 20000 in
theorem gL_law_X9_drift : GoodIn wsL_law (wsV RL 67 RX9 yX9_drift wsX9_drift) := goodIn_app (goodIn_of _ (by decide +kernel)) ggL_law_X9_drift
set_option maxRecDepth 20000 in
theorem ggL_law_X8_undo : GoodIn wsL_law wsX8_undo := goodIn_r _ [689, 105, 24, 19, 320, 507, 690, 691, 692, 23, 693, 563, 234, 694, 349, 350, 351, 565, 566, 567, 568, 60, 569, 521, 522, 18, 523, 47, 223, 224, 225, 226, 48, 49, 50, 51, 52, 54, 228, 1050, 1051, 1052, 1053, 1054, 1055, 1056, 1057, 1058, 1092, 1093, 1094, 1095, 1096, 1097, 1098, 1099, 1100, 1101, 1102, 1103] (by decide +kernel) (by decide +kernel)
set_option maxRecDepth 20000 in
theorem gL_law_X8_undo : GoodIn wsL_law (wsV RL 68 RX8 yX8_undo wsX8_undo) := goodIn_app (goodIn_of _ (by decide +kernel)) ggL_law_X8_undo
set_option maxRecDepth 20000 in
theorem ggL_law_X9_undo : GoodIn wsL_law wsX9_undo := goodIn_r _ [698, 574, 118, 304, 575, 86, 121, 122, 5, 123, 588, 589, 590, 591, 1059, 1060, 1061, 1062, 1063, 1064, 1065, 1066, 1067, 1068, 1069, 1070, 1071, 1072, 1073, 1074, 1075, 1076, 1077, 1078, 1079, 1080, 1081, 1082, 1083, 1084, 1085] (by decide +kernel) (by decide +kernel)
set_option maxRecDepth 20000 in
theorem gL_law_X9_undo : GoodIn wsL_law (wsV RL 71 RX9 yX9_undo wsX9_undo) := goodIn_app (goodIn_of _ (by decide +kernel)) ggL_law_X9_undo
set_option maxRecDepth 20000 in
theorem ggL_law_X8_ahead : GoodIn wsL_law wsX8_ahead := goodIn_r _ [702, 34, 429, 105, 19, 431, 436, 437, 438, 33, 439, 141, 440, 441, 442, 443, 72, 193, 194, 195, 1050, 1051, 1052, 1053, 1054, 1055, 1056, 1057, 1058, 1092, 1093, 1094, 1095, 1096, 1097, 1098, 1099, 1100, 1111, 1112, 1113, 1114, 1115, 1116, 1117, 1118, 1119] (by decide +kernel) (by decide +kernel)
set_option maxRecDepth 20000 in
theorem gL_law_X8_ahead : GoodIn wsL_law (wsV RL 72 RX8 yX8_ahead wsX8_ahead) := goodIn_app (goodIn_of _ (by decide +kernel)) ggL_law_X8_ahead
set_option maxRecDepth 20000 in
theorem ggL_law_X9_ahead : GoodIn wsL_law wsX9_ahead := goodIn_r _ [706, 448, 707, 118, 86, 449, 450, 451, 5, 452, 255, 121, 122, 123, 453, 454, 455, 456, 89, 1059, 1060, 1061, 1062, 1063, 1064, 1065, 1066, 1067, 1068, 1069, 1070, 1071, 1072, 1073, 1074, 1075, 1076, 1077, 1078, 1079, 1080, 1081, 1082, 1083, 1084, 1085] (by decide +kernel) (by decide +kernel)
set_option maxRecDepth 20000 in
theorem gL_law_X9_ahead : GoodIn wsL_law (wsV RL 76 RX9 yX9_ahead wsX9_ahead) := goodIn_app (goodIn_of _ (by decide +kernel)) ggL_law_X9_ahead
set_option maxRecDepth 20000 in
theorem ggL_law_X8_lasts : GoodIn wsL_law wsX8_lasts := goodIn_r _ [711, 34, 105, 507, 20, 508, 509, 510, 33, 511, 142, 712, 713, 2, 714, 512, 513, 514, 515, 140, 516, 517, 518, 519, 19, 520, 521, 522, 18, 523, 47, 223, 224, 225, 226, 48, 49, 50, 51, 52, 54, 228, 524, 525, 526, 527, 528, 529, 530, 531, 532, 533, 534, 535, 536, 74, 537, 538, 539, 540, 541, 53, 542, 543, 544, 545, 229, 145, 146, 147, 546, 547, 548, 549, 550, 441, 442, 443, 72, 193, 194, 195, 551, 552, 553, 554, 555, 556, 557, 558, 345, 346, 347, 348, 349, 350, 351, 715, 1050, 1051, 1052, 1053, 1054, 1055, 1056, 1057, 1058, 1111, 1112, 1113, 1114, 1115, 1116, 1117, 1118, 1119, 1092, 1093, 1094, 1095, 1096, 1097, 1098, 1099, 1100] (by decide +kernel) (by decide +kernel)
set_option maxRecDepth 20000 in
theorem gL_law_X8_lasts : GoodIn wsL_law (wsV RL 77 RX8 yX8_lasts wsX8_lasts) := goodIn_app (goodIn_of _ (by decide +kernel)) ggL_law_X8_lasts
set_option maxRecDepth 20000 in
theorem ggL_law_X9_lasts : GoodIn wsL_law wsX9_lasts := goodIn_r _ [719, 118, 575, 576, 577, 578, 5, 579, 301, 121, 122, 123, 580, 581, 582, 583, 300, 588, 589, 590, 591, 86, 592, 593, 594, 595, 255, 457, 458, 459, 460, 91, 461, 462, 463, 596, 597, 598, 599, 600, 601, 602, 453, 454, 455, 456, 89, 603, 604, 605, 606, 607, 608, 609, 610, 611, 612, 613, 614, 615, 616, 617, 1059, 1060, 1061, 1062, 1063, 1064, 1065, 1066, 1067, 1068, 1069, 1070, 1071, 1072, 1073, 1074, 1075, 1076, 1077, 1078, 1079, 1080, 1081, 1082, 1083, 1084, 1085] (by decide +kernel) (by decide +kernel)
set_option maxRecDepth 20000 in
theorem gL_law_X9_lasts : GoodIn wsL_law (wsV RL 80 RX9 yX9_lasts wsX9_lasts) := goodIn_app (goodIn_of _ (by decide +kernel)) ggL_law_X9_lasts
set_option maxRecDepth 20000 in
theorem ggL_law_X8_untwist : GoodIn wsL_law wsX8_untwist := goodIn_r _ [723, 105, 34, 507, 19, 712, 713, 2, 714, 512, 513, 514, 33, 515, 140, 724, 725, 726, 727, 728, 729, 730, 330, 731, 732, 365, 366, 733, 734, 735, 736, 737, 738, 739, 740, 741, 742, 743, 744, 74, 745, 746, 747, 1050, 1051, 1052, 1053, 1054, 1055, 1056, 1057, 1058, 1111, 1112, 1113, 1114, 1115, 1116, 1117, 1118, 1119, 1092, 1093, 1094, 1095, 1096, 1097, 1098, 1099, 1100] (by decide +kernel) (by decide +kernel)
set_option maxRecDepth 20000 in
theorem gL_law_X8_untwist : GoodIn wsL_law (wsV RL 81 RX8 yX8_untwist wsX8_untwist) := goodIn_app (goodIn_of _ (by decide +kernel)) ggL_law_X8_untwist
set_option maxRecDepth 20000 in
theorem ggL_law_X9_untwist : GoodIn wsL_law wsX9_untwist := goodIn_r _ [751, 118, 575, 301, 86, 121, 122, 5, 123, 580, 581, 582, 583, 300, 752, 753, 754, 755, 91, 461, 462, 463, 615, 616, 617, 410, 411, 412, 1059, 1060, 1061, 1062, 1063, 1064, 1065, 1066, 1067, 1068, 1069, 1070, 1071, 1072, 1073, 1074, 1075, 1076, 1077, 1078, 1079, 1080, 1081, 1082, 1083, 1084, 1085] (by decide +kernel) (by decide +kernel)
set_option maxRecDepth 20000 in
theorem gL_law_X9_untwist : GoodIn wsL_law (wsV RL 84 RX9 yX9_untwist wsX9_untwist) := goodIn_app (goodIn_of _ (by decide +kernel)) ggL_law_X9_untwist
set_option maxRecDepth 20000 in
theorem ggL_law_X8_home : GoodIn wsL_law wsX8_home := goodIn_r _ [759, 105, 34, 507, 19, 712, 713, 2, 714, 512, 513, 514, 33, 515, 140, 760, 761, 726, 762, 740, 763, 764, 765, 766, 767, 737, 738, 739, 741, 742, 743, 744, 74, 768, 769, 770, 728, 771, 329, 330, 331, 732, 365, 366, 772, 773, 774, 1050, 1051, 1052, 1053, 1054, 1055, 1056, 1057, 1058, 1111, 1112, 1113, 1114, 1115, 1116, 1117, 1118, 1119, 1092, 1093, 1094, 1095, 1096, 1097, 1098, 1099, 1100] (by decide +kernel) (by decide +kernel)
set_option maxRecDepth 20000 in
theorem gL_law_X8_home : GoodIn wsL_law (wsV RL 85 RX8 yX8_home wsX8_home) := goodIn_app (goodIn_of _ (by decide +kernel)) ggL_law_X8_home
set_option maxRecDepth 20000 in
theorem ggL_law_X9_home : GoodIn wsL_law wsX9_home := goodIn_r _ [778, 118, 575, 301, 86, 121, 122, 5, 123, 580, 581, 582, 583, 300, 779, 780, 781, 782, 255, 91, 461, 462, 463, 752, 753, 754, 755, 410, 411, 412, 1059, 1060, 1061, 1062, 1063, 1064, 1065, 1066, 1067, 1068, 1069, 1070, 1071, 1072, 1073, 1074, 1075, 1076, 1077, 1078, 1079, 1080, 1081, 1082, 1083, 1084, 1085] (by decide +kernel) (by decide +kernel)
set_option maxRecDepth 20000 in
theorem gL_law_X9_home : GoodIn wsL_law (wsV RL 88 RX9 yX9_home wsX9_home) := goodIn_app (goodIn_of _ (by decide +kernel)) ggL_law_X9_home
set_option maxRecDepth 20000 in
theorem ggL_law_X8_together : GoodIn wsL_law wsX8_together := goodIn_r _ [786, 34, 429, 105, 507, 19, 787, 788, 789, 33, 790, 141, 482, 483, 484, 485, 140, 712, 713, 2, 714, 512, 513, 514, 515, 791, 792, 726, 793, 794, 728, 795, 732, 365, 330, 366, 796, 797, 798, 740, 799, 800, 801, 802, 803, 804, 805, 764, 806, 441, 442, 443, 72, 193, 194, 195, 807, 808, 809, 771, 329, 331, 1050, 1051, 1052, 1053, 1054, 1055, 1056, 1057, 1058, 1111, 1112, 1113, 1114, 1115, 1116, 1117, 1118, 1119, 1092, 1093, 1094, 1095, 1096, 1097, 1098, 1099, 1100] (by decide +kernel) (by decide +kernel)
set_option maxRecDepth 20000 in
theorem gL_law_X8_together : GoodIn wsL_law (wsV RL 89 RX8 yX8_together wsX8_together) := goodIn_app (goodIn_of _ (by decide +kernel)) ggL_law_X8_together
set_option maxRecDepth 20000 in
theorem ggL_law_X9_together : GoodIn wsL_law wsX9_together := goodIn_r _ [813, 255, 448, 118, 575, 301, 91, 95, 121, 122, 5, 123, 490, 491, 492, 493, 300, 580, 581, 582, 583, 814, 815, 816, 817, 818, 819, 820, 821, 86, 453, 454, 455, 456, 89, 461, 462, 463, 822, 823, 824, 825, 649, 650, 651, 410, 411, 412, 826, 827, 828, 829, 1059, 1060, 1061, 1062, 1063, 1064, 1065, 1066, 1067, 1068, 1069, 1070, 1071, 1072, 1073, 1074, 1075, 1076, 1077, 1078, 1079, 1080, 1081, 1082, 1083, 1084, 1085] (by decide +kernel) (by decide +kernel)
set_option maxRecDepth 20000 in
theorem gL_law_X9_together : GoodIn wsL_law (wsV RL 92 RX9 yX9_together wsX9_together) := goodIn_app (goodIn_of _ (by decide +kernel)) ggL_law_X9_together
set_option maxRecDepth 20000 in
theorem ggL_law_X8_repeat : GoodIn wsL_law wsX8_repeat := goodIn_r _ [833, 34, 507, 512, 513, 514, 33, 515, 140, 834, 835, 836, 837, 141, 838, 441, 442, 443, 72, 193, 194, 195, 1050, 1051, 1052, 1053, 1054, 1055, 1056, 1057, 1058, 1111, 1112, 1113, 1114, 1115, 1116, 1117, 1118, 1119] (by decide +kernel) (by decide +kernel)
set_option maxRecDepth 20000 in
theorem gL_law_X8_repeat : GoodIn wsL_law (wsV RL 93 RX8 yX8_repeat wsX8_repeat) := goodIn_app (goodIn_of _ (by decide +kernel)) ggL_law_X8_repeat
set_option maxRecDepth 20000 in
theorem ggL_law_X9_repeat : GoodIn wsL_law wsX9_repeat := goodIn_r _ [842, 575, 255, 580, 581, 582, 5, 583, 300, 453, 454, 455, 456, 89, 1059, 1060, 1061, 1062, 1063, 1064, 1065, 1066, 1067, 1068, 1069, 1070, 1071, 1072, 1073, 1074, 1075, 1076, 1077, 1078, 1079, 1080, 1081, 1082, 1083, 1084, 1085] (by decide +kernel) (by decide +kernel)
set_option maxRecDepth 20000 in
theorem gL_law_X9_repeat : GoodIn wsL_law (wsV RL 96 RX9 yX9_repeat wsX9_repeat) := goodIn_app (goodIn_of _ (by decide +kernel)) ggL_law_X9_repeat
set_option maxRecDepth 20000 in
theorem ggL_law_X8_floats : GoodIn wsL_law wsX8_floats := goodIn_r _ [846, 34, 19, 429, 436, 437, 438, 33, 439, 141, 847, 362, 334, 363, 364, 365, 330, 366, 336, 325, 326, 18, 327, 228, 328, 329, 331, 340, 341, 342, 343, 54, 344, 345, 346, 347, 348, 349, 350, 351, 1050, 1051, 1052, 1053, 1054, 1055, 1056, 1057, 1058, 1111, 1112, 1113, 1114, 1115, 1116, 1117, 1118, 1119, 1092, 1093, 1094, 1095, 1096, 1097, 1098, 1099, 1100] (by decide +kernel) (by decide +kernel)
set_option maxRecDepth 20000 in
theorem gL_law_X8_floats : GoodIn wsL_law (wsV RL 97 RX8 yX8_floats wsX8_floats) := goodIn_app (goodIn_of _ (by decide +kernel)) ggL_law_X8_floats
set_option maxRecDepth 20000 in
theorem ggL_law_X9_floats : GoodIn wsL_law wsX9_floats := goodIn_r _ [851, 448, 449, 450, 451, 5, 452, 255, 121, 122, 123, 406, 407, 408, 409, 86, 387, 388, 389, 390, 410, 411, 412, 1059, 1060, 1061, 1062, 1063, 1064, 1065, 1066, 1067, 1068, 1069, 1070, 1071, 1072, 1073, 1074, 1075, 1076, 1077, 1078, 1079, 1080, 1081, 1082, 1083, 1084, 1085] (by decide +kernel) (by decide +kernel)
set_option maxRecDepth 20000 in
theorem gL_law_X9_floats : GoodIn wsL_law (wsV RL 100 RX9 yX9_floats wsX9_floats) := goodIn_app (goodIn_of _ (by decide +kernel)) ggL_law_X9_floats
set_option maxRecDepth 20000 in
theorem ggL_law_X8_alike : GoodIn wsL_law wsX8_alike := goodIn_r _ [855, 19, 34, 129, 856, 857, 334, 858, 859, 860, 861, 336, 325, 326, 18, 327, 228, 328, 329, 330, 331, 340, 341, 342, 343, 54, 344, 345, 346, 347, 348, 349, 350, 351, 1050, 1051, 1052, 1053, 1054, 1055, 1056, 1057, 1058, 1111, 1112, 1113, 1114, 1115, 1116, 1117, 1118, 1119, 1092, 1093, 1094, 1095, 1096, 1097, 1098, 1099, 1100] (by decide +kernel) (by decide +kernel)
set_option maxRecDepth 20000 in
theorem gL_law_X8_alike : GoodIn wsL_law (wsV RL 101 RX8 yX8_alike wsX8_alike) := goodIn_app (goodIn_of _ (by decide +kernel)) ggL_law_X8_alike
set_option maxRecDepth 20000 in
theorem ggL_law_X9_alike : GoodIn wsL_law wsX9_alike := goodIn_r _ [865, 255, 866, 867, 868, 5, 869, 86, 387, 388, 389, 390, 1059, 1060, 1061, 1062, 1063, 1064, 1065, 1066, 1067, 1068, 1069, 1070, 1071, 1072, 1073, 1074, 1075, 1076, 1077, 1078, 1079, 1080, 1081, 1082, 1083, 1084, 1085] (by decide +kernel) (by decide +kernel)
set_option maxRecDepth 20000 in
theorem gL_law_X9_alike : GoodIn wsL_law (wsV RL 104 RX9 yX9_alike wsX9_alike) := goodIn_app (goodIn_of _ (by decide +kernel)) ggL_law_X9_alike
set_option maxRecDepth 20000 in
theorem ggL_law_X8_shown : GoodIn wsL_law wsX8_shown := goodIn_r _ [873, 34, 19, 129, 429, 482, 483, 484, 33, 485, 140, 874, 373, 334, 374, 336, 325, 326, 18, 327, 228, 328, 329, 330, 331, 340, 341, 342, 343, 54, 344, 345, 346, 347, 348, 349, 350, 351, 1050, 1051, 1052, 1053, 1054, 1055, 1056, 1057, 1058, 1111, 1112, 1113, 1114, 1115, 1116, 1117, 1118, 1119, 1092, 1093, 1094, 1095, 1096, 1097, 1098, 1099, 1100] (by decide +kernel) (by decide +kernel)
set_option maxRecDepth 20000 in
theorem gL_law_X8_shown : GoodIn wsL_law (wsV RL 105 RX8 yX8_shown wsX8_shown) := goodIn_app (goodIn_of _ (by decide +kernel)) ggL_law_X8_shown
set_option maxRecDepth 20000 in
theorem ggL_law_X9_shown : GoodIn wsL_law wsX9_shown := goodIn_r _ [878, 448, 490, 491, 492, 5, 493, 300, 121, 122, 123, 417, 418, 419, 420, 86, 255, 387, 388, 389, 390, 391, 392, 393, 1059, 1060, 1061, 1062, 1063, 1064, 1065, 1066, 1067, 1068, 1069, 1070, 1071, 1072, 1073, 1074, 1075, 1076, 1077, 1078, 1079, 1080, 1081, 1082, 1083, 1084, 1085] (by decide +kernel) (by decide +kernel)
set_option maxRecDepth 20000 in
theorem gL_law_X9_shown : GoodIn wsL_law (wsV RL 108 RX9 yX9_shown wsX9_shown) := goodIn_app (goodIn_of _ (by decide +kernel)) ggL_law_X9_shown
set_option maxRecDepth 20000 in
theorem ggL_law_X8_turned : GoodIn wsL_law wsX8_turned := goodIn_r _ [882, 34, 429, 105, 19, 507, 436, 437, 438, 33, 439, 141, 324, 325, 326, 18, 327, 228, 328, 329, 330, 331, 498, 341, 342, 343, 54, 344, 345, 346, 347, 348, 349, 350, 351, 883, 884, 334, 885, 886, 441, 442, 443, 72, 193, 194, 195, 1050, 1051, 1052, 1053, 1054, 1055, 1056, 1057, 1058, 1111, 1112, 1113, 1114, 1115, 1116, 1117, 1118, 1119, 1092, 1093, 1094, 1095, 1096, 1097, 1098, 1099, 1100] (by decide +kernel) (by decide +kernel)
set_option maxRecDepth 20000 in
theorem gL_law_X8_turned : GoodIn wsL_law (wsV RL 109 RX8 yX8_turned wsX8_turned) := goodIn_app (goodIn_of _ (by decide +kernel)) ggL_law_X8_turned
set_option maxRecDepth 20000 in
theorem ggL_law_X9_turned : GoodIn wsL_law wsX9_turned := goodIn_r _ [890, 448, 891, 118, 86, 575, 449, 450, 451, 5, 452, 255, 121, 122, 123, 387, 388, 389, 390, 391, 392, 393, 453, 454, 455, 456, 89, 1059, 1060, 1061, 1062, 1063, 1064, 1065, 1066, 1067, 1068, 1069, 1070, 1071, 1072, 1073, 1074, 1075, 1076, 1077, 1078, 1079, 1080, 1081, 1082, 1083, 1084, 1085] (by decide +kernel) (by decide +kernel)
set_option maxRecDepth 20000 in
theorem gL_law_X9_turned : GoodIn wsL_law (wsV RL 112 RX9 yX9_turned wsX9_turned) := goodIn_app (goodIn_of _ (by decide +kernel)) ggL_law_X9_turned
set_option maxRecDepth 20000 in
theorem ggL_law_X8_share : GoodIn wsL_law wsX8_share := goodIn_r _ [895, 34, 429, 105, 482, 483, 484, 33, 485, 140, 896, 897, 898, 899, 900, 901, 902, 903, 141, 72, 904, 1050, 1051, 1052, 1053, 1054, 1055, 1056, 1057, 1058, 1111, 1112, 1113, 1114, 1115, 1116, 1117, 1118, 1119] (by decide +kernel) (by decide +kernel)
set_option maxRecDepth 20000 in
theorem gL_law_X8_share : GoodIn wsL_law (wsV RL 113 RX8 yX8_share wsX8_share) := goodIn_app (goodIn_of _ (by decide +kernel)) ggL_law_X8_share
set_option maxRecDepth 20000 in
theorem ggL_law_X9_share : GoodIn wsL_law wsX9_share := goodIn_r _ [908, 448, 648, 118, 300, 490, 491, 492, 5, 493, 121, 122, 123, 909, 910, 911, 912, 255, 453, 454, 455, 456, 89, 391, 392, 393, 1059, 1060, 1061, 1062, 1063, 1064, 1065, 1066, 1067, 1068, 1069, 1070, 1071, 1072, 1073, 1074, 1075, 1076, 1077, 1078, 1079, 1080, 1081, 1082, 1083, 1084, 1085] (by decide +kernel) (by decide +kernel)
set_option maxRecDepth 20000 in
theorem gL_law_X9_share : GoodIn wsL_law (wsV RL 116 RX9 yX9_share wsX9_share) := goodIn_app (goodIn_of _ (by decide +kernel)) ggL_law_X9_share
set_option maxRecDepth 20000 in
theorem ggL_law_X8_plain : GoodIn wsL_law wsX8_plain := goodIn_r _ [916, 105, 917, 918] (by decide +kernel) (by decide +kernel)
set_option maxRecDepth 20000 in
theorem gL_law_X8_plain : GoodIn wsL_law (wsV RL 117 RX8 yX8_plain wsX8_plain) := goodIn_app (goodIn_of _ (by decide +kernel)) ggL_law_X8_plain
set_option maxRecDepth 20000 in
theorem ggL_law_X9_plain : GoodIn wsL_law wsX9_plain := goodIn_r _ [922, 923, 924, 118, 925, 121, 122, 5, 123] (by decide +kernel) (by decide +kernel)
set_option maxRecDepth 20000 in
theorem gL_law_X9_plain : GoodIn wsL_law (wsV RL 120 RX9 yX9_plain wsX9_plain) := goodIn_app (goodIn_of _ (by decide +kernel)) ggL_law_X9_plain
set_option maxRecDepth 20000 in
theorem ggL_law_X8_see : GoodIn wsL_law wsX8_see := goodIn_r _ [929, 34, 429, 105, 28, 321, 106, 436, 437, 438, 33, 439, 141, 482, 483, 484, 485, 140, 930, 931, 932, 27, 933, 239, 64, 65, 66, 1050, 1051, 1052, 1053, 1054, 1055, 1056, 1057, 1058, 1104, 1105, 1106, 1107, 1108, 1109, 1110, 1111, 1112, 1113, 1114, 1115, 1116, 1117, 1118, 1119] (by decide +kernel) (by decide +kernel)
set_option maxRecDepth 20000 in
theorem gL_law_X8_see : GoodIn wsL_law (wsV RL 121 RX8 yX8_see wsX8_see) := goodIn_app (goodIn_of _ (by decide +kernel)) ggL_law_X8_see
set_option maxRecDepth 20000 in
theorem ggL_law_X9_see : GoodIn wsL_law wsX9_see := goodIn_r _ [937, 448, 707, 118, 302, 120, 96, 97, 98, 449, 450, 451, 5, 452, 255, 121, 122, 123, 490, 491, 492, 493, 300, 1059, 1060, 1061, 1062, 1063, 1064, 1065, 1066, 1067, 1068, 1069, 1070, 1071, 1072, 1073, 1074, 1075, 1076, 1077, 1078, 1079, 1080, 1081, 1082, 1083, 1084, 1085] (by decide +kernel) (by decide +kernel)
set_option maxRecDepth 20000 in
theorem gL_law_X9_see : GoodIn wsL_law (wsV RL 124 RX9 yX9_see wsX9_see) := goodIn_app (goodIn_of _ (by decide +kernel)) ggL_law_X9_see
set_option maxRecDepth 20000 in
theorem ggL_law_X8_holes : GoodIn wsL_law wsX8_holes := goodIn_r _ [941, 34, 28, 429, 436, 437, 438, 33, 439, 141, 942, 943, 944, 27, 945, 239, 64, 65, 66, 946, 947, 948, 949, 441, 442, 443, 72, 193, 194, 195, 1050, 1051, 1052, 1053, 1054, 1055, 1056, 1057, 1058, 1111, 1112, 1113, 1114, 1115, 1116, 1117, 1118, 1119, 1104, 1105, 1106, 1107, 1108, 1109, 1110] (by decide +kernel) (by decide +kernel)
set_option maxRecDepth 20000 in
theorem gL_law_X8_holes : GoodIn wsL_law (wsV RL 125 RX8 yX8_holes wsX8_holes) := goodIn_app (goodIn_of _ (by decide +kernel)) ggL_law_X8_holes
set_option maxRecDepth 20000 in
theorem ggL_law_X9_holes : GoodIn wsL_law wsX9_holes := goodIn_r _ [953, 448, 449, 450, 451, 5, 452, 255, 121, 122, 123, 954, 955, 956, 957, 302, 96, 97, 98, 453, 454, 455, 456, 89, 391, 392, 393, 1059, 1060, 1061, 1062, 1063, 1064, 1065, 1066, 1067, 1068, 1069, 1070, 1071, 1072, 1073, 1074, 1075, 1076, 1077, 1078, 1079, 1080, 1081, 1082, 1083, 1084, 1085] (by decide +kernel) (by decide +kernel)
set_option maxRecDepth 20000 in
theorem gL_law_X9_holes : GoodIn wsL_law (wsV RL 128 RX9 yX9_holes wsX9_holes) := goodIn_app (goodIn_of _ (by decide +kernel)) ggL_law_X9_holes
set_option maxRecDepth 20000 in
theorem ggL_law_X8_lookAt : GoodIn wsL_law wsX8_lookAt := goodIn_r _ [961, 34, 28, 429, 436, 437, 438, 33, 439, 141, 962, 963, 964, 27, 965, 966, 943, 944, 945, 239, 64, 65, 66, 946, 947, 948, 949, 441, 442, 443, 72, 193, 194, 195, 967, 968, 969, 970, 971, 972, 973, 974, 975, 976, 977, 978, 365, 330, 366, 1050, 1051, 1052, 1053, 1054, 1055, 1056, 1057, 1058, 1111, 1112, 1113, 1114, 1115, 1116, 1117, 1118, 1119, 1104, 1105, 1106, 1107, 1108, 1109, 1110] (by decide +kernel) (by decide +kernel)
set_option maxRecDepth 20000 in
theorem gL_law_X8_lookAt : GoodIn wsL_law (wsV RL 129 RX8 yX8_lookAt wsX8_lookAt) := goodIn_app (goodIn_of _ (by decide +kernel)) ggL_law_X8_lookAt
set_option maxRecDepth 20000 in
theorem ggL_law_X9_lookAt : GoodIn wsL_law wsX9_lookAt := goodIn_r _ [982, 448, 449, 450, 451, 5, 452, 255, 121, 122, 123, 954, 955, 956, 957, 302, 96, 97, 98, 453, 454, 455, 456, 89, 391, 392, 393, 983, 984, 985, 986, 300, 461, 462, 463, 410, 411, 412, 649, 650, 651, 1059, 1060, 1061, 1062, 1063, 1064, 1065, 1066, 1067, 1068, 1069, 1070, 1071, 1072, 1073, 1074, 1075, 1076, 1077, 1078, 1079, 1080, 1081, 1082, 1083, 1084, 1085] (by decide +kernel) (by decide +kernel)
set_option maxRecDepth 20000 in
theorem gL_law_X9_lookAt : GoodIn wsL_law (wsV RL 132 RX9 yX9_lookAt wsX9_lookAt) := goodIn_app (goodIn_of _ (by decide +kernel)) ggL_law_X9_lookAt
set_option maxRecDepth 20000 in
theorem ggL_law_X8_write : GoodIn wsL_law wsX8_write := goodIn_r _ [990, 34, 429, 28, 322, 106, 436, 437, 438, 33, 439, 141, 482, 483, 484, 485, 140, 991, 992, 993, 27, 994, 240, 67, 68, 1050, 1051, 1052, 1053, 1054, 1055, 1056, 1057, 1058, 1104, 1105, 1106, 1107, 1108, 1109, 1110, 1111, 1112, 1113, 1114, 1115, 1116, 1117, 1118, 1119] (by decide +kernel) (by decide +kernel)
set_option maxRecDepth 20000 in
theorem gL_law_X8_write : GoodIn wsL_law (wsV RL 133 RX8 yX8_write wsX8_write) := goodIn_app (goodIn_of _ (by decide +kernel)) ggL_law_X8_write
set_option maxRecDepth 20000 in
theorem ggL_law_X9_write : GoodIn wsL_law wsX9_write := goodIn_r _ [998, 448, 303, 120, 99, 100, 449, 450, 451, 5, 452, 255, 121, 122, 123, 490, 491, 492, 493, 300, 1059, 1060, 1061, 1062, 1063, 1064, 1065, 1066, 1067, 1068, 1069, 1070, 1071, 1072, 1073, 1074, 1075, 1076, 1077, 1078, 1079, 1080, 1081, 1082, 1083, 1084, 1085] (by decide +kernel) (by decide +kernel)
set_option maxRecDepth 20000 in
theorem gL_law_X9_write : GoodIn wsL_law (wsV RL 136 RX9 yX9_write wsX9_write) := goodIn_app (goodIn_of _ (by decide +kernel)) ggL_law_X9_write
set_option maxRecDepth 20000 in
theorem ggL_law_X8_judge : GoodIn wsL_law wsX8_judge := goodIn_r _ [1002, 28, 19, 1003, 1004, 1005, 27, 1006, 240, 1007, 67, 68, 1050, 1051, 1052, 1053, 1054, 1055, 1056, 1057, 1058, 1104, 1105, 1106, 1107, 1108, 1109, 1110, 1092, 1093, 1094, 1095, 1096, 1097, 1098, 1099, 1100] (by decide +kernel) (by decide +kernel)
set_option maxRecDepth 20000 in
theorem gL_law_X8_judge : GoodIn wsL_law (wsV RL 137 RX8 yX8_judge wsX8_judge) := goodIn_app (goodIn_of _ (by decide +kernel)) ggL_law_X8_judge
set_option maxRecDepth 20000 in
theorem ggL_law_X9_judge : GoodIn wsL_law wsX9_judge := goodIn_r _ [1011, 303, 86, 99, 100, 1059, 1060, 1061, 1062, 1063, 1064, 1065, 1066, 1067, 1068, 1069, 1070, 1071, 1072, 1073, 1074, 1075, 1076, 1077, 1078, 1079, 1080, 1081, 1082, 1083, 1084, 1085] (by decide +kernel) (by decide +kernel)
set_option maxRecDepth 20000 in
theorem gL_law_X9_judge : GoodIn wsL_law (wsV RL 140 RX9 yX9_judge wsX9_judge) := goodIn_app (goodIn_of _ (by decide +kernel)) ggL_law_X9_judge
set_option maxRecDepth 20000 in
theorem ggL_law_X8_tear : GoodIn wsL_law wsX8_tear := goodIn_r _ [1015, 28, 321, 322, 235, 236, 237, 27, 238, 239, 240, 1050, 1051, 1052, 1053, 1054, 1055, 1056, 1057, 1058, 1104, 1105, 1106, 1107, 1108, 1109, 1110] (by decide +kernel) (by decide +kernel)
set_option maxRecDepth 20000 in
theorem gL_law_X8_tear : GoodIn wsL_law (wsV RL 141 RX8 yX8_tear wsX8_tear) := goodIn_app (goodIn_of _ (by decide +kernel)) ggL_law_X8_tear
set_option maxRecDepth 20000 in
theorem ggL_law_X9_tear : GoodIn wsL_law wsX9_tear := goodIn_r _ [1019, 302, 303, 1059, 1060, 1061, 1062, 1063, 1064, 1065, 1066, 1067, 1068, 1069, 1070, 1071, 1072, 1073, 1074, 1075, 1076, 1077, 1078, 1079, 1080, 1081, 1082, 1083, 1084, 1085] (by decide +kernel) (by decide +kernel)
set_option maxRecDepth 20000 in
theorem gL_law_X9_tear : GoodIn wsL_law (wsV RL 144 RX9 yX9_tear wsX9_tear) := goodIn_app (goodIn_of _ (by decide +kernel)) ggL_law_X9_tear
set_option maxRecDepth 20000 in
theorem ggL_law_X8_seed : GoodIn wsL_law wsX8_seed := goodIn_r _ [1023, 105, 664, 1050, 1051, 1052, 1053, 1054, 1055, 1056, 1057, 1058] (by decide +kernel) (by decide +kernel)
set_option maxRecDepth 20000 in
theorem gL_law_X8_seed : GoodIn wsL_law (wsV RL 145 RX8 yX8_seed wsX8_seed) := goodIn_app (goodIn_of _ (by decide +kernel)) ggL_law_X8_seed
set_option maxRecDepth 20000 in
theorem ggL_law_X9_seed : GoodIn wsL_law wsX9_seed := goodIn_r _ [1027, 118, 86, 1059, 1060, 1061, 1062, 1063, 1064, 1065, 1066, 1067, 1068, 1069, 1070, 1071, 1072, 1073, 1074, 1075, 1076, 1077, 1078, 1079, 1080, 1081, 1082, 1083, 1084, 1085] (by decide +kernel) (by decide +kernel)
set_option maxRecDepth 20000 in
theorem gL_law_X9_seed : GoodIn wsL_law (wsV RL 148 RX9 yX9_seed wsX9_seed) := goodIn_app (goodIn_of _ (by decide +kernel)) ggL_law_X9_seed
set_option maxRecDepth 20000 in
theorem ggL_law_X8_keep : GoodIn wsL_law wsX8_keep := goodIn_r _ [1031, 429, 1032, 19, 664, 1033, 245, 24, 1034, 1035, 1036, 2, 1037, 30, 520, 521, 522, 18, 523, 47, 223, 224, 225, 226, 48, 49, 50, 51, 52, 54, 228, 230, 231, 232, 23, 233, 234, 1120, 1121, 1122, 1050, 1051, 1052, 1053, 1054, 1055, 1056, 1057, 1058, 1092, 1093, 1094, 1095, 1096, 1097, 1098, 1099, 1100, 1101, 1102, 1103] (by decide +kernel) (by decide +kernel)
set_option maxRecDepth 20000 in
theorem gL_law_X8_keep : GoodIn wsL_law (wsV RL 149 RX8 yX8_keep wsX8_keep) := goodIn_app (goodIn_of _ (by decide +kernel)) ggL_law_X8_keep
set_option maxRecDepth 20000 in
theorem ggL_law_X9_keep : GoodIn wsL_law wsX9_keep := goodIn_r _ [1041, 448, 88, 304, 121, 122, 5, 123, 588, 589, 590, 591, 86, 1059, 1060, 1061, 1062, 1063, 1064, 1065, 1066, 1067, 1068, 1069, 1070, 1071, 1072, 1073, 1074, 1075, 1076, 1077, 1078, 1079, 1080, 1081, 1082, 1083, 1084, 1085] (by decide +kernel) (by decide +kernel)
set_option maxRecDepth 20000 in
theorem gL_law_X9_keep : GoodIn wsL_law (wsV RL 152 RX9 yX9_keep wsX9_keep) := goodIn_app (goodIn_of _ (by decide +kernel)) ggL_law_X9_keep
set_option maxRecDepth 20000 in
theorem ggL_law_X8_goBack : GoodIn wsL_law wsX8_goBack := goodIn_r _ [1045, 429, 245, 507, 19, 1032, 1033, 664, 24, 1034, 1035, 1036, 2, 1037, 30, 520, 521, 522, 18, 523, 47, 223, 224, 225, 226, 48, 49, 50, 51, 52, 54, 228, 230, 231, 232, 23, 233, 234, 1120, 1121, 1122, 1050, 1051, 1052, 1053, 1054, 1055, 1056, 1057, 1058, 1092, 1093, 1094, 1095, 1096, 1097, 1098, 1099, 1100, 1101, 1102, 1103] (by decide +kernel) (by decide +kernel)
set_option maxRecDepth 20000 in
theorem gL_law_X8_goBack : GoodIn wsL_law (wsV RL 153 RX8 yX8_goBack wsX8_goBack) := goodIn_app (goodIn_of _ (by decide +kernel)) ggL_law_X8_goBack
set_option maxRecDepth 20000 in
theorem ggL_law_X9_goBack : GoodIn wsL_law wsX9_goBack := goodIn_r _ [1049, 448, 88, 575, 304, 121, 122, 5, 123, 588, 589, 590, 591, 86, 1059, 1060, 1061, 1062, 1063, 1064, 1065, 1066, 1067, 1068, 1069, 1070, 1071, 1072, 1073, 1074, 1075, 1076, 1077, 1078, 1079, 1080, 1081, 1082, 1083, 1084, 1085] (by decide +kernel) (by decide +kernel)
set_option maxRecDepth 20000 in
theorem gL_law_X9_goBack : GoodIn wsL_law (wsV RL 156 RX9 yX9_goBack wsX9_goBack) := goodIn_app (goodIn_of _ (by decide +kernel)) ggL_law_X9_goBack
theorem dL_law_0 : decode cL_law 0 = .ok (.new 7, 3) := by decide +kernel
theorem dL_law_3 : decode cL_law 3 = .ok (.dup, 1) := by decide +kernel
theorem dL_law_4 : decode cL_law 4 = .ok (.invokespecial 9, 3) := by decide +kernel
theorem dL_law_7 : decode cL_law 7 = .ok (.astore_n 1, 1) := by decide +kernel
theorem dL_law_8 : decode cL_law 8 = .ok (.new 10, 3) := by decide +kernel
theorem dL_law_11 : decode cL_law 11 = .ok (.dup, 1) := by decide +kernel
theorem dL_law_12 : decode cL_law 12 = .ok (.invokespecial 12, 3) := by decide +kernel
theorem dL_law_15 : decode cL_law 15 = .ok (.astore_n 2, 1) := by decide +kernel
theorem dL_law_16 : decode cL_law 16 = .ok (.iconst 0, 1) := by decide +kernel
theorem dL_law_17 : decode cL_law 17 = .ok (.istore_n 3, 1) := by decide +kernel
theorem dL_law_18 : decode cL_law 18 = .ok (.iload_n 3, 1) := by decide +kernel
theorem dL_law_19 : decode cL_law 19 = .ok (.aload_n 0, 1) := by decide +kernel
theorem dL_law_20 : decode cL_law 20 = .ok (.arraylength, 1) := by decide +kernel
theorem dL_law_21 : decode cL_law 21 = .ok (.iconst 4, 1) := by decide +kernel
theorem dL_law_22 : decode cL_law 22 = .ok (.isub, 1) := by decide +kernel
theorem dL_law_23 : decode cL_law 23 = .ok (.if_icmp .gt 1086, 3) := by decide +kernel
theorem dL_law_26 : decode cL_law 26 = .ok (.aload_n 0, 1) := by decide +kernel
theorem dL_law_27 : decode cL_law 27 = .ok (.iload_n 3, 1) := by decide +kernel
theorem dL_law_28 : decode cL_law 28 = .ok (.iaload, 1) := by decide +kernel
theorem dL_law_29 : decode cL_law 29 = .ok (.bipush 63, 2) := by decide +kernel
theorem dL_law_31 : decode cL_law 31 = .ok (.iand, 1) := by decide +kernel
theorem dL_law_32 : decode cL_law 32 = .ok (.tableswitch 1071 0 34 #[156, 179, 192, 205, 228, 261, 284, 307, 340, 373, 396, 429, 462, 485, 508, 551, 584, 607, 630, 673, 686, 709, 732, 755, 788, 821, 854, 897, 920, 943, 976, 989, 1002, 1025, 1048], 156) := by decide +kernel
theorem dL_law_188 : decode cL_law 188 = .ok (.aload_n 1, 1) := by decide +kernel
theorem dL_law_189 : decode cL_law 189 = .ok (.aload_n 0, 1) := by decide +kernel
theorem dL_law_190 : decode cL_law 190 = .ok (.iload_n 3, 1) := by decide +kernel
theorem dL_law_191 : decode cL_law 191 = .ok (.iconst 1, 1) := by decide +kernel
theorem dL_law_192 : decode cL_law 192 = .ok (.iadd, 1) := by decide +kernel
theorem dL_law_193 : decode cL_law 193 = .ok (.iaload, 1) := by decide +kernel
theorem dL_law_194 : decode cL_law 194 = .ok (.invokevirtual 13, 3) := by decide +kernel
theorem dL_law_197 : decode cL_law 197 = .ok (.aload_n 2, 1) := by decide +kernel
theorem dL_law_198 : decode cL_law 198 = .ok (.aload_n 0, 1) := by decide +kernel
theorem dL_law_199 : decode cL_law 199 = .ok (.iload_n 3, 1) := by decide +kernel
theorem dL_law_200 : decode cL_law 200 = .ok (.iconst 1, 1) := by decide +kernel
theorem dL_law_201 : decode cL_law 201 = .ok (.iadd, 1) := by decide +kernel
theorem dL_law_202 : decode cL_law 202 = .ok (.iaload, 1) := by decide +kernel
theorem dL_law_203 : decode cL_law 203 = .ok (.invokevirtual 17, 3) := by decide +kernel
theorem dL_law_206 : decode cL_law 206 = .ok (.if_icmp .eq 897, 3) := by decide +kernel
theorem dL_law_209 : decode cL_law 209 = .ok (.iconst 0, 1) := by decide +kernel
theorem dL_law_210 : decode cL_law 210 = .ok (.ireturn, 1) := by decide +kernel
theorem dL_law_211 : decode cL_law 211 = .ok (.aload_n 1, 1) := by decide +kernel
theorem dL_law_212 : decode cL_law 212 = .ok (.invokevirtual 18, 3) := by decide +kernel
theorem dL_law_215 : decode cL_law 215 = .ok (.aload_n 2, 1) := by decide +kernel
theorem dL_law_216 : decode cL_law 216 = .ok (.invokevirtual 22, 3) := by decide +kernel
theorem dL_law_219 : decode cL_law 219 = .ok (.if_icmp .eq 884, 3) := by decide +kernel
theorem dL_law_222 : decode cL_law 222 = .ok (.iconst 0, 1) := by decide +kernel
theorem dL_law_223 : decode cL_law 223 = .ok (.ireturn, 1) := by decide +kernel
theorem dL_law_224 : decode cL_law 224 = .ok (.aload_n 1, 1) := by decide +kernel
theorem dL_law_225 : decode cL_law 225 = .ok (.invokevirtual 23, 3) := by decide +kernel
theorem dL_law_228 : decode cL_law 228 = .ok (.aload_n 2, 1) := by decide +kernel
theorem dL_law_229 : decode cL_law 229 = .ok (.invokevirtual 26, 3) := by decide +kernel
theorem dL_law_232 : decode cL_law 232 = .ok (.if_icmp .eq 871, 3) := by decide +kernel
theorem dL_law_235 : decode cL_law 235 = .ok (.iconst 0, 1) := by decide +kernel
theorem dL_law_236 : decode cL_law 236 = .ok (.ireturn, 1) := by decide +kernel
theorem dL_law_237 : decode cL_law 237 = .ok (.aload_n 1, 1) := by decide +kernel
theorem dL_law_238 : decode cL_law 238 = .ok (.aload_n 0, 1) := by decide +kernel
theorem dL_law_239 : decode cL_law 239 = .ok (.iload_n 3, 1) := by decide +kernel
theorem dL_law_240 : decode cL_law 240 = .ok (.iconst 1, 1) := by decide +kernel
theorem dL_law_241 : decode cL_law 241 = .ok (.iadd, 1) := by decide +kernel
theorem dL_law_242 : decode cL_law 242 = .ok (.iaload, 1) := by decide +kernel
theorem dL_law_243 : decode cL_law 243 = .ok (.invokevirtual 27, 3) := by decide +kernel
theorem dL_law_246 : decode cL_law 246 = .ok (.aload_n 2, 1) := by decide +kernel
theorem dL_law_247 : decode cL_law 247 = .ok (.aload_n 0, 1) := by decide +kernel
theorem dL_law_248 : decode cL_law 248 = .ok (.iload_n 3, 1) := by decide +kernel
theorem dL_law_249 : decode cL_law 249 = .ok (.iconst 1, 1) := by decide +kernel
theorem dL_law_250 : decode cL_law 250 = .ok (.iadd, 1) := by decide +kernel
theorem dL_law_251 : decode cL_law 251 = .ok (.iaload, 1) := by decide +kernel
theorem dL_law_252 : decode cL_law 252 = .ok (.invokevirtual 30, 3) := by decide +kernel
theorem dL_law_255 : decode cL_law 255 = .ok (.if_icmp .eq 848, 3) := by decide +kernel
theorem dL_law_258 : decode cL_law 258 = .ok (.iconst 0, 1) := by decide +kernel
theorem dL_law_259 : decode cL_law 259 = .ok (.ireturn, 1) := by decide +kernel
theorem dL_law_260 : decode cL_law 260 = .ok (.aload_n 1, 1) := by decide +kernel
theorem dL_law_261 : decode cL_law 261 = .ok (.aload_n 0, 1) := by decide +kernel
theorem dL_law_262 : decode cL_law 262 = .ok (.iload_n 3, 1) := by decide +kernel
theorem dL_law_263 : decode cL_law 263 = .ok (.iconst 1, 1) := by decide +kernel
theorem dL_law_264 : decode cL_law 264 = .ok (.iadd, 1) := by decide +kernel
theorem dL_law_265 : decode cL_law 265 = .ok (.iaload, 1) := by decide +kernel
theorem dL_law_266 : decode cL_law 266 = .ok (.aload_n 0, 1) := by decide +kernel
theorem dL_law_267 : decode cL_law 267 = .ok (.iload_n 3, 1) := by decide +kernel
theorem dL_law_268 : decode cL_law 268 = .ok (.iconst 2, 1) := by decide +kernel
theorem dL_law_269 : decode cL_law 269 = .ok (.iadd, 1) := by decide +kernel
theorem dL_law_270 : decode cL_law 270 = .ok (.iaload, 1) := by decide +kernel
theorem dL_law_271 : decode cL_law 271 = .ok (.invokevirtual 31, 3) := by decide +kernel
theorem dL_law_274 : decode cL_law 274 = .ok (.aload_n 2, 1) := by decide +kernel
theorem dL_law_275 : decode cL_law 275 = .ok (.aload_n 0, 1) := by decide +kernel
theorem dL_law_276 : decode cL_law 276 = .ok (.iload_n 3, 1) := by decide +kernel
theorem dL_law_277 : decode cL_law 277 = .ok (.iconst 1, 1) := by decide +kernel
theorem dL_law_278 : decode cL_law 278 = .ok (.iadd, 1) := by decide +kernel
theorem dL_law_279 : decode cL_law 279 = .ok (.iaload, 1) := by decide +kernel
theorem dL_law_280 : decode cL_law 280 = .ok (.aload_n 0, 1) := by decide +kernel
theorem dL_law_281 : decode cL_law 281 = .ok (.iload_n 3, 1) := by decide +kernel
theorem dL_law_282 : decode cL_law 282 = .ok (.iconst 2, 1) := by decide +kernel
theorem dL_law_283 : decode cL_law 283 = .ok (.iadd, 1) := by decide +kernel
theorem dL_law_284 : decode cL_law 284 = .ok (.iaload, 1) := by decide +kernel
theorem dL_law_285 : decode cL_law 285 = .ok (.invokevirtual 35, 3) := by decide +kernel
theorem dL_law_288 : decode cL_law 288 = .ok (.if_icmp .eq 815, 3) := by decide +kernel
theorem dL_law_291 : decode cL_law 291 = .ok (.iconst 0, 1) := by decide +kernel
theorem dL_law_292 : decode cL_law 292 = .ok (.ireturn, 1) := by decide +kernel
theorem dL_law_293 : decode cL_law 293 = .ok (.aload_n 1, 1) := by decide +kernel
theorem dL_law_294 : decode cL_law 294 = .ok (.aload_n 0, 1) := by decide +kernel
theorem dL_law_295 : decode cL_law 295 = .ok (.iload_n 3, 1) := by decide +kernel
theorem dL_law_296 : decode cL_law 296 = .ok (.iconst 1, 1) := by decide +kernel
theorem dL_law_297 : decode cL_law 297 = .ok (.iadd, 1) := by decide +kernel
theorem dL_law_298 : decode cL_law 298 = .ok (.iaload, 1) := by decide +kernel
theorem dL_law_299 : decode cL_law 299 = .ok (.invokevirtual 36, 3) := by decide +kernel
theorem dL_law_302 : decode cL_law 302 = .ok (.aload_n 2, 1) := by decide +kernel
theorem dL_law_303 : decode cL_law 303 = .ok (.aload_n 0, 1) := by decide +kernel
theorem dL_law_304 : decode cL_law 304 = .ok (.iload_n 3, 1) := by decide +kernel
theorem dL_law_305 : decode cL_law 305 = .ok (.iconst 1, 1) := by decide +kernel
theorem dL_law_306 : decode cL_law 306 = .ok (.iadd, 1) := by decide +kernel
theorem dL_law_307 : decode cL_law 307 = .ok (.iaload, 1) := by decide +kernel
theorem dL_law_308 : decode cL_law 308 = .ok (.invokevirtual 39, 3) := by decide +kernel
theorem dL_law_311 : decode cL_law 311 = .ok (.if_icmp .eq 792, 3) := by decide +kernel
theorem dL_law_314 : decode cL_law 314 = .ok (.iconst 0, 1) := by decide +kernel
theorem dL_law_315 : decode cL_law 315 = .ok (.ireturn, 1) := by decide +kernel
theorem dL_law_316 : decode cL_law 316 = .ok (.aload_n 1, 1) := by decide +kernel
theorem dL_law_317 : decode cL_law 317 = .ok (.aload_n 0, 1) := by decide +kernel
theorem dL_law_318 : decode cL_law 318 = .ok (.iload_n 3, 1) := by decide +kernel
theorem dL_law_319 : decode cL_law 319 = .ok (.iconst 1, 1) := by decide +kernel
theorem dL_law_320 : decode cL_law 320 = .ok (.iadd, 1) := by decide +kernel
theorem dL_law_321 : decode cL_law 321 = .ok (.iaload, 1) := by decide +kernel
theorem dL_law_322 : decode cL_law 322 = .ok (.invokevirtual 40, 3) := by decide +kernel
theorem dL_law_325 : decode cL_law 325 = .ok (.aload_n 2, 1) := by decide +kernel
theorem dL_law_326 : decode cL_law 326 = .ok (.aload_n 0, 1) := by decide +kernel
theorem dL_law_327 : decode cL_law 327 = .ok (.iload_n 3, 1) := by decide +kernel
theorem dL_law_328 : decode cL_law 328 = .ok (.iconst 1, 1) := by decide +kernel
theorem dL_law_329 : decode cL_law 329 = .ok (.iadd, 1) := by decide +kernel
theorem dL_law_330 : decode cL_law 330 = .ok (.iaload, 1) := by decide +kernel
theorem dL_law_331 : decode cL_law 331 = .ok (.invokevirtual 43, 3) := by decide +kernel
theorem dL_law_334 : decode cL_law 334 = .ok (.if_icmp .eq 769, 3) := by decide +kernel
theorem dL_law_337 : decode cL_law 337 = .ok (.iconst 0, 1) := by decide +kernel
theorem dL_law_338 : decode cL_law 338 = .ok (.ireturn, 1) := by decide +kernel
theorem dL_law_339 : decode cL_law 339 = .ok (.aload_n 1, 1) := by decide +kernel
theorem dL_law_340 : decode cL_law 340 = .ok (.aload_n 0, 1) := by decide +kernel
theorem dL_law_341 : decode cL_law 341 = .ok (.iload_n 3, 1) := by decide +kernel
theorem dL_law_342 : decode cL_law 342 = .ok (.iconst 1, 1) := by decide +kernel
theorem dL_law_343 : decode cL_law 343 = .ok (.iadd, 1) := by decide +kernel
theorem dL_law_344 : decode cL_law 344 = .ok (.iaload, 1) := by decide +kernel
theorem dL_law_345 : decode cL_law 345 = .ok (.aload_n 0, 1) := by decide +kernel
theorem dL_law_346 : decode cL_law 346 = .ok (.iload_n 3, 1) := by decide +kernel
theorem dL_law_347 : decode cL_law 347 = .ok (.iconst 2, 1) := by decide +kernel
theorem dL_law_348 : decode cL_law 348 = .ok (.iadd, 1) := by decide +kernel
theorem dL_law_349 : decode cL_law 349 = .ok (.iaload, 1) := by decide +kernel
theorem dL_law_350 : decode cL_law 350 = .ok (.invokevirtual 44, 3) := by decide +kernel
theorem dL_law_353 : decode cL_law 353 = .ok (.aload_n 2, 1) := by decide +kernel
theorem dL_law_354 : decode cL_law 354 = .ok (.aload_n 0, 1) := by decide +kernel
theorem dL_law_355 : decode cL_law 355 = .ok (.iload_n 3, 1) := by decide +kernel
theorem dL_law_356 : decode cL_law 356 = .ok (.iconst 1, 1) := by decide +kernel
theorem dL_law_357 : decode cL_law 357 = .ok (.iadd, 1) := by decide +kernel
theorem dL_law_358 : decode cL_law 358 = .ok (.iaload, 1) := by decide +kernel
theorem dL_law_359 : decode cL_law 359 = .ok (.aload_n 0, 1) := by decide +kernel
theorem dL_law_360 : decode cL_law 360 = .ok (.iload_n 3, 1) := by decide +kernel
theorem dL_law_361 : decode cL_law 361 = .ok (.iconst 2, 1) := by decide +kernel
theorem dL_law_362 : decode cL_law 362 = .ok (.iadd, 1) := by decide +kernel
theorem dL_law_363 : decode cL_law 363 = .ok (.iaload, 1) := by decide +kernel
theorem dL_law_364 : decode cL_law 364 = .ok (.invokevirtual 47, 3) := by decide +kernel
theorem dL_law_367 : decode cL_law 367 = .ok (.if_icmp .eq 736, 3) := by decide +kernel
theorem dL_law_370 : decode cL_law 370 = .ok (.iconst 0, 1) := by decide +kernel
theorem dL_law_371 : decode cL_law 371 = .ok (.ireturn, 1) := by decide +kernel
theorem dL_law_372 : decode cL_law 372 = .ok (.aload_n 1, 1) := by decide +kernel
theorem dL_law_373 : decode cL_law 373 = .ok (.aload_n 0, 1) := by decide +kernel
theorem dL_law_374 : decode cL_law 374 = .ok (.iload_n 3, 1) := by decide +kernel
theorem dL_law_375 : decode cL_law 375 = .ok (.iconst 1, 1) := by decide +kernel
theorem dL_law_376 : decode cL_law 376 = .ok (.iadd, 1) := by decide +kernel
theorem dL_law_377 : decode cL_law 377 = .ok (.iaload, 1) := by decide +kernel
theorem dL_law_378 : decode cL_law 378 = .ok (.aload_n 0, 1) := by decide +kernel
theorem dL_law_379 : decode cL_law 379 = .ok (.iload_n 3, 1) := by decide +kernel
theorem dL_law_380 : decode cL_law 380 = .ok (.iconst 2, 1) := by decide +kernel
theorem dL_law_381 : decode cL_law 381 = .ok (.iadd, 1) := by decide +kernel
theorem dL_law_382 : decode cL_law 382 = .ok (.iaload, 1) := by decide +kernel
theorem dL_law_383 : decode cL_law 383 = .ok (.invokevirtual 48, 3) := by decide +kernel
theorem dL_law_386 : decode cL_law 386 = .ok (.aload_n 2, 1) := by decide +kernel
theorem dL_law_387 : decode cL_law 387 = .ok (.aload_n 0, 1) := by decide +kernel
theorem dL_law_388 : decode cL_law 388 = .ok (.iload_n 3, 1) := by decide +kernel
theorem dL_law_389 : decode cL_law 389 = .ok (.iconst 1, 1) := by decide +kernel
theorem dL_law_390 : decode cL_law 390 = .ok (.iadd, 1) := by decide +kernel
theorem dL_law_391 : decode cL_law 391 = .ok (.iaload, 1) := by decide +kernel
theorem dL_law_392 : decode cL_law 392 = .ok (.aload_n 0, 1) := by decide +kernel
theorem dL_law_393 : decode cL_law 393 = .ok (.iload_n 3, 1) := by decide +kernel
theorem dL_law_394 : decode cL_law 394 = .ok (.iconst 2, 1) := by decide +kernel
theorem dL_law_395 : decode cL_law 395 = .ok (.iadd, 1) := by decide +kernel
theorem dL_law_396 : decode cL_law 396 = .ok (.iaload, 1) := by decide +kernel
theorem dL_law_397 : decode cL_law 397 = .ok (.invokevirtual 51, 3) := by decide +kernel
theorem dL_law_400 : decode cL_law 400 = .ok (.if_icmp .eq 703, 3) := by decide +kernel
theorem dL_law_403 : decode cL_law 403 = .ok (.iconst 0, 1) := by decide +kernel
theorem dL_law_404 : decode cL_law 404 = .ok (.ireturn, 1) := by decide +kernel
theorem dL_law_405 : decode cL_law 405 = .ok (.aload_n 1, 1) := by decide +kernel
theorem dL_law_406 : decode cL_law 406 = .ok (.aload_n 0, 1) := by decide +kernel
theorem dL_law_407 : decode cL_law 407 = .ok (.iload_n 3, 1) := by decide +kernel
theorem dL_law_408 : decode cL_law 408 = .ok (.iconst 1, 1) := by decide +kernel
theorem dL_law_409 : decode cL_law 409 = .ok (.iadd, 1) := by decide +kernel
theorem dL_law_410 : decode cL_law 410 = .ok (.iaload, 1) := by decide +kernel
theorem dL_law_411 : decode cL_law 411 = .ok (.invokevirtual 52, 3) := by decide +kernel
theorem dL_law_414 : decode cL_law 414 = .ok (.aload_n 2, 1) := by decide +kernel
theorem dL_law_415 : decode cL_law 415 = .ok (.aload_n 0, 1) := by decide +kernel
theorem dL_law_416 : decode cL_law 416 = .ok (.iload_n 3, 1) := by decide +kernel
theorem dL_law_417 : decode cL_law 417 = .ok (.iconst 1, 1) := by decide +kernel
theorem dL_law_418 : decode cL_law 418 = .ok (.iadd, 1) := by decide +kernel
theorem dL_law_419 : decode cL_law 419 = .ok (.iaload, 1) := by decide +kernel
theorem dL_law_420 : decode cL_law 420 = .ok (.invokevirtual 55, 3) := by decide +kernel
theorem dL_law_423 : decode cL_law 423 = .ok (.if_icmp .eq 680, 3) := by decide +kernel
theorem dL_law_426 : decode cL_law 426 = .ok (.iconst 0, 1) := by decide +kernel
theorem dL_law_427 : decode cL_law 427 = .ok (.ireturn, 1) := by decide +kernel
theorem dL_law_428 : decode cL_law 428 = .ok (.aload_n 1, 1) := by decide +kernel
theorem dL_law_429 : decode cL_law 429 = .ok (.aload_n 0, 1) := by decide +kernel
theorem dL_law_430 : decode cL_law 430 = .ok (.iload_n 3, 1) := by decide +kernel
theorem dL_law_431 : decode cL_law 431 = .ok (.iconst 1, 1) := by decide +kernel
theorem dL_law_432 : decode cL_law 432 = .ok (.iadd, 1) := by decide +kernel
theorem dL_law_433 : decode cL_law 433 = .ok (.iaload, 1) := by decide +kernel
theorem dL_law_434 : decode cL_law 434 = .ok (.aload_n 0, 1) := by decide +kernel
theorem dL_law_435 : decode cL_law 435 = .ok (.iload_n 3, 1) := by decide +kernel
theorem dL_law_436 : decode cL_law 436 = .ok (.iconst 2, 1) := by decide +kernel
theorem dL_law_437 : decode cL_law 437 = .ok (.iadd, 1) := by decide +kernel
theorem dL_law_438 : decode cL_law 438 = .ok (.iaload, 1) := by decide +kernel
theorem dL_law_439 : decode cL_law 439 = .ok (.invokevirtual 56, 3) := by decide +kernel
theorem dL_law_442 : decode cL_law 442 = .ok (.aload_n 2, 1) := by decide +kernel
theorem dL_law_443 : decode cL_law 443 = .ok (.aload_n 0, 1) := by decide +kernel
theorem dL_law_444 : decode cL_law 444 = .ok (.iload_n 3, 1) := by decide +kernel
theorem dL_law_445 : decode cL_law 445 = .ok (.iconst 1, 1) := by decide +kernel
theorem dL_law_446 : decode cL_law 446 = .ok (.iadd, 1) := by decide +kernel
theorem dL_law_447 : decode cL_law 447 = .ok (.iaload, 1) := by decide +kernel
theorem dL_law_448 : decode cL_law 448 = .ok (.aload_n 0, 1) := by decide +kernel
theorem dL_law_449 : decode cL_law 449 = .ok (.iload_n 3, 1) := by decide +kernel
theorem dL_law_450 : decode cL_law 450 = .ok (.iconst 2, 1) := by decide +kernel
theorem dL_law_451 : decode cL_law 451 = .ok (.iadd, 1) := by decide +kernel
theorem dL_law_452 : decode cL_law 452 = .ok (.iaload, 1) := by decide +kernel
theorem dL_law_453 : decode cL_law 453 = .ok (.invokevirtual 59, 3) := by decide +kernel
theorem dL_law_456 : decode cL_law 456 = .ok (.if_icmp .eq 647, 3) := by decide +kernel
theorem dL_law_459 : decode cL_law 459 = .ok (.iconst 0, 1) := by decide +kernel
theorem dL_law_460 : decode cL_law 460 = .ok (.ireturn, 1) := by decide +kernel
theorem dL_law_461 : decode cL_law 461 = .ok (.aload_n 1, 1) := by decide +kernel
theorem dL_law_462 : decode cL_law 462 = .ok (.aload_n 0, 1) := by decide +kernel
theorem dL_law_463 : decode cL_law 463 = .ok (.iload_n 3, 1) := by decide +kernel
theorem dL_law_464 : decode cL_law 464 = .ok (.iconst 1, 1) := by decide +kernel
theorem dL_law_465 : decode cL_law 465 = .ok (.iadd, 1) := by decide +kernel
theorem dL_law_466 : decode cL_law 466 = .ok (.iaload, 1) := by decide +kernel
theorem dL_law_467 : decode cL_law 467 = .ok (.aload_n 0, 1) := by decide +kernel
theorem dL_law_468 : decode cL_law 468 = .ok (.iload_n 3, 1) := by decide +kernel
theorem dL_law_469 : decode cL_law 469 = .ok (.iconst 2, 1) := by decide +kernel
theorem dL_law_470 : decode cL_law 470 = .ok (.iadd, 1) := by decide +kernel
theorem dL_law_471 : decode cL_law 471 = .ok (.iaload, 1) := by decide +kernel
theorem dL_law_472 : decode cL_law 472 = .ok (.invokevirtual 60, 3) := by decide +kernel
theorem dL_law_475 : decode cL_law 475 = .ok (.aload_n 2, 1) := by decide +kernel
theorem dL_law_476 : decode cL_law 476 = .ok (.aload_n 0, 1) := by decide +kernel
theorem dL_law_477 : decode cL_law 477 = .ok (.iload_n 3, 1) := by decide +kernel
theorem dL_law_478 : decode cL_law 478 = .ok (.iconst 1, 1) := by decide +kernel
theorem dL_law_479 : decode cL_law 479 = .ok (.iadd, 1) := by decide +kernel
theorem dL_law_480 : decode cL_law 480 = .ok (.iaload, 1) := by decide +kernel
theorem dL_law_481 : decode cL_law 481 = .ok (.aload_n 0, 1) := by decide +kernel
theorem dL_law_482 : decode cL_law 482 = .ok (.iload_n 3, 1) := by decide +kernel
theorem dL_law_483 : decode cL_law 483 = .ok (.iconst 2, 1) := by decide +kernel
theorem dL_law_484 : decode cL_law 484 = .ok (.iadd, 1) := by decide +kernel
theorem dL_law_485 : decode cL_law 485 = .ok (.iaload, 1) := by decide +kernel
theorem dL_law_486 : decode cL_law 486 = .ok (.invokevirtual 63, 3) := by decide +kernel
theorem dL_law_489 : decode cL_law 489 = .ok (.if_icmp .eq 614, 3) := by decide +kernel
theorem dL_law_492 : decode cL_law 492 = .ok (.iconst 0, 1) := by decide +kernel
theorem dL_law_493 : decode cL_law 493 = .ok (.ireturn, 1) := by decide +kernel
theorem dL_law_494 : decode cL_law 494 = .ok (.aload_n 1, 1) := by decide +kernel
theorem dL_law_495 : decode cL_law 495 = .ok (.aload_n 0, 1) := by decide +kernel
theorem dL_law_496 : decode cL_law 496 = .ok (.iload_n 3, 1) := by decide +kernel
theorem dL_law_497 : decode cL_law 497 = .ok (.iconst 1, 1) := by decide +kernel
theorem dL_law_498 : decode cL_law 498 = .ok (.iadd, 1) := by decide +kernel
theorem dL_law_499 : decode cL_law 499 = .ok (.iaload, 1) := by decide +kernel
theorem dL_law_500 : decode cL_law 500 = .ok (.invokevirtual 64, 3) := by decide +kernel
theorem dL_law_503 : decode cL_law 503 = .ok (.aload_n 2, 1) := by decide +kernel
theorem dL_law_504 : decode cL_law 504 = .ok (.aload_n 0, 1) := by decide +kernel
theorem dL_law_505 : decode cL_law 505 = .ok (.iload_n 3, 1) := by decide +kernel
theorem dL_law_506 : decode cL_law 506 = .ok (.iconst 1, 1) := by decide +kernel
theorem dL_law_507 : decode cL_law 507 = .ok (.iadd, 1) := by decide +kernel
theorem dL_law_508 : decode cL_law 508 = .ok (.iaload, 1) := by decide +kernel
theorem dL_law_509 : decode cL_law 509 = .ok (.invokevirtual 67, 3) := by decide +kernel
theorem dL_law_512 : decode cL_law 512 = .ok (.if_icmp .eq 591, 3) := by decide +kernel
theorem dL_law_515 : decode cL_law 515 = .ok (.iconst 0, 1) := by decide +kernel
theorem dL_law_516 : decode cL_law 516 = .ok (.ireturn, 1) := by decide +kernel
theorem dL_law_517 : decode cL_law 517 = .ok (.aload_n 1, 1) := by decide +kernel
theorem dL_law_518 : decode cL_law 518 = .ok (.aload_n 0, 1) := by decide +kernel
theorem dL_law_519 : decode cL_law 519 = .ok (.iload_n 3, 1) := by decide +kernel
theorem dL_law_520 : decode cL_law 520 = .ok (.iconst 1, 1) := by decide +kernel
theorem dL_law_521 : decode cL_law 521 = .ok (.iadd, 1) := by decide +kernel
theorem dL_law_522 : decode cL_law 522 = .ok (.iaload, 1) := by decide +kernel
theorem dL_law_523 : decode cL_law 523 = .ok (.invokevirtual 68, 3) := by decide +kernel
theorem dL_law_526 : decode cL_law 526 = .ok (.aload_n 2, 1) := by decide +kernel
theorem dL_law_527 : decode cL_law 527 = .ok (.aload_n 0, 1) := by decide +kernel
theorem dL_law_528 : decode cL_law 528 = .ok (.iload_n 3, 1) := by decide +kernel
theorem dL_law_529 : decode cL_law 529 = .ok (.iconst 1, 1) := by decide +kernel
theorem dL_law_530 : decode cL_law 530 = .ok (.iadd, 1) := by decide +kernel
theorem dL_law_531 : decode cL_law 531 = .ok (.iaload, 1) := by decide +kernel
theorem dL_law_532 : decode cL_law 532 = .ok (.invokevirtual 71, 3) := by decide +kernel
theorem dL_law_535 : decode cL_law 535 = .ok (.if_icmp .eq 568, 3) := by decide +kernel
theorem dL_law_538 : decode cL_law 538 = .ok (.iconst 0, 1) := by decide +kernel
theorem dL_law_539 : decode cL_law 539 = .ok (.ireturn, 1) := by decide +kernel
theorem dL_law_540 : decode cL_law 540 = .ok (.aload_n 1, 1) := by decide +kernel
theorem dL_law_541 : decode cL_law 541 = .ok (.aload_n 0, 1) := by decide +kernel
theorem dL_law_542 : decode cL_law 542 = .ok (.iload_n 3, 1) := by decide +kernel
theorem dL_law_543 : decode cL_law 543 = .ok (.iconst 1, 1) := by decide +kernel
theorem dL_law_544 : decode cL_law 544 = .ok (.iadd, 1) := by decide +kernel
theorem dL_law_545 : decode cL_law 545 = .ok (.iaload, 1) := by decide +kernel
theorem dL_law_546 : decode cL_law 546 = .ok (.aload_n 0, 1) := by decide +kernel
theorem dL_law_547 : decode cL_law 547 = .ok (.iload_n 3, 1) := by decide +kernel
theorem dL_law_548 : decode cL_law 548 = .ok (.iconst 2, 1) := by decide +kernel
theorem dL_law_549 : decode cL_law 549 = .ok (.iadd, 1) := by decide +kernel
theorem dL_law_550 : decode cL_law 550 = .ok (.iaload, 1) := by decide +kernel
theorem dL_law_551 : decode cL_law 551 = .ok (.aload_n 0, 1) := by decide +kernel
theorem dL_law_552 : decode cL_law 552 = .ok (.iload_n 3, 1) := by decide +kernel
theorem dL_law_553 : decode cL_law 553 = .ok (.iconst 3, 1) := by decide +kernel
theorem dL_law_554 : decode cL_law 554 = .ok (.iadd, 1) := by decide +kernel
theorem dL_law_555 : decode cL_law 555 = .ok (.iaload, 1) := by decide +kernel
theorem dL_law_556 : decode cL_law 556 = .ok (.invokevirtual 72, 3) := by decide +kernel
theorem dL_law_559 : decode cL_law 559 = .ok (.aload_n 2, 1) := by decide +kernel
theorem dL_law_560 : decode cL_law 560 = .ok (.aload_n 0, 1) := by decide +kernel
theorem dL_law_561 : decode cL_law 561 = .ok (.iload_n 3, 1) := by decide +kernel
theorem dL_law_562 : decode cL_law 562 = .ok (.iconst 1, 1) := by decide +kernel
theorem dL_law_563 : decode cL_law 563 = .ok (.iadd, 1) := by decide +kernel
theorem dL_law_564 : decode cL_law 564 = .ok (.iaload, 1) := by decide +kernel
theorem dL_law_565 : decode cL_law 565 = .ok (.aload_n 0, 1) := by decide +kernel
theorem dL_law_566 : decode cL_law 566 = .ok (.iload_n 3, 1) := by decide +kernel
theorem dL_law_567 : decode cL_law 567 = .ok (.iconst 2, 1) := by decide +kernel
theorem dL_law_568 : decode cL_law 568 = .ok (.iadd, 1) := by decide +kernel
theorem dL_law_569 : decode cL_law 569 = .ok (.iaload, 1) := by decide +kernel
theorem dL_law_570 : decode cL_law 570 = .ok (.aload_n 0, 1) := by decide +kernel
theorem dL_law_571 : decode cL_law 571 = .ok (.iload_n 3, 1) := by decide +kernel
theorem dL_law_572 : decode cL_law 572 = .ok (.iconst 3, 1) := by decide +kernel
theorem dL_law_573 : decode cL_law 573 = .ok (.iadd, 1) := by decide +kernel
theorem dL_law_574 : decode cL_law 574 = .ok (.iaload, 1) := by decide +kernel
theorem dL_law_575 : decode cL_law 575 = .ok (.invokevirtual 76, 3) := by decide +kernel
theorem dL_law_578 : decode cL_law 578 = .ok (.if_icmp .eq 525, 3) := by decide +kernel
theorem dL_law_581 : decode cL_law 581 = .ok (.iconst 0, 1) := by decide +kernel
theorem dL_law_582 : decode cL_law 582 = .ok (.ireturn, 1) := by decide +kernel
theorem dL_law_583 : decode cL_law 583 = .ok (.aload_n 1, 1) := by decide +kernel
theorem dL_law_584 : decode cL_law 584 = .ok (.aload_n 0, 1) := by decide +kernel
theorem dL_law_585 : decode cL_law 585 = .ok (.iload_n 3, 1) := by decide +kernel
theorem dL_law_586 : decode cL_law 586 = .ok (.iconst 1, 1) := by decide +kernel
theorem dL_law_587 : decode cL_law 587 = .ok (.iadd, 1) := by decide +kernel
theorem dL_law_588 : decode cL_law 588 = .ok (.iaload, 1) := by decide +kernel
theorem dL_law_589 : decode cL_law 589 = .ok (.aload_n 0, 1) := by decide +kernel
theorem dL_law_590 : decode cL_law 590 = .ok (.iload_n 3, 1) := by decide +kernel
theorem dL_law_591 : decode cL_law 591 = .ok (.iconst 2, 1) := by decide +kernel
theorem dL_law_592 : decode cL_law 592 = .ok (.iadd, 1) := by decide +kernel
theorem dL_law_593 : decode cL_law 593 = .ok (.iaload, 1) := by decide +kernel
theorem dL_law_594 : decode cL_law 594 = .ok (.invokevirtual 77, 3) := by decide +kernel
theorem dL_law_597 : decode cL_law 597 = .ok (.aload_n 2, 1) := by decide +kernel
theorem dL_law_598 : decode cL_law 598 = .ok (.aload_n 0, 1) := by decide +kernel
theorem dL_law_599 : decode cL_law 599 = .ok (.iload_n 3, 1) := by decide +kernel
theorem dL_law_600 : decode cL_law 600 = .ok (.iconst 1, 1) := by decide +kernel
theorem dL_law_601 : decode cL_law 601 = .ok (.iadd, 1) := by decide +kernel
theorem dL_law_602 : decode cL_law 602 = .ok (.iaload, 1) := by decide +kernel
theorem dL_law_603 : decode cL_law 603 = .ok (.aload_n 0, 1) := by decide +kernel
theorem dL_law_604 : decode cL_law 604 = .ok (.iload_n 3, 1) := by decide +kernel
theorem dL_law_605 : decode cL_law 605 = .ok (.iconst 2, 1) := by decide +kernel
theorem dL_law_606 : decode cL_law 606 = .ok (.iadd, 1) := by decide +kernel
theorem dL_law_607 : decode cL_law 607 = .ok (.iaload, 1) := by decide +kernel
theorem dL_law_608 : decode cL_law 608 = .ok (.invokevirtual 80, 3) := by decide +kernel
theorem dL_law_611 : decode cL_law 611 = .ok (.if_icmp .eq 492, 3) := by decide +kernel
theorem dL_law_614 : decode cL_law 614 = .ok (.iconst 0, 1) := by decide +kernel
theorem dL_law_615 : decode cL_law 615 = .ok (.ireturn, 1) := by decide +kernel
theorem dL_law_616 : decode cL_law 616 = .ok (.aload_n 1, 1) := by decide +kernel
theorem dL_law_617 : decode cL_law 617 = .ok (.aload_n 0, 1) := by decide +kernel
theorem dL_law_618 : decode cL_law 618 = .ok (.iload_n 3, 1) := by decide +kernel
theorem dL_law_619 : decode cL_law 619 = .ok (.iconst 1, 1) := by decide +kernel
theorem dL_law_620 : decode cL_law 620 = .ok (.iadd, 1) := by decide +kernel
theorem dL_law_621 : decode cL_law 621 = .ok (.iaload, 1) := by decide +kernel
theorem dL_law_622 : decode cL_law 622 = .ok (.invokevirtual 81, 3) := by decide +kernel
theorem dL_law_625 : decode cL_law 625 = .ok (.aload_n 2, 1) := by decide +kernel
theorem dL_law_626 : decode cL_law 626 = .ok (.aload_n 0, 1) := by decide +kernel
theorem dL_law_627 : decode cL_law 627 = .ok (.iload_n 3, 1) := by decide +kernel
theorem dL_law_628 : decode cL_law 628 = .ok (.iconst 1, 1) := by decide +kernel
theorem dL_law_629 : decode cL_law 629 = .ok (.iadd, 1) := by decide +kernel
theorem dL_law_630 : decode cL_law 630 = .ok (.iaload, 1) := by decide +kernel
theorem dL_law_631 : decode cL_law 631 = .ok (.invokevirtual 84, 3) := by decide +kernel
theorem dL_law_634 : decode cL_law 634 = .ok (.if_icmp .eq 469, 3) := by decide +kernel
theorem dL_law_637 : decode cL_law 637 = .ok (.iconst 0, 1) := by decide +kernel
theorem dL_law_638 : decode cL_law 638 = .ok (.ireturn, 1) := by decide +kernel
theorem dL_law_639 : decode cL_law 639 = .ok (.aload_n 1, 1) := by decide +kernel
theorem dL_law_640 : decode cL_law 640 = .ok (.aload_n 0, 1) := by decide +kernel
theorem dL_law_641 : decode cL_law 641 = .ok (.iload_n 3, 1) := by decide +kernel
theorem dL_law_642 : decode cL_law 642 = .ok (.iconst 1, 1) := by decide +kernel
theorem dL_law_643 : decode cL_law 643 = .ok (.iadd, 1) := by decide +kernel
theorem dL_law_644 : decode cL_law 644 = .ok (.iaload, 1) := by decide +kernel
theorem dL_law_645 : decode cL_law 645 = .ok (.invokevirtual 85, 3) := by decide +kernel
theorem dL_law_648 : decode cL_law 648 = .ok (.aload_n 2, 1) := by decide +kernel
theorem dL_law_649 : decode cL_law 649 = .ok (.aload_n 0, 1) := by decide +kernel
theorem dL_law_650 : decode cL_law 650 = .ok (.iload_n 3, 1) := by decide +kernel
theorem dL_law_651 : decode cL_law 651 = .ok (.iconst 1, 1) := by decide +kernel
theorem dL_law_652 : decode cL_law 652 = .ok (.iadd, 1) := by decide +kernel
theorem dL_law_653 : decode cL_law 653 = .ok (.iaload, 1) := by decide +kernel
theorem dL_law_654 : decode cL_law 654 = .ok (.invokevirtual 88, 3) := by decide +kernel
theorem dL_law_657 : decode cL_law 657 = .ok (.if_icmp .eq 446, 3) := by decide +kernel
theorem dL_law_660 : decode cL_law 660 = .ok (.iconst 0, 1) := by decide +kernel
theorem dL_law_661 : decode cL_law 661 = .ok (.ireturn, 1) := by decide +kernel
theorem dL_law_662 : decode cL_law 662 = .ok (.aload_n 1, 1) := by decide +kernel
theorem dL_law_663 : decode cL_law 663 = .ok (.aload_n 0, 1) := by decide +kernel
theorem dL_law_664 : decode cL_law 664 = .ok (.iload_n 3, 1) := by decide +kernel
theorem dL_law_665 : decode cL_law 665 = .ok (.iconst 1, 1) := by decide +kernel
theorem dL_law_666 : decode cL_law 666 = .ok (.iadd, 1) := by decide +kernel
theorem dL_law_667 : decode cL_law 667 = .ok (.iaload, 1) := by decide +kernel
theorem dL_law_668 : decode cL_law 668 = .ok (.aload_n 0, 1) := by decide +kernel
theorem dL_law_669 : decode cL_law 669 = .ok (.iload_n 3, 1) := by decide +kernel
theorem dL_law_670 : decode cL_law 670 = .ok (.iconst 2, 1) := by decide +kernel
theorem dL_law_671 : decode cL_law 671 = .ok (.iadd, 1) := by decide +kernel
theorem dL_law_672 : decode cL_law 672 = .ok (.iaload, 1) := by decide +kernel
theorem dL_law_673 : decode cL_law 673 = .ok (.aload_n 0, 1) := by decide +kernel
theorem dL_law_674 : decode cL_law 674 = .ok (.iload_n 3, 1) := by decide +kernel
theorem dL_law_675 : decode cL_law 675 = .ok (.iconst 3, 1) := by decide +kernel
theorem dL_law_676 : decode cL_law 676 = .ok (.iadd, 1) := by decide +kernel
theorem dL_law_677 : decode cL_law 677 = .ok (.iaload, 1) := by decide +kernel
theorem dL_law_678 : decode cL_law 678 = .ok (.invokevirtual 89, 3) := by decide +kernel
theorem dL_law_681 : decode cL_law 681 = .ok (.aload_n 2, 1) := by decide +kernel
theorem dL_law_682 : decode cL_law 682 = .ok (.aload_n 0, 1) := by decide +kernel
theorem dL_law_683 : decode cL_law 683 = .ok (.iload_n 3, 1) := by decide +kernel
theorem dL_law_684 : decode cL_law 684 = .ok (.iconst 1, 1) := by decide +kernel
theorem dL_law_685 : decode cL_law 685 = .ok (.iadd, 1) := by decide +kernel
theorem dL_law_686 : decode cL_law 686 = .ok (.iaload, 1) := by decide +kernel
theorem dL_law_687 : decode cL_law 687 = .ok (.aload_n 0, 1) := by decide +kernel
theorem dL_law_688 : decode cL_law 688 = .ok (.iload_n 3, 1) := by decide +kernel
theorem dL_law_689 : decode cL_law 689 = .ok (.iconst 2, 1) := by decide +kernel
theorem dL_law_690 : decode cL_law 690 = .ok (.iadd, 1) := by decide +kernel
theorem dL_law_691 : decode cL_law 691 = .ok (.iaload, 1) := by decide +kernel
theorem dL_law_692 : decode cL_law 692 = .ok (.aload_n 0, 1) := by decide +kernel
theorem dL_law_693 : decode cL_law 693 = .ok (.iload_n 3, 1) := by decide +kernel
theorem dL_law_694 : decode cL_law 694 = .ok (.iconst 3, 1) := by decide +kernel
theorem dL_law_695 : decode cL_law 695 = .ok (.iadd, 1) := by decide +kernel
theorem dL_law_696 : decode cL_law 696 = .ok (.iaload, 1) := by decide +kernel
theorem dL_law_697 : decode cL_law 697 = .ok (.invokevirtual 92, 3) := by decide +kernel
theorem dL_law_700 : decode cL_law 700 = .ok (.if_icmp .eq 403, 3) := by decide +kernel
theorem dL_law_703 : decode cL_law 703 = .ok (.iconst 0, 1) := by decide +kernel
theorem dL_law_704 : decode cL_law 704 = .ok (.ireturn, 1) := by decide +kernel
theorem dL_law_705 : decode cL_law 705 = .ok (.aload_n 1, 1) := by decide +kernel
theorem dL_law_706 : decode cL_law 706 = .ok (.invokevirtual 93, 3) := by decide +kernel
theorem dL_law_709 : decode cL_law 709 = .ok (.aload_n 2, 1) := by decide +kernel
theorem dL_law_710 : decode cL_law 710 = .ok (.invokevirtual 96, 3) := by decide +kernel
theorem dL_law_713 : decode cL_law 713 = .ok (.if_icmp .eq 390, 3) := by decide +kernel
theorem dL_law_716 : decode cL_law 716 = .ok (.iconst 0, 1) := by decide +kernel
theorem dL_law_717 : decode cL_law 717 = .ok (.ireturn, 1) := by decide +kernel
theorem dL_law_718 : decode cL_law 718 = .ok (.aload_n 1, 1) := by decide +kernel
theorem dL_law_719 : decode cL_law 719 = .ok (.aload_n 0, 1) := by decide +kernel
theorem dL_law_720 : decode cL_law 720 = .ok (.iload_n 3, 1) := by decide +kernel
theorem dL_law_721 : decode cL_law 721 = .ok (.iconst 1, 1) := by decide +kernel
theorem dL_law_722 : decode cL_law 722 = .ok (.iadd, 1) := by decide +kernel
theorem dL_law_723 : decode cL_law 723 = .ok (.iaload, 1) := by decide +kernel
theorem dL_law_724 : decode cL_law 724 = .ok (.invokevirtual 97, 3) := by decide +kernel
theorem dL_law_727 : decode cL_law 727 = .ok (.aload_n 2, 1) := by decide +kernel
theorem dL_law_728 : decode cL_law 728 = .ok (.aload_n 0, 1) := by decide +kernel
theorem dL_law_729 : decode cL_law 729 = .ok (.iload_n 3, 1) := by decide +kernel
theorem dL_law_730 : decode cL_law 730 = .ok (.iconst 1, 1) := by decide +kernel
theorem dL_law_731 : decode cL_law 731 = .ok (.iadd, 1) := by decide +kernel
theorem dL_law_732 : decode cL_law 732 = .ok (.iaload, 1) := by decide +kernel
theorem dL_law_733 : decode cL_law 733 = .ok (.invokevirtual 100, 3) := by decide +kernel
theorem dL_law_736 : decode cL_law 736 = .ok (.if_icmp .eq 367, 3) := by decide +kernel
theorem dL_law_739 : decode cL_law 739 = .ok (.iconst 0, 1) := by decide +kernel
theorem dL_law_740 : decode cL_law 740 = .ok (.ireturn, 1) := by decide +kernel
theorem dL_law_741 : decode cL_law 741 = .ok (.aload_n 1, 1) := by decide +kernel
theorem dL_law_742 : decode cL_law 742 = .ok (.aload_n 0, 1) := by decide +kernel
theorem dL_law_743 : decode cL_law 743 = .ok (.iload_n 3, 1) := by decide +kernel
theorem dL_law_744 : decode cL_law 744 = .ok (.iconst 1, 1) := by decide +kernel
theorem dL_law_745 : decode cL_law 745 = .ok (.iadd, 1) := by decide +kernel
theorem dL_law_746 : decode cL_law 746 = .ok (.iaload, 1) := by decide +kernel
theorem dL_law_747 : decode cL_law 747 = .ok (.invokevirtual 101, 3) := by decide +kernel
theorem dL_law_750 : decode cL_law 750 = .ok (.aload_n 2, 1) := by decide +kernel
theorem dL_law_751 : decode cL_law 751 = .ok (.aload_n 0, 1) := by decide +kernel
theorem dL_law_752 : decode cL_law 752 = .ok (.iload_n 3, 1) := by decide +kernel
theorem dL_law_753 : decode cL_law 753 = .ok (.iconst 1, 1) := by decide +kernel
theorem dL_law_754 : decode cL_law 754 = .ok (.iadd, 1) := by decide +kernel
theorem dL_law_755 : decode cL_law 755 = .ok (.iaload, 1) := by decide +kernel
theorem dL_law_756 : decode cL_law 756 = .ok (.invokevirtual 104, 3) := by decide +kernel
theorem dL_law_759 : decode cL_law 759 = .ok (.if_icmp .eq 344, 3) := by decide +kernel
theorem dL_law_762 : decode cL_law 762 = .ok (.iconst 0, 1) := by decide +kernel
theorem dL_law_763 : decode cL_law 763 = .ok (.ireturn, 1) := by decide +kernel
theorem dL_law_764 : decode cL_law 764 = .ok (.aload_n 1, 1) := by decide +kernel
theorem dL_law_765 : decode cL_law 765 = .ok (.aload_n 0, 1) := by decide +kernel
theorem dL_law_766 : decode cL_law 766 = .ok (.iload_n 3, 1) := by decide +kernel
theorem dL_law_767 : decode cL_law 767 = .ok (.iconst 1, 1) := by decide +kernel
theorem dL_law_768 : decode cL_law 768 = .ok (.iadd, 1) := by decide +kernel
theorem dL_law_769 : decode cL_law 769 = .ok (.iaload, 1) := by decide +kernel
theorem dL_law_770 : decode cL_law 770 = .ok (.invokevirtual 105, 3) := by decide +kernel
theorem dL_law_773 : decode cL_law 773 = .ok (.aload_n 2, 1) := by decide +kernel
theorem dL_law_774 : decode cL_law 774 = .ok (.aload_n 0, 1) := by decide +kernel
theorem dL_law_775 : decode cL_law 775 = .ok (.iload_n 3, 1) := by decide +kernel
theorem dL_law_776 : decode cL_law 776 = .ok (.iconst 1, 1) := by decide +kernel
theorem dL_law_777 : decode cL_law 777 = .ok (.iadd, 1) := by decide +kernel
theorem dL_law_778 : decode cL_law 778 = .ok (.iaload, 1) := by decide +kernel
theorem dL_law_779 : decode cL_law 779 = .ok (.invokevirtual 108, 3) := by decide +kernel
theorem dL_law_782 : decode cL_law 782 = .ok (.if_icmp .eq 321, 3) := by decide +kernel
theorem dL_law_785 : decode cL_law 785 = .ok (.iconst 0, 1) := by decide +kernel
theorem dL_law_786 : decode cL_law 786 = .ok (.ireturn, 1) := by decide +kernel
theorem dL_law_787 : decode cL_law 787 = .ok (.aload_n 1, 1) := by decide +kernel
theorem dL_law_788 : decode cL_law 788 = .ok (.aload_n 0, 1) := by decide +kernel
theorem dL_law_789 : decode cL_law 789 = .ok (.iload_n 3, 1) := by decide +kernel
theorem dL_law_790 : decode cL_law 790 = .ok (.iconst 1, 1) := by decide +kernel
theorem dL_law_791 : decode cL_law 791 = .ok (.iadd, 1) := by decide +kernel
theorem dL_law_792 : decode cL_law 792 = .ok (.iaload, 1) := by decide +kernel
theorem dL_law_793 : decode cL_law 793 = .ok (.aload_n 0, 1) := by decide +kernel
theorem dL_law_794 : decode cL_law 794 = .ok (.iload_n 3, 1) := by decide +kernel
theorem dL_law_795 : decode cL_law 795 = .ok (.iconst 2, 1) := by decide +kernel
theorem dL_law_796 : decode cL_law 796 = .ok (.iadd, 1) := by decide +kernel
theorem dL_law_797 : decode cL_law 797 = .ok (.iaload, 1) := by decide +kernel
theorem dL_law_798 : decode cL_law 798 = .ok (.invokevirtual 109, 3) := by decide +kernel
theorem dL_law_801 : decode cL_law 801 = .ok (.aload_n 2, 1) := by decide +kernel
theorem dL_law_802 : decode cL_law 802 = .ok (.aload_n 0, 1) := by decide +kernel
theorem dL_law_803 : decode cL_law 803 = .ok (.iload_n 3, 1) := by decide +kernel
theorem dL_law_804 : decode cL_law 804 = .ok (.iconst 1, 1) := by decide +kernel
theorem dL_law_805 : decode cL_law 805 = .ok (.iadd, 1) := by decide +kernel
theorem dL_law_806 : decode cL_law 806 = .ok (.iaload, 1) := by decide +kernel
theorem dL_law_807 : decode cL_law 807 = .ok (.aload_n 0, 1) := by decide +kernel
theorem dL_law_808 : decode cL_law 808 = .ok (.iload_n 3, 1) := by decide +kernel
theorem dL_law_809 : decode cL_law 809 = .ok (.iconst 2, 1) := by decide +kernel
theorem dL_law_810 : decode cL_law 810 = .ok (.iadd, 1) := by decide +kernel
theorem dL_law_811 : decode cL_law 811 = .ok (.iaload, 1) := by decide +kernel
theorem dL_law_812 : decode cL_law 812 = .ok (.invokevirtual 112, 3) := by decide +kernel
theorem dL_law_815 : decode cL_law 815 = .ok (.if_icmp .eq 288, 3) := by decide +kernel
theorem dL_law_818 : decode cL_law 818 = .ok (.iconst 0, 1) := by decide +kernel
theorem dL_law_819 : decode cL_law 819 = .ok (.ireturn, 1) := by decide +kernel
theorem dL_law_820 : decode cL_law 820 = .ok (.aload_n 1, 1) := by decide +kernel
theorem dL_law_821 : decode cL_law 821 = .ok (.aload_n 0, 1) := by decide +kernel
theorem dL_law_822 : decode cL_law 822 = .ok (.iload_n 3, 1) := by decide +kernel
theorem dL_law_823 : decode cL_law 823 = .ok (.iconst 1, 1) := by decide +kernel
theorem dL_law_824 : decode cL_law 824 = .ok (.iadd, 1) := by decide +kernel
theorem dL_law_825 : decode cL_law 825 = .ok (.iaload, 1) := by decide +kernel
theorem dL_law_826 : decode cL_law 826 = .ok (.aload_n 0, 1) := by decide +kernel
theorem dL_law_827 : decode cL_law 827 = .ok (.iload_n 3, 1) := by decide +kernel
theorem dL_law_828 : decode cL_law 828 = .ok (.iconst 2, 1) := by decide +kernel
theorem dL_law_829 : decode cL_law 829 = .ok (.iadd, 1) := by decide +kernel
theorem dL_law_830 : decode cL_law 830 = .ok (.iaload, 1) := by decide +kernel
theorem dL_law_831 : decode cL_law 831 = .ok (.invokevirtual 113, 3) := by decide +kernel
theorem dL_law_834 : decode cL_law 834 = .ok (.aload_n 2, 1) := by decide +kernel
theorem dL_law_835 : decode cL_law 835 = .ok (.aload_n 0, 1) := by decide +kernel
theorem dL_law_836 : decode cL_law 836 = .ok (.iload_n 3, 1) := by decide +kernel
theorem dL_law_837 : decode cL_law 837 = .ok (.iconst 1, 1) := by decide +kernel
theorem dL_law_838 : decode cL_law 838 = .ok (.iadd, 1) := by decide +kernel
theorem dL_law_839 : decode cL_law 839 = .ok (.iaload, 1) := by decide +kernel
theorem dL_law_840 : decode cL_law 840 = .ok (.aload_n 0, 1) := by decide +kernel
theorem dL_law_841 : decode cL_law 841 = .ok (.iload_n 3, 1) := by decide +kernel
theorem dL_law_842 : decode cL_law 842 = .ok (.iconst 2, 1) := by decide +kernel
theorem dL_law_843 : decode cL_law 843 = .ok (.iadd, 1) := by decide +kernel
theorem dL_law_844 : decode cL_law 844 = .ok (.iaload, 1) := by decide +kernel
theorem dL_law_845 : decode cL_law 845 = .ok (.invokevirtual 116, 3) := by decide +kernel
theorem dL_law_848 : decode cL_law 848 = .ok (.if_icmp .eq 255, 3) := by decide +kernel
theorem dL_law_851 : decode cL_law 851 = .ok (.iconst 0, 1) := by decide +kernel
theorem dL_law_852 : decode cL_law 852 = .ok (.ireturn, 1) := by decide +kernel
theorem dL_law_853 : decode cL_law 853 = .ok (.aload_n 1, 1) := by decide +kernel
theorem dL_law_854 : decode cL_law 854 = .ok (.aload_n 0, 1) := by decide +kernel
theorem dL_law_855 : decode cL_law 855 = .ok (.iload_n 3, 1) := by decide +kernel
theorem dL_law_856 : decode cL_law 856 = .ok (.iconst 1, 1) := by decide +kernel
theorem dL_law_857 : decode cL_law 857 = .ok (.iadd, 1) := by decide +kernel
theorem dL_law_858 : decode cL_law 858 = .ok (.iaload, 1) := by decide +kernel
theorem dL_law_859 : decode cL_law 859 = .ok (.aload_n 0, 1) := by decide +kernel
theorem dL_law_860 : decode cL_law 860 = .ok (.iload_n 3, 1) := by decide +kernel
theorem dL_law_861 : decode cL_law 861 = .ok (.iconst 2, 1) := by decide +kernel
theorem dL_law_862 : decode cL_law 862 = .ok (.iadd, 1) := by decide +kernel
theorem dL_law_863 : decode cL_law 863 = .ok (.iaload, 1) := by decide +kernel
theorem dL_law_864 : decode cL_law 864 = .ok (.invokevirtual 117, 3) := by decide +kernel
theorem dL_law_867 : decode cL_law 867 = .ok (.aload_n 2, 1) := by decide +kernel
theorem dL_law_868 : decode cL_law 868 = .ok (.aload_n 0, 1) := by decide +kernel
theorem dL_law_869 : decode cL_law 869 = .ok (.iload_n 3, 1) := by decide +kernel
theorem dL_law_870 : decode cL_law 870 = .ok (.iconst 1, 1) := by decide +kernel
theorem dL_law_871 : decode cL_law 871 = .ok (.iadd, 1) := by decide +kernel
theorem dL_law_872 : decode cL_law 872 = .ok (.iaload, 1) := by decide +kernel
theorem dL_law_873 : decode cL_law 873 = .ok (.aload_n 0, 1) := by decide +kernel
theorem dL_law_874 : decode cL_law 874 = .ok (.iload_n 3, 1) := by decide +kernel
theorem dL_law_875 : decode cL_law 875 = .ok (.iconst 2, 1) := by decide +kernel
theorem dL_law_876 : decode cL_law 876 = .ok (.iadd, 1) := by decide +kernel
theorem dL_law_877 : decode cL_law 877 = .ok (.iaload, 1) := by decide +kernel
theorem dL_law_878 : decode cL_law 878 = .ok (.invokevirtual 120, 3) := by decide +kernel
theorem dL_law_881 : decode cL_law 881 = .ok (.if_icmp .eq 222, 3) := by decide +kernel
theorem dL_law_884 : decode cL_law 884 = .ok (.iconst 0, 1) := by decide +kernel
theorem dL_law_885 : decode cL_law 885 = .ok (.ireturn, 1) := by decide +kernel
theorem dL_law_886 : decode cL_law 886 = .ok (.aload_n 1, 1) := by decide +kernel
theorem dL_law_887 : decode cL_law 887 = .ok (.aload_n 0, 1) := by decide +kernel
theorem dL_law_888 : decode cL_law 888 = .ok (.iload_n 3, 1) := by decide +kernel
theorem dL_law_889 : decode cL_law 889 = .ok (.iconst 1, 1) := by decide +kernel
theorem dL_law_890 : decode cL_law 890 = .ok (.iadd, 1) := by decide +kernel
theorem dL_law_891 : decode cL_law 891 = .ok (.iaload, 1) := by decide +kernel
theorem dL_law_892 : decode cL_law 892 = .ok (.aload_n 0, 1) := by decide +kernel
theorem dL_law_893 : decode cL_law 893 = .ok (.iload_n 3, 1) := by decide +kernel
theorem dL_law_894 : decode cL_law 894 = .ok (.iconst 2, 1) := by decide +kernel
theorem dL_law_895 : decode cL_law 895 = .ok (.iadd, 1) := by decide +kernel
theorem dL_law_896 : decode cL_law 896 = .ok (.iaload, 1) := by decide +kernel
theorem dL_law_897 : decode cL_law 897 = .ok (.aload_n 0, 1) := by decide +kernel
theorem dL_law_898 : decode cL_law 898 = .ok (.iload_n 3, 1) := by decide +kernel
theorem dL_law_899 : decode cL_law 899 = .ok (.iconst 3, 1) := by decide +kernel
theorem dL_law_900 : decode cL_law 900 = .ok (.iadd, 1) := by decide +kernel
theorem dL_law_901 : decode cL_law 901 = .ok (.iaload, 1) := by decide +kernel
theorem dL_law_902 : decode cL_law 902 = .ok (.invokevirtual 121, 3) := by decide +kernel
theorem dL_law_905 : decode cL_law 905 = .ok (.aload_n 2, 1) := by decide +kernel
theorem dL_law_906 : decode cL_law 906 = .ok (.aload_n 0, 1) := by decide +kernel
theorem dL_law_907 : decode cL_law 907 = .ok (.iload_n 3, 1) := by decide +kernel
theorem dL_law_908 : decode cL_law 908 = .ok (.iconst 1, 1) := by decide +kernel
theorem dL_law_909 : decode cL_law 909 = .ok (.iadd, 1) := by decide +kernel
theorem dL_law_910 : decode cL_law 910 = .ok (.iaload, 1) := by decide +kernel
theorem dL_law_911 : decode cL_law 911 = .ok (.aload_n 0, 1) := by decide +kernel
theorem dL_law_912 : decode cL_law 912 = .ok (.iload_n 3, 1) := by decide +kernel
theorem dL_law_913 : decode cL_law 913 = .ok (.iconst 2, 1) := by decide +kernel
theorem dL_law_914 : decode cL_law 914 = .ok (.iadd, 1) := by decide +kernel
theorem dL_law_915 : decode cL_law 915 = .ok (.iaload, 1) := by decide +kernel
theorem dL_law_916 : decode cL_law 916 = .ok (.aload_n 0, 1) := by decide +kernel
theorem dL_law_917 : decode cL_law 917 = .ok (.iload_n 3, 1) := by decide +kernel
theorem dL_law_918 : decode cL_law 918 = .ok (.iconst 3, 1) := by decide +kernel
theorem dL_law_919 : decode cL_law 919 = .ok (.iadd, 1) := by decide +kernel
theorem dL_law_920 : decode cL_law 920 = .ok (.iaload, 1) := by decide +kernel
theorem dL_law_921 : decode cL_law 921 = .ok (.invokevirtual 124, 3) := by decide +kernel
theorem dL_law_924 : decode cL_law 924 = .ok (.if_icmp .eq 179, 3) := by decide +kernel
theorem dL_law_927 : decode cL_law 927 = .ok (.iconst 0, 1) := by decide +kernel
theorem dL_law_928 : decode cL_law 928 = .ok (.ireturn, 1) := by decide +kernel
theorem dL_law_929 : decode cL_law 929 = .ok (.aload_n 1, 1) := by decide +kernel
theorem dL_law_930 : decode cL_law 930 = .ok (.aload_n 0, 1) := by decide +kernel
theorem dL_law_931 : decode cL_law 931 = .ok (.iload_n 3, 1) := by decide +kernel
theorem dL_law_932 : decode cL_law 932 = .ok (.iconst 1, 1) := by decide +kernel
theorem dL_law_933 : decode cL_law 933 = .ok (.iadd, 1) := by decide +kernel
theorem dL_law_934 : decode cL_law 934 = .ok (.iaload, 1) := by decide +kernel
theorem dL_law_935 : decode cL_law 935 = .ok (.invokevirtual 125, 3) := by decide +kernel
theorem dL_law_938 : decode cL_law 938 = .ok (.aload_n 2, 1) := by decide +kernel
theorem dL_law_939 : decode cL_law 939 = .ok (.aload_n 0, 1) := by decide +kernel
theorem dL_law_940 : decode cL_law 940 = .ok (.iload_n 3, 1) := by decide +kernel
theorem dL_law_941 : decode cL_law 941 = .ok (.iconst 1, 1) := by decide +kernel
theorem dL_law_942 : decode cL_law 942 = .ok (.iadd, 1) := by decide +kernel
theorem dL_law_943 : decode cL_law 943 = .ok (.iaload, 1) := by decide +kernel
theorem dL_law_944 : decode cL_law 944 = .ok (.invokevirtual 128, 3) := by decide +kernel
theorem dL_law_947 : decode cL_law 947 = .ok (.if_icmp .eq 156, 3) := by decide +kernel
theorem dL_law_950 : decode cL_law 950 = .ok (.iconst 0, 1) := by decide +kernel
theorem dL_law_951 : decode cL_law 951 = .ok (.ireturn, 1) := by decide +kernel
theorem dL_law_952 : decode cL_law 952 = .ok (.aload_n 1, 1) := by decide +kernel
theorem dL_law_953 : decode cL_law 953 = .ok (.aload_n 0, 1) := by decide +kernel
theorem dL_law_954 : decode cL_law 954 = .ok (.iload_n 3, 1) := by decide +kernel
theorem dL_law_955 : decode cL_law 955 = .ok (.iconst 1, 1) := by decide +kernel
theorem dL_law_956 : decode cL_law 956 = .ok (.iadd, 1) := by decide +kernel
theorem dL_law_957 : decode cL_law 957 = .ok (.iaload, 1) := by decide +kernel
theorem dL_law_958 : decode cL_law 958 = .ok (.invokevirtual 129, 3) := by decide +kernel
theorem dL_law_961 : decode cL_law 961 = .ok (.aload_n 2, 1) := by decide +kernel
theorem dL_law_962 : decode cL_law 962 = .ok (.aload_n 0, 1) := by decide +kernel
theorem dL_law_963 : decode cL_law 963 = .ok (.iload_n 3, 1) := by decide +kernel
theorem dL_law_964 : decode cL_law 964 = .ok (.iconst 1, 1) := by decide +kernel
theorem dL_law_965 : decode cL_law 965 = .ok (.iadd, 1) := by decide +kernel
theorem dL_law_966 : decode cL_law 966 = .ok (.iaload, 1) := by decide +kernel
theorem dL_law_967 : decode cL_law 967 = .ok (.invokevirtual 132, 3) := by decide +kernel
theorem dL_law_970 : decode cL_law 970 = .ok (.if_icmp .eq 133, 3) := by decide +kernel
theorem dL_law_973 : decode cL_law 973 = .ok (.iconst 0, 1) := by decide +kernel
theorem dL_law_974 : decode cL_law 974 = .ok (.ireturn, 1) := by decide +kernel
theorem dL_law_975 : decode cL_law 975 = .ok (.aload_n 1, 1) := by decide +kernel
theorem dL_law_976 : decode cL_law 976 = .ok (.aload_n 0, 1) := by decide +kernel
theorem dL_law_977 : decode cL_law 977 = .ok (.iload_n 3, 1) := by decide +kernel
theorem dL_law_978 : decode cL_law 978 = .ok (.iconst 1, 1) := by decide +kernel
theorem dL_law_979 : decode cL_law 979 = .ok (.iadd, 1) := by decide +kernel
theorem dL_law_980 : decode cL_law 980 = .ok (.iaload, 1) := by decide +kernel
theorem dL_law_981 : decode cL_law 981 = .ok (.aload_n 0, 1) := by decide +kernel
theorem dL_law_982 : decode cL_law 982 = .ok (.iload_n 3, 1) := by decide +kernel
theorem dL_law_983 : decode cL_law 983 = .ok (.iconst 2, 1) := by decide +kernel
theorem dL_law_984 : decode cL_law 984 = .ok (.iadd, 1) := by decide +kernel
theorem dL_law_985 : decode cL_law 985 = .ok (.iaload, 1) := by decide +kernel
theorem dL_law_986 : decode cL_law 986 = .ok (.invokevirtual 133, 3) := by decide +kernel
theorem dL_law_989 : decode cL_law 989 = .ok (.aload_n 2, 1) := by decide +kernel
theorem dL_law_990 : decode cL_law 990 = .ok (.aload_n 0, 1) := by decide +kernel
theorem dL_law_991 : decode cL_law 991 = .ok (.iload_n 3, 1) := by decide +kernel
theorem dL_law_992 : decode cL_law 992 = .ok (.iconst 1, 1) := by decide +kernel
theorem dL_law_993 : decode cL_law 993 = .ok (.iadd, 1) := by decide +kernel
theorem dL_law_994 : decode cL_law 994 = .ok (.iaload, 1) := by decide +kernel
theorem dL_law_995 : decode cL_law 995 = .ok (.aload_n 0, 1) := by decide +kernel
theorem dL_law_996 : decode cL_law 996 = .ok (.iload_n 3, 1) := by decide +kernel
theorem dL_law_997 : decode cL_law 997 = .ok (.iconst 2, 1) := by decide +kernel
theorem dL_law_998 : decode cL_law 998 = .ok (.iadd, 1) := by decide +kernel
theorem dL_law_999 : decode cL_law 999 = .ok (.iaload, 1) := by decide +kernel
theorem dL_law_1000 : decode cL_law 1000 = .ok (.invokevirtual 136, 3) := by decide +kernel
theorem dL_law_1003 : decode cL_law 1003 = .ok (.if_icmp .eq 100, 3) := by decide +kernel
theorem dL_law_1006 : decode cL_law 1006 = .ok (.iconst 0, 1) := by decide +kernel
theorem dL_law_1007 : decode cL_law 1007 = .ok (.ireturn, 1) := by decide +kernel
theorem dL_law_1008 : decode cL_law 1008 = .ok (.aload_n 1, 1) := by decide +kernel
theorem dL_law_1009 : decode cL_law 1009 = .ok (.invokevirtual 137, 3) := by decide +kernel
theorem dL_law_1012 : decode cL_law 1012 = .ok (.aload_n 2, 1) := by decide +kernel
theorem dL_law_1013 : decode cL_law 1013 = .ok (.invokevirtual 140, 3) := by decide +kernel
theorem dL_law_1016 : decode cL_law 1016 = .ok (.if_icmp .eq 87, 3) := by decide +kernel
theorem dL_law_1019 : decode cL_law 1019 = .ok (.iconst 0, 1) := by decide +kernel
theorem dL_law_1020 : decode cL_law 1020 = .ok (.ireturn, 1) := by decide +kernel
theorem dL_law_1021 : decode cL_law 1021 = .ok (.aload_n 1, 1) := by decide +kernel
theorem dL_law_1022 : decode cL_law 1022 = .ok (.invokevirtual 141, 3) := by decide +kernel
theorem dL_law_1025 : decode cL_law 1025 = .ok (.aload_n 2, 1) := by decide +kernel
theorem dL_law_1026 : decode cL_law 1026 = .ok (.invokevirtual 144, 3) := by decide +kernel
theorem dL_law_1029 : decode cL_law 1029 = .ok (.if_icmp .eq 74, 3) := by decide +kernel
theorem dL_law_1032 : decode cL_law 1032 = .ok (.iconst 0, 1) := by decide +kernel
theorem dL_law_1033 : decode cL_law 1033 = .ok (.ireturn, 1) := by decide +kernel
theorem dL_law_1034 : decode cL_law 1034 = .ok (.aload_n 1, 1) := by decide +kernel
theorem dL_law_1035 : decode cL_law 1035 = .ok (.aload_n 0, 1) := by decide +kernel
theorem dL_law_1036 : decode cL_law 1036 = .ok (.iload_n 3, 1) := by decide +kernel
theorem dL_law_1037 : decode cL_law 1037 = .ok (.iconst 1, 1) := by decide +kernel
theorem dL_law_1038 : decode cL_law 1038 = .ok (.iadd, 1) := by decide +kernel
theorem dL_law_1039 : decode cL_law 1039 = .ok (.iaload, 1) := by decide +kernel
theorem dL_law_1040 : decode cL_law 1040 = .ok (.invokevirtual 145, 3) := by decide +kernel
theorem dL_law_1043 : decode cL_law 1043 = .ok (.aload_n 2, 1) := by decide +kernel
theorem dL_law_1044 : decode cL_law 1044 = .ok (.aload_n 0, 1) := by decide +kernel
theorem dL_law_1045 : decode cL_law 1045 = .ok (.iload_n 3, 1) := by decide +kernel
theorem dL_law_1046 : decode cL_law 1046 = .ok (.iconst 1, 1) := by decide +kernel
theorem dL_law_1047 : decode cL_law 1047 = .ok (.iadd, 1) := by decide +kernel
theorem dL_law_1048 : decode cL_law 1048 = .ok (.iaload, 1) := by decide +kernel
theorem dL_law_1049 : decode cL_law 1049 = .ok (.invokevirtual 148, 3) := by decide +kernel
theorem dL_law_1052 : decode cL_law 1052 = .ok (.if_icmp .eq 51, 3) := by decide +kernel
theorem dL_law_1055 : decode cL_law 1055 = .ok (.iconst 0, 1) := by decide +kernel
theorem dL_law_1056 : decode cL_law 1056 = .ok (.ireturn, 1) := by decide +kernel
theorem dL_law_1057 : decode cL_law 1057 = .ok (.aload_n 1, 1) := by decide +kernel
theorem dL_law_1058 : decode cL_law 1058 = .ok (.aload_n 0, 1) := by decide +kernel
theorem dL_law_1059 : decode cL_law 1059 = .ok (.iload_n 3, 1) := by decide +kernel
theorem dL_law_1060 : decode cL_law 1060 = .ok (.iconst 1, 1) := by decide +kernel
theorem dL_law_1061 : decode cL_law 1061 = .ok (.iadd, 1) := by decide +kernel
theorem dL_law_1062 : decode cL_law 1062 = .ok (.iaload, 1) := by decide +kernel
theorem dL_law_1063 : decode cL_law 1063 = .ok (.invokevirtual 149, 3) := by decide +kernel
theorem dL_law_1066 : decode cL_law 1066 = .ok (.aload_n 2, 1) := by decide +kernel
theorem dL_law_1067 : decode cL_law 1067 = .ok (.aload_n 0, 1) := by decide +kernel
theorem dL_law_1068 : decode cL_law 1068 = .ok (.iload_n 3, 1) := by decide +kernel
theorem dL_law_1069 : decode cL_law 1069 = .ok (.iconst 1, 1) := by decide +kernel
theorem dL_law_1070 : decode cL_law 1070 = .ok (.iadd, 1) := by decide +kernel
theorem dL_law_1071 : decode cL_law 1071 = .ok (.iaload, 1) := by decide +kernel
theorem dL_law_1072 : decode cL_law 1072 = .ok (.invokevirtual 152, 3) := by decide +kernel
theorem dL_law_1075 : decode cL_law 1075 = .ok (.if_icmp .eq 28, 3) := by decide +kernel
theorem dL_law_1078 : decode cL_law 1078 = .ok (.iconst 0, 1) := by decide +kernel
theorem dL_law_1079 : decode cL_law 1079 = .ok (.ireturn, 1) := by decide +kernel
theorem dL_law_1080 : decode cL_law 1080 = .ok (.aload_n 1, 1) := by decide +kernel
theorem dL_law_1081 : decode cL_law 1081 = .ok (.aload_n 0, 1) := by decide +kernel
theorem dL_law_1082 : decode cL_law 1082 = .ok (.iload_n 3, 1) := by decide +kernel
theorem dL_law_1083 : decode cL_law 1083 = .ok (.iconst 1, 1) := by decide +kernel
theorem dL_law_1084 : decode cL_law 1084 = .ok (.iadd, 1) := by decide +kernel
theorem dL_law_1085 : decode cL_law 1085 = .ok (.iaload, 1) := by decide +kernel
theorem dL_law_1086 : decode cL_law 1086 = .ok (.invokevirtual 153, 3) := by decide +kernel
theorem dL_law_1089 : decode cL_law 1089 = .ok (.aload_n 2, 1) := by decide +kernel
theorem dL_law_1090 : decode cL_law 1090 = .ok (.aload_n 0, 1) := by decide +kernel
theorem dL_law_1091 : decode cL_law 1091 = .ok (.iload_n 3, 1) := by decide +kernel
theorem dL_law_1092 : decode cL_law 1092 = .ok (.iconst 1, 1) := by decide +kernel
theorem dL_law_1093 : decode cL_law 1093 = .ok (.iadd, 1) := by decide +kernel
theorem dL_law_1094 : decode cL_law 1094 = .ok (.iaload, 1) := by decide +kernel
theorem dL_law_1095 : decode cL_law 1095 = .ok (.invokevirtual 156, 3) := by decide +kernel
theorem dL_law_1098 : decode cL_law 1098 = .ok (.if_icmp .eq 5, 3) := by decide +kernel
theorem dL_law_1101 : decode cL_law 1101 = .ok (.iconst 0, 1) := by decide +kernel
theorem dL_law_1102 : decode cL_law 1102 = .ok (.ireturn, 1) := by decide +kernel
theorem dL_law_1103 : decode cL_law 1103 = .ok (.iinc 3 4, 3) := by decide +kernel
theorem dL_law_1106 : decode cL_law 1106 = .ok (.goto (-1088), 3) := by decide +kernel
theorem dL_law_1109 : decode cL_law 1109 = .ok (.iconst 1, 1) := by decide +kernel
theorem dL_law_1110 : decode cL_law 1110 = .ok (.ireturn, 1) := by decide +kernel
