def wsL_law_r1 : List Cond := [Cond.classLink RL 7 RX6, Cond.instantiable RX6 8, Cond.initialized RX6, Cond.classLink RL 10 RX7, Cond.instantiable RX7 26, Cond.initialized RX7, Cond.methodLink RL 9 yX6_init, Cond.instanceMethod yX6_init, Cond.code yX6_init cX6_init 2 none, Cond.methodLink RX6 1 objectInit, Cond.instanceMethod objectInit, Cond.code objectInit ⟨#[0xb1]⟩ 1 none, Cond.classLink RX6 7 RX1, Cond.instantiable RX1 18, Cond.initialized RX1, Cond.fieldLink RX6 10 "PauseRegions" "heap" "LPauseRegions$Heap;", Cond.fieldLink RX6 16 "PauseRegions" "trial" "LPauseRegions$Heap;", Cond.classLink RX6 19 RX2, Cond.instantiable RX2 3, Cond.initialized RX2, Cond.fieldLink RX6 22 "PauseRegions" "history" "LPauseRegions$History;", Cond.fieldLink RX6 26 "PauseRegions" "images" "[LPauseRegions$Heap;", Cond.arrayClass .boolean, Cond.fieldLink RX6 30 "PauseRegions" "kept" "[Z"]
def wsL_law_r2 : List Cond := [Cond.classLink RX6 34 RX0, Cond.instantiable RX0 3, Cond.initialized RX0, Cond.fieldLink RX6 37 "PauseRegions" "choice" "LPauseRegions$Choice;", Cond.classLink RX6 41 RX3, Cond.instantiable RX3 8, Cond.initialized RX3, Cond.fieldLink RX6 44 "PauseRegions" "pause" "LPauseRegions$Pause;", Cond.classLink RX6 48 RX4, Cond.instantiable RX4 3, Cond.initialized RX4, Cond.fieldLink RX6 51 "PauseRegions" "reach" "LPauseRegions$Reach;", Cond.methodLink RX6 9 yX1_init, Cond.instanceMethod yX1_init, Cond.code yX1_init cX1_init 1 none, Cond.methodLink RX1 3 objectInit, Cond.arrayClass .int, Cond.fieldLink RX1 9 "PauseRegions$Heap" "kind" "[I", Cond.fieldLink RX1 15 "PauseRegions$Heap" "top" "[I", Cond.fieldLink RX1 18 "PauseRegions$Heap" "live" "[I", Cond.fieldLink RX1 21 "PauseRegions$Heap" "memory" "[I", Cond.fieldLink RX1 24 "PauseRegions$Heap" "size" "[I", Cond.fieldLink RX1 27 "PauseRegions$Heap" "place" "[I", Cond.fieldLink RX1 30 "PauseRegions$Heap" "cell" "[I"]
def wsL_law_r3 : List Cond := [Cond.fieldLink RX1 33 "PauseRegions$Heap" "fields" "[I", Cond.fieldLink RX1 36 "PauseRegions$Heap" "colour" "[I", Cond.fieldLink RX1 39 "PauseRegions$Heap" "roots" "[I", Cond.classLink RX1 42 RX5, Cond.instantiable RX5 2, Cond.initialized RX5, Cond.fieldLink RX1 45 "PauseRegions$Heap" "dirtyCards" "LPauseRegions$Row;", Cond.fieldLink RX1 49 "PauseRegions$Heap" "greyThings" "LPauseRegions$Row;", Cond.fieldLink RX1 52 "PauseRegions$Heap" "latestYoung" "I", Cond.fieldLink RX1 56 "PauseRegions$Heap" "rate" "F", Cond.constantFloat RX1 60 (1056964608), Cond.fieldLink RX1 61 "PauseRegions$Heap" "yielded" "F", Cond.fieldLink RX1 64 "PauseRegions$Heap" "lastCost" "I", Cond.instanceMethod yX5_init, Cond.code yX5_init cX5_init 1 none, Cond.methodLink RX5 3 objectInit, Cond.fieldLink RX5 9 "PauseRegions$Row" "items" "[I", Cond.methodLink RX1 67 yJ7_fill_53178, Cond.static yJ7_fill_53178, Cond.initialized RJ7, Cond.code yJ7_fill_53178 cJ7_fill_53178 4 none, Cond.methodLink RX6 21 yX2_init, Cond.instanceMethod yX2_init, Cond.code yX2_init cX2_init 2 none]
def wsL_law_r4 : List Cond := [Cond.methodLink RX2 3 objectInit, Cond.classLink RX2 9 RX1, Cond.fieldLink RX2 11 "PauseRegions$History" "past" "[LPauseRegions$Heap;", Cond.methodLink RX2 17 yX1_init, Cond.instanceMethod yX0_init, Cond.code yX0_init cX0_init 1 none, Cond.methodLink RX0 3 objectInit, Cond.instanceMethod yX3_init, Cond.code yX3_init cX3_init 1 none, Cond.methodLink RX3 3 objectInit, Cond.classLink RX3 9 RX0, Cond.fieldLink RX3 12 "PauseRegions$Pause" "choice" "LPauseRegions$Choice;", Cond.classLink RX3 18 RX5, Cond.fieldLink RX3 21 "PauseRegions$Pause" "found" "LPauseRegions$Row;", Cond.instanceMethod yX4_init, Cond.code yX4_init cX4_init 1 none, Cond.methodLink RX4 3 objectInit, Cond.fieldLink RX4 9 "PauseRegions$Reach" "far" "[I", Cond.classLink RX4 15 RX5, Cond.fieldLink RX4 18 "PauseRegions$Reach" "waiting" "LPauseRegions$Row;", Cond.methodLink RL 12 yX7_init, Cond.instanceMethod yX7_init, Cond.code yX7_init cX7_init 2 none, Cond.methodLink RX7 1 objectInit]
def wsL_law_r5 : List Cond := [Cond.fieldLink RX7 7 "PauseRegionsModel" "s" "[I", Cond.arrayClass .float, Cond.fieldLink RX7 13 "PauseRegionsModel" "learnt" "[F", Cond.fieldLink RX7 17 "PauseRegionsModel" "past" "[I", Cond.fieldLink RX7 20 "PauseRegionsModel" "pastLearnt" "[F", Cond.fieldLink RX7 23 "PauseRegionsModel" "kept" "[I", Cond.fieldLink RX7 26 "PauseRegionsModel" "keptLearnt" "[F", Cond.fieldLink RX7 29 "PauseRegionsModel" "isKept" "[Z", Cond.fieldLink RX7 33 "PauseRegionsModel" "spare" "[I", Cond.fieldLink RX7 36 "PauseRegionsModel" "spareLearnt" "[F", Cond.fieldLink RX7 39 "PauseRegionsModel" "row" "[I", Cond.fieldLink RX7 42 "PauseRegionsModel" "isFound" "[Z", Cond.fieldLink RX7 45 "PauseRegionsModel" "lay" "[I", Cond.fieldLink RX7 48 "PauseRegionsModel" "far" "[I", Cond.fieldLink RX7 51 "PauseRegionsModel" "leads" "[Z", Cond.constantFloat RX7 54 (1056964608), Cond.methodLink RL 13 yX6_makes, Cond.instanceMethod yX6_makes, Cond.selects RX6 yX6_makes yX6_makes, Cond.code yX6_makes cX6_makes 5 (some .int), Cond.fieldLink RX6 79 "PauseRegions$Heap" "roots" "[I", Cond.methodLink RX6 55 yX6_within, Cond.static yX6_within, Cond.code yX6_within cX6_within 3 (some .boolean)]
def wsL_law_r6 : List Cond := [Cond.methodLink RX6 59 yX6_isRoot, Cond.static yX6_isRoot, Cond.code yX6_isRoot cX6_isRoot 1 (some .boolean), Cond.methodLink RX6 63 yX1_unusedNumber, Cond.instanceMethod yX1_unusedNumber, Cond.selects RX1 yX1_unusedNumber yX1_unusedNumber, Cond.code yX1_unusedNumber cX1_unusedNumber 2 (some .int), Cond.methodLink RX1 90 yX1_isThere, Cond.instanceMethod yX1_isThere, Cond.selects RX1 yX1_isThere yX1_isThere, Cond.code yX1_isThere cX1_isThere 2 (some .boolean), Cond.methodLink RX6 67 yX1_roomFor, Cond.instanceMethod yX1_roomFor, Cond.selects RX1 yX1_roomFor yX1_roomFor, Cond.code yX1_roomFor cX1_roomFor 2 (some .int), Cond.methodLink RX1 98 yX1_regionsFor, Cond.instanceMethod yX1_regionsFor, Cond.selects RX1 yX1_regionsFor yX1_regionsFor, Cond.code yX1_regionsFor cX1_regionsFor 2 (some .int), Cond.methodLink RX1 102 yX1_freeRow, Cond.instanceMethod yX1_freeRow, Cond.selects RX1 yX1_freeRow yX1_freeRow, Cond.code yX1_freeRow cX1_freeRow 4 (some .int), Cond.methodLink RX1 105 yX1_hasRoom]
def wsL_law_r7 : List Cond := [Cond.instanceMethod yX1_hasRoom, Cond.selects RX1 yX1_hasRoom yX1_hasRoom, Cond.code yX1_hasRoom cX1_hasRoom 3 (some .boolean), Cond.methodLink RX6 71 yX2_push, Cond.instanceMethod yX2_push, Cond.selects RX2 yX2_push yX2_push, Cond.code yX2_push cX2_push 2 none, Cond.fieldLink RX2 18 "PauseRegions$History" "next" "I", Cond.fieldLink RX2 26 "PauseRegions$History" "known" "I", Cond.methodLink RX2 29 Lib.Math.min.name, Cond.static Lib.Math.min.name, Cond.initialized "java/lang/Math", Cond.code Lib.Math.min.name Lib.Math.min.code 2 (some .int), Cond.methodLink RX2 22 yX1_becomeLike, Cond.instanceMethod yX1_becomeLike, Cond.selects RX1 yX1_becomeLike yX1_becomeLike, Cond.code yX1_becomeLike cX1_becomeLike 2 none, Cond.methodLink RX1 73 arraycopyName, Cond.native arraycopyName, Cond.static arraycopyName, Cond.initialized "java/lang/System", Cond.fieldLink RX1 83 "PauseRegions$Heap" "marking" "Z", Cond.fieldLink RX1 87 "PauseRegions$Heap" "pauseCount" "I", Cond.methodLink RX1 79 yX5_becomeLike]
def wsL_law_r8 : List Cond := [Cond.instanceMethod yX5_becomeLike, Cond.selects RX5 yX5_becomeLike yX5_becomeLike, Cond.code yX5_becomeLike cX5_becomeLike 2 none, Cond.methodLink RX5 15 arraycopyName, Cond.fieldLink RX5 21 "PauseRegions$Row" "length" "I", Cond.methodLink RX6 75 yX1_makeThing, Cond.instanceMethod yX1_makeThing, Cond.selects RX1 yX1_makeThing yX1_makeThing, Cond.code yX1_makeThing cX1_makeThing 4 none, Cond.methodLink RX1 108 yX1_takeRegions, Cond.instanceMethod yX1_takeRegions, Cond.selects RX1 yX1_takeRegions yX1_takeRegions, Cond.code yX1_takeRegions cX1_takeRegions 4 none, Cond.methodLink RX1 112 yX1_layAtTop, Cond.instanceMethod yX1_layAtTop, Cond.selects RX1 yX1_layAtTop yX1_layAtTop, Cond.code yX1_layAtTop cX1_layAtTop 3 none, Cond.methodLink RL 17 yX7_makes, Cond.instanceMethod yX7_makes, Cond.selects RX7 yX7_makes yX7_makes, Cond.code yX7_makes cX7_makes 7 (some .int), Cond.fieldLink RX7 55 "PauseRegionsModel" "thrown" "I", Cond.methodLink RX7 59 yX7_in, Cond.static yX7_in]
def wsL_law_r9 : List Cond := [Cond.code yX7_in cX7_in 3 (some .boolean), Cond.methodLink RX7 105 yX7_isRoot, Cond.static yX7_isRoot, Cond.code yX7_isRoot cX7_isRoot 1 (some .boolean), Cond.methodLink RX7 108 yX7_lowestNumber, Cond.instanceMethod yX7_lowestNumber, Cond.selects RX7 yX7_lowestNumber yX7_lowestNumber, Cond.code yX7_lowestNumber cX7_lowestNumber 2 (some .int), Cond.methodLink RX7 81 yX7_isThing, Cond.instanceMethod yX7_isThing, Cond.selects RX7 yX7_isThing yX7_isThing, Cond.code yX7_isThing cX7_isThing 2 (some .boolean), Cond.methodLink RX7 67 yX7_ofRegion, Cond.instanceMethod yX7_ofRegion, Cond.selects RX7 yX7_ofRegion yX7_ofRegion, Cond.code yX7_ofRegion cX7_ofRegion 3 (some .int), Cond.methodLink RX7 112 yX7_lowestFree, Cond.instanceMethod yX7_lowestFree, Cond.selects RX7 yX7_lowestFree yX7_lowestFree, Cond.code yX7_lowestFree cX7_lowestFree 5 (some .int), Cond.methodLink RX7 115 yX7_notes, Cond.instanceMethod yX7_notes, Cond.selects RX7 yX7_notes yX7_notes, Cond.code yX7_notes cX7_notes 2 none]
def wsL_law_r10 : List Cond := [Cond.fieldLink RX7 70 "PauseRegionsModel" "undos" "I", Cond.methodLink RX7 118 yX7_makesSmall, Cond.instanceMethod yX7_makesSmall, Cond.selects RX7 yX7_makesSmall yX7_makesSmall, Cond.code yX7_makesSmall cX7_makesSmall 4 none, Cond.methodLink RX7 88 yX7_setsRegion, Cond.instanceMethod yX7_setsRegion, Cond.selects RX7 yX7_setsRegion yX7_setsRegion, Cond.code yX7_setsRegion cX7_setsRegion 4 none, Cond.methodLink RX7 101 yX7_lies, Cond.instanceMethod yX7_lies, Cond.selects RX7 yX7_lies yX7_lies, Cond.code yX7_lies cX7_lies 5 none, Cond.methodLink RX7 121 yX7_makesBig, Cond.instanceMethod yX7_makesBig, Cond.selects RX7 yX7_makesBig yX7_makesBig, Cond.code yX7_makesBig cX7_makesBig 5 none, Cond.methodLink RL 18 yX6_writes, Cond.instanceMethod yX6_writes, Cond.selects RX6 yX6_writes yX6_writes, Cond.code yX6_writes cX6_writes 4 (some .int), Cond.methodLink RX6 83 yX6_isRootOrNil, Cond.static yX6_isRootOrNil, Cond.code yX6_isRootOrNil cX6_isRootOrNil 1 (some .boolean)]
def wsL_law_r11 : List Cond := [Cond.methodLink RX6 86 yX1_ofRoot, Cond.instanceMethod yX1_ofRoot, Cond.selects RX1 yX1_ofRoot yX1_ofRoot, Cond.code yX1_ofRoot cX1_ofRoot 2 (some .int), Cond.methodLink RX6 89 yX1_writeField, Cond.instanceMethod yX1_writeField, Cond.selects RX1 yX1_writeField yX1_writeField, Cond.code yX1_writeField cX1_writeField 5 (some .boolean), Cond.methodLink RX1 115 yX1_fieldOf, Cond.instanceMethod yX1_fieldOf, Cond.selects RX1 yX1_fieldOf yX1_fieldOf, Cond.code yX1_fieldOf cX1_fieldOf 3 (some .int), Cond.methodLink RX1 119 yX1_becomeGrey, Cond.instanceMethod yX1_becomeGrey, Cond.selects RX1 yX1_becomeGrey yX1_becomeGrey, Cond.code yX1_becomeGrey cX1_becomeGrey 2 none, Cond.methodLink RX1 126 yX5_append, Cond.instanceMethod yX5_append, Cond.selects RX5 yX5_append yX5_append, Cond.code yX5_append cX5_append 3 (some .boolean), Cond.methodLink RX1 123 yX1_cardOfThing, Cond.instanceMethod yX1_cardOfThing, Cond.selects RX1 yX1_cardOfThing yX1_cardOfThing, Cond.code yX1_cardOfThing cX1_cardOfThing 2 (some .int)]
def wsL_law_r12 : List Cond := [Cond.static yX6_cardOf, Cond.code yX6_cardOf cX6_cardOf 2 (some .int), Cond.methodLink RL 22 yX7_writes, Cond.instanceMethod yX7_writes, Cond.selects RX7 yX7_writes yX7_writes, Cond.code yX7_writes cX7_writes 7 (some .int), Cond.methodLink RX7 63 yX7_ofThing, Cond.instanceMethod yX7_ofThing, Cond.selects RX7 yX7_ofThing yX7_ofThing, Cond.code yX7_ofThing cX7_ofThing 3 (some .int), Cond.methodLink RX7 124 yX7_becomesGrey, Cond.instanceMethod yX7_becomesGrey, Cond.selects RX7 yX7_becomesGrey yX7_becomesGrey, Cond.code yX7_becomesGrey cX7_becomesGrey 2 none, Cond.methodLink RX7 127 yX7_kindOf, Cond.instanceMethod yX7_kindOf, Cond.selects RX7 yX7_kindOf yX7_kindOf, Cond.code yX7_kindOf cX7_kindOf 2 (some .int), Cond.methodLink RX7 84 yX7_cardOf, Cond.instanceMethod yX7_cardOf, Cond.selects RX7 yX7_cardOf yX7_cardOf, Cond.code yX7_cardOf cX7_cardOf 2 (some .int), Cond.methodLink RX7 73 yX7_isDirty, Cond.instanceMethod yX7_isDirty]
def wsL_law_r13 : List Cond := [Cond.selects RX7 yX7_isDirty yX7_isDirty, Cond.code yX7_isDirty cX7_isDirty 4 (some .boolean), Cond.methodLink RX7 130 yX7_becomesDirty, Cond.instanceMethod yX7_becomesDirty, Cond.selects RX7 yX7_becomesDirty yX7_becomesDirty, Cond.code yX7_becomesDirty cX7_becomesDirty 2 none, Cond.methodLink RL 23 yX6_takes, Cond.instanceMethod yX6_takes, Cond.selects RX6 yX6_takes yX6_takes, Cond.code yX6_takes cX6_takes 4 (some .int), Cond.methodLink RX6 92 yX1_fieldOf, Cond.methodLink RL 26 yX7_takes, Cond.instanceMethod yX7_takes, Cond.selects RX7 yX7_takes yX7_takes, Cond.code yX7_takes cX7_takes 5 (some .int), Cond.methodLink RL 27 yX6_sets, Cond.instanceMethod yX6_sets, Cond.selects RX6 yX6_sets yX6_sets, Cond.code yX6_sets cX6_sets 4 (some .int), Cond.methodLink RL 30 yX7_sets, Cond.instanceMethod yX7_sets, Cond.selects RX7 yX7_sets yX7_sets, Cond.code yX7_sets cX7_sets 4 (some .int), Cond.methodLink RL 31 yX6_refines]
def wsL_law_r14 : List Cond := [Cond.instanceMethod yX6_refines, Cond.selects RX6 yX6_refines yX6_refines, Cond.code yX6_refines cX6_refines 2 (some .int), Cond.fieldLink RX6 96 "PauseRegions$Heap" "dirtyCards" "LPauseRegions$Row;", Cond.fieldLink RX6 100 "PauseRegions$Row" "length" "I", Cond.methodLink RX6 106 yX1_refineOldest, Cond.instanceMethod yX1_refineOldest, Cond.selects RX1 yX1_refineOldest yX1_refineOldest, Cond.code yX1_refineOldest cX1_refineOldest 4 (some .int), Cond.fieldLink RX1 132 "PauseRegions$Row" "length" "I", Cond.methodLink RX1 135 yX5_itemAt, Cond.instanceMethod yX5_itemAt, Cond.selects RX5 yX5_itemAt yX5_itemAt, Cond.code yX5_itemAt cX5_itemAt 2 (some .int), Cond.methodLink RX1 138 yX1_refineCard, Cond.instanceMethod yX1_refineCard, Cond.selects RX1 yX1_refineCard yX1_refineCard, Cond.code yX1_refineCard cX1_refineCard 3 none, Cond.methodLink RX1 141 yX5_drop, Cond.instanceMethod yX5_drop, Cond.selects RX5 yX5_drop yX5_drop, Cond.code yX5_drop cX5_drop 4 none, Cond.methodLink RX1 144 yX1_isOn, Cond.instanceMethod yX1_isOn]
def wsL_law_r15 : List Cond := [Cond.selects RX1 yX1_isOn yX1_isOn, Cond.code yX1_isOn cX1_isOn 3 (some .boolean), Cond.methodLink RX1 147 yX1_noteField, Cond.instanceMethod yX1_noteField, Cond.selects RX1 yX1_noteField yX1_noteField, Cond.code yX1_noteField cX1_noteField 3 none, Cond.static yX6_regionOfCard, Cond.code yX6_regionOfCard cX6_regionOfCard 1 (some .int), Cond.methodLink RL 35 yX7_refines, Cond.instanceMethod yX7_refines, Cond.selects RX7 yX7_refines yX7_refines, Cond.code yX7_refines cX7_refines 4 (some .int), Cond.methodLink RX7 133 yX7_refinesOne, Cond.instanceMethod yX7_refinesOne, Cond.selects RX7 yX7_refinesOne yX7_refinesOne, Cond.code yX7_refinesOne cX7_refinesOne 5 none, Cond.methodLink RX7 77 yX7_leaves, Cond.instanceMethod yX7_leaves, Cond.selects RX7 yX7_leaves yX7_leaves, Cond.code yX7_leaves cX7_leaves 5 none, Cond.methodLink RL 36 yX6_begins, Cond.instanceMethod yX6_begins, Cond.selects RX6 yX6_begins yX6_begins, Cond.code yX6_begins cX6_begins 1 (some .int)]
def wsL_law_r16 : List Cond := [Cond.fieldLink RX6 109 "PauseRegions$Heap" "marking" "Z", Cond.fieldLink RX6 116 "PauseRegions$Heap" "greyThings" "LPauseRegions$Row;", Cond.methodLink RX6 113 yX1_beginMarking, Cond.instanceMethod yX1_beginMarking, Cond.selects RX1 yX1_beginMarking yX1_beginMarking, Cond.code yX1_beginMarking cX1_beginMarking 2 none, Cond.methodLink RX1 159 yX1_endMarkingIfNoneGrey, Cond.instanceMethod yX1_endMarkingIfNoneGrey, Cond.selects RX1 yX1_endMarkingIfNoneGrey yX1_endMarkingIfNoneGrey, Cond.code yX1_endMarkingIfNoneGrey cX1_endMarkingIfNoneGrey 2 none, Cond.methodLink RX1 162 yX1_blackCells, Cond.instanceMethod yX1_blackCells, Cond.selects RX1 yX1_blackCells yX1_blackCells, Cond.code yX1_blackCells cX1_blackCells 4 (some .int), Cond.methodLink RX1 94 yX1_isIn, Cond.instanceMethod yX1_isIn, Cond.selects RX1 yX1_isIn yX1_isIn, Cond.code yX1_isIn cX1_isIn 3 (some .boolean), Cond.methodLink RX1 165 yX1_endThingsIn, Cond.instanceMethod yX1_endThingsIn, Cond.selects RX1 yX1_endThingsIn yX1_endThingsIn, Cond.code yX1_endThingsIn cX1_endThingsIn 3 none, Cond.methodLink RX1 171 yX1_endThing, Cond.instanceMethod yX1_endThing]
def wsL_law_r17 : List Cond := [Cond.selects RX1 yX1_endThing yX1_endThing, Cond.code yX1_endThing cX1_endThing 3 none, Cond.methodLink RX1 168 yX1_freeWithRests, Cond.instanceMethod yX1_freeWithRests, Cond.selects RX1 yX1_freeWithRests yX1_freeWithRests, Cond.code yX1_freeWithRests cX1_freeWithRests 4 none, Cond.methodLink RX1 153 yX1_freeOne, Cond.instanceMethod yX1_freeOne, Cond.selects RX1 yX1_freeOne yX1_freeOne, Cond.code yX1_freeOne cX1_freeOne 3 none, Cond.static yX6_cardsOf, Cond.code yX6_cardsOf cX6_cardsOf 1 (some .int), Cond.methodLink RL 40 yX7_begins, Cond.instanceMethod yX7_begins, Cond.selects RX7 yX7_begins yX7_begins, Cond.code yX7_begins cX7_begins 2 (some .int), Cond.methodLink RX7 146 yX7_ends, Cond.instanceMethod yX7_ends, Cond.selects RX7 yX7_ends yX7_ends, Cond.code yX7_ends cX7_ends 3 none, Cond.methodLink RX7 136 yX7_blackCells, Cond.instanceMethod yX7_blackCells, Cond.selects RX7 yX7_blackCells yX7_blackCells, Cond.code yX7_blackCells cX7_blackCells 4 (some .int)]
def wsL_law_r18 : List Cond := [Cond.methodLink RX7 139 yX7_emptied, Cond.instanceMethod yX7_emptied, Cond.selects RX7 yX7_emptied yX7_emptied, Cond.code yX7_emptied cX7_emptied 4 none, Cond.methodLink RX7 98 yX7_isNoMore, Cond.instanceMethod yX7_isNoMore, Cond.selects RX7 yX7_isNoMore yX7_isNoMore, Cond.code yX7_isNoMore cX7_isNoMore 4 none, Cond.methodLink RX7 143 yX7_becomesFree, Cond.instanceMethod yX7_becomesFree, Cond.selects RX7 yX7_becomesFree yX7_becomesFree, Cond.code yX7_becomesFree cX7_becomesFree 4 none, Cond.methodLink RX7 95 yX7_becomesFreeAlone, Cond.instanceMethod yX7_becomesFreeAlone, Cond.selects RX7 yX7_becomesFreeAlone yX7_becomesFreeAlone, Cond.code yX7_becomesFreeAlone cX7_becomesFreeAlone 3 none, Cond.methodLink RX7 91 yX7_becomesClean, Cond.instanceMethod yX7_becomesClean, Cond.selects RX7 yX7_becomesClean yX7_becomesClean, Cond.code yX7_becomesClean cX7_becomesClean 3 none, Cond.methodLink RL 41 yX6_steps, Cond.instanceMethod yX6_steps, Cond.selects RX6 yX6_steps yX6_steps, Cond.code yX6_steps cX6_steps 3 (some .int)]
def wsL_law_r19 : List Cond := [Cond.methodLink RX6 119 yX1_markOldest, Cond.instanceMethod yX1_markOldest, Cond.selects RX1 yX1_markOldest yX1_markOldest, Cond.code yX1_markOldest cX1_markOldest 2 none, Cond.methodLink RL 44 yX7_steps, Cond.instanceMethod yX7_steps, Cond.selects RX7 yX7_steps yX7_steps, Cond.code yX7_steps cX7_steps 3 (some .int), Cond.methodLink RX7 149 yX7_step, Cond.instanceMethod yX7_step, Cond.selects RX7 yX7_step yX7_step, Cond.code yX7_step cX7_step 2 none, Cond.methodLink RL 45 yX6_pauses, Cond.instanceMethod yX6_pauses, Cond.selects RX6 yX6_pauses yX6_pauses, Cond.code yX6_pauses cX6_pauses 2 (some .int), Cond.methodLink RX6 122 yX6_isGoal, Cond.static yX6_isGoal, Cond.code yX6_isGoal cX6_isGoal 1 (some .boolean), Cond.methodLink RX6 125 yX3_run, Cond.instanceMethod yX3_run, Cond.selects RX3 yX3_run yX3_run, Cond.code yX3_run cX3_run 3 (some .int), Cond.methodLink RX3 25 yX3_forgetLast]
def wsL_law_r20 : List Cond := [Cond.instanceMethod yX3_forgetLast, Cond.selects RX3 yX3_forgetLast yX3_forgetLast, Cond.code yX3_forgetLast cX3_forgetLast 1 none, Cond.fieldLink RX3 58 "PauseRegions$Row" "length" "I", Cond.fieldLink RX3 62 "PauseRegions$Pause" "target" "I", Cond.fieldLink RX3 65 "PauseRegions$Pause" "scanned" "I", Cond.fieldLink RX3 68 "PauseRegions$Pause" "stayed" "I", Cond.fieldLink RX3 71 "PauseRegions$Pause" "foundCells" "I", Cond.fieldLink RX3 74 "PauseRegions$Pause" "foundYoungCells" "I", Cond.fieldLink RX3 77 "PauseRegions$Pause" "copiedCells" "I", Cond.methodLink RX3 28 yX1_refineOldest, Cond.methodLink RX3 34 yX0_choose, Cond.instanceMethod yX0_choose, Cond.selects RX0 yX0_choose yX0_choose, Cond.code yX0_choose cX0_choose 4 none, Cond.fieldLink RX0 9 "PauseRegions$Choice" "regions" "I", Cond.fieldLink RX0 15 "PauseRegions$Choice" "youngCells" "I", Cond.fieldLink RX0 18 "PauseRegions$Heap" "kind" "[I", Cond.fieldLink RX0 24 "PauseRegions$Heap" "top" "[I", Cond.constantFloat RX0 27 (1092616192), Cond.fieldLink RX0 28 "PauseRegions$Heap" "rate" "F", Cond.fieldLink RX0 32 "PauseRegions$Heap" "yielded" "F", Cond.fieldLink RX0 35 "PauseRegions$Choice" "forecast" "F", Cond.methodLink RX0 38 yX0_chooseOld]
def wsL_law_r21 : List Cond := [Cond.instanceMethod yX0_chooseOld, Cond.selects RX0 yX0_chooseOld yX0_chooseOld, Cond.code yX0_chooseOld cX0_chooseOld 6 none, Cond.fieldLink RX0 46 "PauseRegions$Heap" "live" "[I", Cond.methodLink RX0 42 yX0_bestOld, Cond.instanceMethod yX0_bestOld, Cond.selects RX0 yX0_bestOld yX0_bestOld, Cond.code yX0_bestOld cX0_bestOld 6 (some .int), Cond.static yX6_hasBit, Cond.code yX6_hasBit cX6_hasBit 2 (some .boolean), Cond.methodLink RX3 38 yX3_findFirst, Cond.instanceMethod yX3_findFirst, Cond.selects RX3 yX3_findFirst yX3_findFirst, Cond.code yX3_findFirst cX3_findFirst 3 none, Cond.fieldLink RX3 101 "PauseRegions$Heap" "roots" "[I", Cond.fieldLink RX3 107 "PauseRegions$Heap" "greyThings" "LPauseRegions$Row;", Cond.methodLink RX3 104 yX3_find, Cond.instanceMethod yX3_find, Cond.selects RX3 yX3_find yX3_find, Cond.code yX3_find cX3_find 3 none, Cond.fieldLink RX3 80 "PauseRegions$Choice" "regions" "I", Cond.fieldLink RX3 83 "PauseRegions$Heap" "place" "[I", Cond.fieldLink RX3 95 "PauseRegions$Heap" "size" "[I", Cond.fieldLink RX3 98 "PauseRegions$Heap" "kind" "[I"]
def wsL_law_r22 : List Cond := [Cond.methodLink RX3 91 yX5_append, Cond.methodLink RX3 110 yX5_itemAt, Cond.methodLink RX3 42 yX3_scanCards, Cond.instanceMethod yX3_scanCards, Cond.selects RX3 yX3_scanCards yX3_scanCards, Cond.code yX3_scanCards cX3_scanCards 3 none, Cond.fieldLink RX3 113 "PauseRegions$Heap" "memory" "[I", Cond.methodLink RX3 119 yX3_scanCard, Cond.instanceMethod yX3_scanCard, Cond.selects RX3 yX3_scanCard yX3_scanCard, Cond.code yX3_scanCard cX3_scanCard 6 none, Cond.methodLink RX3 122 yX1_thingAt, Cond.instanceMethod yX1_thingAt, Cond.selects RX1 yX1_thingAt yX1_thingAt, Cond.code yX1_thingAt cX1_thingAt 4 (some .int), Cond.methodLink RX3 126 yX3_findFields, Cond.instanceMethod yX3_findFields, Cond.selects RX3 yX3_findFields yX3_findFields, Cond.code yX3_findFields cX3_findFields 3 none, Cond.methodLink RX3 129 yX1_fieldOf, Cond.methodLink RX3 45 yX3_moveFound, Cond.instanceMethod yX3_moveFound, Cond.selects RX3 yX3_moveFound yX3_moveFound, Cond.code yX3_moveFound cX3_moveFound 4 none]
def wsL_law_r23 : List Cond := [Cond.methodLink RX3 132 yX3_move, Cond.instanceMethod yX3_move, Cond.selects RX3 yX3_move yX3_move, Cond.code yX3_move cX3_move 4 none, Cond.methodLink RX3 135 yX1_hasRoom, Cond.methodLink RX3 138 yX1_freeRow, Cond.methodLink RX3 141 yX1_layAtTop, Cond.methodLink RX3 48 yX3_dirtyMoved, Cond.instanceMethod yX3_dirtyMoved, Cond.selects RX3 yX3_dirtyMoved yX3_dirtyMoved, Cond.code yX3_dirtyMoved cX3_dirtyMoved 3 none, Cond.fieldLink RX3 145 "PauseRegions$Heap" "dirtyCards" "LPauseRegions$Row;", Cond.methodLink RX3 148 yX1_cardOfThing, Cond.methodLink RX3 51 yX3_sweepChosen, Cond.instanceMethod yX3_sweepChosen, Cond.selects RX3 yX3_sweepChosen yX3_sweepChosen, Cond.code yX3_sweepChosen cX3_sweepChosen 3 none, Cond.fieldLink RX3 154 "PauseRegions$Heap" "latestYoung" "I", Cond.methodLink RX3 151 yX3_sweep, Cond.instanceMethod yX3_sweep, Cond.selects RX3 yX3_sweep yX3_sweep, Cond.code yX3_sweep cX3_sweep 4 none, Cond.fieldLink RX3 170 "PauseRegions$Heap" "live" "[I", Cond.methodLink RX3 157 yX1_isIn]
def wsL_law_r24 : List Cond := [Cond.methodLink RX3 160 yX1_endThing, Cond.methodLink RX3 164 yX1_thingsIn, Cond.instanceMethod yX1_thingsIn, Cond.selects RX1 yX1_thingsIn yX1_thingsIn, Cond.code yX1_thingsIn cX1_thingsIn 4 (some .int), Cond.methodLink RX3 167 yX1_freeWithRests, Cond.methodLink RX3 54 yX3_tellCost, Cond.instanceMethod yX3_tellCost, Cond.selects RX3 yX3_tellCost yX3_tellCost, Cond.code yX3_tellCost cX3_tellCost 3 (some .int), Cond.constantFloat RX3 178 (1061158912), Cond.fieldLink RX3 179 "PauseRegions$Heap" "rate" "F", Cond.constantFloat RX3 183 (1048576000), Cond.fieldLink RX3 184 "PauseRegions$Choice" "youngCells" "I", Cond.fieldLink RX3 187 "PauseRegions$Heap" "yielded" "F", Cond.fieldLink RX3 190 "PauseRegions$Heap" "pauseCount" "I", Cond.fieldLink RX3 193 "PauseRegions$Heap" "lastCost" "I", Cond.methodLink RX3 173 yJ6_bitCount_0f7a4, Cond.static yJ6_bitCount_0f7a4, Cond.initialized RJ6, Cond.code yJ6_bitCount_0f7a4 cJ6_bitCount_0f7a4 1 (some .int), Cond.constant RJ6 265 (1431655765), Cond.constant RJ6 266 (858993459), Cond.constant RJ6 267 (252645135)]
def wsL_law_r25 : List Cond := [Cond.methodLink RL 48 yX7_pauses, Cond.instanceMethod yX7_pauses, Cond.selects RX7 yX7_pauses yX7_pauses, Cond.code yX7_pauses cX7_pauses 2 (some .int), Cond.methodLink RX7 219 yX7_isGoal, Cond.static yX7_isGoal, Cond.code yX7_isGoal cX7_isGoal 1 (some .boolean), Cond.methodLink RX7 222 yX7_pause, Cond.instanceMethod yX7_pause, Cond.selects RX7 yX7_pause yX7_pause, Cond.code yX7_pause cX7_pause 3 (some .int), Cond.fieldLink RX7 196 "PauseRegionsModel" "youngs" "I", Cond.fieldLink RX7 181 "PauseRegionsModel" "into" "I", Cond.fieldLink RX7 184 "PauseRegionsModel" "stay" "I", Cond.fieldLink RX7 190 "PauseRegionsModel" "copied" "I", Cond.fieldLink RX7 187 "PauseRegionsModel" "stays" "I", Cond.fieldLink RX7 166 "PauseRegionsModel" "found" "I", Cond.fieldLink RX7 175 "PauseRegionsModel" "scanned" "I", Cond.methodLink RX7 201 yX7_laysChosen, Cond.instanceMethod yX7_laysChosen, Cond.selects RX7 yX7_laysChosen yX7_laysChosen, Cond.code yX7_laysChosen cX7_laysChosen 5 none, Cond.fieldLink RX7 152 "PauseRegionsModel" "chosen" "I", Cond.fieldLink RX7 155 "PauseRegionsModel" "youngCells" "I"]
def wsL_law_r26 : List Cond := [Cond.constantFloat RX7 158 (1092616192), Cond.fieldLink RX7 159 "PauseRegionsModel" "foretold" "F", Cond.methodLink RX7 163 yX7_gainOf, Cond.instanceMethod yX7_gainOf, Cond.selects RX7 yX7_gainOf yX7_gainOf, Cond.code yX7_gainOf cX7_gainOf 3 (some .int), Cond.methodLink RX7 204 yX7_findsFirst, Cond.instanceMethod yX7_findsFirst, Cond.selects RX7 yX7_findsFirst yX7_findsFirst, Cond.code yX7_findsFirst cX7_findsFirst 2 none, Cond.methodLink RX7 169 yX7_finds, Cond.instanceMethod yX7_finds, Cond.selects RX7 yX7_finds yX7_finds, Cond.code yX7_finds cX7_finds 2 none, Cond.methodLink RX7 172 yX7_remembered, Cond.instanceMethod yX7_remembered, Cond.selects RX7 yX7_remembered yX7_remembered, Cond.code yX7_remembered cX7_remembered 3 (some .int), Cond.methodLink RX7 178 yX7_scans, Cond.instanceMethod yX7_scans, Cond.selects RX7 yX7_scans yX7_scans, Cond.code yX7_scans cX7_scans 4 none, Cond.methodLink RX7 207 yX7_copies, Cond.instanceMethod yX7_copies]
def wsL_law_r27 : List Cond := [Cond.selects RX7 yX7_copies yX7_copies, Cond.code yX7_copies cX7_copies 4 none, Cond.methodLink RX7 210 yX7_empties, Cond.instanceMethod yX7_empties, Cond.selects RX7 yX7_empties yX7_empties, Cond.code yX7_empties cX7_empties 2 none, Cond.methodLink RX7 193 yX7_hasStaying, Cond.instanceMethod yX7_hasStaying, Cond.selects RX7 yX7_hasStaying yX7_hasStaying, Cond.code yX7_hasStaying cX7_hasStaying 4 (some .boolean), Cond.methodLink RX7 213 yX7_ones, Cond.static yX7_ones, Cond.code yX7_ones cX7_ones 3 (some .int), Cond.methodLink RX7 216 yX7_learns, Cond.instanceMethod yX7_learns, Cond.selects RX7 yX7_learns yX7_learns, Cond.code yX7_learns cX7_learns 6 none, Cond.constantFloat RX7 199 (1061158912), Cond.constantFloat RX7 200 (1048576000), Cond.methodLink RL 49 yX6_undo, Cond.instanceMethod yX6_undo, Cond.selects RX6 yX6_undo yX6_undo, Cond.code yX6_undo cX6_undo 1 (some .int), Cond.fieldLink RX6 129 "PauseRegions$History" "known" "I"]
def wsL_law_r28 : List Cond := [Cond.methodLink RX6 132 yX2_pop, Cond.instanceMethod yX2_pop, Cond.selects RX2 yX2_pop yX2_pop, Cond.code yX2_pop cX2_pop 2 none, Cond.methodLink RL 52 yX7_undo, Cond.instanceMethod yX7_undo, Cond.selects RX7 yX7_undo yX7_undo, Cond.code yX7_undo cX7_undo 2 (some .int), Cond.methodLink RL 53 yX6_root, Cond.instanceMethod yX6_root, Cond.selects RX6 yX6_root yX6_root, Cond.code yX6_root cX6_root 2 (some .int), Cond.methodLink RL 56 yX7_root, Cond.instanceMethod yX7_root, Cond.selects RX7 yX7_root yX7_root, Cond.code yX7_root cX7_root 2 (some .int), Cond.methodLink RL 57 yX6_thing, Cond.instanceMethod yX6_thing, Cond.selects RX6 yX6_thing yX6_thing, Cond.code yX6_thing cX6_thing 3 (some .int), Cond.fieldLink RX6 138 "PauseRegions$Heap" "size" "[I", Cond.fieldLink RX6 141 "PauseRegions$Heap" "place" "[I", Cond.fieldLink RX6 144 "PauseRegions$Heap" "cell" "[I", Cond.fieldLink RX6 147 "PauseRegions$Heap" "colour" "[I"]
def wsL_law_r29 : List Cond := [Cond.methodLink RX6 135 yX1_isThere, Cond.methodLink RL 60 yX7_thing, Cond.instanceMethod yX7_thing, Cond.selects RX7 yX7_thing yX7_thing, Cond.code yX7_thing cX7_thing 3 (some .int), Cond.methodLink RL 61 yX6_region, Cond.instanceMethod yX6_region, Cond.selects RX6 yX6_region yX6_region, Cond.code yX6_region cX6_region 3 (some .int), Cond.fieldLink RX6 153 "PauseRegions$Heap" "kind" "[I", Cond.fieldLink RX6 156 "PauseRegions$Heap" "top" "[I", Cond.fieldLink RX6 159 "PauseRegions$Heap" "live" "[I", Cond.fieldLink RX6 165 "PauseRegions$Heap" "memory" "[I", Cond.methodLink RX6 150 yX6_isRegion, Cond.static yX6_isRegion, Cond.code yX6_isRegion cX6_isRegion 1 (some .boolean), Cond.methodLink RX6 162 yX1_thingsIn, Cond.methodLink RX6 168 yJ6_bitCount_0f7a4, Cond.methodLink RL 64 yX7_region, Cond.instanceMethod yX7_region, Cond.selects RX7 yX7_region yX7_region, Cond.code yX7_region cX7_region 5 (some .int), Cond.methodLink RX7 225 yX7_isRegion, Cond.static yX7_isRegion]
def wsL_law_r30 : List Cond := [Cond.code yX7_isRegion cX7_isRegion 1 (some .boolean), Cond.methodLink RL 65 yX6_remembers, Cond.instanceMethod yX6_remembers, Cond.selects RX6 yX6_remembers yX6_remembers, Cond.code yX6_remembers cX6_remembers 3 (some .int), Cond.methodLink RX6 173 yX6_hasBit, Cond.methodLink RL 68 yX7_remembers, Cond.instanceMethod yX7_remembers, Cond.selects RX7 yX7_remembers yX7_remembers, Cond.code yX7_remembers cX7_remembers 3 (some .int), Cond.methodLink RL 69 yX6_dirty, Cond.instanceMethod yX6_dirty, Cond.selects RX6 yX6_dirty yX6_dirty, Cond.code yX6_dirty cX6_dirty 2 (some .int), Cond.methodLink RX6 177 yX5_itemAt, Cond.methodLink RL 72 yX7_dirty, Cond.instanceMethod yX7_dirty, Cond.selects RX7 yX7_dirty yX7_dirty, Cond.code yX7_dirty cX7_dirty 2 (some .int), Cond.methodLink RL 73 yX6_grey, Cond.instanceMethod yX6_grey, Cond.selects RX6 yX6_grey yX6_grey, Cond.code yX6_grey cX6_grey 2 (some .int), Cond.methodLink RL 76 yX7_grey]
def wsL_law_r31 : List Cond := [Cond.instanceMethod yX7_grey, Cond.selects RX7 yX7_grey yX7_grey, Cond.code yX7_grey cX7_grey 2 (some .int), Cond.methodLink RL 77 yX6_learnt, Cond.instanceMethod yX6_learnt, Cond.selects RX6 yX6_learnt yX6_learnt, Cond.code yX6_learnt cX6_learnt 2 (some .int), Cond.constantFloat RX6 180 (1120403456), Cond.fieldLink RX6 181 "PauseRegions$Heap" "rate" "F", Cond.fieldLink RX6 185 "PauseRegions$Heap" "yielded" "F", Cond.methodLink RL 80 yX7_learnt, Cond.instanceMethod yX7_learnt, Cond.selects RX7 yX7_learnt yX7_learnt, Cond.code yX7_learnt cX7_learnt 2 (some .int), Cond.constantFloat RX7 228 (1120403456), Cond.methodLink RL 81 yX6_chooses, Cond.instanceMethod yX6_chooses, Cond.selects RX6 yX6_chooses yX6_chooses, Cond.code yX6_chooses cX6_chooses 2 (some .int), Cond.fieldLink RX6 192 "PauseRegions$Choice" "regions" "I", Cond.methodLink RX6 188 yX0_choose, Cond.methodLink RL 84 yX7_chooses, Cond.instanceMethod yX7_chooses, Cond.selects RX7 yX7_chooses yX7_chooses]
def wsL_law_r32 : List Cond := [Cond.code yX7_chooses cX7_chooses 2 (some .int), Cond.methodLink RL 85 yX6_foretold, Cond.instanceMethod yX6_foretold, Cond.selects RX6 yX6_foretold yX6_foretold, Cond.code yX6_foretold cX6_foretold 2 (some .int), Cond.fieldLink RX6 195 "PauseRegions$Choice" "forecast" "F", Cond.methodLink RL 88 yX7_foretold, Cond.instanceMethod yX7_foretold, Cond.selects RX7 yX7_foretold yX7_foretold, Cond.code yX7_foretold cX7_foretold 2 (some .int), Cond.methodLink RL 89 yX6_would, Cond.instanceMethod yX6_would, Cond.selects RX6 yX6_would yX6_would, Cond.code yX6_would cX6_would 2 (some .int), Cond.methodLink RX6 198 yX1_becomeLike, Cond.methodLink RL 92 yX7_would, Cond.instanceMethod yX7_would, Cond.selects RX7 yX7_would yX7_would, Cond.code yX7_would cX7_would 4 (some .int), Cond.methodLink RL 93 yX6_rubbish, Cond.instanceMethod yX6_rubbish, Cond.selects RX6 yX6_rubbish yX6_rubbish, Cond.code yX6_rubbish cX6_rubbish 4 (some .int), Cond.fieldLink RX6 204 "PauseRegions$Reach" "reached" "I"]
def wsL_law_r33 : List Cond := [Cond.methodLink RX6 201 yX4_findReached, Cond.instanceMethod yX4_findReached, Cond.selects RX4 yX4_findReached yX4_findReached, Cond.code yX4_findReached cX4_findReached 4 none, Cond.fieldLink RX4 22 "PauseRegions$Reach" "reached" "I", Cond.fieldLink RX4 26 "PauseRegions$Row" "length" "I", Cond.fieldLink RX4 29 "PauseRegions$Heap" "roots" "[I", Cond.methodLink RX4 34 yX4_enter, Cond.instanceMethod yX4_enter, Cond.selects RX4 yX4_enter yX4_enter, Cond.code yX4_enter cX4_enter 2 none, Cond.methodLink RX4 46 yX5_append, Cond.methodLink RX4 38 yX5_itemAt, Cond.methodLink RX4 42 yX1_fieldOf, Cond.methodLink RL 96 yX7_rubbish, Cond.instanceMethod yX7_rubbish, Cond.selects RX7 yX7_rubbish yX7_rubbish, Cond.code yX7_rubbish cX7_rubbish 4 (some .int), Cond.methodLink RX7 232 yX7_laysFar, Cond.instanceMethod yX7_laysFar, Cond.selects RX7 yX7_laysFar yX7_laysFar, Cond.code yX7_laysFar cX7_laysFar 3 none, Cond.methodLink RX7 229 yX7_reaches, Cond.instanceMethod yX7_reaches]
def wsL_law_r34 : List Cond := [Cond.selects RX7 yX7_reaches yX7_reaches, Cond.code yX7_reaches cX7_reaches 3 none, Cond.methodLink RL 97 yX6_way, Cond.instanceMethod yX6_way, Cond.selects RX6 yX6_way yX6_way, Cond.code yX6_way cX6_way 5 (some .int), Cond.fieldLink RX6 214 "PauseRegions$Reach" "far" "[I", Cond.methodLink RX6 207 yX4_measureTo, Cond.instanceMethod yX4_measureTo, Cond.selects RX4 yX4_measureTo yX4_measureTo, Cond.code yX4_measureTo cX4_measureTo 6 none, Cond.methodLink RX4 50 yJ7_fill_53178, Cond.methodLink RX4 56 yX1_isThere, Cond.methodLink RX4 59 yX4_leadsTo, Cond.instanceMethod yX4_leadsTo, Cond.selects RX4 yX4_leadsTo yX4_leadsTo, Cond.code yX4_leadsTo cX4_leadsTo 4 (some .boolean), Cond.methodLink RX4 63 yX4_isFar, Cond.instanceMethod yX4_isFar, Cond.selects RX4 yX4_isFar yX4_isFar, Cond.code yX4_isFar cX4_isFar 3 (some .boolean), Cond.methodLink RX6 210 yX4_nearestRoot, Cond.instanceMethod yX4_nearestRoot, Cond.selects RX4 yX4_nearestRoot yX4_nearestRoot]
def wsL_law_r35 : List Cond := [Cond.code yX4_nearestRoot cX4_nearestRoot 5 (some .int), Cond.methodLink RX4 67 yX4_isNearer, Cond.instanceMethod yX4_isNearer, Cond.selects RX4 yX4_isNearer yX4_isNearer, Cond.code yX4_isNearer cX4_isNearer 3 (some .boolean), Cond.methodLink RX6 217 yX4_walk, Cond.instanceMethod yX4_walk, Cond.selects RX4 yX4_walk yX4_walk, Cond.code yX4_walk cX4_walk 6 (some .int), Cond.methodLink RX4 70 yX4_nextOf, Cond.instanceMethod yX4_nextOf, Cond.selects RX4 yX4_nextOf yX4_nextOf, Cond.code yX4_nextOf cX4_nextOf 6 (some .int), Cond.methodLink RX4 74 Lib.Math.min.name, Cond.methodLink RL 100 yX7_way, Cond.instanceMethod yX7_way, Cond.selects RX7 yX7_way yX7_way, Cond.code yX7_way cX7_way 6 (some .int), Cond.methodLink RX7 239 yX7_laysLeads, Cond.instanceMethod yX7_laysLeads, Cond.selects RX7 yX7_laysLeads yX7_laysLeads, Cond.code yX7_laysLeads cX7_laysLeads 5 none, Cond.methodLink RX7 235 yX7_isFieldOf, Cond.instanceMethod yX7_isFieldOf]
def wsL_law_r36 : List Cond := [Cond.selects RX7 yX7_isFieldOf yX7_isFieldOf, Cond.code yX7_isFieldOf cX7_isFieldOf 3 (some .boolean), Cond.methodLink RL 101 yX6_keep, Cond.instanceMethod yX6_keep, Cond.selects RX6 yX6_keep yX6_keep, Cond.code yX6_keep cX6_keep 2 (some .int), Cond.methodLink RX6 221 yX6_isImage, Cond.static yX6_isImage, Cond.code yX6_isImage cX6_isImage 1 (some .boolean), Cond.methodLink RX6 224 yX1_thingCount, Cond.instanceMethod yX1_thingCount, Cond.selects RX1 yX1_thingCount yX1_thingCount, Cond.code yX1_thingCount cX1_thingCount 3 (some .int), Cond.methodLink RL 104 yX7_keep, Cond.instanceMethod yX7_keep, Cond.selects RX7 yX7_keep yX7_keep, Cond.code yX7_keep cX7_keep 3 (some .int), Cond.methodLink RX7 242 yX7_things, Cond.instanceMethod yX7_things, Cond.selects RX7 yX7_things yX7_things, Cond.code yX7_things cX7_things 3 (some .int), Cond.methodLink RL 105 yX6_back, Cond.instanceMethod yX6_back, Cond.selects RX6 yX6_back yX6_back]
def wsL_law_r37 : List Cond := [Cond.code yX6_back cX6_back 2 (some .int), Cond.methodLink RX6 227 yX2_forget, Cond.instanceMethod yX2_forget, Cond.selects RX2 yX2_forget yX2_forget, Cond.code yX2_forget cX2_forget 1 none, Cond.methodLink RL 108 yX7_back, Cond.instanceMethod yX7_back, Cond.selects RX7 yX7_back yX7_back, Cond.code yX7_back cX7_back 3 (some .int), Cond.methodLink RL 109 yX6_count, Cond.instanceMethod yX6_count, Cond.selects RX6 yX6_count yX6_count, Cond.code yX6_count cX6_count 2 (some .int), Cond.fieldLink RX6 233 "PauseRegions$Heap" "pauseCount" "I", Cond.fieldLink RX6 236 "PauseRegions$Heap" "lastCost" "I", Cond.methodLink RX6 230 yX1_regionsOfKind, Cond.instanceMethod yX1_regionsOfKind, Cond.selects RX1 yX1_regionsOfKind yX1_regionsOfKind, Cond.code yX1_regionsOfKind cX1_regionsOfKind 4 (some .int), Cond.methodLink RL 112 yX7_count, Cond.instanceMethod yX7_count, Cond.selects RX7 yX7_count yX7_count, Cond.code yX7_count cX7_count 2 (some .int), Cond.methodLink RX7 245 yX7_regionsOf]
def wsL_law_r38 : List Cond := [Cond.instanceMethod yX7_regionsOf, Cond.selects RX7 yX7_regionsOf yX7_regionsOf, Cond.code yX7_regionsOf cX7_regionsOf 4 (some .int)]
def wsL_law : List Cond := (wsL_law_r1 ++ (wsL_law_r2 ++ (wsL_law_r3 ++ (wsL_law_r4 ++ (wsL_law_r5 ++ (wsL_law_r6 ++ (wsL_law_r7 ++ (wsL_law_r8 ++ (wsL_law_r9 ++ (wsL_law_r10 ++ (wsL_law_r11 ++ (wsL_law_r12 ++ (wsL_law_r13 ++ (wsL_law_r14 ++ (wsL_law_r15 ++ (wsL_law_r16 ++ (wsL_law_r17 ++ (wsL_law_r18 ++ (wsL_law_r19 ++ (wsL_law_r20 ++ (wsL_law_r21 ++ (wsL_law_r22 ++ (wsL_law_r23 ++ (wsL_law_r24 ++ (wsL_law_r25 ++ (wsL_law_r26 ++ (wsL_law_r27 ++ (wsL_law_r28 ++ (wsL_law_r29 ++ (wsL_law_r30 ++ (wsL_law_r31 ++ (wsL_law_r32 ++ (wsL_law_r33 ++ (wsL_law_r34 ++ (wsL_law_r35 ++ (wsL_law_r36 ++ (wsL_law_r37 ++ wsL_law_r38))))))))))))))))))))))))))))))))))))) ++ wsX60 ++ wsX70 ++ wsX10 ++ wsX20 ++ wsX00 ++ wsX30 ++ wsX40 ++ wsX50 ++ ([] : List Cond)
theorem inlX0 : ∀ w ∈ wsX00, w ∈ wsL_law := fun _ h => List.mem_append_left _ (List.mem_append_left _ (List.mem_append_left _ (List.mem_append_left _ (List.mem_append_right _ h))))
theorem inlX1 : ∀ w ∈ wsX10, w ∈ wsL_law := fun _ h => List.mem_append_left _ (List.mem_append_left _ (List.mem_append_left _ (List.mem_append_left _ (List.mem_append_left _ (List.mem_append_left _ (List.mem_append_right _ h))))))
theorem inlX2 : ∀ w ∈ wsX20, w ∈ wsL_law := fun _ h => List.mem_append_left _ (List.mem_append_left _ (List.mem_append_left _ (List.mem_append_left _ (List.mem_append_left _ (List.mem_append_right _ h)))))
theorem inlX3 : ∀ w ∈ wsX30, w ∈ wsL_law := fun _ h => List.mem_append_left _ (List.mem_append_left _ (List.mem_append_left _ (List.mem_append_right _ h)))
theorem inlX4 : ∀ w ∈ wsX40, w ∈ wsL_law := fun _ h => List.mem_append_left _ (List.mem_append_left _ (List.mem_append_right _ h))
theorem inlX5 : ∀ w ∈ wsX50, w ∈ wsL_law := fun _ h => List.mem_append_left _ (List.mem_append_right _ h)
theorem inlX6 : ∀ w ∈ wsX60, w ∈ wsL_law := fun _ h => List.mem_append_left _ (List.mem_append_left _ (List.mem_append_left _ (List.mem_append_left _ (List.mem_append_left _ (List.mem_append_left _ (List.mem_append_left _ (List.mem_append_left _ (List.mem_append_right _ h))))))))
theorem inlX7 : ∀ w ∈ wsX70, w ∈ wsL_law := fun _ h => List.mem_append_left _ (List.mem_append_left _ (List.mem_append_left _ (List.mem_append_left _ (List.mem_append_left _ (List.mem_append_left _ (List.mem_append_left _ (List.mem_append_right _ h)))))))
theorem dL_law_0 : decode cL_law 0 = .ok (.new 7, 3) := by decide +kernel
theorem dL_law_3 : decode cL_law 3 = .ok (.dup, 1) := by decide +kernel
theorem dL_law_4 : decode cL_law 4 = .ok (.invokespecial 9, 3) := by decide +kernel
theorem dL_law_7 : decode cL_law 7 = .ok (.astore_n 1, 1) := by decide +kernel
theorem dL_law_8 : decode cL_law 8 = .ok (.new 10, 3) := by decide +kernel
theorem dL_law_11 : decode cL_law 11 = .ok (.dup, 1) := by decide +kernel
theorem dL_law_12 : decode cL_law 12 = .ok (.invokespecial 12, 3) := by decide +kernel
theorem dL_law_15 : decode cL_law 15 = .ok (.astore_n 2, 1) := by decide +kernel
theorem dL_law_16 : decode cL_law 16 = .ok (.iconst 0, 1) := by decide +kernel
theorem dL_law_17 : decode cL_law 17 = .ok (.istore_n 3, 1) := by decide +kernel
theorem dL_law_18 : decode cL_law 18 = .ok (.iload_n 3, 1) := by decide +kernel
theorem dL_law_19 : decode cL_law 19 = .ok (.aload_n 0, 1) := by decide +kernel
theorem dL_law_20 : decode cL_law 20 = .ok (.arraylength, 1) := by decide +kernel
theorem dL_law_21 : decode cL_law 21 = .ok (.iconst 4, 1) := by decide +kernel
theorem dL_law_22 : decode cL_law 22 = .ok (.isub, 1) := by decide +kernel
theorem dL_law_23 : decode cL_law 23 = .ok (.if_icmp .gt 759, 3) := by decide +kernel
theorem dL_law_26 : decode cL_law 26 = .ok (.aload_n 0, 1) := by decide +kernel
theorem dL_law_27 : decode cL_law 27 = .ok (.iload_n 3, 1) := by decide +kernel
theorem dL_law_28 : decode cL_law 28 = .ok (.iaload, 1) := by decide +kernel
theorem dL_law_29 : decode cL_law 29 = .ok (.bipush 31, 2) := by decide +kernel
theorem dL_law_31 : decode cL_law 31 = .ok (.iand, 1) := by decide +kernel
theorem dL_law_32 : decode cL_law 32 = .ok (.tableswitch 744 0 23 #[112, 145, 188, 231, 264, 287, 300, 323, 346, 359, 382, 415, 448, 481, 504, 527, 550, 573, 596, 619, 642, 675, 698, 721], 112) := by decide +kernel
theorem dL_law_144 : decode cL_law 144 = .ok (.aload_n 1, 1) := by decide +kernel
theorem dL_law_145 : decode cL_law 145 = .ok (.aload_n 0, 1) := by decide +kernel
theorem dL_law_146 : decode cL_law 146 = .ok (.iload_n 3, 1) := by decide +kernel
theorem dL_law_147 : decode cL_law 147 = .ok (.iconst 1, 1) := by decide +kernel
theorem dL_law_148 : decode cL_law 148 = .ok (.iadd, 1) := by decide +kernel
theorem dL_law_149 : decode cL_law 149 = .ok (.iaload, 1) := by decide +kernel
theorem dL_law_150 : decode cL_law 150 = .ok (.aload_n 0, 1) := by decide +kernel
theorem dL_law_151 : decode cL_law 151 = .ok (.iload_n 3, 1) := by decide +kernel
theorem dL_law_152 : decode cL_law 152 = .ok (.iconst 2, 1) := by decide +kernel
theorem dL_law_153 : decode cL_law 153 = .ok (.iadd, 1) := by decide +kernel
theorem dL_law_154 : decode cL_law 154 = .ok (.iaload, 1) := by decide +kernel
theorem dL_law_155 : decode cL_law 155 = .ok (.invokevirtual 13, 3) := by decide +kernel
theorem dL_law_158 : decode cL_law 158 = .ok (.aload_n 2, 1) := by decide +kernel
theorem dL_law_159 : decode cL_law 159 = .ok (.aload_n 0, 1) := by decide +kernel
theorem dL_law_160 : decode cL_law 160 = .ok (.iload_n 3, 1) := by decide +kernel
theorem dL_law_161 : decode cL_law 161 = .ok (.iconst 1, 1) := by decide +kernel
theorem dL_law_162 : decode cL_law 162 = .ok (.iadd, 1) := by decide +kernel
theorem dL_law_163 : decode cL_law 163 = .ok (.iaload, 1) := by decide +kernel
theorem dL_law_164 : decode cL_law 164 = .ok (.aload_n 0, 1) := by decide +kernel
theorem dL_law_165 : decode cL_law 165 = .ok (.iload_n 3, 1) := by decide +kernel
theorem dL_law_166 : decode cL_law 166 = .ok (.iconst 2, 1) := by decide +kernel
theorem dL_law_167 : decode cL_law 167 = .ok (.iadd, 1) := by decide +kernel
theorem dL_law_168 : decode cL_law 168 = .ok (.iaload, 1) := by decide +kernel
theorem dL_law_169 : decode cL_law 169 = .ok (.invokevirtual 17, 3) := by decide +kernel
theorem dL_law_172 : decode cL_law 172 = .ok (.if_icmp .eq 604, 3) := by decide +kernel
theorem dL_law_175 : decode cL_law 175 = .ok (.iconst 0, 1) := by decide +kernel
theorem dL_law_176 : decode cL_law 176 = .ok (.ireturn, 1) := by decide +kernel
theorem dL_law_177 : decode cL_law 177 = .ok (.aload_n 1, 1) := by decide +kernel
theorem dL_law_178 : decode cL_law 178 = .ok (.aload_n 0, 1) := by decide +kernel
theorem dL_law_179 : decode cL_law 179 = .ok (.iload_n 3, 1) := by decide +kernel
theorem dL_law_180 : decode cL_law 180 = .ok (.iconst 1, 1) := by decide +kernel
theorem dL_law_181 : decode cL_law 181 = .ok (.iadd, 1) := by decide +kernel
theorem dL_law_182 : decode cL_law 182 = .ok (.iaload, 1) := by decide +kernel
theorem dL_law_183 : decode cL_law 183 = .ok (.aload_n 0, 1) := by decide +kernel
theorem dL_law_184 : decode cL_law 184 = .ok (.iload_n 3, 1) := by decide +kernel
theorem dL_law_185 : decode cL_law 185 = .ok (.iconst 2, 1) := by decide +kernel
theorem dL_law_186 : decode cL_law 186 = .ok (.iadd, 1) := by decide +kernel
theorem dL_law_187 : decode cL_law 187 = .ok (.iaload, 1) := by decide +kernel
theorem dL_law_188 : decode cL_law 188 = .ok (.aload_n 0, 1) := by decide +kernel
theorem dL_law_189 : decode cL_law 189 = .ok (.iload_n 3, 1) := by decide +kernel
theorem dL_law_190 : decode cL_law 190 = .ok (.iconst 3, 1) := by decide +kernel
theorem dL_law_191 : decode cL_law 191 = .ok (.iadd, 1) := by decide +kernel
theorem dL_law_192 : decode cL_law 192 = .ok (.iaload, 1) := by decide +kernel
theorem dL_law_193 : decode cL_law 193 = .ok (.invokevirtual 18, 3) := by decide +kernel
theorem dL_law_196 : decode cL_law 196 = .ok (.aload_n 2, 1) := by decide +kernel
theorem dL_law_197 : decode cL_law 197 = .ok (.aload_n 0, 1) := by decide +kernel
theorem dL_law_198 : decode cL_law 198 = .ok (.iload_n 3, 1) := by decide +kernel
theorem dL_law_199 : decode cL_law 199 = .ok (.iconst 1, 1) := by decide +kernel
theorem dL_law_200 : decode cL_law 200 = .ok (.iadd, 1) := by decide +kernel
theorem dL_law_201 : decode cL_law 201 = .ok (.iaload, 1) := by decide +kernel
theorem dL_law_202 : decode cL_law 202 = .ok (.aload_n 0, 1) := by decide +kernel
theorem dL_law_203 : decode cL_law 203 = .ok (.iload_n 3, 1) := by decide +kernel
theorem dL_law_204 : decode cL_law 204 = .ok (.iconst 2, 1) := by decide +kernel
theorem dL_law_205 : decode cL_law 205 = .ok (.iadd, 1) := by decide +kernel
theorem dL_law_206 : decode cL_law 206 = .ok (.iaload, 1) := by decide +kernel
theorem dL_law_207 : decode cL_law 207 = .ok (.aload_n 0, 1) := by decide +kernel
theorem dL_law_208 : decode cL_law 208 = .ok (.iload_n 3, 1) := by decide +kernel
theorem dL_law_209 : decode cL_law 209 = .ok (.iconst 3, 1) := by decide +kernel
theorem dL_law_210 : decode cL_law 210 = .ok (.iadd, 1) := by decide +kernel
theorem dL_law_211 : decode cL_law 211 = .ok (.iaload, 1) := by decide +kernel
theorem dL_law_212 : decode cL_law 212 = .ok (.invokevirtual 22, 3) := by decide +kernel
theorem dL_law_215 : decode cL_law 215 = .ok (.if_icmp .eq 561, 3) := by decide +kernel
theorem dL_law_218 : decode cL_law 218 = .ok (.iconst 0, 1) := by decide +kernel
theorem dL_law_219 : decode cL_law 219 = .ok (.ireturn, 1) := by decide +kernel
theorem dL_law_220 : decode cL_law 220 = .ok (.aload_n 1, 1) := by decide +kernel
theorem dL_law_221 : decode cL_law 221 = .ok (.aload_n 0, 1) := by decide +kernel
theorem dL_law_222 : decode cL_law 222 = .ok (.iload_n 3, 1) := by decide +kernel
theorem dL_law_223 : decode cL_law 223 = .ok (.iconst 1, 1) := by decide +kernel
theorem dL_law_224 : decode cL_law 224 = .ok (.iadd, 1) := by decide +kernel
theorem dL_law_225 : decode cL_law 225 = .ok (.iaload, 1) := by decide +kernel
theorem dL_law_226 : decode cL_law 226 = .ok (.aload_n 0, 1) := by decide +kernel
theorem dL_law_227 : decode cL_law 227 = .ok (.iload_n 3, 1) := by decide +kernel
theorem dL_law_228 : decode cL_law 228 = .ok (.iconst 2, 1) := by decide +kernel
theorem dL_law_229 : decode cL_law 229 = .ok (.iadd, 1) := by decide +kernel
theorem dL_law_230 : decode cL_law 230 = .ok (.iaload, 1) := by decide +kernel
theorem dL_law_231 : decode cL_law 231 = .ok (.aload_n 0, 1) := by decide +kernel
theorem dL_law_232 : decode cL_law 232 = .ok (.iload_n 3, 1) := by decide +kernel
theorem dL_law_233 : decode cL_law 233 = .ok (.iconst 3, 1) := by decide +kernel
theorem dL_law_234 : decode cL_law 234 = .ok (.iadd, 1) := by decide +kernel
theorem dL_law_235 : decode cL_law 235 = .ok (.iaload, 1) := by decide +kernel
theorem dL_law_236 : decode cL_law 236 = .ok (.invokevirtual 23, 3) := by decide +kernel
theorem dL_law_239 : decode cL_law 239 = .ok (.aload_n 2, 1) := by decide +kernel
theorem dL_law_240 : decode cL_law 240 = .ok (.aload_n 0, 1) := by decide +kernel
theorem dL_law_241 : decode cL_law 241 = .ok (.iload_n 3, 1) := by decide +kernel
theorem dL_law_242 : decode cL_law 242 = .ok (.iconst 1, 1) := by decide +kernel
theorem dL_law_243 : decode cL_law 243 = .ok (.iadd, 1) := by decide +kernel
theorem dL_law_244 : decode cL_law 244 = .ok (.iaload, 1) := by decide +kernel
theorem dL_law_245 : decode cL_law 245 = .ok (.aload_n 0, 1) := by decide +kernel
theorem dL_law_246 : decode cL_law 246 = .ok (.iload_n 3, 1) := by decide +kernel
theorem dL_law_247 : decode cL_law 247 = .ok (.iconst 2, 1) := by decide +kernel
theorem dL_law_248 : decode cL_law 248 = .ok (.iadd, 1) := by decide +kernel
theorem dL_law_249 : decode cL_law 249 = .ok (.iaload, 1) := by decide +kernel
theorem dL_law_250 : decode cL_law 250 = .ok (.aload_n 0, 1) := by decide +kernel
theorem dL_law_251 : decode cL_law 251 = .ok (.iload_n 3, 1) := by decide +kernel
theorem dL_law_252 : decode cL_law 252 = .ok (.iconst 3, 1) := by decide +kernel
theorem dL_law_253 : decode cL_law 253 = .ok (.iadd, 1) := by decide +kernel
theorem dL_law_254 : decode cL_law 254 = .ok (.iaload, 1) := by decide +kernel
theorem dL_law_255 : decode cL_law 255 = .ok (.invokevirtual 26, 3) := by decide +kernel
theorem dL_law_258 : decode cL_law 258 = .ok (.if_icmp .eq 518, 3) := by decide +kernel
theorem dL_law_261 : decode cL_law 261 = .ok (.iconst 0, 1) := by decide +kernel
theorem dL_law_262 : decode cL_law 262 = .ok (.ireturn, 1) := by decide +kernel
theorem dL_law_263 : decode cL_law 263 = .ok (.aload_n 1, 1) := by decide +kernel
theorem dL_law_264 : decode cL_law 264 = .ok (.aload_n 0, 1) := by decide +kernel
theorem dL_law_265 : decode cL_law 265 = .ok (.iload_n 3, 1) := by decide +kernel
theorem dL_law_266 : decode cL_law 266 = .ok (.iconst 1, 1) := by decide +kernel
theorem dL_law_267 : decode cL_law 267 = .ok (.iadd, 1) := by decide +kernel
theorem dL_law_268 : decode cL_law 268 = .ok (.iaload, 1) := by decide +kernel
theorem dL_law_269 : decode cL_law 269 = .ok (.aload_n 0, 1) := by decide +kernel
theorem dL_law_270 : decode cL_law 270 = .ok (.iload_n 3, 1) := by decide +kernel
theorem dL_law_271 : decode cL_law 271 = .ok (.iconst 2, 1) := by decide +kernel
theorem dL_law_272 : decode cL_law 272 = .ok (.iadd, 1) := by decide +kernel
theorem dL_law_273 : decode cL_law 273 = .ok (.iaload, 1) := by decide +kernel
theorem dL_law_274 : decode cL_law 274 = .ok (.invokevirtual 27, 3) := by decide +kernel
theorem dL_law_277 : decode cL_law 277 = .ok (.aload_n 2, 1) := by decide +kernel
theorem dL_law_278 : decode cL_law 278 = .ok (.aload_n 0, 1) := by decide +kernel
theorem dL_law_279 : decode cL_law 279 = .ok (.iload_n 3, 1) := by decide +kernel
theorem dL_law_280 : decode cL_law 280 = .ok (.iconst 1, 1) := by decide +kernel
theorem dL_law_281 : decode cL_law 281 = .ok (.iadd, 1) := by decide +kernel
theorem dL_law_282 : decode cL_law 282 = .ok (.iaload, 1) := by decide +kernel
theorem dL_law_283 : decode cL_law 283 = .ok (.aload_n 0, 1) := by decide +kernel
theorem dL_law_284 : decode cL_law 284 = .ok (.iload_n 3, 1) := by decide +kernel
theorem dL_law_285 : decode cL_law 285 = .ok (.iconst 2, 1) := by decide +kernel
theorem dL_law_286 : decode cL_law 286 = .ok (.iadd, 1) := by decide +kernel
theorem dL_law_287 : decode cL_law 287 = .ok (.iaload, 1) := by decide +kernel
theorem dL_law_288 : decode cL_law 288 = .ok (.invokevirtual 30, 3) := by decide +kernel
theorem dL_law_291 : decode cL_law 291 = .ok (.if_icmp .eq 485, 3) := by decide +kernel
theorem dL_law_294 : decode cL_law 294 = .ok (.iconst 0, 1) := by decide +kernel
theorem dL_law_295 : decode cL_law 295 = .ok (.ireturn, 1) := by decide +kernel
theorem dL_law_296 : decode cL_law 296 = .ok (.aload_n 1, 1) := by decide +kernel
theorem dL_law_297 : decode cL_law 297 = .ok (.aload_n 0, 1) := by decide +kernel
theorem dL_law_298 : decode cL_law 298 = .ok (.iload_n 3, 1) := by decide +kernel
theorem dL_law_299 : decode cL_law 299 = .ok (.iconst 1, 1) := by decide +kernel
theorem dL_law_300 : decode cL_law 300 = .ok (.iadd, 1) := by decide +kernel
theorem dL_law_301 : decode cL_law 301 = .ok (.iaload, 1) := by decide +kernel
theorem dL_law_302 : decode cL_law 302 = .ok (.invokevirtual 31, 3) := by decide +kernel
theorem dL_law_305 : decode cL_law 305 = .ok (.aload_n 2, 1) := by decide +kernel
theorem dL_law_306 : decode cL_law 306 = .ok (.aload_n 0, 1) := by decide +kernel
theorem dL_law_307 : decode cL_law 307 = .ok (.iload_n 3, 1) := by decide +kernel
theorem dL_law_308 : decode cL_law 308 = .ok (.iconst 1, 1) := by decide +kernel
theorem dL_law_309 : decode cL_law 309 = .ok (.iadd, 1) := by decide +kernel
theorem dL_law_310 : decode cL_law 310 = .ok (.iaload, 1) := by decide +kernel
theorem dL_law_311 : decode cL_law 311 = .ok (.invokevirtual 35, 3) := by decide +kernel
theorem dL_law_314 : decode cL_law 314 = .ok (.if_icmp .eq 462, 3) := by decide +kernel
theorem dL_law_317 : decode cL_law 317 = .ok (.iconst 0, 1) := by decide +kernel
theorem dL_law_318 : decode cL_law 318 = .ok (.ireturn, 1) := by decide +kernel
theorem dL_law_319 : decode cL_law 319 = .ok (.aload_n 1, 1) := by decide +kernel
theorem dL_law_320 : decode cL_law 320 = .ok (.invokevirtual 36, 3) := by decide +kernel
theorem dL_law_323 : decode cL_law 323 = .ok (.aload_n 2, 1) := by decide +kernel
theorem dL_law_324 : decode cL_law 324 = .ok (.invokevirtual 40, 3) := by decide +kernel
theorem dL_law_327 : decode cL_law 327 = .ok (.if_icmp .eq 449, 3) := by decide +kernel
theorem dL_law_330 : decode cL_law 330 = .ok (.iconst 0, 1) := by decide +kernel
theorem dL_law_331 : decode cL_law 331 = .ok (.ireturn, 1) := by decide +kernel
theorem dL_law_332 : decode cL_law 332 = .ok (.aload_n 1, 1) := by decide +kernel
theorem dL_law_333 : decode cL_law 333 = .ok (.aload_n 0, 1) := by decide +kernel
theorem dL_law_334 : decode cL_law 334 = .ok (.iload_n 3, 1) := by decide +kernel
theorem dL_law_335 : decode cL_law 335 = .ok (.iconst 1, 1) := by decide +kernel
theorem dL_law_336 : decode cL_law 336 = .ok (.iadd, 1) := by decide +kernel
theorem dL_law_337 : decode cL_law 337 = .ok (.iaload, 1) := by decide +kernel
theorem dL_law_338 : decode cL_law 338 = .ok (.invokevirtual 41, 3) := by decide +kernel
theorem dL_law_341 : decode cL_law 341 = .ok (.aload_n 2, 1) := by decide +kernel
theorem dL_law_342 : decode cL_law 342 = .ok (.aload_n 0, 1) := by decide +kernel
theorem dL_law_343 : decode cL_law 343 = .ok (.iload_n 3, 1) := by decide +kernel
theorem dL_law_344 : decode cL_law 344 = .ok (.iconst 1, 1) := by decide +kernel
theorem dL_law_345 : decode cL_law 345 = .ok (.iadd, 1) := by decide +kernel
theorem dL_law_346 : decode cL_law 346 = .ok (.iaload, 1) := by decide +kernel
theorem dL_law_347 : decode cL_law 347 = .ok (.invokevirtual 44, 3) := by decide +kernel
theorem dL_law_350 : decode cL_law 350 = .ok (.if_icmp .eq 426, 3) := by decide +kernel
theorem dL_law_353 : decode cL_law 353 = .ok (.iconst 0, 1) := by decide +kernel
theorem dL_law_354 : decode cL_law 354 = .ok (.ireturn, 1) := by decide +kernel
theorem dL_law_355 : decode cL_law 355 = .ok (.aload_n 1, 1) := by decide +kernel
theorem dL_law_356 : decode cL_law 356 = .ok (.aload_n 0, 1) := by decide +kernel
theorem dL_law_357 : decode cL_law 357 = .ok (.iload_n 3, 1) := by decide +kernel
theorem dL_law_358 : decode cL_law 358 = .ok (.iconst 1, 1) := by decide +kernel
theorem dL_law_359 : decode cL_law 359 = .ok (.iadd, 1) := by decide +kernel
theorem dL_law_360 : decode cL_law 360 = .ok (.iaload, 1) := by decide +kernel
theorem dL_law_361 : decode cL_law 361 = .ok (.invokevirtual 45, 3) := by decide +kernel
theorem dL_law_364 : decode cL_law 364 = .ok (.aload_n 2, 1) := by decide +kernel
theorem dL_law_365 : decode cL_law 365 = .ok (.aload_n 0, 1) := by decide +kernel
theorem dL_law_366 : decode cL_law 366 = .ok (.iload_n 3, 1) := by decide +kernel
theorem dL_law_367 : decode cL_law 367 = .ok (.iconst 1, 1) := by decide +kernel
theorem dL_law_368 : decode cL_law 368 = .ok (.iadd, 1) := by decide +kernel
theorem dL_law_369 : decode cL_law 369 = .ok (.iaload, 1) := by decide +kernel
theorem dL_law_370 : decode cL_law 370 = .ok (.invokevirtual 48, 3) := by decide +kernel
theorem dL_law_373 : decode cL_law 373 = .ok (.if_icmp .eq 403, 3) := by decide +kernel
theorem dL_law_376 : decode cL_law 376 = .ok (.iconst 0, 1) := by decide +kernel
theorem dL_law_377 : decode cL_law 377 = .ok (.ireturn, 1) := by decide +kernel
theorem dL_law_378 : decode cL_law 378 = .ok (.aload_n 1, 1) := by decide +kernel
theorem dL_law_379 : decode cL_law 379 = .ok (.invokevirtual 49, 3) := by decide +kernel
theorem dL_law_382 : decode cL_law 382 = .ok (.aload_n 2, 1) := by decide +kernel
theorem dL_law_383 : decode cL_law 383 = .ok (.invokevirtual 52, 3) := by decide +kernel
theorem dL_law_386 : decode cL_law 386 = .ok (.if_icmp .eq 390, 3) := by decide +kernel
theorem dL_law_389 : decode cL_law 389 = .ok (.iconst 0, 1) := by decide +kernel
theorem dL_law_390 : decode cL_law 390 = .ok (.ireturn, 1) := by decide +kernel
theorem dL_law_391 : decode cL_law 391 = .ok (.aload_n 1, 1) := by decide +kernel
theorem dL_law_392 : decode cL_law 392 = .ok (.aload_n 0, 1) := by decide +kernel
theorem dL_law_393 : decode cL_law 393 = .ok (.iload_n 3, 1) := by decide +kernel
theorem dL_law_394 : decode cL_law 394 = .ok (.iconst 1, 1) := by decide +kernel
theorem dL_law_395 : decode cL_law 395 = .ok (.iadd, 1) := by decide +kernel
theorem dL_law_396 : decode cL_law 396 = .ok (.iaload, 1) := by decide +kernel
theorem dL_law_397 : decode cL_law 397 = .ok (.invokevirtual 53, 3) := by decide +kernel
theorem dL_law_400 : decode cL_law 400 = .ok (.aload_n 2, 1) := by decide +kernel
theorem dL_law_401 : decode cL_law 401 = .ok (.aload_n 0, 1) := by decide +kernel
theorem dL_law_402 : decode cL_law 402 = .ok (.iload_n 3, 1) := by decide +kernel
theorem dL_law_403 : decode cL_law 403 = .ok (.iconst 1, 1) := by decide +kernel
theorem dL_law_404 : decode cL_law 404 = .ok (.iadd, 1) := by decide +kernel
theorem dL_law_405 : decode cL_law 405 = .ok (.iaload, 1) := by decide +kernel
theorem dL_law_406 : decode cL_law 406 = .ok (.invokevirtual 56, 3) := by decide +kernel
theorem dL_law_409 : decode cL_law 409 = .ok (.if_icmp .eq 367, 3) := by decide +kernel
theorem dL_law_412 : decode cL_law 412 = .ok (.iconst 0, 1) := by decide +kernel
theorem dL_law_413 : decode cL_law 413 = .ok (.ireturn, 1) := by decide +kernel
theorem dL_law_414 : decode cL_law 414 = .ok (.aload_n 1, 1) := by decide +kernel
theorem dL_law_415 : decode cL_law 415 = .ok (.aload_n 0, 1) := by decide +kernel
theorem dL_law_416 : decode cL_law 416 = .ok (.iload_n 3, 1) := by decide +kernel
theorem dL_law_417 : decode cL_law 417 = .ok (.iconst 1, 1) := by decide +kernel
theorem dL_law_418 : decode cL_law 418 = .ok (.iadd, 1) := by decide +kernel
theorem dL_law_419 : decode cL_law 419 = .ok (.iaload, 1) := by decide +kernel
theorem dL_law_420 : decode cL_law 420 = .ok (.aload_n 0, 1) := by decide +kernel
theorem dL_law_421 : decode cL_law 421 = .ok (.iload_n 3, 1) := by decide +kernel
theorem dL_law_422 : decode cL_law 422 = .ok (.iconst 2, 1) := by decide +kernel
theorem dL_law_423 : decode cL_law 423 = .ok (.iadd, 1) := by decide +kernel
theorem dL_law_424 : decode cL_law 424 = .ok (.iaload, 1) := by decide +kernel
theorem dL_law_425 : decode cL_law 425 = .ok (.invokevirtual 57, 3) := by decide +kernel
theorem dL_law_428 : decode cL_law 428 = .ok (.aload_n 2, 1) := by decide +kernel
theorem dL_law_429 : decode cL_law 429 = .ok (.aload_n 0, 1) := by decide +kernel
theorem dL_law_430 : decode cL_law 430 = .ok (.iload_n 3, 1) := by decide +kernel
theorem dL_law_431 : decode cL_law 431 = .ok (.iconst 1, 1) := by decide +kernel
theorem dL_law_432 : decode cL_law 432 = .ok (.iadd, 1) := by decide +kernel
theorem dL_law_433 : decode cL_law 433 = .ok (.iaload, 1) := by decide +kernel
theorem dL_law_434 : decode cL_law 434 = .ok (.aload_n 0, 1) := by decide +kernel
theorem dL_law_435 : decode cL_law 435 = .ok (.iload_n 3, 1) := by decide +kernel
theorem dL_law_436 : decode cL_law 436 = .ok (.iconst 2, 1) := by decide +kernel
theorem dL_law_437 : decode cL_law 437 = .ok (.iadd, 1) := by decide +kernel
theorem dL_law_438 : decode cL_law 438 = .ok (.iaload, 1) := by decide +kernel
theorem dL_law_439 : decode cL_law 439 = .ok (.invokevirtual 60, 3) := by decide +kernel
theorem dL_law_442 : decode cL_law 442 = .ok (.if_icmp .eq 334, 3) := by decide +kernel
theorem dL_law_445 : decode cL_law 445 = .ok (.iconst 0, 1) := by decide +kernel
theorem dL_law_446 : decode cL_law 446 = .ok (.ireturn, 1) := by decide +kernel
theorem dL_law_447 : decode cL_law 447 = .ok (.aload_n 1, 1) := by decide +kernel
theorem dL_law_448 : decode cL_law 448 = .ok (.aload_n 0, 1) := by decide +kernel
theorem dL_law_449 : decode cL_law 449 = .ok (.iload_n 3, 1) := by decide +kernel
theorem dL_law_450 : decode cL_law 450 = .ok (.iconst 1, 1) := by decide +kernel
theorem dL_law_451 : decode cL_law 451 = .ok (.iadd, 1) := by decide +kernel
theorem dL_law_452 : decode cL_law 452 = .ok (.iaload, 1) := by decide +kernel
theorem dL_law_453 : decode cL_law 453 = .ok (.aload_n 0, 1) := by decide +kernel
theorem dL_law_454 : decode cL_law 454 = .ok (.iload_n 3, 1) := by decide +kernel
theorem dL_law_455 : decode cL_law 455 = .ok (.iconst 2, 1) := by decide +kernel
theorem dL_law_456 : decode cL_law 456 = .ok (.iadd, 1) := by decide +kernel
theorem dL_law_457 : decode cL_law 457 = .ok (.iaload, 1) := by decide +kernel
theorem dL_law_458 : decode cL_law 458 = .ok (.invokevirtual 61, 3) := by decide +kernel
theorem dL_law_461 : decode cL_law 461 = .ok (.aload_n 2, 1) := by decide +kernel
theorem dL_law_462 : decode cL_law 462 = .ok (.aload_n 0, 1) := by decide +kernel
theorem dL_law_463 : decode cL_law 463 = .ok (.iload_n 3, 1) := by decide +kernel
theorem dL_law_464 : decode cL_law 464 = .ok (.iconst 1, 1) := by decide +kernel
theorem dL_law_465 : decode cL_law 465 = .ok (.iadd, 1) := by decide +kernel
theorem dL_law_466 : decode cL_law 466 = .ok (.iaload, 1) := by decide +kernel
theorem dL_law_467 : decode cL_law 467 = .ok (.aload_n 0, 1) := by decide +kernel
theorem dL_law_468 : decode cL_law 468 = .ok (.iload_n 3, 1) := by decide +kernel
theorem dL_law_469 : decode cL_law 469 = .ok (.iconst 2, 1) := by decide +kernel
theorem dL_law_470 : decode cL_law 470 = .ok (.iadd, 1) := by decide +kernel
theorem dL_law_471 : decode cL_law 471 = .ok (.iaload, 1) := by decide +kernel
theorem dL_law_472 : decode cL_law 472 = .ok (.invokevirtual 64, 3) := by decide +kernel
theorem dL_law_475 : decode cL_law 475 = .ok (.if_icmp .eq 301, 3) := by decide +kernel
theorem dL_law_478 : decode cL_law 478 = .ok (.iconst 0, 1) := by decide +kernel
theorem dL_law_479 : decode cL_law 479 = .ok (.ireturn, 1) := by decide +kernel
theorem dL_law_480 : decode cL_law 480 = .ok (.aload_n 1, 1) := by decide +kernel
theorem dL_law_481 : decode cL_law 481 = .ok (.aload_n 0, 1) := by decide +kernel
theorem dL_law_482 : decode cL_law 482 = .ok (.iload_n 3, 1) := by decide +kernel
theorem dL_law_483 : decode cL_law 483 = .ok (.iconst 1, 1) := by decide +kernel
theorem dL_law_484 : decode cL_law 484 = .ok (.iadd, 1) := by decide +kernel
theorem dL_law_485 : decode cL_law 485 = .ok (.iaload, 1) := by decide +kernel
theorem dL_law_486 : decode cL_law 486 = .ok (.aload_n 0, 1) := by decide +kernel
theorem dL_law_487 : decode cL_law 487 = .ok (.iload_n 3, 1) := by decide +kernel
theorem dL_law_488 : decode cL_law 488 = .ok (.iconst 2, 1) := by decide +kernel
theorem dL_law_489 : decode cL_law 489 = .ok (.iadd, 1) := by decide +kernel
theorem dL_law_490 : decode cL_law 490 = .ok (.iaload, 1) := by decide +kernel
theorem dL_law_491 : decode cL_law 491 = .ok (.invokevirtual 65, 3) := by decide +kernel
theorem dL_law_494 : decode cL_law 494 = .ok (.aload_n 2, 1) := by decide +kernel
theorem dL_law_495 : decode cL_law 495 = .ok (.aload_n 0, 1) := by decide +kernel
theorem dL_law_496 : decode cL_law 496 = .ok (.iload_n 3, 1) := by decide +kernel
theorem dL_law_497 : decode cL_law 497 = .ok (.iconst 1, 1) := by decide +kernel
theorem dL_law_498 : decode cL_law 498 = .ok (.iadd, 1) := by decide +kernel
theorem dL_law_499 : decode cL_law 499 = .ok (.iaload, 1) := by decide +kernel
theorem dL_law_500 : decode cL_law 500 = .ok (.aload_n 0, 1) := by decide +kernel
theorem dL_law_501 : decode cL_law 501 = .ok (.iload_n 3, 1) := by decide +kernel
theorem dL_law_502 : decode cL_law 502 = .ok (.iconst 2, 1) := by decide +kernel
theorem dL_law_503 : decode cL_law 503 = .ok (.iadd, 1) := by decide +kernel
theorem dL_law_504 : decode cL_law 504 = .ok (.iaload, 1) := by decide +kernel
theorem dL_law_505 : decode cL_law 505 = .ok (.invokevirtual 68, 3) := by decide +kernel
theorem dL_law_508 : decode cL_law 508 = .ok (.if_icmp .eq 268, 3) := by decide +kernel
theorem dL_law_511 : decode cL_law 511 = .ok (.iconst 0, 1) := by decide +kernel
theorem dL_law_512 : decode cL_law 512 = .ok (.ireturn, 1) := by decide +kernel
theorem dL_law_513 : decode cL_law 513 = .ok (.aload_n 1, 1) := by decide +kernel
theorem dL_law_514 : decode cL_law 514 = .ok (.aload_n 0, 1) := by decide +kernel
theorem dL_law_515 : decode cL_law 515 = .ok (.iload_n 3, 1) := by decide +kernel
theorem dL_law_516 : decode cL_law 516 = .ok (.iconst 1, 1) := by decide +kernel
theorem dL_law_517 : decode cL_law 517 = .ok (.iadd, 1) := by decide +kernel
theorem dL_law_518 : decode cL_law 518 = .ok (.iaload, 1) := by decide +kernel
theorem dL_law_519 : decode cL_law 519 = .ok (.invokevirtual 69, 3) := by decide +kernel
theorem dL_law_522 : decode cL_law 522 = .ok (.aload_n 2, 1) := by decide +kernel
theorem dL_law_523 : decode cL_law 523 = .ok (.aload_n 0, 1) := by decide +kernel
theorem dL_law_524 : decode cL_law 524 = .ok (.iload_n 3, 1) := by decide +kernel
theorem dL_law_525 : decode cL_law 525 = .ok (.iconst 1, 1) := by decide +kernel
theorem dL_law_526 : decode cL_law 526 = .ok (.iadd, 1) := by decide +kernel
theorem dL_law_527 : decode cL_law 527 = .ok (.iaload, 1) := by decide +kernel
theorem dL_law_528 : decode cL_law 528 = .ok (.invokevirtual 72, 3) := by decide +kernel
theorem dL_law_531 : decode cL_law 531 = .ok (.if_icmp .eq 245, 3) := by decide +kernel
theorem dL_law_534 : decode cL_law 534 = .ok (.iconst 0, 1) := by decide +kernel
theorem dL_law_535 : decode cL_law 535 = .ok (.ireturn, 1) := by decide +kernel
theorem dL_law_536 : decode cL_law 536 = .ok (.aload_n 1, 1) := by decide +kernel
theorem dL_law_537 : decode cL_law 537 = .ok (.aload_n 0, 1) := by decide +kernel
theorem dL_law_538 : decode cL_law 538 = .ok (.iload_n 3, 1) := by decide +kernel
theorem dL_law_539 : decode cL_law 539 = .ok (.iconst 1, 1) := by decide +kernel
theorem dL_law_540 : decode cL_law 540 = .ok (.iadd, 1) := by decide +kernel
theorem dL_law_541 : decode cL_law 541 = .ok (.iaload, 1) := by decide +kernel
theorem dL_law_542 : decode cL_law 542 = .ok (.invokevirtual 73, 3) := by decide +kernel
theorem dL_law_545 : decode cL_law 545 = .ok (.aload_n 2, 1) := by decide +kernel
theorem dL_law_546 : decode cL_law 546 = .ok (.aload_n 0, 1) := by decide +kernel
theorem dL_law_547 : decode cL_law 547 = .ok (.iload_n 3, 1) := by decide +kernel
theorem dL_law_548 : decode cL_law 548 = .ok (.iconst 1, 1) := by decide +kernel
theorem dL_law_549 : decode cL_law 549 = .ok (.iadd, 1) := by decide +kernel
theorem dL_law_550 : decode cL_law 550 = .ok (.iaload, 1) := by decide +kernel
theorem dL_law_551 : decode cL_law 551 = .ok (.invokevirtual 76, 3) := by decide +kernel
theorem dL_law_554 : decode cL_law 554 = .ok (.if_icmp .eq 222, 3) := by decide +kernel
theorem dL_law_557 : decode cL_law 557 = .ok (.iconst 0, 1) := by decide +kernel
theorem dL_law_558 : decode cL_law 558 = .ok (.ireturn, 1) := by decide +kernel
theorem dL_law_559 : decode cL_law 559 = .ok (.aload_n 1, 1) := by decide +kernel
theorem dL_law_560 : decode cL_law 560 = .ok (.aload_n 0, 1) := by decide +kernel
theorem dL_law_561 : decode cL_law 561 = .ok (.iload_n 3, 1) := by decide +kernel
theorem dL_law_562 : decode cL_law 562 = .ok (.iconst 1, 1) := by decide +kernel
theorem dL_law_563 : decode cL_law 563 = .ok (.iadd, 1) := by decide +kernel
theorem dL_law_564 : decode cL_law 564 = .ok (.iaload, 1) := by decide +kernel
theorem dL_law_565 : decode cL_law 565 = .ok (.invokevirtual 77, 3) := by decide +kernel
theorem dL_law_568 : decode cL_law 568 = .ok (.aload_n 2, 1) := by decide +kernel
theorem dL_law_569 : decode cL_law 569 = .ok (.aload_n 0, 1) := by decide +kernel
theorem dL_law_570 : decode cL_law 570 = .ok (.iload_n 3, 1) := by decide +kernel
theorem dL_law_571 : decode cL_law 571 = .ok (.iconst 1, 1) := by decide +kernel
theorem dL_law_572 : decode cL_law 572 = .ok (.iadd, 1) := by decide +kernel
theorem dL_law_573 : decode cL_law 573 = .ok (.iaload, 1) := by decide +kernel
theorem dL_law_574 : decode cL_law 574 = .ok (.invokevirtual 80, 3) := by decide +kernel
theorem dL_law_577 : decode cL_law 577 = .ok (.if_icmp .eq 199, 3) := by decide +kernel
theorem dL_law_580 : decode cL_law 580 = .ok (.iconst 0, 1) := by decide +kernel
theorem dL_law_581 : decode cL_law 581 = .ok (.ireturn, 1) := by decide +kernel
theorem dL_law_582 : decode cL_law 582 = .ok (.aload_n 1, 1) := by decide +kernel
theorem dL_law_583 : decode cL_law 583 = .ok (.aload_n 0, 1) := by decide +kernel
theorem dL_law_584 : decode cL_law 584 = .ok (.iload_n 3, 1) := by decide +kernel
theorem dL_law_585 : decode cL_law 585 = .ok (.iconst 1, 1) := by decide +kernel
theorem dL_law_586 : decode cL_law 586 = .ok (.iadd, 1) := by decide +kernel
theorem dL_law_587 : decode cL_law 587 = .ok (.iaload, 1) := by decide +kernel
theorem dL_law_588 : decode cL_law 588 = .ok (.invokevirtual 81, 3) := by decide +kernel
theorem dL_law_591 : decode cL_law 591 = .ok (.aload_n 2, 1) := by decide +kernel
theorem dL_law_592 : decode cL_law 592 = .ok (.aload_n 0, 1) := by decide +kernel
theorem dL_law_593 : decode cL_law 593 = .ok (.iload_n 3, 1) := by decide +kernel
theorem dL_law_594 : decode cL_law 594 = .ok (.iconst 1, 1) := by decide +kernel
theorem dL_law_595 : decode cL_law 595 = .ok (.iadd, 1) := by decide +kernel
theorem dL_law_596 : decode cL_law 596 = .ok (.iaload, 1) := by decide +kernel
theorem dL_law_597 : decode cL_law 597 = .ok (.invokevirtual 84, 3) := by decide +kernel
theorem dL_law_600 : decode cL_law 600 = .ok (.if_icmp .eq 176, 3) := by decide +kernel
theorem dL_law_603 : decode cL_law 603 = .ok (.iconst 0, 1) := by decide +kernel
theorem dL_law_604 : decode cL_law 604 = .ok (.ireturn, 1) := by decide +kernel
theorem dL_law_605 : decode cL_law 605 = .ok (.aload_n 1, 1) := by decide +kernel
theorem dL_law_606 : decode cL_law 606 = .ok (.aload_n 0, 1) := by decide +kernel
theorem dL_law_607 : decode cL_law 607 = .ok (.iload_n 3, 1) := by decide +kernel
theorem dL_law_608 : decode cL_law 608 = .ok (.iconst 1, 1) := by decide +kernel
theorem dL_law_609 : decode cL_law 609 = .ok (.iadd, 1) := by decide +kernel
theorem dL_law_610 : decode cL_law 610 = .ok (.iaload, 1) := by decide +kernel
theorem dL_law_611 : decode cL_law 611 = .ok (.invokevirtual 85, 3) := by decide +kernel
theorem dL_law_614 : decode cL_law 614 = .ok (.aload_n 2, 1) := by decide +kernel
theorem dL_law_615 : decode cL_law 615 = .ok (.aload_n 0, 1) := by decide +kernel
theorem dL_law_616 : decode cL_law 616 = .ok (.iload_n 3, 1) := by decide +kernel
theorem dL_law_617 : decode cL_law 617 = .ok (.iconst 1, 1) := by decide +kernel
theorem dL_law_618 : decode cL_law 618 = .ok (.iadd, 1) := by decide +kernel
theorem dL_law_619 : decode cL_law 619 = .ok (.iaload, 1) := by decide +kernel
theorem dL_law_620 : decode cL_law 620 = .ok (.invokevirtual 88, 3) := by decide +kernel
theorem dL_law_623 : decode cL_law 623 = .ok (.if_icmp .eq 153, 3) := by decide +kernel
theorem dL_law_626 : decode cL_law 626 = .ok (.iconst 0, 1) := by decide +kernel
theorem dL_law_627 : decode cL_law 627 = .ok (.ireturn, 1) := by decide +kernel
theorem dL_law_628 : decode cL_law 628 = .ok (.aload_n 1, 1) := by decide +kernel
theorem dL_law_629 : decode cL_law 629 = .ok (.aload_n 0, 1) := by decide +kernel
theorem dL_law_630 : decode cL_law 630 = .ok (.iload_n 3, 1) := by decide +kernel
theorem dL_law_631 : decode cL_law 631 = .ok (.iconst 1, 1) := by decide +kernel
theorem dL_law_632 : decode cL_law 632 = .ok (.iadd, 1) := by decide +kernel
theorem dL_law_633 : decode cL_law 633 = .ok (.iaload, 1) := by decide +kernel
theorem dL_law_634 : decode cL_law 634 = .ok (.invokevirtual 89, 3) := by decide +kernel
theorem dL_law_637 : decode cL_law 637 = .ok (.aload_n 2, 1) := by decide +kernel
theorem dL_law_638 : decode cL_law 638 = .ok (.aload_n 0, 1) := by decide +kernel
theorem dL_law_639 : decode cL_law 639 = .ok (.iload_n 3, 1) := by decide +kernel
theorem dL_law_640 : decode cL_law 640 = .ok (.iconst 1, 1) := by decide +kernel
theorem dL_law_641 : decode cL_law 641 = .ok (.iadd, 1) := by decide +kernel
theorem dL_law_642 : decode cL_law 642 = .ok (.iaload, 1) := by decide +kernel
theorem dL_law_643 : decode cL_law 643 = .ok (.invokevirtual 92, 3) := by decide +kernel
theorem dL_law_646 : decode cL_law 646 = .ok (.if_icmp .eq 130, 3) := by decide +kernel
theorem dL_law_649 : decode cL_law 649 = .ok (.iconst 0, 1) := by decide +kernel
theorem dL_law_650 : decode cL_law 650 = .ok (.ireturn, 1) := by decide +kernel
theorem dL_law_651 : decode cL_law 651 = .ok (.aload_n 1, 1) := by decide +kernel
theorem dL_law_652 : decode cL_law 652 = .ok (.aload_n 0, 1) := by decide +kernel
theorem dL_law_653 : decode cL_law 653 = .ok (.iload_n 3, 1) := by decide +kernel
theorem dL_law_654 : decode cL_law 654 = .ok (.iconst 1, 1) := by decide +kernel
theorem dL_law_655 : decode cL_law 655 = .ok (.iadd, 1) := by decide +kernel
theorem dL_law_656 : decode cL_law 656 = .ok (.iaload, 1) := by decide +kernel
theorem dL_law_657 : decode cL_law 657 = .ok (.invokevirtual 93, 3) := by decide +kernel
theorem dL_law_660 : decode cL_law 660 = .ok (.aload_n 2, 1) := by decide +kernel
theorem dL_law_661 : decode cL_law 661 = .ok (.aload_n 0, 1) := by decide +kernel
theorem dL_law_662 : decode cL_law 662 = .ok (.iload_n 3, 1) := by decide +kernel
theorem dL_law_663 : decode cL_law 663 = .ok (.iconst 1, 1) := by decide +kernel
theorem dL_law_664 : decode cL_law 664 = .ok (.iadd, 1) := by decide +kernel
theorem dL_law_665 : decode cL_law 665 = .ok (.iaload, 1) := by decide +kernel
theorem dL_law_666 : decode cL_law 666 = .ok (.invokevirtual 96, 3) := by decide +kernel
theorem dL_law_669 : decode cL_law 669 = .ok (.if_icmp .eq 107, 3) := by decide +kernel
theorem dL_law_672 : decode cL_law 672 = .ok (.iconst 0, 1) := by decide +kernel
theorem dL_law_673 : decode cL_law 673 = .ok (.ireturn, 1) := by decide +kernel
theorem dL_law_674 : decode cL_law 674 = .ok (.aload_n 1, 1) := by decide +kernel
theorem dL_law_675 : decode cL_law 675 = .ok (.aload_n 0, 1) := by decide +kernel
theorem dL_law_676 : decode cL_law 676 = .ok (.iload_n 3, 1) := by decide +kernel
theorem dL_law_677 : decode cL_law 677 = .ok (.iconst 1, 1) := by decide +kernel
theorem dL_law_678 : decode cL_law 678 = .ok (.iadd, 1) := by decide +kernel
theorem dL_law_679 : decode cL_law 679 = .ok (.iaload, 1) := by decide +kernel
theorem dL_law_680 : decode cL_law 680 = .ok (.aload_n 0, 1) := by decide +kernel
theorem dL_law_681 : decode cL_law 681 = .ok (.iload_n 3, 1) := by decide +kernel
theorem dL_law_682 : decode cL_law 682 = .ok (.iconst 2, 1) := by decide +kernel
theorem dL_law_683 : decode cL_law 683 = .ok (.iadd, 1) := by decide +kernel
theorem dL_law_684 : decode cL_law 684 = .ok (.iaload, 1) := by decide +kernel
theorem dL_law_685 : decode cL_law 685 = .ok (.invokevirtual 97, 3) := by decide +kernel
theorem dL_law_688 : decode cL_law 688 = .ok (.aload_n 2, 1) := by decide +kernel
theorem dL_law_689 : decode cL_law 689 = .ok (.aload_n 0, 1) := by decide +kernel
theorem dL_law_690 : decode cL_law 690 = .ok (.iload_n 3, 1) := by decide +kernel
theorem dL_law_691 : decode cL_law 691 = .ok (.iconst 1, 1) := by decide +kernel
theorem dL_law_692 : decode cL_law 692 = .ok (.iadd, 1) := by decide +kernel
theorem dL_law_693 : decode cL_law 693 = .ok (.iaload, 1) := by decide +kernel
theorem dL_law_694 : decode cL_law 694 = .ok (.aload_n 0, 1) := by decide +kernel
theorem dL_law_695 : decode cL_law 695 = .ok (.iload_n 3, 1) := by decide +kernel
theorem dL_law_696 : decode cL_law 696 = .ok (.iconst 2, 1) := by decide +kernel
theorem dL_law_697 : decode cL_law 697 = .ok (.iadd, 1) := by decide +kernel
theorem dL_law_698 : decode cL_law 698 = .ok (.iaload, 1) := by decide +kernel
theorem dL_law_699 : decode cL_law 699 = .ok (.invokevirtual 100, 3) := by decide +kernel
theorem dL_law_702 : decode cL_law 702 = .ok (.if_icmp .eq 74, 3) := by decide +kernel
theorem dL_law_705 : decode cL_law 705 = .ok (.iconst 0, 1) := by decide +kernel
theorem dL_law_706 : decode cL_law 706 = .ok (.ireturn, 1) := by decide +kernel
theorem dL_law_707 : decode cL_law 707 = .ok (.aload_n 1, 1) := by decide +kernel
theorem dL_law_708 : decode cL_law 708 = .ok (.aload_n 0, 1) := by decide +kernel
theorem dL_law_709 : decode cL_law 709 = .ok (.iload_n 3, 1) := by decide +kernel
theorem dL_law_710 : decode cL_law 710 = .ok (.iconst 1, 1) := by decide +kernel
theorem dL_law_711 : decode cL_law 711 = .ok (.iadd, 1) := by decide +kernel
theorem dL_law_712 : decode cL_law 712 = .ok (.iaload, 1) := by decide +kernel
theorem dL_law_713 : decode cL_law 713 = .ok (.invokevirtual 101, 3) := by decide +kernel
theorem dL_law_716 : decode cL_law 716 = .ok (.aload_n 2, 1) := by decide +kernel
theorem dL_law_717 : decode cL_law 717 = .ok (.aload_n 0, 1) := by decide +kernel
theorem dL_law_718 : decode cL_law 718 = .ok (.iload_n 3, 1) := by decide +kernel
theorem dL_law_719 : decode cL_law 719 = .ok (.iconst 1, 1) := by decide +kernel
theorem dL_law_720 : decode cL_law 720 = .ok (.iadd, 1) := by decide +kernel
theorem dL_law_721 : decode cL_law 721 = .ok (.iaload, 1) := by decide +kernel
theorem dL_law_722 : decode cL_law 722 = .ok (.invokevirtual 104, 3) := by decide +kernel
theorem dL_law_725 : decode cL_law 725 = .ok (.if_icmp .eq 51, 3) := by decide +kernel
theorem dL_law_728 : decode cL_law 728 = .ok (.iconst 0, 1) := by decide +kernel
theorem dL_law_729 : decode cL_law 729 = .ok (.ireturn, 1) := by decide +kernel
theorem dL_law_730 : decode cL_law 730 = .ok (.aload_n 1, 1) := by decide +kernel
theorem dL_law_731 : decode cL_law 731 = .ok (.aload_n 0, 1) := by decide +kernel
theorem dL_law_732 : decode cL_law 732 = .ok (.iload_n 3, 1) := by decide +kernel
theorem dL_law_733 : decode cL_law 733 = .ok (.iconst 1, 1) := by decide +kernel
theorem dL_law_734 : decode cL_law 734 = .ok (.iadd, 1) := by decide +kernel
theorem dL_law_735 : decode cL_law 735 = .ok (.iaload, 1) := by decide +kernel
theorem dL_law_736 : decode cL_law 736 = .ok (.invokevirtual 105, 3) := by decide +kernel
theorem dL_law_739 : decode cL_law 739 = .ok (.aload_n 2, 1) := by decide +kernel
theorem dL_law_740 : decode cL_law 740 = .ok (.aload_n 0, 1) := by decide +kernel
theorem dL_law_741 : decode cL_law 741 = .ok (.iload_n 3, 1) := by decide +kernel
theorem dL_law_742 : decode cL_law 742 = .ok (.iconst 1, 1) := by decide +kernel
theorem dL_law_743 : decode cL_law 743 = .ok (.iadd, 1) := by decide +kernel
theorem dL_law_744 : decode cL_law 744 = .ok (.iaload, 1) := by decide +kernel
theorem dL_law_745 : decode cL_law 745 = .ok (.invokevirtual 108, 3) := by decide +kernel
theorem dL_law_748 : decode cL_law 748 = .ok (.if_icmp .eq 28, 3) := by decide +kernel
theorem dL_law_751 : decode cL_law 751 = .ok (.iconst 0, 1) := by decide +kernel
theorem dL_law_752 : decode cL_law 752 = .ok (.ireturn, 1) := by decide +kernel
theorem dL_law_753 : decode cL_law 753 = .ok (.aload_n 1, 1) := by decide +kernel
theorem dL_law_754 : decode cL_law 754 = .ok (.aload_n 0, 1) := by decide +kernel
theorem dL_law_755 : decode cL_law 755 = .ok (.iload_n 3, 1) := by decide +kernel
theorem dL_law_756 : decode cL_law 756 = .ok (.iconst 1, 1) := by decide +kernel
theorem dL_law_757 : decode cL_law 757 = .ok (.iadd, 1) := by decide +kernel
theorem dL_law_758 : decode cL_law 758 = .ok (.iaload, 1) := by decide +kernel
theorem dL_law_759 : decode cL_law 759 = .ok (.invokevirtual 109, 3) := by decide +kernel
theorem dL_law_762 : decode cL_law 762 = .ok (.aload_n 2, 1) := by decide +kernel
theorem dL_law_763 : decode cL_law 763 = .ok (.aload_n 0, 1) := by decide +kernel
theorem dL_law_764 : decode cL_law 764 = .ok (.iload_n 3, 1) := by decide +kernel
theorem dL_law_765 : decode cL_law 765 = .ok (.iconst 1, 1) := by decide +kernel
theorem dL_law_766 : decode cL_law 766 = .ok (.iadd, 1) := by decide +kernel
theorem dL_law_767 : decode cL_law 767 = .ok (.iaload, 1) := by decide +kernel
theorem dL_law_768 : decode cL_law 768 = .ok (.invokevirtual 112, 3) := by decide +kernel
theorem dL_law_771 : decode cL_law 771 = .ok (.if_icmp .eq 5, 3) := by decide +kernel
theorem dL_law_774 : decode cL_law 774 = .ok (.iconst 0, 1) := by decide +kernel
theorem dL_law_775 : decode cL_law 775 = .ok (.ireturn, 1) := by decide +kernel
theorem dL_law_776 : decode cL_law 776 = .ok (.iinc 3 4, 3) := by decide +kernel
theorem dL_law_779 : decode cL_law 779 = .ok (.goto (-761), 3) := by decide +kernel
theorem dL_law_782 : decode cL_law 782 = .ok (.iconst 1, 1) := by decide +kernel
theorem dL_law_783 : decode cL_law 783 = .ok (.ireturn, 1) := by decide +kernel
