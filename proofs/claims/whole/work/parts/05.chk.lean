section
def aYL : List (List MethodName) := [[⟨"HeatTown$Flows", "<init>", "(LHeatTown$Net;)V"⟩, ⟨"HeatTown$Flows", "settle", "(II)V"⟩, ⟨"HeatTown$Flows", "needOf", "(II)I"⟩, ⟨"HeatTown$Flows", "clear", "()V"⟩, ⟨"HeatTown$Flows", "nextHouse", "()I"⟩, ⟨"HeatTown$Flows", "serve", "(I)V"⟩, ⟨"HeatTown$Flows", "measure", "(I)V"⟩, ⟨"HeatTown$Flows", "shorten", "(III)Z"⟩, ⟨"HeatTown$Flows", "findWay", "(I)I"⟩, ⟨"HeatTown$Flows", "nextPipe", "(I)I"⟩, ⟨"HeatTown$Flows", "takeWay", "(II)V"⟩, ⟨"HeatTown$Hour", "<init>", "(LHeatTown$Net;LHeatTown$Flows;LHeatTown$Rules;LHeatTown$Series;LHeatTown$Works;LHeatTown$Store;)V"⟩, ⟨"HeatTown$Hour", "pass", "(LHeatTown$State;)V"⟩, ⟨"HeatTown$Hour", "settleFlows", "(LHeatTown$State;)V"⟩, ⟨"HeatTown$Hour", "setPrices", "(LHeatTown$State;)V"⟩, ⟨"HeatTown$Hour", "nodeOf", "(II)I"⟩],
  [⟨"HeatTown$Hour", "isRising", "(II)Z"⟩, ⟨"HeatTown$Hour", "moveOut", "(LHeatTown$State;)V"⟩, ⟨"HeatTown$Hour", "heat", "(LHeatTown$State;I)V"⟩, ⟨"HeatTown$Hour", "make", "(LHeatTown$State;J)J"⟩, ⟨"HeatTown$Hour", "giveOf", "(IJI)J"⟩, ⟨"HeatTown$Hour", "fillPipes", "(LHeatTown$State;I)V"⟩, ⟨"HeatTown$Hour", "fillPipe", "(LHeatTown$State;III)V"⟩, ⟨"HeatTown$Hour", "supply", "(LHeatTown$State;IJ)V"⟩, ⟨"HeatTown$Hour", "cool", "(LHeatTown$State;II)J"⟩, ⟨"HeatTown$Hour", "billLost", "(LHeatTown$State;IJ)V"⟩, ⟨"HeatTown$Meters", "<init>", "()V"⟩, ⟨"HeatTown$Meters", "addFact", "(III)I"⟩, ⟨"HeatTown$Meters", "findSpan", "(III)Z"⟩, ⟨"HeatTown$Meters", "latest", "(III)I"⟩, ⟨"HeatTown$Meters", "narrow", "(II)V"⟩, ⟨"HeatTown$Net", "<init>", "()V"⟩],
  [⟨"HeatTown$Net", "hasNode", "(I)Z"⟩, ⟨"HeatTown$Net", "hasPipe", "(I)Z"⟩, ⟨"HeatTown$Net", "hasHouse", "(I)Z"⟩, ⟨"HeatTown$Net", "addPipe", "(IIIII)I"⟩, ⟨"HeatTown$Net", "addHouse", "(III)I"⟩, ⟨"HeatTown$Net", "dropHouse", "()V"⟩, ⟨"HeatTown$Net", "turnValve", "(IZ)Z"⟩, ⟨"HeatTown$Net", "isOpen", "(I)Z"⟩, ⟨"HeatTown$Net", "nodeAt", "(II)I"⟩, ⟨"HeatTown$Net", "spill", "(I)V"⟩, ⟨"HeatTown$Net", "runThrough", "(I)Z"⟩, ⟨"HeatTown$Net", "reachOthers", "()V"⟩, ⟨"HeatTown$Net", "isDry", "(I)Z"⟩, ⟨"HeatTown$Net", "dryNodes", "()J"⟩, ⟨"HeatTown$Net", "dryHouses", "()J"⟩, ⟨"HeatTown$Places", "<init>", "()V"⟩],
  [⟨"HeatTown$Places", "refusal", "(I)I"⟩, ⟨"HeatTown$Places", "countRows", "()I"⟩, ⟨"HeatTown$Places", "makeRow", "(III)V"⟩, ⟨"HeatTown$Places", "numberAt", "(II)J"⟩, ⟨"HeatTown$Places", "setNumber", "(IIJ)V"⟩, ⟨"HeatTown$Places", "cutTo", "(IJ)J"⟩, ⟨"HeatTown$Places", "copyNumbers", "(IIIII)V"⟩, ⟨"HeatTown$Places", "holdsWithin", "(IJJ)Z"⟩, ⟨"HeatTown$Reader", "<init>", "(LHeatTown$Rules;)V"⟩, ⟨"HeatTown$Reader", "addBytes", "(I)V"⟩, ⟨"HeatTown$Reader", "readTape", "()Z"⟩, ⟨"HeatTown$Reader", "findTokens", "()V"⟩, ⟨"HeatTown$Reader", "tokenAt", "(I)I"⟩, ⟨"HeatTown$Reader", "isWithinRun", "(I)Z"⟩, ⟨"HeatTown$Reader", "afterRun", "(I)I"⟩, ⟨"HeatTown$Reader", "isBlank", "(I)Z"⟩],
  [⟨"HeatTown$Reader", "isLetter", "(I)Z"⟩, ⟨"HeatTown$Reader", "isDigit", "(I)Z"⟩, ⟨"HeatTown$Reader", "wordToken", "(II)I"⟩, ⟨"HeatTown$Reader", "numberToken", "(II)I"⟩, ⟨"HeatTown$Reader", "fail", "()V"⟩, ⟨"HeatTown$Reader", "isAt", "(I)Z"⟩, ⟨"HeatTown$Reader", "isSign", "(C)Z"⟩, ⟨"HeatTown$Reader", "goOn", "()V"⟩, ⟨"HeatTown$Reader", "readRule", "()V"⟩, ⟨"HeatTown$Reader", "readWhen", "()V"⟩, ⟨"HeatTown$Reader", "readCondition", "()V"⟩, ⟨"HeatTown$Reader", "readSum", "(I)V"⟩, ⟨"HeatTown$Reader", "readFactor", "(I)V"⟩, ⟨"HeatTown$Rules", "<init>", "()V"⟩, ⟨"HeatTown$Rules", "isNumber", "(I)Z"⟩, ⟨"HeatTown$Rules", "isName", "(I)Z"⟩],
  [⟨"HeatTown$Rules", "clear", "()V"⟩, ⟨"HeatTown$Rules", "copyFrom", "(LHeatTown$Rules;)V"⟩, ⟨"HeatTown$Rules", "put", "(I)V"⟩, ⟨"HeatTown$Rules", "endSum", "(I)V"⟩, ⟨"HeatTown$Rules", "endRule", "()V"⟩, ⟨"HeatTown$Rules", "tell", "(IIII)I"⟩, ⟨"HeatTown$Rules", "holds", "(I)Z"⟩, ⟨"HeatTown$Rules", "work", "(II)J"⟩, ⟨"HeatTown$Rules", "join", "(IJJ)J"⟩, ⟨"HeatTown$Series", "<init>", "()V"⟩, ⟨"HeatTown$Series", "take", "(LHeatTown$Places;II)I"⟩, ⟨"HeatTown$Series", "endingAt", "(I)I"⟩, ⟨"HeatTown$Series", "lastingAt", "(I)I"⟩, ⟨"HeatTown$State", "<init>", "()V"⟩, ⟨"HeatTown$State", "fillPipe", "(I)V"⟩, ⟨"HeatTown$State", "copyFrom", "(LHeatTown$State;)V"⟩],
  [⟨"HeatTown$State", "takeOut", "(IIIZ)J"⟩, ⟨"HeatTown$Store", "<init>", "(LHeatTown$Works;)V"⟩, ⟨"HeatTown$Store", "levelFor", "(II)I"⟩, ⟨"HeatTown$Store", "seek", "(LHeatTown$Places;ILHeatTown$State;)J"⟩, ⟨"HeatTown$Store", "priceChanges", "(JII)V"⟩, ⟨"HeatTown$Store", "choose", "(III)V"⟩, ⟨"HeatTown$Store", "keep", "(II)V"⟩, ⟨"HeatTown$Works", "<init>", "()V"⟩, ⟨"HeatTown$Works", "addBoiler", "(II)I"⟩, ⟨"HeatTown$Works", "raise", "(JI)J"⟩, ⟨"HeatTown", "<init>", "()V"⟩, ⟨"HeatTown", "terms", "(II)I"⟩, ⟨"HeatTown", "node", "()I"⟩, ⟨"HeatTown", "pipe", "(IIIIIZZ)I"⟩, ⟨"HeatTown", "house", "(III)I"⟩, ⟨"HeatTown", "valve", "(IIZ)Z"⟩],
  [⟨"HeatTown", "burst", "(IZ)Z"⟩, ⟨"HeatTown", "air", "(I)I"⟩, ⟨"HeatTown", "boiler", "(II)I"⟩, ⟨"HeatTown", "store", "(II)I"⟩, ⟨"HeatTown", "mill", "(II)I"⟩, ⟨"HeatTown", "feed", "(IIIII)I"⟩, ⟨"HeatTown", "end", "(I)I"⟩, ⟨"HeatTown", "rules", "()I"⟩, ⟨"HeatTown", "fault", "()I"⟩, ⟨"HeatTown", "go", "(I)I"⟩, ⟨"HeatTown", "ahead", "(II)J"⟩, ⟨"HeatTown", "aheadOf", "(II)J"⟩, ⟨"HeatTown", "flow", "(I)I"⟩, ⟨"HeatTown", "gets", "(II)I"⟩, ⟨"HeatTown", "would", "(IIII)I"⟩, ⟨"HeatTown", "cut", "(II)J"⟩],
  [⟨"HeatTown", "isolate", "(I)I"⟩, ⟨"HeatTown", "plan", "(I)J"⟩, ⟨"HeatTown", "planned", "(I)I"⟩, ⟨"HeatTown", "meter", "(IIII)I"⟩, ⟨"HeatTown", "leak", "(IIII)I"⟩, ⟨"HeatTown", "unit", "(III)I"⟩, ⟨"HeatTown", "houseOf", "(II)I"⟩, ⟨"HeatTown", "sums", "(II)J"⟩, ⟨"HeatTown", "pipeOf", "(II)I"⟩, ⟨"HeatTown", "sum", "(I)J"⟩, ⟨"HeatTown", "count", "(I)I"⟩, ⟨"HeatTown", "row", "(III)I"⟩, ⟨"HeatTown", "tear", "(I)Z"⟩, ⟨"HeatTown", "write", "(IIJ)I"⟩, ⟨"HeatTown", "paste", "(IIIII)I"⟩, ⟨"HeatTown", "isWithin", "(JJJ)Z"⟩],
  [⟨"HeatTown", "isPlace", "(I)Z"⟩, ⟨"HeatTown", "firstUnit", "(II)I"⟩, ⟨"HeatTown", "isHouse", "(III)Z"⟩, ⟨"HeatTown", "countPoorer", "(I)I"⟩, ⟨"HeatTown", "startAhead", "()V"⟩, ⟨"HeatTown", "noteCold", "(I)Z"⟩, ⟨"HeatTown", "standing", "()J"⟩, ⟨"HeatTownModel", "<init>", "()V"⟩, ⟨"HeatTownModel", "in", "(JJJ)Z"⟩, ⟨"HeatTownModel", "hour", "()I"⟩, ⟨"HeatTownModel", "isPlace", "(I)Z"⟩, ⟨"HeatTownModel", "narrowed", "(IJ)J"⟩, ⟨"HeatTownModel", "row", "(III)I"⟩, ⟨"HeatTownModel", "tear", "(I)Z"⟩, ⟨"HeatTownModel", "write", "(IIJ)I"⟩, ⟨"HeatTownModel", "paste", "(IIIII)I"⟩],
  [⟨"HeatTownModel", "areNumbers", "(IJJ)Z"⟩, ⟨"HeatTownModel", "terms", "(II)I"⟩, ⟨"HeatTownModel", "node", "()I"⟩, ⟨"HeatTownModel", "isNode", "(I)Z"⟩, ⟨"HeatTownModel", "isPipe", "(I)Z"⟩, ⟨"HeatTownModel", "isHouse", "(I)Z"⟩, ⟨"HeatTownModel", "pipe", "(IIIIIZZ)I"⟩, ⟨"HeatTownModel", "isLike", "(II)Z"⟩, ⟨"HeatTownModel", "house", "(III)I"⟩, ⟨"HeatTownModel", "valve", "(IIZ)Z"⟩, ⟨"HeatTownModel", "burst", "(IZ)Z"⟩, ⟨"HeatTownModel", "isOpen", "(I)Z"⟩, ⟨"HeatTownModel", "refuses", "(IJJ)I"⟩, ⟨"HeatTownModel", "air", "(I)I"⟩, ⟨"HeatTownModel", "boiler", "(II)I"⟩, ⟨"HeatTownModel", "store", "(II)I"⟩],
  [⟨"HeatTownModel", "mill", "(II)I"⟩, ⟨"HeatTownModel", "feed", "(IIIII)I"⟩, ⟨"HeatTownModel", "end", "(I)I"⟩, ⟨"HeatTownModel", "see", "(I)I"⟩, ⟨"HeatTownModel", "isLetter", "(I)Z"⟩, ⟨"HeatTownModel", "isDigit", "(I)Z"⟩, ⟨"HeatTownModel", "isSignByte", "(I)Z"⟩, ⟨"HeatTownModel", "goesOn", "()V"⟩, ⟨"HeatTownModel", "bad", "()V"⟩, ⟨"HeatTownModel", "isSign", "(I)Z"⟩, ⟨"HeatTownModel", "is", "(Ljava/lang/String;)Z"⟩, ⟨"HeatTownModel", "factor", "()J"⟩, ⟨"HeatTownModel", "term", "()J"⟩, ⟨"HeatTownModel", "sum", "()J"⟩, ⟨"HeatTownModel", "cond", "()Z"⟩, ⟨"HeatTownModel", "all", "()Z"⟩],
  [⟨"HeatTownModel", "any", "()Z"⟩, ⟨"HeatTownModel", "rule", "()V"⟩, ⟨"HeatTownModel", "reads", "(III)V"⟩, ⟨"HeatTownModel", "tells", "(IIJJJ)J"⟩, ⟨"HeatTownModel", "rules", "()I"⟩, ⟨"HeatTownModel", "fault", "()I"⟩, ⟨"HeatTownModel", "canGo", "(II)Z"⟩, ⟨"HeatTownModel", "other", "(II)I"⟩, ⟨"HeatTownModel", "seeks", "(I)Z"⟩, ⟨"HeatTownModel", "wants", "(IJ)I"⟩, ⟨"HeatTownModel", "takes", "(IJ)V"⟩, ⟨"HeatTownModel", "flows", "(I)V"⟩, ⟨"HeatTownModel", "flow", "(I)I"⟩, ⟨"HeatTownModel", "gets", "(II)I"⟩, ⟨"HeatTownModel", "would", "(IIII)I"⟩, ⟨"HeatTownModel", "from", "(I)I"⟩],
  [⟨"HeatTownModel", "to", "(I)I"⟩, ⟨"HeatTownModel", "units", "(I)I"⟩, ⟨"HeatTownModel", "leaving", "(IIZ)J"⟩, ⟨"HeatTownModel", "mixes", "(JJ)V"⟩, ⟨"HeatTownModel", "one", "()J"⟩, ⟨"HeatTownModel", "enters", "(IIZ)V"⟩, ⟨"HeatTownModel", "makes", "(J)J"⟩, ⟨"HeatTownModel", "dearer", "(I)I"⟩, ⟨"HeatTownModel", "uses", "(IJJ)V"⟩, ⟨"HeatTownModel", "passes", "()V"⟩, ⟨"HeatTownModel", "unitsFrom", "(I)I"⟩, ⟨"HeatTownModel", "unitsOfHouses", "(I)I"⟩, ⟨"HeatTownModel", "goOut", "(I)V"⟩, ⟨"HeatTownModel", "comeBack", "(I)V"⟩, ⟨"HeatTownModel", "loses", "(I)V"⟩, ⟨"HeatTownModel", "go", "(I)I"⟩],
  [⟨"HeatTownModel", "ahead", "(II)J"⟩, ⟨"HeatTownModel", "aheadOf", "(II)J"⟩, ⟨"HeatTownModel", "endOf", "(II)I"⟩, ⟨"HeatTownModel", "runsOut", "(I)V"⟩, ⟨"HeatTownModel", "cut", "(II)J"⟩, ⟨"HeatTownModel", "isolate", "(I)I"⟩, ⟨"HeatTownModel", "costOf", "(IJ)J"⟩, ⟨"HeatTownModel", "stepCost", "(IIII)J"⟩, ⟨"HeatTownModel", "plan", "(I)J"⟩, ⟨"HeatTownModel", "planned", "(I)I"⟩, ⟨"HeatTownModel", "meter", "(IIII)I"⟩, ⟨"HeatTownModel", "read", "(IIII)I"⟩, ⟨"HeatTownModel", "leak", "(IIII)I"⟩, ⟨"HeatTownModel", "unit", "(III)I"⟩, ⟨"HeatTownModel", "houseOf", "(II)I"⟩, ⟨"HeatTownModel", "sums", "(II)J"⟩],
  [⟨"HeatTownModel", "pipeOf", "(II)I"⟩, ⟨"HeatTownModel", "sum", "(I)J"⟩, ⟨"HeatTownModel", "count", "(I)I"⟩, ⟨"java/lang/Character", "isValidCodePoint", "(I)Z"⟩, ⟨"java/lang/Character", "highSurrogate", "(I)C"⟩, ⟨"java/lang/Character", "lowSurrogate", "(I)C"⟩, ⟨"java/lang/Math", "abs", "(I)I"⟩, ⟨"java/lang/Math", "max", "(II)I"⟩, ⟨"java/lang/Math", "max", "(JJ)J"⟩, ⟨"java/lang/Math", "min", "(II)I"⟩, ⟨"java/lang/Math", "min", "(JJ)J"⟩, ⟨"java/lang/String", "length", "()I"⟩, ⟨"java/lang/String", "charAt", "(I)C"⟩, ⟨"java/lang/String", "indexOf", "(I)I"⟩, ⟨"java/lang/String", "indexOf", "(II)I"⟩, ⟨"java/lang/String", "coder", "()B"⟩],
  [⟨"java/lang/String", "isLatin1", "()Z"⟩, ⟨"java/lang/String", "checkIndex", "(II)V"⟩, ⟨"java/lang/String", "checkBoundsBeginEnd", "(III)V"⟩, ⟨"java/lang/StringLatin1", "charAt", "([BI)C"⟩, ⟨"java/lang/StringLatin1", "canEncode", "(I)Z"⟩, ⟨"java/lang/StringLatin1", "indexOf", "([BIII)I"⟩, ⟨"java/lang/StringLatin1", "indexOfChar", "([BIII)I"⟩, ⟨"java/lang/StringUTF16", "getChar", "([BI)C"⟩, ⟨"java/lang/StringUTF16", "length", "([B)I"⟩, ⟨"java/lang/StringUTF16", "indexOf", "([BIII)I"⟩, ⟨"java/lang/StringUTF16", "indexOfChar", "([BIII)I"⟩, ⟨"java/lang/StringUTF16", "indexOfCharUnsafe", "([BIII)I"⟩, ⟨"java/lang/StringUTF16", "indexOfSupplementary", "([BIII)I"⟩, ⟨"java/lang/StringUTF16", "charAt", "([BI)C"⟩, ⟨"java/lang/StringUTF16", "checkIndex", "(I[B)V"⟩, ⟨"java/lang/StringUTF16", "checkBoundsBeginEnd", "(II[B)V"⟩],
  [⟨"java/util/Arrays", "fill", "([JJ)V"⟩, ⟨"java/util/Arrays", "fill", "([II)V"⟩, ⟨"jdk/internal/util/Preconditions", "checkIndex", "(IILjava/util/function/BiFunction;)I"⟩, ⟨"jdk/internal/util/Preconditions", "checkFromToIndex", "(IIILjava/util/function/BiFunction;)I"⟩, ⟨"HeatTownLaw", "law", "([I)Z"⟩]]
def aBL : List (List ByteArray) := [[prog_2_method_1_code, prog_2_method_2_code, prog_2_method_3_code, prog_2_method_4_code, prog_2_method_5_code, prog_2_method_6_code, prog_2_method_7_code, prog_2_method_8_code, prog_2_method_9_code, prog_2_method_10_code, prog_2_method_11_code, prog_3_method_1_code, prog_3_method_2_code, prog_3_method_3_code, prog_3_method_4_code, prog_3_method_5_code],
  [prog_3_method_6_code, prog_3_method_7_code, prog_3_method_8_code, prog_3_method_9_code, prog_3_method_10_code, prog_3_method_11_code, prog_3_method_12_code, prog_3_method_13_code, prog_3_method_14_code, prog_3_method_15_code, prog_4_method_1_code, prog_4_method_2_code, prog_4_method_3_code, prog_4_method_4_code, prog_4_method_5_code, prog_5_method_1_code],
  [prog_5_method_2_code, prog_5_method_3_code, prog_5_method_4_code, prog_5_method_5_code, prog_5_method_6_code, prog_5_method_7_code, prog_5_method_8_code, prog_5_method_9_code, prog_5_method_10_code, prog_5_method_11_code, prog_5_method_12_code, prog_5_method_13_code, prog_5_method_14_code, prog_5_method_15_code, prog_5_method_16_code, prog_6_method_1_code],
  [prog_6_method_2_code, prog_6_method_3_code, prog_6_method_4_code, prog_6_method_5_code, prog_6_method_6_code, prog_6_method_7_code, prog_6_method_8_code, prog_6_method_9_code, prog_7_method_1_code, prog_7_method_2_code, prog_7_method_3_code, prog_7_method_4_code, prog_7_method_5_code, prog_7_method_6_code, prog_7_method_7_code, prog_7_method_8_code],
  [prog_7_method_9_code, prog_7_method_10_code, prog_7_method_11_code, prog_7_method_12_code, prog_7_method_13_code, prog_7_method_14_code, prog_7_method_15_code, prog_7_method_16_code, prog_7_method_17_code, prog_7_method_18_code, prog_7_method_19_code, prog_7_method_20_code, prog_7_method_21_code, prog_8_method_1_code, prog_8_method_2_code, prog_8_method_3_code],
  [prog_8_method_4_code, prog_8_method_5_code, prog_8_method_6_code, prog_8_method_7_code, prog_8_method_8_code, prog_8_method_9_code, prog_8_method_10_code, prog_8_method_11_code, prog_8_method_12_code, prog_9_method_1_code, prog_9_method_2_code, prog_9_method_3_code, prog_9_method_4_code, prog_10_method_1_code, prog_10_method_2_code, prog_10_method_3_code],
  [prog_10_method_4_code, prog_11_method_1_code, prog_11_method_2_code, prog_11_method_3_code, prog_11_method_4_code, prog_11_method_5_code, prog_11_method_6_code, prog_12_method_1_code, prog_12_method_2_code, prog_12_method_3_code, prog_1_method_1_code, prog_1_method_2_code, prog_1_method_3_code, prog_1_method_4_code, prog_1_method_5_code, prog_1_method_6_code],
  [prog_1_method_7_code, prog_1_method_8_code, prog_1_method_9_code, prog_1_method_10_code, prog_1_method_11_code, prog_1_method_12_code, prog_1_method_13_code, prog_1_method_14_code, prog_1_method_15_code, prog_1_method_16_code, prog_1_method_17_code, prog_1_method_18_code, prog_1_method_19_code, prog_1_method_20_code, prog_1_method_21_code, prog_1_method_22_code],
  [prog_1_method_23_code, prog_1_method_24_code, prog_1_method_25_code, prog_1_method_26_code, prog_1_method_27_code, prog_1_method_28_code, prog_1_method_29_code, prog_1_method_30_code, prog_1_method_31_code, prog_1_method_32_code, prog_1_method_33_code, prog_1_method_34_code, prog_1_method_35_code, prog_1_method_36_code, prog_1_method_37_code, prog_1_method_38_code],
  [prog_1_method_39_code, prog_1_method_40_code, prog_1_method_41_code, prog_1_method_42_code, prog_1_method_43_code, prog_1_method_44_code, prog_1_method_45_code, prog_14_method_1_code, prog_14_method_3_code, prog_14_method_4_code, prog_14_method_5_code, prog_14_method_6_code, prog_14_method_7_code, prog_14_method_8_code, prog_14_method_9_code, prog_14_method_10_code],
  [prog_14_method_11_code, prog_14_method_12_code, prog_14_method_13_code, prog_14_method_14_code, prog_14_method_15_code, prog_14_method_16_code, prog_14_method_17_code, prog_14_method_18_code, prog_14_method_19_code, prog_14_method_20_code, prog_14_method_21_code, prog_14_method_22_code, prog_14_method_23_code, prog_14_method_24_code, prog_14_method_25_code, prog_14_method_26_code],
  [prog_14_method_27_code, prog_14_method_28_code, prog_14_method_29_code, prog_14_method_30_code, prog_14_method_31_code, prog_14_method_32_code, prog_14_method_33_code, prog_14_method_34_code, prog_14_method_35_code, prog_14_method_36_code, prog_14_method_37_code, prog_14_method_38_code, prog_14_method_39_code, prog_14_method_40_code, prog_14_method_41_code, prog_14_method_42_code],
  [prog_14_method_43_code, prog_14_method_44_code, prog_14_method_45_code, prog_14_method_46_code, prog_14_method_47_code, prog_14_method_48_code, prog_14_method_49_code, prog_14_method_50_code, prog_14_method_51_code, prog_14_method_52_code, prog_14_method_53_code, prog_14_method_54_code, prog_14_method_55_code, prog_14_method_56_code, prog_14_method_57_code, prog_14_method_58_code],
  [prog_14_method_59_code, prog_14_method_60_code, prog_14_method_61_code, prog_14_method_62_code, prog_14_method_63_code, prog_14_method_64_code, prog_14_method_65_code, prog_14_method_66_code, prog_14_method_67_code, prog_14_method_68_code, prog_14_method_69_code, prog_14_method_70_code, prog_14_method_71_code, prog_14_method_72_code, prog_14_method_73_code, prog_14_method_74_code],
  [prog_14_method_75_code, prog_14_method_76_code, prog_14_method_77_code, prog_14_method_78_code, prog_14_method_79_code, prog_14_method_80_code, prog_14_method_81_code, prog_14_method_82_code, prog_14_method_83_code, prog_14_method_84_code, prog_14_method_85_code, prog_14_method_86_code, prog_14_method_87_code, prog_14_method_88_code, prog_14_method_89_code, prog_14_method_90_code],
  [prog_14_method_91_code, prog_14_method_92_code, prog_14_method_93_code, prog_15_method_11_code, prog_15_method_28_code, prog_15_method_29_code, prog_16_method_59_code, prog_16_method_65_code, prog_16_method_66_code, prog_16_method_69_code, prog_16_method_70_code, prog_17_method_54_code, prog_17_method_56_code, prog_17_method_79_code, prog_17_method_80_code, prog_17_method_152_code],
  [prog_17_method_154_code, prog_17_method_155_code, prog_17_method_158_code, prog_18_method_2_code, prog_18_method_4_code, prog_18_method_22_code, prog_18_method_23_code, prog_19_method_5_code, prog_19_method_6_code, prog_19_method_40_code, prog_19_method_47_code, prog_19_method_48_code, prog_19_method_49_code, prog_19_method_83_code, prog_19_method_91_code, prog_19_method_93_code],
  [prog_21_method_101_code, prog_21_method_103_code, prog_22_method_11_code, prog_22_method_12_code, code]]
def aY (j : Nat) : MethodName := nth2 ⟨"", "", ""⟩ aYL j
def aB (j : Nat) : ByteArray := nth2 ⟨#[]⟩ aBL j
def aRy (j : Nat) : Option FieldType := match aRk j with
  | 1 => some .int
  | 2 => some .long
  | 3 => some .boolean
  | 4 => some .byte
  | 5 => some .char
  | _ => none
def aGt : List Jvm.Cond → Nat → Option Jvm.Cond
  | [], _ => none
  | a :: _, 0 => some a
  | _ :: l, n + 1 => aGt l n
theorem aGt_mem : ∀ {l : List Jvm.Cond} {n : Nat} {w : Jvm.Cond}, aGt l n = some w → w ∈ l
  | [], _, _, h => by simp [aGt] at h
  | a :: l, 0, w, h => by simp [aGt] at h; subst h; exact List.mem_cons_self
  | a :: l, n + 1, w, h => List.mem_cons_of_mem _ (aGt_mem (l := l) (n := n) h)
def aTw (p : Nat) (w : Jvm.Cond) : Bool := decide (aGt lw_tbl p = some w)
theorem aTw_mem {p : Nat} {w : Jvm.Cond} (h : aTw p w = true) : w ∈ lw_tbl := aGt_mem (of_decide_eq_true h)
def aCn (ci : Nat) : vw_C := nth ("", TX0, 0) aCl ci
def aTgs (pc : Nat) (off : Int) : Bool := decide (0 ≤ (pc : Int) + off)
def aYok (y : MethodName) (n : Nat) : Bool := decide (y.cls ≠ "java/lang/invoke/MethodHandle") && decide (y.cls ≠ "java/lang/invoke/VarHandle") && decide ((parseMethodDescriptor y.desc).map (fun d => d.parameters.length) = some n)
def aMn (w : Nat) : MethodName := nth Lib.Math.max.name [Lib.Math.max.name, Lib.Math.min.name, Lib.Math.abs.name, Lib.MathLoose.max_long.x, Lib.MathLoose.min_long.x] w
/-- is what stands in the program's data right? -/
def aCkB (j : Nat) (e : bE) : Bool := decide (decode (aB j) e.1 = .ok (e.2.1, e.2.2.1)) && match e.2.1 with
  | .iconst v => decide (-1 ≤ v) && decide (v ≤ 5)
  | .bipush v => decide (-128 ≤ v) && decide (v < 128)
  | .sipush v => decide (-32768 ≤ v) && decide (v < 32768)
  | .ldc i => match e.2.2.2.1 with
    | [0, p] => aTw p (.constant (aY j).cls i (Int32.ofInt e.2.2.2.2)) && decide (-2147483648 ≤ e.2.2.2.2) && decide (e.2.2.2.2 < 2147483648)
    | [1, t, _] => decide ((nth ("", 0, "") aSTN t).1 = (aY j).cls) && Nat.beq (nth ("", 0, "") aSTN t).2.1 i
    | _ => false
  | .ldc_w i => match e.2.2.2.1 with
    | [0, p] => aTw p (.constant (aY j).cls i (Int32.ofInt e.2.2.2.2)) && decide (-2147483648 ≤ e.2.2.2.2) && decide (e.2.2.2.2 < 2147483648)
    | [1, t, _] => decide ((nth ("", 0, "") aSTN t).1 = (aY j).cls) && Nat.beq (nth ("", 0, "") aSTN t).2.1 i
    | _ => false
  | .ldc2_w i => match e.2.2.2.1 with
    | [p] => aTw p (.constantLong (aY j).cls i (Int64.ofInt e.2.2.2.2)) && decide (-9223372036854775808 ≤ e.2.2.2.2) && decide (e.2.2.2.2 < 9223372036854775808)
    | _ => false
  | .getfield i => match e.2.2.2.1 with
    | [0, ci, f, p] => Nat.blt ci 13 && Nat.blt f (aCn ci).2.2 && aTw p (.fieldLink (aY j).cls i ((aCn ci).2.1 f).1 ((aCn ci).2.1 f).2.1 ((aCn ci).2.1 f).2.2.1)
    | [1, p] => aTw p (.fieldLink (aY j).cls i "java/lang/String" "value" "[B")
    | [2, p] => aTw p (.fieldLink (aY j).cls i "java/lang/String" "coder" "B")
    | _ => false
  | .putfield i => match e.2.2.2.1 with
    | [ci, f, fn, p] => Nat.blt ci 13 && Nat.blt f (aCn ci).2.2 && aTw p (.fieldLink (aY j).cls i ((aCn ci).2.1 f).1 ((aCn ci).2.1 f).2.1 ((aCn ci).2.1 f).2.2.1) &&
       (match fn with
        | 0 => decide (((aCn ci).2.1 f).2.2.2 = false)
        | _ => decide (((aCn ci).2.1 f).2.2.2 = true) && decide ((aY j).name = "<init>") && decide (((aCn ci).2.1 f).1 = (aY j).cls))
    | _ => false
  | .getstatic i => match e.2.2.2.1 with
    | [0, p] => aTw p (.fieldLink (aY j).cls i "java/lang/String" "COMPACT_STRINGS" "Z")
    | [1, p] => aTw p (.fieldLink (aY j).cls i "jdk/internal/util/Preconditions" "SIOOBE_FORMATTER" "Ljava/util/function/BiFunction;")
    | _ => true
  | .invokevirtual i => match e.2.2.2.1 with
    | [0, j2, na, ci, p1, p2, p3, p4, _] => Nat.blt j2 277 && Nat.blt 0 na && aYok (aY j2) (na - 1) && aTw p1 (.methodLink (aY j).cls i (aY j2)) && aTw p2 (.instanceMethod (aY j2)) && aTw p3 (.selects (aY j2).cls (aY j2) (aY j2)) && aTw p4 (.initialized (aY j2).cls) &&
       (match ci with
        | 100 => decide ((aY j2).cls = "java/lang/String")
        | 99 => false
        | _ => Nat.blt ci 13 && decide ((aCn ci).1 = (aY j2).cls))
    | 0 :: _ => false
    | _ => true
  | .invokestatic i => match e.2.2.2.1 with
    | [0, j2, na, 99, 0, p1, p2, p3, _] => Nat.blt j2 277 && aYok (aY j2) na && aTw p1 (.methodLink (aY j).cls i (aY j2)) && aTw p2 (.static (aY j2)) && aTw p3 (.initialized (aY j2).cls)
    | [0, j2, na, 99, 1, p1, p2, p3, _] => Nat.blt j2 277 && aYok (aY j2) na && aTw p1 (.methodLinkNest (aY j).cls i (aY j2) "HeatTown") && aTw p2 (.static (aY j2)) && aTw p3 (.initialized (aY j2).cls)
    | [1, p1, p2, p3, p4] => aTw p1 (.methodLink (aY j).cls i arraycopyName) && aTw p2 (.native arraycopyName) && aTw p3 (.static arraycopyName) && aTw p4 (.initialized "java/lang/System")
    | [3, w, p1, p2, p3] => Nat.blt w 5 && aTw p1 (.methodLink (aY j).cls i (aMn w)) && aTw p2 (.static (aMn w)) && aTw p3 (.initialized "java/lang/Math")
    | 0 :: _ => false
    | 1 :: _ => false
    | 3 :: _ => false
    | _ => true
  | .invokespecial i => match e.2.2.2.1 with
    | [0, j2, na, ci, 0, p1, p2, p3, _] => Nat.blt j2 277 && Nat.blt 0 na && aYok (aY j2) (na - 1) && aTw p1 (.methodLink (aY j).cls i (aY j2)) && aTw p2 (.instanceMethod (aY j2)) && aTw p3 (.initialized (aY j2).cls) && decide ((aY j2).name = "<init>") && Nat.beq (aRk j2) 0 && Nat.blt ci 13
    | [0, j2, na, ci, 1, p1, p2, p3, _] => Nat.blt j2 277 && Nat.blt 0 na && aYok (aY j2) (na - 1) && aTw p1 (.methodLinkNest (aY j).cls i (aY j2) "HeatTown") && aTw p2 (.instanceMethod (aY j2)) && aTw p3 (.initialized (aY j2).cls) && decide ((aY j2).name = "<init>") && Nat.beq (aRk j2) 0 && Nat.blt ci 13
    | [2, p1, p2, _] => aTw p1 (.methodLink (aY j).cls i objectInit) && aTw p2 (.instanceMethod objectInit)
    | 0 :: _ => false
    | 2 :: _ => false
    | _ => true
  | .new i => match e.2.2.2.1 with
    | [ci, p1, p2, p3] => Nat.blt ci 13 && aTw p1 (.classLink (aY j).cls i (aCn ci).1) && aTw p2 (.instantiable (aCn ci).1 (aCn ci).2.2) && aTw p3 (.initialized (aCn ci).1)
    | _ => false
  | .newarray t => match e.2.2.2.1 with
    | [p] => aTw p (.arrayClass (newarray.typeOf t))
    | _ => false
  | .goto off => aTgs e.1 off
  | .ifCond _ off => aTgs e.1 off
  | .if_icmp _ off => aTgs e.1 off
  | .tableswitch d lo hi offs => aTgs e.1 d && offs.toList.all (aTgs e.1) && decide (hi = lo + (offs.toList.length : Int) - 1)
  | .lookupswitch d ps => aTgs e.1 d && ps.toList.all (fun q => aTgs e.1 q.2 && decide (-2147483648 ≤ q.1) && decide (q.1 < 2147483648)) && (ps.toList.zip (ps.toList.drop 1)).all (fun (a, next) => a.1 < next.1)
  | _ => true
end
