/-! SOUNDNESS, 6: the methods' table, contracts, calls. -/
abbrev zMT : Type := Nat × MethodName × ByteArray × Nat × Option FieldType × List (Nat × Nat × Nat × Nat)
def zMs_0 : List zMT := [(0, ⟨"TollTags$Book", "<init>", "()V"⟩, prog_2_method_1_code, 1, none, []), (0, ⟨"TollTags$Book", "hasRoom", "(I)Z"⟩, prog_2_method_2_code, 2, some (.boolean), []), (0, ⟨"TollTags$Book", "tell", "(ILTollTags$Tariff;)V"⟩, prog_2_method_3_code, 3, none, []), (0, ⟨"TollTags$Book", "set", "(ILTollTags$Tariff;)V"⟩, prog_2_method_5_code, 3, none, []), (0, ⟨"TollTags$Book", "find", "(III)LTollTags$Tariff;"⟩, prog_2_method_7_code, 8, some (.object "TollTags$Tariff"), []), (0, ⟨"TollTags$Book", "get", "(I)LTollTags$Tariff;"⟩, prog_2_method_6_code, 2, some (.object "TollTags$Tariff"), []), (0, ⟨"TollTags$Book", "takeBackLast", "(I)V"⟩, prog_2_method_4_code, 2, none, []), (1, ⟨"TollTags$Disputes", "<init>", "()V"⟩, prog_3_method_1_code, 1, none, []), (1, ⟨"TollTags$Disputes", "add", "(I)I"⟩, prog_3_method_2_code, 2, some (.int), []), (1, ⟨"TollTags$Disputes", "settle", "(IIII)Z"⟩, prog_3_method_3_code, 5, some (.boolean), []), (1, ⟨"TollTags$Disputes", "overrule", "([II)V"⟩, prog_3_method_4_code, 5, none, []), (2, ⟨"TollTags$Fleet", "<init>", "()V"⟩, prog_4_method_1_code, 1, none, []), (2, ⟨"TollTags$Fleet", "addProvider", "(I)I"⟩, prog_4_method_2_code, 2, some (.int), []), (2, ⟨"TollTags$Fleet", "addLorry", "(II)I"⟩, prog_4_method_3_code, 3, some (.int), []), (2, ⟨"TollTags$Fleet", "addBox", "(II)I"⟩, prog_4_method_4_code, 3, some (.int), []), (2, ⟨"TollTags$Fleet", "lorryOf", "(I)I"⟩, prog_4_method_6_code, 2, some (.int), []), (2, ⟨"TollTags$Fleet", "axlesOf", "(I)I"⟩, prog_4_method_8_code, 2, some (.int), []), (2, ⟨"TollTags$Fleet", "fumesOf", "(I)I"⟩, prog_4_method_9_code, 2, some (.int), []), (2, ⟨"TollTags$Fleet", "providerOf", "(I)I"⟩, prog_4_method_7_code, 2, some (.int), []), (2, ⟨"TollTags$Fleet", "depositOf", "(I)I"⟩, prog_4_method_5_code, 2, some (.int), []), (3, ⟨"TollTags$Ledger", "<init>", "(LTollTags$Fleet;LTollTags$Walk;LTollTags$Notes;)V"⟩, prog_5_method_1_code, 4, none, []), (3, ⟨"TollTags$Ledger", "addUp", "(II)V"⟩, prog_5_method_2_code, 6, none, []), (3, ⟨"TollTags$Ledger", "add", "([JII)V"⟩, prog_5_method_3_code, 3, none, []), (3, ⟨"TollTags$Ledger", "dueFor", "(III)J"⟩, prog_5_method_4_code, 5, some (.long), []), (3, ⟨"TollTags$Ledger", "unpaidFor", "(II)I"⟩, prog_5_method_5_code, 3, some (.int), []), (3, ⟨"TollTags$Ledger", "shareOf", "(IJI)J"⟩, prog_5_method_7_code, 17, some (.long), []), (3, ⟨"TollTags$Ledger", "addDebts", "(I)J"⟩, prog_5_method_8_code, 8, some (.long), []), (3, ⟨"TollTags$Ledger", "chargesIn", "(I)I"⟩, prog_5_method_6_code, 5, some (.int), []), (4, ⟨"TollTags$Net", "<init>", "()V"⟩, prog_6_method_1_code, 2, none, []), (4, ⟨"TollTags$Net", "addLand", "()I"⟩, prog_6_method_2_code, 1, some (.int), []), (4, ⟨"TollTags$Net", "addRoad", "(IIIIIZ)I"⟩, prog_6_method_3_code, 8, some (.int), []), (4, ⟨"TollTags$Net", "shorten", "(III)V"⟩, prog_6_method_4_code, 8, none, []), (4, ⟨"TollTags$Net", "hasGantry", "(I)Z"⟩, prog_6_method_5_code, 2, some (.boolean), []), (4, ⟨"TollTags$Net", "landOf", "(I)I"⟩, prog_6_method_8_code, 2, some (.int), []), (4, ⟨"TollTags$Net", "firstRoad", "(II)I"⟩, prog_6_method_11_code, 5, some (.int), []), (4, ⟨"TollTags$Net", "endOf", "(I)I"⟩, prog_6_method_7_code, 2, some (.int), []), (4, ⟨"TollTags$Net", "beginOf", "(I)I"⟩, prog_6_method_6_code, 2, some (.int), []), (4, ⟨"TollTags$Net", "kmOf", "(I)I"⟩, prog_6_method_9_code, 2, some (.int), []), (4, ⟨"TollTags$Net", "sortOf", "(I)I"⟩, prog_6_method_10_code, 2, some (.int), []), (5, ⟨"TollTags$Notes", "<init>", "()V"⟩, prog_7_method_1_code, 1, none, [])]
def zMs_1 : List zMT := [(5, ⟨"TollTags$Notes", "tell", "(IIII)Z"⟩, prog_7_method_2_code, 5, some (.boolean), []), (5, ⟨"TollTags$Notes", "latest", "(IIII)I"⟩, prog_7_method_3_code, 6, some (.int), []), (6, ⟨"TollTags$Reader", "<init>", "()V"⟩, prog_8_method_1_code, 1, none, []), (6, ⟨"TollTags$Reader", "append", "(I)V"⟩, prog_8_method_2_code, 3, none, []), (6, ⟨"TollTags$Reader", "read", "(I)I"⟩, prog_8_method_4_code, 4, some (.int), []), (6, ⟨"TollTags$Reader", "advance", "()V"⟩, prog_8_method_16_code, 2, none, []), (6, ⟨"TollTags$Reader", "isBlank", "(I)Z"⟩, prog_8_method_20_code, 1, some (.boolean), []), (6, ⟨"TollTags$Reader", "isLetter", "(I)Z"⟩, prog_8_method_21_code, 1, some (.boolean), []), (6, ⟨"TollTags$Reader", "readWord", "()V"⟩, prog_8_method_18_code, 4, none, []), (6, ⟨"TollTags$Reader", "isRow", "(II)Z"⟩, prog_8_method_19_code, 4, some (.boolean), []), (6, ⟨"TollTags$Reader", "isDigit", "(I)Z"⟩, prog_8_method_22_code, 1, some (.boolean), []), (6, ⟨"TollTags$Reader", "readNumber", "()V"⟩, prog_8_method_17_code, 1, none, []), (6, ⟨"TollTags$Reader", "isSign", "(I)Z"⟩, prog_8_method_23_code, 1, some (.boolean), []), (6, ⟨"TollTags$Reader", "rankOf", "(I)I"⟩, prog_8_method_12_code, 1, some (.int), []), (6, ⟨"TollTags$Reader", "begin", "()I"⟩, prog_8_method_5_code, 1, some (.int), []), (6, ⟨"TollTags$Reader", "wantNot", "()V"⟩, prog_8_method_8_code, 1, none, []), (6, ⟨"TollTags$Reader", "term", "()I"⟩, prog_8_method_6_code, 1, some (.int), []), (6, ⟨"TollTags$Reader", "stop", "()I"⟩, prog_8_method_7_code, 1, some (.int), []), (6, ⟨"TollTags$Reader", "part", "()I"⟩, prog_8_method_9_code, 3, some (.int), []), (6, ⟨"TollTags$Reader", "hold", "()V"⟩, prog_8_method_13_code, 1, none, []), (6, ⟨"TollTags$Reader", "write", "(I)V"⟩, prog_8_method_15_code, 2, none, []), (6, ⟨"TollTags$Reader", "joint", "()I"⟩, prog_8_method_10_code, 3, some (.int), []), (6, ⟨"TollTags$Reader", "unwind", "(I)V"⟩, prog_8_method_14_code, 2, none, []), (6, ⟨"TollTags$Reader", "join", "(I)V"⟩, prog_8_method_11_code, 2, none, []), (6, ⟨"TollTags$Reader", "tariff", "(II)LTollTags$Tariff;"⟩, prog_8_method_3_code, 4, some (.object "TollTags$Tariff"), []), (7, ⟨"TollTags$Signals", "<init>", "(LTollTags$Net;LTollTags$Fleet;LTollTags$Book;LTollTags$Disputes;)V"⟩, prog_9_method_1_code, 5, none, []), (7, ⟨"TollTags$Signals", "add", "(IIII)I"⟩, prog_9_method_2_code, 6, some (.int), []), (7, ⟨"TollTags$Signals", "inOrder", "(I)I"⟩, prog_9_method_7_code, 2, some (.int), []), (7, ⟨"TollTags$Signals", "minuteOf", "(I)I"⟩, prog_9_method_4_code, 2, some (.int), []), (7, ⟨"TollTags$Signals", "takeBack", "(II)Z"⟩, prog_9_method_3_code, 3, some (.boolean), []), (7, ⟨"TollTags$Signals", "know", "(I)V"⟩, prog_9_method_9_code, 3, none, []), (7, ⟨"TollTags$Signals", "isKnown", "(II)Z"⟩, prog_9_method_10_code, 4, some (.boolean), []), (7, ⟨"TollTags$Signals", "isLate", "(II)Z"⟩, prog_9_method_11_code, 5, some (.boolean), []), (7, ⟨"TollTags$Signals", "whereOf", "(I)I"⟩, prog_9_method_5_code, 2, some (.int), []), (7, ⟨"TollTags$Signals", "hasTwin", "(II)Z"⟩, prog_9_method_12_code, 7, some (.boolean), []), (7, ⟨"TollTags$Signals", "isTwin", "(II)Z"⟩, prog_9_method_13_code, 5, some (.boolean), []), (7, ⟨"TollTags$Signals", "nextOf", "(II)I"⟩, prog_9_method_8_code, 5, some (.int), []), (7, ⟨"TollTags$Signals", "isDouble", "(I)Z"⟩, prog_9_method_6_code, 2, some (.boolean), []), (8, ⟨"TollTags$Tariff", "<init>", "(IIII[I)V"⟩, prog_10_method_1_code, 6, none, []), (8, ⟨"TollTags$Tariff", "charge", "([I[II)I"⟩, prog_10_method_2_code, 8, some (.int), [])]
def zMs_2 : List zMT := [(8, ⟨"TollTags$Tariff", "join", "(III)I"⟩, prog_10_method_3_code, 3, some (.int), []), (9, ⟨"TollTags$Walk", "<init>", "(LTollTags$Net;LTollTags$Fleet;LTollTags$Signals;LTollTags$Book;LTollTags$Notes;)V"⟩, prog_11_method_1_code, 6, none, []), (9, ⟨"TollTags$Walk", "start", "(II)V"⟩, prog_11_method_2_code, 3, none, []), (9, ⟨"TollTags$Walk", "step", "()Z"⟩, prog_11_method_3_code, 2, some (.boolean), []), (9, ⟨"TollTags$Walk", "guess", "()V"⟩, prog_11_method_5_code, 1, none, []), (9, ⟨"TollTags$Walk", "meet", "()V"⟩, prog_11_method_6_code, 1, none, []), (9, ⟨"TollTags$Walk", "aim", "()V"⟩, prog_11_method_7_code, 4, none, []), (9, ⟨"TollTags$Walk", "cellOf", "()I"⟩, prog_11_method_4_code, 1, some (.int), []), (9, ⟨"TollTags$Walk", "charge", "()I"⟩, prog_11_method_8_code, 2, some (.int), []), (9, ⟨"TollTags$Walk", "isUnpaid", "()Z"⟩, prog_11_method_9_code, 1, some (.boolean), []), (10, ⟨"TollTags$Watch", "<init>", "()V"⟩, prog_12_method_1_code, 1, none, []), (10, ⟨"TollTags$Watch", "seenBy", "(I)I"⟩, prog_12_method_5_code, 4, some (.int), []), (10, ⟨"TollTags$Watch", "takes", "(II)Z"⟩, prog_12_method_3_code, 3, some (.boolean), []), (10, ⟨"TollTags$Watch", "roadAt", "(JI)I"⟩, prog_12_method_2_code, 3, some (.int), []), (10, ⟨"TollTags$Watch", "add", "(IJI)I"⟩, prog_12_method_4_code, 8, some (.int), []), (10, ⟨"TollTags$Watch", "bestOf", "(I)I"⟩, prog_12_method_6_code, 2, some (.int), []), (10, ⟨"TollTags$Watch", "findBest", "()V"⟩, prog_12_method_7_code, 4, none, []), (10, ⟨"TollTags$Watch", "isBetter", "(II)Z"⟩, prog_12_method_8_code, 5, some (.boolean), []), (11, ⟨"TollTags", "<init>", "()V"⟩, prog_1_method_1_code, 1, none, []), (11, ⟨"TollTags", "put", "([III)V"⟩, prog_1_method_40_code, 3, none, []), (11, ⟨"TollTags", "land", "()I"⟩, prog_1_method_2_code, 1, some (.int), []), (11, ⟨"TollTags", "provider", "(I)I"⟩, prog_1_method_4_code, 2, some (.int), []), (11, ⟨"TollTags", "isWithin", "(III)Z"⟩, prog_1_method_37_code, 3, some (.boolean), []), (11, ⟨"TollTags", "lorry", "(II)I"⟩, prog_1_method_5_code, 3, some (.int), []), (11, ⟨"TollTags", "feed", "(IIIII)I"⟩, prog_1_method_12_code, 6, some (.int), []), (11, ⟨"TollTags", "fault", "()I"⟩, prog_1_method_14_code, 1, some (.int), []), (11, ⟨"TollTags", "sees", "(I)I"⟩, prog_1_method_24_code, 2, some (.int), []), (11, ⟨"TollTags", "at", "([II)I"⟩, prog_1_method_39_code, 2, some (.int), []), (11, ⟨"TollTags", "more", "()I"⟩, prog_1_method_26_code, 1, some (.int), []), (11, ⟨"TollTags", "road", "(IIIIIZ)I"⟩, prog_1_method_3_code, 7, some (.int), []), (11, ⟨"TollTags", "needLand", "(I)V"⟩, prog_1_method_29_code, 2, none, []), (11, ⟨"TollTags", "need", "(II)V"⟩, prog_1_method_28_code, 3, none, []), (11, ⟨"TollTags", "box", "(II)I"⟩, prog_1_method_6_code, 3, some (.int), []), (11, ⟨"TollTags", "go", "(I)I"⟩, prog_1_method_7_code, 2, some (.int), []), (11, ⟨"TollTags", "signal", "(III)I"⟩, prog_1_method_8_code, 4, some (.int), []), (11, ⟨"TollTags", "back", "(I)Z"⟩, prog_1_method_9_code, 2, some (.boolean), []), (11, ⟨"TollTags", "dispute", "(I)I"⟩, prog_1_method_10_code, 2, some (.int), []), (11, ⟨"TollTags", "decide", "(III)Z"⟩, prog_1_method_11_code, 4, some (.boolean), []), (11, ⟨"TollTags", "terms", "(III)I"⟩, prog_1_method_13_code, 5, some (.int), []), (11, ⟨"TollTags", "needTape", "(I)V"⟩, prog_1_method_31_code, 2, none, [])]
def zMs_3 : List zMT := [(11, ⟨"TollTags", "isMinute", "(I)Z"⟩, prog_1_method_38_code, 1, some (.boolean), []), (11, ⟨"TollTags", "readTape", "(IZ)I"⟩, prog_1_method_32_code, 4, some (.int), []), (11, ⟨"TollTags", "black", "(IZI)I"⟩, prog_1_method_15_code, 4, some (.int), []), (11, ⟨"TollTags", "rate", "(III)Z"⟩, prog_1_method_16_code, 4, some (.boolean), []), (11, ⟨"TollTags", "track", "(III)I"⟩, prog_1_method_17_code, 6, some (.int), []), (11, ⟨"TollTags", "needKnown", "(I)V"⟩, prog_1_method_30_code, 2, none, []), (11, ⟨"TollTags", "partOfTrack", "(I)I"⟩, prog_1_method_33_code, 2, some (.int), []), (11, ⟨"TollTags", "passage", "(IIII)I"⟩, prog_1_method_18_code, 6, some (.int), []), (11, ⟨"TollTags", "partOfPassage", "(I)I"⟩, prog_1_method_34_code, 2, some (.int), []), (11, ⟨"TollTags", "due", "(IIII)J"⟩, prog_1_method_19_code, 5, some (.long), []), (11, ⟨"TollTags", "addUp", "(II)V"⟩, prog_1_method_35_code, 3, none, []), (11, ⟨"TollTags", "at", "([JI)J"⟩, prog_1_method_41_code, 2, some (.long), []), (11, ⟨"TollTags", "put", "([JIJ)V"⟩, prog_1_method_42_code, 4, none, []), (11, ⟨"TollTags", "unpaid", "(III)I"⟩, prog_1_method_20_code, 4, some (.int), []), (11, ⟨"TollTags", "falls", "(III)J"⟩, prog_1_method_21_code, 4, some (.long), []), (11, ⟨"TollTags", "way", "(IJI)I"⟩, prog_1_method_22_code, 6, some (.int), []), (11, ⟨"TollTags", "cameras", "(I)I"⟩, prog_1_method_23_code, 2, some (.int), []), (11, ⟨"TollTags", "attempt", "(III)I"⟩, prog_1_method_25_code, 6, some (.int), []), (11, ⟨"TollTags", "chargesNow", "(I)I"⟩, prog_1_method_36_code, 2, some (.int), []), (11, ⟨"TollTags", "count", "(I)I"⟩, prog_1_method_27_code, 2, some (.int), []), (12, ⟨"TollTagsModel", "<init>", "()V"⟩, prog_14_method_1_code, 1, none, []), (12, ⟨"TollTagsModel", "thrown", "()I"⟩, prog_14_method_2_code, 1, some (.int), []), (12, ⟨"TollTagsModel", "land", "()I"⟩, prog_14_method_8_code, 1, some (.int), []), (12, ⟨"TollTagsModel", "road", "(IIIIIZ)I"⟩, prog_14_method_9_code, 8, some (.int), []), (12, ⟨"TollTagsModel", "isLand", "(I)Z"⟩, prog_14_method_5_code, 2, some (.boolean), []), (12, ⟨"TollTagsModel", "fail", "(I)I"⟩, prog_14_method_3_code, 2, some (.int), []), (12, ⟨"TollTagsModel", "provider", "(I)I"⟩, prog_14_method_10_code, 2, some (.int), []), (12, ⟨"TollTagsModel", "lorry", "(II)I"⟩, prog_14_method_11_code, 3, some (.int), []), (12, ⟨"TollTagsModel", "box", "(II)I"⟩, prog_14_method_12_code, 3, some (.int), []), (12, ⟨"TollTagsModel", "go", "(I)I"⟩, prog_14_method_13_code, 2, some (.int), []), (12, ⟨"TollTagsModel", "signal", "(III)I"⟩, prog_14_method_14_code, 4, some (.int), []), (12, ⟨"TollTagsModel", "isBox", "(I)Z"⟩, prog_14_method_7_code, 2, some (.boolean), []), (12, ⟨"TollTagsModel", "isRoad", "(I)Z"⟩, prog_14_method_6_code, 2, some (.boolean), []), (12, ⟨"TollTagsModel", "back", "(I)Z"⟩, prog_14_method_16_code, 2, some (.boolean), []), (12, ⟨"TollTagsModel", "isSignal", "(I)Z"⟩, prog_14_method_15_code, 2, some (.boolean), []), (12, ⟨"TollTagsModel", "refuse", "(I)Z"⟩, prog_14_method_4_code, 2, some (.boolean), []), (12, ⟨"TollTagsModel", "dispute", "(I)I"⟩, prog_14_method_17_code, 2, some (.int), []), (12, ⟨"TollTagsModel", "decide", "(III)Z"⟩, prog_14_method_18_code, 4, some (.boolean), []), (12, ⟨"TollTagsModel", "feed", "(IIIII)I"⟩, prog_14_method_19_code, 8, some (.int), []), (12, ⟨"TollTagsModel", "terms", "(III)I"⟩, prog_14_method_39_code, 5, some (.int), [])]
def zMs_4 : List zMT := [(12, ⟨"TollTagsModel", "readTerms", "(II)I"⟩, prog_14_method_38_code, 4, some (.int), []), (12, ⟨"TollTagsModel", "step", "()V"⟩, prog_14_method_23_code, 3, none, []), (12, ⟨"TollTagsModel", "byteAt", "(I)I"⟩, prog_14_method_20_code, 2, some (.int), []), (12, ⟨"TollTagsModel", "isLetter", "(I)Z"⟩, prog_14_method_21_code, 1, some (.boolean), []), (12, ⟨"TollTagsModel", "isDigit", "(I)Z"⟩, prog_14_method_22_code, 1, some (.boolean), []), (12, ⟨"TollTagsModel", "readClause", "(II)V"⟩, prog_14_method_37_code, 7, none, []), (12, ⟨"TollTagsModel", "is", "(Ljava/lang/String;)Z"⟩, prog_14_method_26_code, 4, some (.boolean), []), (12, ⟨"TollTagsModel", "wrong", "(I)V"⟩, prog_14_method_24_code, 2, none, []), (12, ⟨"TollTagsModel", "readExpression", "(II)V"⟩, prog_14_method_36_code, 4, none, []), (12, ⟨"TollTagsModel", "isSign", "(I)Z"⟩, prog_14_method_25_code, 2, some (.boolean), []), (12, ⟨"TollTagsModel", "readAnd", "(II)V"⟩, prog_14_method_35_code, 3, none, []), (12, ⟨"TollTagsModel", "readNot", "(II)V"⟩, prog_14_method_34_code, 5, none, []), (12, ⟨"TollTagsModel", "readSum", "(II)V"⟩, prog_14_method_33_code, 4, none, []), (12, ⟨"TollTagsModel", "readProduct", "(II)V"⟩, prog_14_method_32_code, 4, none, []), (12, ⟨"TollTagsModel", "readPart", "(II)V"⟩, prog_14_method_31_code, 4, none, []), (12, ⟨"TollTagsModel", "readNumber", "()I"⟩, prog_14_method_28_code, 2, some (.int), []), (12, ⟨"TollTagsModel", "emit", "(II)V"⟩, prog_14_method_29_code, 3, none, []), (12, ⟨"TollTagsModel", "valueNow", "()I"⟩, prog_14_method_30_code, 2, some (.int), []), (12, ⟨"TollTagsModel", "need", "(I)V"⟩, prog_14_method_27_code, 2, none, []), (12, ⟨"TollTagsModel", "fault", "()I"⟩, prog_14_method_40_code, 1, some (.int), []), (12, ⟨"TollTagsModel", "black", "(IZI)I"⟩, prog_14_method_42_code, 4, some (.int), []), (12, ⟨"TollTagsModel", "rate", "(III)Z"⟩, prog_14_method_44_code, 4, some (.boolean), []), (12, ⟨"TollTagsModel", "track", "(III)I"⟩, prog_14_method_60_code, 6, some (.int), []), (12, ⟨"TollTagsModel", "isMinute", "(I)Z"⟩, prog_14_method_59_code, 2, some (.boolean), []), (12, ⟨"TollTagsModel", "know", "(I)V"⟩, prog_14_method_58_code, 2, none, []), (12, ⟨"TollTagsModel", "judgeAll", "(I)V"⟩, prog_14_method_47_code, 3, none, []), (12, ⟨"TollTagsModel", "judge", "(II)V"⟩, prog_14_method_46_code, 6, none, []), (12, ⟨"TollTagsModel", "termsFor", "(III)I"⟩, prog_14_method_41_code, 7, some (.int), []), (12, ⟨"TollTagsModel", "tellFar", "()V"⟩, prog_14_method_49_code, 4, none, []), (12, ⟨"TollTagsModel", "tellTrack", "(II)V"⟩, prog_14_method_52_code, 6, none, []), (12, ⟨"TollTagsModel", "guess", "(II)V"⟩, prog_14_method_53_code, 6, none, []), (12, ⟨"TollTagsModel", "nextRoad", "(II)I"⟩, prog_14_method_50_code, 4, some (.int), []), (12, ⟨"TollTagsModel", "add", "(III)V"⟩, prog_14_method_51_code, 4, none, []), (12, ⟨"TollTagsModel", "charge", "(II)V"⟩, prog_14_method_54_code, 6, none, []), (12, ⟨"TollTagsModel", "isDouble", "(II)Z"⟩, prog_14_method_48_code, 7, some (.boolean), []), (12, ⟨"TollTagsModel", "chargeOf", "(III)I"⟩, prog_14_method_57_code, 9, some (.int), []), (12, ⟨"TollTagsModel", "worked", "(II)I"⟩, prog_14_method_56_code, 6, some (.int), []), (12, ⟨"TollTagsModel", "two", "(III)I"⟩, prog_14_method_55_code, 3, some (.int), []), (12, ⟨"TollTagsModel", "passage", "(IIII)I"⟩, prog_14_method_61_code, 5, some (.int), []), (12, ⟨"TollTagsModel", "isBlack", "(III)Z"⟩, prog_14_method_43_code, 6, some (.boolean), [])]
def zMs_5 : List zMT := [(12, ⟨"TollTagsModel", "due", "(IIII)J"⟩, prog_14_method_64_code, 5, some (.long), []), (12, ⟨"TollTagsModel", "dueOf", "(IIII)J"⟩, prog_14_method_63_code, 8, some (.long), []), (12, ⟨"TollTagsModel", "chargesIn", "(IIIIZ)J"⟩, prog_14_method_62_code, 9, some (.long), []), (12, ⟨"TollTagsModel", "rateOf", "(III)J"⟩, prog_14_method_45_code, 7, some (.long), []), (12, ⟨"TollTagsModel", "unpaid", "(III)I"⟩, prog_14_method_65_code, 7, some (.int), []), (12, ⟨"TollTagsModel", "falls", "(III)J"⟩, prog_14_method_66_code, 10, some (.long), []), (12, ⟨"TollTagsModel", "way", "(IJI)I"⟩, prog_14_method_67_code, 7, some (.int), []), (12, ⟨"TollTagsModel", "sees", "(I)I"⟩, prog_14_method_69_code, 2, some (.int), []), (12, ⟨"TollTagsModel", "seen", "(I)I"⟩, prog_14_method_68_code, 7, some (.int), []), (12, ⟨"TollTagsModel", "cameras", "(I)I"⟩, prog_14_method_70_code, 10, some (.int), []), (12, ⟨"TollTagsModel", "attempt", "(III)I"⟩, prog_14_method_72_code, 7, some (.int), []), (12, ⟨"TollTagsModel", "allIn", "(I)J"⟩, prog_14_method_71_code, 6, some (.long), []), (12, ⟨"TollTagsModel", "more", "()I"⟩, prog_14_method_73_code, 1, some (.int), []), (12, ⟨"TollTagsModel", "count", "(I)I"⟩, prog_14_method_74_code, 2, some (.int), []), (13, ⟨"TollTagsLaw", "road", "(LTollTags;IIIIIZ[J)I"⟩, method_3_code, 9, some (.int), [(0, 18, 21, 13)]), (13, ⟨"TollTagsLaw", "box", "(LTollTags;II[J)I"⟩, method_4_code, 5, some (.int), [(0, 10, 13, 13)]), (13, ⟨"TollTagsLaw", "go", "(LTollTags;I[J)I"⟩, method_5_code, 4, some (.int), [(0, 9, 12, 23)]), (13, ⟨"TollTagsLaw", "signal", "(LTollTags;III[J)I"⟩, method_6_code, 6, some (.int), [(0, 12, 15, 13)]), (13, ⟨"TollTagsLaw", "back", "(LTollTags;I[J)I"⟩, method_7_code, 4, some (.int), [(0, 16, 19, 13)]), (13, ⟨"TollTagsLaw", "dispute", "(LTollTags;I[J)I"⟩, method_8_code, 4, some (.int), [(0, 9, 12, 13)]), (13, ⟨"TollTagsLaw", "decide", "(LTollTags;III[J)I"⟩, method_9_code, 6, some (.int), [(0, 19, 22, 13)]), (13, ⟨"TollTagsLaw", "terms", "(LTollTags;III[J)I"⟩, method_10_code, 6, some (.int), [(0, 12, 15, 13), (0, 12, 19, 23)]), (13, ⟨"TollTagsLaw", "black", "(LTollTags;IZI[J)I"⟩, method_11_code, 6, some (.int), [(0, 12, 15, 13)]), (13, ⟨"TollTagsLaw", "rate", "(LTollTags;III[J)I"⟩, method_12_code, 6, some (.int), [(0, 19, 22, 13)]), (13, ⟨"TollTagsLaw", "track", "(LTollTags;III[J)I"⟩, method_13_code, 6, some (.int), [(0, 12, 15, 13), (0, 12, 19, 23)]), (13, ⟨"TollTagsLaw", "passage", "(LTollTags;IIII[J)I"⟩, method_14_code, 7, some (.int), [(0, 14, 17, 13), (0, 14, 21, 23)]), (13, ⟨"TollTagsLaw", "due", "(LTollTags;IIII[J)I"⟩, method_15_code, 7, some (.int), [(0, 13, 16, 13), (0, 13, 20, 23)]), (13, ⟨"TollTagsLaw", "unpaid", "(LTollTags;III[J)I"⟩, method_16_code, 6, some (.int), [(0, 12, 15, 13), (0, 12, 19, 23)]), (13, ⟨"TollTagsLaw", "falls", "(LTollTags;III[J)I"⟩, method_17_code, 6, some (.int), [(0, 11, 14, 13), (0, 11, 18, 23)]), (13, ⟨"TollTagsLaw", "way", "(LTollTags;IJI[J)I"⟩, method_18_code, 7, some (.int), [(0, 13, 16, 13)]), (13, ⟨"TollTagsLaw", "cameras", "(LTollTags;I[J)I"⟩, method_19_code, 4, some (.int), [(0, 9, 12, 23)]), (13, ⟨"TollTagsLaw", "attempt", "(LTollTags;III[J)I"⟩, method_20_code, 6, some (.int), [(0, 12, 15, 13), (0, 12, 19, 23)]), (13, ⟨"TollTagsLaw", "count", "(LTollTags;I[J)I"⟩, method_21_code, 4, some (.int), [(0, 9, 12, 13)]), (14, ⟨"java/util/Arrays", "fill", "([II)V"⟩, prog_31_method_103_code, 4, none, []), (14, ⟨"java/util/Arrays", "copyOf", "([II)[I"⟩, prog_31_method_123_code, 3, some (.array .int), []), (14, ⟨"java/util/Arrays", "fill", "([JJ)V"⟩, prog_31_method_101_code, 5, none, []), (15, ⟨"java/lang/Math", "min", "(II)I"⟩, prog_22_method_69_code, 2, some (.int), []), (15, ⟨"java/lang/Math", "max", "(II)I"⟩, prog_22_method_65_code, 2, some (.int), []), (16, ⟨"java/lang/Integer", "bitCount", "(I)I"⟩, prog_21_method_49_code, 1, some (.int), []), (13, ⟨"TollTagsLaw", "law", "([I)Z"⟩, code, 8, some (.boolean), [])]
def zMs : List zMT := zMs_0 ++ (zMs_1 ++ (zMs_2 ++ (zMs_3 ++ (zMs_4 ++ (zMs_5)))))
def zMd : zMT := (0, ⟨"", "", ""⟩, code, 0, none, [])
def zM (m : Nat) : zMT := zMs.getD m zMd
def zMO (m : Nat) : Nat := (zM m).1
def zMY (m : Nat) : MethodName := (zM m).2.1
def zMB (m : Nat) : ByteArray := (zM m).2.2.1
def zML (m : Nat) : Nat := (zM m).2.2.2.1
def zMR (m : Nat) : Option FieldType := (zM m).2.2.2.2.1
def zMH (m : Nat) : List (Nat × Nat × Nat × Nat) := (zM m).2.2.2.2.2
def zMW (m : Nat) : Cond := if zMH m = [] then .code (zMY m) (zMB m) (zML m) (zMR m) else .codeWith (zMY m) (zMB m) (zML m) (zMR m) (zMH m)
def zW (m : Nat) : List Cond := zMW m :: zGB
def zrm (d mc ms : Nat) : Room := { frames := d + 8, cells := mc, slots := ms, locals := 60 * d + 200 }
def zB (D : va_G) (cA : Nat → ClassId) (X σ : Nat → Nat) (h : AH) (sz : Nat) : State → Prop := fun U => U.heap.size = sz ∧ va_P D zcls (zws cA X σ h) U.heap ∧ va_K D zcls (ztys cA) U ∧ va_D (fun _ => True) (zws cA X σ h) ∧ (∀ w ∈ zNB, va_Nw w U) ∧ zX U (va_A (zws cA X σ h) sz) X
def zPre (D : va_G) (cA : Nat → ClassId) (X σ : Nat → Nat) (h : AH) (as : List Value) (sz : Nat) : Array Value → State → Prop := va_Pc (as.map (zcv σ X)) (zB D cA X σ h sz)
def zAg (n : Nat) (σ σ' : Nat → Nat) : Prop := ∀ j, j < n → σ' j = σ j
def zPostR (D : va_G) (cA : Nat → ClassId) (X σ : Nat → Nat) (h h' : AH) (A : Nat → Prop) (v : Option Value) : Array Value → State → Outcome → State → Prop := fun _ st oc t =>
  (∃ σ' : Nat → Nat, zAg (hn h) σ σ' ∧ oc = .returned (v.map (zcv σ' X)) ∧ va_P D zcls (zws cA X σ' h') t.heap ∧ va_D A (zws cA X σ' h')) ∧ va_F A st t
def zPostX (D : va_G) (cA : Nat → ClassId) (X σ : Nat → Nat) (h h' : AH) (A : Nat → Prop) (x : Nat) : String → State → State → Prop :=
  vx_X (fun σ' : Nat → Nat => zAg (hn h) σ σ') (fun E σ' t => E = zXn x ∧ va_P D zcls (zws cA X σ' h') t.heap ∧ va_D A (zws cA X σ' h')) A
def zNo : Array Value → State → Outcome → State → Prop := va_Qi (S := Unit) (fun _ _ => False) (fun _ _ => True) (fun _ => False)
/-- what is known of a call of method m at depth d, on these arguments and this heap, with this answer -/
def zCon (d m : Nat) (as : List Value) (h : AH) (r : Ret) (h' : AH) : Prop := ∀ (l : Launch) (D : va_G) (cA : Nat → ClassId) (X σ : Nat → Nat) (sz : Nat), l.stackTraces = false →
  (∀ v, r = .inr v → Met l (zMY m) (zW m) (zrm d (hc h' - hc h) (hs h' - hs h)) (zPre D cA X σ h as sz) (zPostR D cA X σ h h' (va_A (zws cA X σ h) sz) v) (hc h' - hc h) (hs h' - hs h) (va_A (zws cA X σ h) sz)) ∧
  (∀ x, r = .inl x → zMH m = [] → vx_Met l (zMY m) (zW m) (zrm d (hc h' - hc h) (hs h' - hs h)) (zPre D cA X σ h as sz) zNo (zPostX D cA X σ h h' (va_A (zws cA X σ h) sz) x) (hc h' - hc h) (hs h' - hs h) (va_A (zws cA X σ h) sz))
/-- callees at depth d are as the machine has them -/
def zSnd (F : Cal) (d : Nat) : Prop := ∀ (m : Nat) (as : List Value) (h : AH) (r : Ret) (h' : AH), F m as h = some (r, h') → m < 239 → Sok (hn h) as → Hok h → zle h h' ∧ Hok h' ∧ zrok (hn h') r ∧ zCon d m as h r h'
/-- what the tables say of a method -/
def zMok (m : Nat) : Prop := zMW m ∈ zGB ∧ Cond.initialized (zMY m).cls ∈ zBIG ∧ ((zMY m).cls ≠ "java/lang/invoke/MethodHandle" ∧ (zMY m).cls ≠ "java/lang/invoke/VarHandle") ∧ zML m ≤ 41 ∧ plainName (zMY m).cls = true
theorem zGood (m : Nat) (h : zMok m) : GoodIn zBIG (zW m) := by
  intro w hw
  rcases List.mem_cons.mp hw with rfl | hw
  · exact ⟨zGB_in h.1, good_of_word (List.mem_filter.mp h.1).2⟩
  · exact ⟨zGB_in hw, good_of_word (List.mem_filter.mp hw).2⟩
theorem zNw_on {w : Cond} (h : zNw w = true) : w.onTables = true := by cases w <;> first | rfl | cases h
theorem zX.go {s U : State} {A B : Nat → Prop} {X : Nat → Nat} {H : Heap} (h : zX s A X) (hW : s.WarmedH U.vm) (hH : U.heap = H) (hS : ∀ q : Nat, q < s.heap.size → ¬ A q → H[q]? = s.heap[q]?) (hAB : ∀ q, B q → A q) : zX U B X := by
  obtain ⟨adV, h1, h2, h3, h4, h5, h6⟩ := h
  subst hH
  exact ⟨adV, fun j hj => (h1 j hj).warm hW, ((h2.kept hS).narrow hAB).moved hW.alike, h3.moved hW.alike, h4.moved hW.alike, ((h5.kept hS).narrow hAB).moved hW.alike, ((h6.kept hS).narrow hAB).moved hW.alike⟩
theorem zX.same {s U : State} {A : Nat → Prop} {X : Nat → Nat} (h : zX s A X) (hv : U.vm = s.vm) (hH : U.heap = s.heap) : zX U A X := by
  obtain ⟨adV, h1, h2, h3, h4, h5, h6⟩ := h
  have hal : s.vm.Alike U.vm := by rw [hv]; exact Vm.Alike.refl _
  refine ⟨adV, fun j hj => (h1 j hj).same hv, ?_, h3.moved hal, h4.moved hal, ?_, ?_⟩
  · rw [hH]; exact h2.moved hal
  · rw [hH]; exact h5.moved hal
  · rw [hH]; exact h6.moved hal
theorem zPre_blind {D : va_G} {cA : Nat → ClassId} {X σ : Nat → Nat} {h : AH} {as : List Value} {sz : Nat} : FrameBlind (zPre D cA X σ h as sz) := by
  intro a U g mk ⟨h0, h1, h2, h3, h4, h5, h6⟩
  exact ⟨h0, h1, h2, va_K.moved (u := U) (U := U.calling g mk a) (Vm.Alike.refl U.vm) h3, h4, fun w hw => va_Nw.same (u := U) (U := U.calling g mk a) (zNw_on (List.mem_filter.mp hw).2) rfl (h5 w hw), h6.same rfl rfl⟩
/-- what a caller has to bring -/
theorem zPre_at {Γ : ZG} {cc : ByteArray} {own nm : String} {σ : Nat → Nat} {h : AH} {as : List Value}
    (p : Program) (l : Launch) (e : Env) (R : Room) (s : State) (m : MethodId) (args : Array Value) (below : List Frame) (meth : Method) (c : Code) (Q : State → Prop) (nL : Nat) (D : va_G) (cA : Nat → ClassId) (X : Nat → Nat) (A : Nat → Prop) (c0 s0 : Nat)
    (hΓ : Γ = (p, l, e, R, s, m, args, below, meth, c, Q, nL, D, cA, X, A, c0, s0)) (C : zCtx Γ cc own nm) (hX : zX s A X) {H : Heap} {locs : List Loc} (hP : va_P D zcls (zws cA X σ h) H) (hD : va_D A (zws cA X σ h)) (hS : va_S A s.heap H locs) :
    (∀ q, va_A (zws cA X σ h) H.size q → A q) ∧ ∀ U : State, U.heap = H → s.WarmedH U.vm → zPre D cA X σ h as H.size (as.map (zcv σ X)).toArray U := by
  subst hΓ
  obtain ⟨hx, hb, hml, hown, hts, hK0, hA, -⟩ := C
  have hF : ∀ q, va_A (zws cA X σ h) H.size q → A q := by
    intro q hq
    rcases hq with ⟨k, e, hk⟩ | hq
    · exact hD.2 k _ hk
    · exact hA q (Nat.le_trans hS.1 hq)
  refine ⟨hF, fun U hU hW => ⟨rfl, by rw [hU], by rw [hU]; exact hP, hK0.moved hW.alike, hD.weaken (fun _ _ _ _ => trivial), fun w hw => ?_, hX.go hW hU hS.2.1 hF⟩⟩
  have hw2 := List.mem_filter.mp hw
  exact zNw_warm hW hw2.2 (va_Nw.of (zNw_on hw2.2) (hts w (zBIG_in hw2.1 (by rw [hw2.2]; simp))))
/-- behind a call that returned -/
theorem zret_go {Γ : ZG} {pc : Nat} {lo : LV} {h h' : AH} {v : Option Value} {σ : Nat → Nat}
    (p : Program) (l : Launch) (e : Env) (R : Room) (s : State) (m : MethodId) (args : Array Value) (below : List Frame) (meth : Method) (c : Code) (Q : State → Prop) (nL : Nat) (D : va_G) (cA : Nat → ClassId) (X : Nat → Nat) (A : Nat → Prop) (c0 s0 : Nat)
    (hΓ : Γ = (p, l, e, R, s, m, args, below, meth, c, Q, nL, D, cA, X, A, c0, s0)) {a : Array Value} {st0 : List Value} {H : Heap} {locs : List Loc} {ls : Array Slot} {rest : List Value}
    (h1 : Lok (hn h) lo) (h2 : Sok (hn h) rest) (hle : zle h h') (g4 : c0 ≤ hc h) (g5 : s0 ≤ hs h) (hF : ∀ q, va_A (zws cA X σ h) H.size q → A q)
    (hr : va_Run p l e R s m args below meth c H locs (hc h - c0) (hs h - s0) (hc h' - hc h) (hs h' - hs h) (F0 m pc ls st0) (rest.map (zcv σ X)) (zPostR D cA X σ h h' (va_A (zws cA X σ h) H.size) v a) (va_A (zws cA X σ h) H.size))
    (hS : va_S A s.heap H locs) (hl : lv_has ls nL (zlo X σ lo)) (K : zSat Γ (pc + 3) lo (v.toList ++ rest) h') : W p l e R s m args below meth c H locs (hc h - c0) (hs h - s0) Q (F0 m pc ls st0) := by
  subst hΓ
  intro T hT XT
  obtain ⟨w, st₀, t, T', L, q0, X', hL, e1, e2, ⟨⟨σ', hag, hv, hP', hD'⟩, hz, hk⟩, st⟩ := hr T hT XT
  cases hv
  rw [q0] at hz hk
  have hS' : va_S A s.heap T'.heap (locs ++ L) := ⟨Nat.le_trans hS.1 (by rw [e1]; exact hz), fun q h1 h2 => by rw [e1, hk q (Nat.lt_of_lt_of_le h1 hS.1) (fun z => h2 (hF q z))]; exact hS.2.1 q h1 h2, fun q hq => by
      rcases List.mem_append.mp hq with h | h
      · exact hS.2.2 q h
      · exact hF _ (hL q h)⟩
  have K2 := K σ' T'.heap (locs ++ L) ls (by rw [e1]; exact hP') (hD'.weaken (fun _ q _ hq => hF _ hq)) hS' (by rw [zlo_agr hag h1]; exact hl)
  rw [List.map_append, zst_agr hag h2] at K2
  obtain ⟨k1, k2, k3⟩ := hle
  rw [show hc h' - c0 = hc h - c0 + (hc h' - hc h) by omega, show hs h' - s0 = hs h - s0 + (hs h' - hs h) by omega] at K2
  obtain ⟨t2, a1, b1⟩ := K2 T' rfl X'
  refine ⟨t2, st t2 ?_, b1⟩
  have e3 : (v.map (zcv σ' X)).toList = v.toList.map (zcv σ' X) := by cases v <;> rfl
  rw [e3]
  exact a1
/-- where a call stands in the code, and by which way it goes: 0 by the receiver, 1 static, 2 a constructor, 3 to 5 the same of a nest mate, 6 static with handlers -/
def zSite (cc : ByteArray) (own : String) (pc idx m n vc kind : Nat) : Prop :=
  (kind = 0 ∧ decode cc pc = .ok (.invokevirtual idx, 3) ∧ Cond.methodLink own idx (zMY m) ∈ zBIG ∧ Cond.instanceMethod (zMY m) ∈ zBIG ∧ Cond.selects (zMY m).cls (zMY m) (zMY m) ∈ zBIG ∧ zMH m = [] ∧ 1 ≤ n ∧ (parseMethodDescriptor (zMY m).desc).map (fun d => d.parameters.length) = some (n - 1) ∧ (∃ q, zcls[vc]? = some q ∧ q.1 = (zMY m).cls)) ∨
  (kind = 1 ∧ decode cc pc = .ok (.invokestatic idx, 3) ∧ Cond.methodLink own idx (zMY m) ∈ zBIG ∧ Cond.static (zMY m) ∈ zBIG ∧ zMH m = [] ∧ (parseMethodDescriptor (zMY m).desc).map (fun d => d.parameters.length) = some n) ∨
  (kind = 2 ∧ decode cc pc = .ok (.invokespecial idx, 3) ∧ Cond.methodLink own idx (zMY m) ∈ zBIG ∧ Cond.instanceMethod (zMY m) ∈ zBIG ∧ (zMY m).name = "<init>" ∧ zMR m = none ∧ zMH m = [] ∧ 1 ≤ n ∧ (parseMethodDescriptor (zMY m).desc).map (fun d => d.parameters.length) = some (n - 1)) ∨
  (kind = 3 ∧ decode cc pc = .ok (.invokevirtual idx, 3) ∧ Cond.methodLinkNest own idx (zMY m) "TollTags" ∈ zBIG ∧ Cond.instanceMethod (zMY m) ∈ zBIG ∧ Cond.selects (zMY m).cls (zMY m) (zMY m) ∈ zBIG ∧ zMH m = [] ∧ 1 ≤ n ∧ (parseMethodDescriptor (zMY m).desc).map (fun d => d.parameters.length) = some (n - 1) ∧ (∃ q, zcls[vc]? = some q ∧ q.1 = (zMY m).cls)) ∨
  (kind = 4 ∧ decode cc pc = .ok (.invokestatic idx, 3) ∧ Cond.methodLinkNest own idx (zMY m) "TollTags" ∈ zBIG ∧ Cond.static (zMY m) ∈ zBIG ∧ zMH m = [] ∧ (parseMethodDescriptor (zMY m).desc).map (fun d => d.parameters.length) = some n) ∨
  (kind = 5 ∧ decode cc pc = .ok (.invokespecial idx, 3) ∧ Cond.methodLinkNest own idx (zMY m) "TollTags" ∈ zBIG ∧ Cond.instanceMethod (zMY m) ∈ zBIG ∧ (zMY m).name = "<init>" ∧ zMR m = none ∧ zMH m = [] ∧ 1 ≤ n ∧ (parseMethodDescriptor (zMY m).desc).map (fun d => d.parameters.length) = some (n - 1)) ∨
  (kind = 6 ∧ decode cc pc = .ok (.invokestatic idx, 3) ∧ Cond.methodLink own idx (zMY m) ∈ zBIG ∧ Cond.static (zMY m) ∈ zBIG ∧ zMH m ≠ [] ∧ (parseMethodDescriptor (zMY m).desc).map (fun d => d.parameters.length) = some n)
theorem zrcv_ref {h : AH} {c : Nat} {as : List Value} (h1 : zrcv h c as = true) : ∃ a t, as = .ref a :: t ∧ hK h a = (10 + c, 0) := by
  unfold zrcv at h1
  split at h1
  · exact ⟨_, _, rfl, of_decide_eq_true h1⟩
  · cases h1
theorem zW_code {m : Nat} (h : zMH m = []) : zW m = .code (zMY m) (zMB m) (zML m) (zMR m) :: zGB := by
  unfold zW zMW
  rw [if_pos h]
theorem zW_with {m : Nat} (h : zMH m ≠ []) : zW m = .codeWith (zMY m) (zMB m) (zML m) (zMR m) (zMH m) :: zGB := by
  unfold zW zMW
  rw [if_neg h]
theorem zstk {st : List Value} {n : Nat} {f : Value → Value} : st.map f = ((st.take n).reverse.map f).reverse ++ (st.drop n).map f := by
  rw [← List.map_reverse, List.reverse_reverse, ← List.map_append, List.take_append_drop]
/-- the run of a call, from the callee's contract -/
theorem zrun_of {Γ : ZG} {cc : ByteArray} {own nm : String} {pc idx m n vc kind d mc ms : Nat} {σ : Nat → Nat} {h : AH} {st : List Value} {Qc : Array Value → State → Outcome → State → Prop} {free : Nat → Prop}
    (p : Program) (l : Launch) (e : Env) (R : Room) (s : State) (mi : MethodId) (args : Array Value) (below : List Frame) (meth : Method) (c : Code) (Q : State → Prop) (nL : Nat) (D : va_G) (cA : Nat → ClassId) (X : Nat → Nat) (A : Nat → Prop) (c0 s0 : Nat)
    (hΓ : Γ = (p, l, e, R, s, mi, args, below, meth, c, Q, nL, D, cA, X, A, c0, s0)) (C : zCtx Γ cc own nm) (hX : zX s A X) (hm : zMok m) (site : zSite cc own pc idx m n vc kind)
    (hR : d + 9 ≤ R.frames ∧ 60 * d + 260 ≤ R.locals) (hst : n ≤ st.length ∧ st.length ≤ n + 4) (hrc : (kind = 0 ∨ kind = 2 ∨ kind = 3 ∨ kind = 5) → zrcv h vc (st.take n).reverse = true) (hrf : Sok (hn h) st) {H : Heap} {locs : List Loc} {ls : Array Slot} {lv : List (Nat × Value)} {cells slots : Nat} (hP : va_P D zcls (zws cA X σ h) H) (hD : va_D A (zws cA X σ h)) (hS : va_S A s.heap H locs)
    (hl : lv_has ls nL lv) (hcs : cells + mc ≤ R.cells ∧ slots + ms ≤ R.slots)
    (hM : Met l (zMY m) (zW m) (zrm d mc ms) (zPre D cA X σ h (st.take n).reverse H.size) Qc mc ms free) :
    va_Run p l e R s mi args below meth c H locs cells slots mc ms (F0 mi pc ls (st.map (zcv σ X))) ((st.drop n).map (zcv σ X)) (Qc (((st.take n).reverse).map (zcv σ X)).toArray) free := by
  subst hΓ
  have hpre := (zPre_at (as := (st.take n).reverse) p l e R s mi args below meth c Q nL D cA X A c0 s0 rfl C hX hP hD hS).2
  obtain ⟨hx, hb, hml, hown, hts, hK0, hA, -⟩ := C
  have hw8 : ((((st.drop n).map (zcv σ X))).map fun v => v.category).sum ≤ 8 := zsum4 (n := 4) _ (by rw [List.length_map, List.length_drop]; omega)
  have hlen : (st.take n).reverse.length = n := by rw [List.length_reverse, List.length_take]; omega
  obtain ⟨m1, m2, m3, m4, m5⟩ := hm
  have hRR : (zrm d mc ms).frames + 1 ≤ R.frames ∧ 8 + (zML m + 11) + (zrm d mc ms).locals ≤ R.locals := ⟨hR.1, by show 8 + (zML m + 11) + (60 * d + 200) ≤ R.locals; omega⟩
  have hF : CallFix p mi c cc nL s args zBIG own := ⟨hx, hb, hml, hown, hts⟩
  have hG := zGood m ⟨m1, m2, m3, m4, m5⟩
  rcases site with ⟨rfl, d1, w1, w2, w3, w4, n1, n2, q, q1, q2⟩ | ⟨rfl, d1, w1, w2, w4, n2⟩ | ⟨rfl, d1, w1, w2, w3, w4, w5, n1, n2⟩ | ⟨rfl, d1, w1, w2, w3, w4, n1, n2, q, q1, q2⟩ | ⟨rfl, d1, w1, w2, w4, n2⟩ | ⟨rfl, d1, w1, w2, w3, w4, w5, n1, n2⟩ | ⟨rfl, d1, w1, w2, w4, n2⟩
  · obtain ⟨a, t, ht, hka⟩ := zrcv_ref (hrc (Or.inl rfl))
    have han : a < hn h := by
      have : Value.ref a ∈ st := List.mem_of_mem_take (List.mem_reverse.mp (by rw [ht]; exact List.mem_cons_self))
      exact hrf _ this
    have he := (zws_get (cA := cA) (X := X) (σ := σ) han).trans (congrArg (fun z => some (σ a, z)) (zent_obj hka))
    have hrecv := va_recv hK0 hP q1 he
    rw [q2] at hrecv
    have hstk := zstk (st := st) (n := n) (f := zcv σ X)
    rw [ht] at hpre hM hstk hlen ⊢
    refine va_runV (index := idx) (bytes := zMB m) (maxL := zML m) (ret := zMR m) (n := n - 1) hF hM ⟨callB_of (ws' := zGB) (n - 1) hts hG (zW_code w4) rfl rfl (hts _ m2) (hts _ w1) ⟨m3.1, m3.2, n2⟩ hRR, hts _ w2, hts _ w3⟩ ⟨zPre_blind, hrecv, hpre⟩ rfl (by simp only [List.length_map, List.length_cons] at hlen ⊢; omega) hl.1 ?_ (lv_room hw8) d1 hcs
    show st.map (zcv σ X) = _
    rw [hstk]
    simp
    rfl
  · refine va_runS (index := idx) (bytes := zMB m) (maxL := zML m) (ret := zMR m) (n := n) hF hM ⟨callB_of (ws' := zGB) n hts hG (zW_code w4) rfl rfl (hts _ m2) (hts _ w1) ⟨m3.1, m3.2, n2⟩ hRR, hts _ w2⟩ ⟨zPre_blind, hpre⟩ rfl (by rw [List.length_map]; exact hlen) hl.1 zstk (lv_room hw8) d1 hcs
  · have hcode := zW_code w5
    rw [w4] at hcode
    obtain ⟨a, t, ht, -⟩ := zrcv_ref (hrc (Or.inr (Or.inl rfl)))
    have hstk := zstk (st := st) (n := n) (f := zcv σ X)
    rw [ht] at hpre hM hstk hlen ⊢
    refine va_runI (index := idx) (bytes := zMB m) (maxL := zML m) (n := n - 1) hF hM ⟨callB_of (ws' := zGB) (n - 1) hts hG hcode rfl rfl (hts _ m2) (hts _ w1) ⟨m3.1, m3.2, n2⟩ hRR, w3, hts _ w2⟩ ⟨zPre_blind, hpre⟩ rfl (by simp only [List.length_map, List.length_cons] at hlen ⊢; omega) hl.1 ?_ (lv_room hw8) d1 hcs
    show st.map (zcv σ X) = _
    rw [hstk]
    simp
    rfl
  · obtain ⟨a, t, ht, hka⟩ := zrcv_ref (hrc (Or.inr (Or.inr (Or.inl rfl))))
    have han : a < hn h := by
      have : Value.ref a ∈ st := List.mem_of_mem_take (List.mem_reverse.mp (by rw [ht]; exact List.mem_cons_self))
      exact hrf _ this
    have he := (zws_get (cA := cA) (X := X) (σ := σ) han).trans (congrArg (fun z => some (σ a, z)) (zent_obj hka))
    have hrecv := va_recv hK0 hP q1 he
    rw [q2] at hrecv
    have hstk := zstk (st := st) (n := n) (f := zcv σ X)
    rw [ht] at hpre hM hstk hlen ⊢
    refine va_runVN (index := idx) (bytes := zMB m) (maxL := zML m) (ret := zMR m) (n := n - 1) hF hM ⟨va_cnB (ws' := zGB) (n - 1) hts hG (zW_code w4) rfl rfl (va_Nw.of rfl (hts _ w1)) (hts _ m2) ⟨m3.1, m3.2, n2⟩ hRR, hts _ w2, hts _ w3⟩ ⟨zPre_blind, hrecv, hpre⟩ rfl (by simp only [List.length_map, List.length_cons] at hlen ⊢; omega) hl.1 ?_ (lv_room hw8) d1 hcs
    show st.map (zcv σ X) = _
    rw [hstk]
    simp
    rfl
  · refine va_runSN (index := idx) (bytes := zMB m) (maxL := zML m) (ret := zMR m) (n := n) hF hM ⟨va_cnB (ws' := zGB) n hts hG (zW_code w4) rfl rfl (va_Nw.of rfl (hts _ w1)) (hts _ m2) ⟨m3.1, m3.2, n2⟩ hRR, hts _ w2, trivial⟩ ⟨zPre_blind, hpre⟩ rfl (by rw [List.length_map]; exact hlen) hl.1 zstk (lv_room hw8) d1 hcs
  · have hcode := zW_code w5
    rw [w4] at hcode
    obtain ⟨a, t, ht, -⟩ := zrcv_ref (hrc (Or.inr (Or.inr (Or.inr rfl))))
    have hstk := zstk (st := st) (n := n) (f := zcv σ X)
    rw [ht] at hpre hM hstk hlen ⊢
    refine va_runIN (index := idx) (bytes := zMB m) (maxL := zML m) (n := n - 1) hF hM ⟨va_cnB (ws' := zGB) (n - 1) hts hG hcode rfl rfl (va_Nw.of rfl (hts _ w1)) (hts _ m2) ⟨m3.1, m3.2, n2⟩ hRR, w3, hts _ w2⟩ ⟨zPre_blind, hpre⟩ rfl (by simp only [List.length_map, List.length_cons] at hlen ⊢; omega) hl.1 ?_ (lv_room hw8) d1 hcs
    show st.map (zcv σ X) = _
    rw [hstk]
    simp
    rfl
  · refine vx_runSW (index := idx) (bytes := zMB m) (maxL := zML m) (ret := zMR m) (hh := zMH m) (n := n) hF hM (vx_cwSW (ws' := zGB) n hts (fun w hw => ?_) (zW_with w4) rfl rfl ⟨m3.1, m3.2, n2⟩ hRR) ⟨zPre_blind, hpre⟩ rfl (by rw [List.length_map]; exact hlen) hl.1 zstk (lv_room hw8) d1 hcs
    unfold va_wsS at hw
    rcases List.mem_append.mp hw with hw | hw
    · simp only [List.mem_cons, List.not_mem_nil, or_false] at hw
      rcases hw with rfl | rfl | rfl
      · exact ⟨w1, Or.inl rfl⟩
      · exact ⟨w2, Or.inl rfl⟩
      · exact ⟨m2, Or.inl rfl⟩
    · exact hG w hw
/-- a call that must return -/
theorem S_calln {Γ : ZG} {cc : ByteArray} {bp : Nat → Nat} {pc : Nat} {k : Kt} {J : Nat → Kt} {E : Evn} {i : MI} {own nm : String} {g : Kt → LV → List Value → AH → Option Value → Option Out} {idx kind d : Nat} (C : zCtx Γ cc own nm) (hX : zX (gS Γ) (gA Γ) (gX Γ)) (hF : zSnd E.1 d) (hT : Γ.2.1.stackTraces = false)
    (hm : zMok i.2.2.1) (hm2 : i.2.2.1 < 239) (site : zSite cc own pc idx i.2.2.1 i.2.2.2.1 (i.2.2.2.2.1 % 100) kind) (hv : i.2.2.2.2.1 % 100 = 99 → ¬ (kind = 0 ∨ kind = 2 ∨ kind = 3 ∨ kind = 5)) (hR : d + 9 ≤ Γ.2.2.2.1.frames ∧ 60 * d + 260 ≤ Γ.2.2.2.1.locals)
    (hg : ∀ lo st h v o, g k lo st h v = some o → k lo (v.toList ++ st) h = some o) (hk : zOk Γ cc bp (pc + 3) k) : zOk Γ cc bp pc (z_calln g E k J i) :=
  hk.to (fun lo st h o ho h1 h2 h3 => by
    unfold z_calln at ho
    split at ho
    · rename_i hz
      split at ho
      · rename_i v h' hcall
        obtain ⟨q1, q2, q3, q4⟩ := hF _ _ _ _ _ hcall hm2 (fun v hv => h2 v (List.mem_of_mem_take (List.mem_reverse.mp hv))) h3
        have hrest : Sok (hn h) (st.drop i.2.2.2.1) := fun v hv => h2 v (List.mem_of_mem_drop hv)
        refine ⟨lo, _, h', hg _ _ _ _ _ ho, h1.up q1.1, fun w hw => ?_, q2, q1, fun f1 f2 g4 g5 K => ?_⟩
        · rcases List.mem_append.mp hw with hw | hw
          · cases v with
            | none => cases hw
            | some v => rw [List.mem_singleton.mp hw]; exact q3
          · exact (hrest.up q1.1) w hw
        · obtain ⟨p, l, e, R, s, m, args, below, meth, c, Q, nL, D, cA, X, A, c0, s0⟩ := Γ
          intro σ H locs ls hP hD hS hl
          dsimp only at f1 f2 g4 g5 hT hR
          obtain ⟨k1, k2, k3⟩ := q1
          have hF1 := (zPre_at (as := []) p l e R s m args below meth c Q nL D cA X A c0 s0 rfl C hX hP hD hS).1
          have hM := (q4 l D cA X σ H.size hT).1 v rfl
          have hrun := zrun_of p l e R s m args below meth c Q nL D cA X A c0 s0 rfl C hX hm site hR ⟨hz.1, hz.2.1⟩ (fun hk2 => hz.2.2.elim (fun z => absurd hk2 (hv z)) id) h2 (cells := hc h - c0) (slots := hs h - s0) hP hD hS hl ⟨by omega, by omega⟩ hM
          exact zret_go p l e R s m args below meth c Q nL D cA X A c0 s0 rfl h1 hrest ⟨k1, k2, k3⟩ g4 g5 hF1 hrun hS hl K
      · cases ho
    · cases ho)
/-- what a handler of this frame does with a thrown x at pc -/
def zCat (Γ : ZG) (cc : ByteArray) (pc : Nat) (hd : Nat → Option Int32) : Prop := match Γ with
  | (p, l, e, R, s, m, args, below, meth, c, Q, nL, D, cA, X, A, c0, s0) => ∀ (x : Nat) (r : Int32), hd x = some r → ∀ (σ : Nat → Nat) (H : Heap) (locs : List Loc) (h' : AH), zEnd Γ cc (.inr (some (.int r))) h' → va_P D zcls (zws cA X σ h') H → va_D A (zws cA X σ h') → va_S A s.heap H locs → ∀ (ls : Array Slot) (lv : List (Nat × Value)) (rest : List Value) (q : Addr) (ce : Cell), lv_has ls nL lv → H[q]? = some ce → ce.vm = .none → s.vm.findClass (zXn x) = some ce.cls → vx_W p l e R s m args below meth c H locs (hc h' - c0) (hs h' - s0) Q (F0 m pc ls rest) q
theorem S_call {Γ : ZG} {cc : ByteArray} {bp : Nat → Nat} {pc : Nat} {k : Kt} {J : Nat → Kt} {E : Evn} {i : MI} {own nm : String} {g : Kt → LV → List Value → AH → Option Value → Option Out} {idx d : Nat} (C : zCtx Γ cc own nm) (hX : zX (gS Γ) (gA Γ) (gX Γ)) (hF : zSnd E.1 d) (hT : Γ.2.1.stackTraces = false)
    (hm : zMok i.2.2.1) (hm2 : i.2.2.1 < 239) (site : zSite cc own pc idx i.2.2.1 i.2.2.2.1 (i.2.2.2.2.1 % 100) 0) (hR : d + 9 ≤ Γ.2.2.2.1.frames ∧ 60 * d + 260 ≤ Γ.2.2.2.1.locals) (hcat : zCat Γ cc pc E.2.1)
    (hg : ∀ lo st h v o, g k lo st h v = some o → k lo (v.toList ++ st) h = some o) (hk : zOk Γ cc bp (pc + 3) k) : zOk Γ cc bp pc (z_call g E k J i) := by
  have hN := S_calln (J := J) C hX hF hT hm hm2 site (fun hv => by
    rcases site with ⟨-, -, -, -, -, -, -, -, q, q1, -⟩ | ⟨h0, -⟩ | ⟨h0, -⟩ | ⟨h0, -⟩ | ⟨h0, -⟩ | ⟨h0, -⟩ | ⟨h0, -⟩
    · rw [hv] at q1; cases q1
    all_goals cases h0) hR hg hk
  obtain ⟨p, l, e, R, s, m, args, below, meth, c, Q, nL, D, cA, X, A, c0, s0⟩ := Γ
  intro lo st h o ho h1 h2 h3 h4 h5
  unfold z_call at ho
  split at ho
  · rename_i hz
    split at ho
    · rename_i v h' hcall
      refine hN lo st h o ?_ h1 h2 h3 h4 h5
      unfold z_calln
      rw [if_pos ⟨hz.1, hz.2.1, Or.inr hz.2.2⟩, hcall]
      exact ho
    · rename_i x h' hcall
      obtain ⟨q1, q2, q3, q4⟩ := hF _ _ _ _ _ hcall hm2 (fun v hv => h2 v (List.mem_of_mem_take (List.mem_reverse.mp hv))) h3
      have hsat : ∀ (hx0 : ∀ (σ : Nat → Nat) (H : Heap) (locs : List Loc) (ls : Array Slot) (lv : List (Nat × Value)) (rest : List Value) (q : Addr) (ce : Cell), va_P D zcls (zws cA X σ h') H → va_D A (zws cA X σ h') → va_S A s.heap H locs → lv_has ls nL lv → H[q]? = some ce → ce.vm = .none → s.vm.findClass (zXn x) = some ce.cls → vx_W p l e R s m args below meth c H locs (hc h' - c0) (hs h' - s0) Q (F0 m pc ls rest) q),
          hc h' - c0 ≤ R.cells → hs h' - s0 ≤ R.slots → zSat (p, l, e, R, s, m, args, below, meth, c, Q, nL, D, cA, X, A, c0, s0) pc lo st h := by
        intro hx0 f2 f3 σ H locs ls hP hD hS hl
        dsimp only at hT hR
        obtain ⟨k1, k2, k3⟩ := q1
        have hF1 := (zPre_at (as := (st.take i.2.2.2.1).reverse) p l e R s m args below meth c Q nL D cA X A c0 s0 rfl C hX hP hD hS).1
        have hpre := (zPre_at (as := (st.take i.2.2.2.1).reverse) p l e R s m args below meth c Q nL D cA X A c0 s0 rfl C hX hP hD hS).2
        obtain ⟨hx, hb, hml, hown, hts, hK0, hA, -⟩ := C
        rcases site with ⟨-, d1, w1, w2, w3, w4, n1, n2, q, r1, r2⟩ | ⟨h0, -⟩ | ⟨h0, -⟩ | ⟨h0, -⟩ | ⟨h0, -⟩ | ⟨h0, -⟩ | ⟨h0, -⟩
        · have hM := (q4 l D cA X σ H.size hT).2 x rfl w4
          have hw8 : ((((st.drop i.2.2.2.1).map (zcv σ X))).map fun v => v.category).sum ≤ 8 := zsum4 (n := 4) _ (by rw [List.length_map, List.length_drop]; omega)
          have hlen : (st.take i.2.2.2.1).reverse.length = i.2.2.2.1 := by rw [List.length_reverse, List.length_take]; omega
          have hG := zGood i.2.2.1 hm
          obtain ⟨m1, m2, m3, m4, m5⟩ := hm
          have hRR : (zrm d (hc h' - hc h) (hs h' - hs h)).frames + 1 ≤ R.frames ∧ 8 + (zML i.2.2.1 + 11) + (zrm d (hc h' - hc h) (hs h' - hs h)).locals ≤ R.locals := ⟨hR.1, by show 8 + (zML i.2.2.1 + 11) + (60 * d + 200) ≤ R.locals; omega⟩
          have hFx : CallFix p m c cc nL s args zBIG own := ⟨hx, hb, hml, hown, hts⟩
          obtain ⟨a, t, ht, hka⟩ := zrcv_ref hz.2.2
          have han : a < hn h := by
            have : Value.ref a ∈ st := List.mem_of_mem_take (List.mem_reverse.mp (by rw [ht]; exact List.mem_cons_self))
            exact h2 _ this
          have he := (zws_get (cA := cA) (X := X) (σ := σ) han).trans (congrArg (fun z => some (σ a, z)) (zent_obj hka))
          have hrecv := va_recv hK0 hP r1 he
          rw [r2] at hrecv
          have hstk := zstk (st := st) (n := i.2.2.2.1) (f := zcv σ X)
          rw [ht] at hpre hM hstk hlen
          have hrun := vx_runV (meth := meth) (below := below) (e := e) (index := idx) (bytes := zMB i.2.2.1) (maxL := zML i.2.2.1) (ret := zMR i.2.2.1) (n := i.2.2.2.1 - 1) (g := F0 m pc ls (st.map (zcv σ X))) (rest := (st.drop i.2.2.2.1).map (zcv σ X)) (cells := hc h - c0) (slots := hs h - s0) (locs := locs) hFx hM ⟨callB_of (ws' := zGB) (i.2.2.2.1 - 1) hts hG (zW_code w4) rfl rfl (hts _ m2) (hts _ w1) ⟨m3.1, m3.2, n2⟩ hRR, hts _ w2, hts _ w3⟩ ⟨zPre_blind, hrecv, hpre⟩ rfl (by simp only [List.length_map, List.length_cons] at hlen ⊢; omega) hl.1 (by
            show st.map (zcv σ X) = _
            rw [hstk]
            simp
            rfl) (lv_room hw8) d1 ⟨by omega, by omega⟩
          refine vx_calli hrun hS (fun _ _ hq => hq.elim) (fun q hq => hF1 q hq) (fun q _ hq => hF1 q hq) (fun E2 ce q9 σ' t H1 locs1 hH1 hal hag hBX hz1 hk1 hS1 hq9 hcv hcl => ?_) (fun r u t H1 locs1 _ _ hpo _ _ _ _ => hpo.elim)
          obtain ⟨rfl, hP1, hD1⟩ := hBX
          rw [hH1] at hP1
          rw [show hc h - c0 + (hc h' - hc h) = hc h' - c0 by omega, show hs h - s0 + (hs h' - hs h) = hs h' - s0 by omega]
          exact hx0 σ' H1 locs1 ls _ _ q9 ce hP1 (hD1.weaken (fun _ q _ hq => hF1 _ hq)) hS1 hl hq9 hcv hcl
        all_goals cases h0
      unfold zthr at ho
      cases hh : E.2.1 x with
      | none =>
        rw [hh] at ho
        cases ho
        refine ⟨q1, ⟨trivial, q2⟩, fun f1 f2 f3 => hsat (fun σ H locs ls lv rest q ce hP hD hS _ g1 g2 g3 => (f1 σ H locs hP hD hS).1 pc ls rest q ce g1 g2 g3) f2 f3⟩
      | some r =>
        rw [hh] at ho
        cases ho
        refine ⟨q1, ⟨trivial, q2⟩, fun f1 f2 f3 => hsat (fun σ H locs ls lv rest q ce hP hD hS hl g1 g2 g3 => hcat x r hh σ H locs h' f1 hP hD hS ls lv rest q ce hl g1 g2 g3) f2 f3⟩
    · cases ho
  · cases ho
theorem zgi_ok {k : Kt} : ∀ lo st h v o, zgi k lo st h v = some o → k lo (v.toList ++ st) h = some o := by
  intro lo st h v o ho
  unfold zgi at ho
  split at ho
  · exact ho
  · cases ho
theorem zgl_ok {k : Kt} : ∀ lo st h v o, zgl k lo st h v = some o → k lo (v.toList ++ st) h = some o := by
  intro lo st h v o ho
  unfold zgl at ho
  split at ho
  · exact ho
  · cases ho
theorem zgv_ok {k : Kt} : ∀ lo st h v o, zgv k lo st h v = some o → k lo (v.toList ++ st) h = some o := by
  intro lo st h v o ho
  unfold zgv at ho
  split at ho
  · exact ho
  · cases ho
theorem zgr_ok {k : Kt} : ∀ lo st h v o, zgr k lo st h v = some o → k lo (v.toList ++ st) h = some o := by
  intro lo st h v o ho
  unfold zgr at ho
  split at ho
  · exact ho
  · exact ho
  · cases ho
